section
/-! ===== the class parses expressions, way by way, with the cells (shape 3) ===== -/
theorem k3zu_0 {Ls : Nat} {xs : Nat → Int32} {d : Nat} {Q : Option Value → jm_h → Prop} (hd : 4 ≤ d) (F : Nat → sy_d) (X1 X2 : List jm_c) (hB : iv_in F iv_B0)
    (a82 : 0 ≤ (sy_i F 82).toInt ∧ (sy_i F 82).toInt ≤ 5)
    (a83 : 0 ≤ (sy_i F 83).toInt ∧ (sy_i F 83).toInt ≤ 6)
    (k0 : 0 ≤ (sy_i F 33).toInt → (sy_i F 33).toInt ≤ 400 → ((sy_ai F 39).getD ((sy_i F 33).toInt).toNat 0).toInt ≠ 24 → ((sy_ai F 39).getD ((sy_i F 33).toInt).toNat 0).toInt < 14 → ((sy_ai F 39).getD ((sy_i F 33).toInt).toNat 0).toInt ≠ 40 → ∀ F1 : Nat → sy_d, iv_in F1 iv_B0 → (∀ j, j < 82 → j ∉ ([34] : List Nat) → F1 j = F j) → (sy_i F1 33).toInt = (sy_i F 33).toInt → (sy_i F1 34).toInt = 1 → (sy_i F1 8).toInt = (sy_i F 8).toInt → sy_ai F1 39 = sy_ai F 39 → sy_ai F1 17 = sy_ai F 17 → Q (some (.int ((0 : Int32)))) (sy_dh F1 X1 X2 (iv_H 3)))
    (k1 : 0 ≤ (sy_i F 33).toInt → (sy_i F 33).toInt ≤ 400 → ((sy_ai F 39).getD ((sy_i F 33).toInt).toNat 0).toInt ≠ 24 → 14 ≤ ((sy_ai F 39).getD ((sy_i F 33).toInt).toNat 0).toInt → 22 < ((sy_ai F 39).getD ((sy_i F 33).toInt).toNat 0).toInt → ((sy_ai F 39).getD ((sy_i F 33).toInt).toNat 0).toInt = 40 → (sy_i F 83).toInt < 6 → 0 ≤ (sy_i F 33).toInt → (sy_i F 33).toInt ≤ 400 → ((sy_ai F 39).getD ((sy_i F 33).toInt).toNat 0).toInt = ((sy_ai F 39).getD ((sy_i F 33).toInt).toNat 0).toInt → (sy_i F 33).toInt < 400 → ∀ F1 : Nat → sy_d, iv_in F1 iv_B0 → (∀ j, j < 82 → j ∉ ([33] : List Nat) → F1 j = F j) → (sy_i F1 33).toInt = ((sy_i F 33).toInt + 1) → (sy_i F1 34).toInt = (sy_i F 34).toInt → (sy_i F1 8).toInt = (sy_i F 8).toInt → sy_ai F1 39 = sy_ai F 39 → sy_ai F1 17 = sy_ai F 17 → (sy_i F1 82).toInt = ((sy_i F 83).toInt + 1) → (sy_i F1 83).toInt = (sy_i F 82).toInt → hd_W Ls xs d jm_M40 Q (134, sy_dL F1 [some (.inl (.ref 30)), none, none, none, none], sy_dS F1 [.inr (.inl 82), .inr (.inl 83), .inl (.ref 30)], sy_dh F1 X1 X2 (iv_H 3), 0, 0))
    (k2 : 0 ≤ (sy_i F 33).toInt → (sy_i F 33).toInt ≤ 400 → ((sy_ai F 39).getD ((sy_i F 33).toInt).toNat 0).toInt ≠ 24 → 14 ≤ ((sy_ai F 39).getD ((sy_i F 33).toInt).toNat 0).toInt → 22 < ((sy_ai F 39).getD ((sy_i F 33).toInt).toNat 0).toInt → ((sy_ai F 39).getD ((sy_i F 33).toInt).toNat 0).toInt = 40 → (sy_i F 83).toInt < 6 → 0 ≤ (sy_i F 33).toInt → (sy_i F 33).toInt ≤ 400 → ((sy_ai F 39).getD ((sy_i F 33).toInt).toNat 0).toInt = ((sy_ai F 39).getD ((sy_i F 33).toInt).toNat 0).toInt → 400 ≤ (sy_i F 33).toInt → ∀ F1 : Nat → sy_d, iv_in F1 iv_B0 → (∀ j, j < 82 → j ∉ ([34] : List Nat) → F1 j = F j) → (sy_i F1 33).toInt = (sy_i F 33).toInt → (sy_i F1 34).toInt = 2 → (sy_i F1 8).toInt = (sy_i F 8).toInt → sy_ai F1 39 = sy_ai F 39 → sy_ai F1 17 = sy_ai F 17 → Q (some (.int ((0 : Int32)))) (sy_dh F1 X1 X2 (iv_H 3)))
    (k3 : 0 ≤ (sy_i F 33).toInt → (sy_i F 33).toInt ≤ 400 → ((sy_ai F 39).getD ((sy_i F 33).toInt).toNat 0).toInt ≠ 24 → 14 ≤ ((sy_ai F 39).getD ((sy_i F 33).toInt).toNat 0).toInt → 22 < ((sy_ai F 39).getD ((sy_i F 33).toInt).toNat 0).toInt → ((sy_ai F 39).getD ((sy_i F 33).toInt).toNat 0).toInt = 40 → 6 ≤ (sy_i F 83).toInt → ∀ F1 : Nat → sy_d, iv_in F1 iv_B0 → (∀ j, j < 82 → j ∉ ([34] : List Nat) → F1 j = F j) → (sy_i F1 33).toInt = (sy_i F 33).toInt → (sy_i F1 34).toInt = 2 → (sy_i F1 8).toInt = (sy_i F 8).toInt → sy_ai F1 39 = sy_ai F 39 → sy_ai F1 17 = sy_ai F 17 → Q (some (.int ((0 : Int32)))) (sy_dh F1 X1 X2 (iv_H 3)))
    (k4 : 0 ≤ (sy_i F 33).toInt → (sy_i F 33).toInt ≤ 400 → ((sy_ai F 39).getD ((sy_i F 33).toInt).toNat 0).toInt ≠ 24 → 14 ≤ ((sy_ai F 39).getD ((sy_i F 33).toInt).toNat 0).toInt → 22 < ((sy_ai F 39).getD ((sy_i F 33).toInt).toNat 0).toInt → ((sy_ai F 39).getD ((sy_i F 33).toInt).toNat 0).toInt ≠ 40 → ∀ F1 : Nat → sy_d, iv_in F1 iv_B0 → (∀ j, j < 82 → j ∉ ([34] : List Nat) → F1 j = F j) → (sy_i F1 33).toInt = (sy_i F 33).toInt → (sy_i F1 34).toInt = 1 → (sy_i F1 8).toInt = (sy_i F 8).toInt → sy_ai F1 39 = sy_ai F 39 → sy_ai F1 17 = sy_ai F 17 → Q (some (.int ((0 : Int32)))) (sy_dh F1 X1 X2 (iv_H 3)))
    (k5 : 0 ≤ (sy_i F 33).toInt → (sy_i F 33).toInt ≤ 400 → ((sy_ai F 39).getD ((sy_i F 33).toInt).toNat 0).toInt ≠ 24 → 14 ≤ ((sy_ai F 39).getD ((sy_i F 33).toInt).toNat 0).toInt → ((sy_ai F 39).getD ((sy_i F 33).toInt).toNat 0).toInt ≤ 22 → ¬ oq ((((([260, 383, 383, 407, 279, 300]).getD ((sy_i F 82).toInt).toNat 0) >>> ((((sy_ai F 39).getD ((sy_i F 33).toInt).toNat 0) - ((14 : Int32))) &&& 31)) &&& ((1 : Int32))).toInt) (1) → ∀ F1 : Nat → sy_d, iv_in F1 iv_B0 → (∀ j, j < 82 → j ∉ ([] : List Nat) → F1 j = F j) → (sy_i F1 33).toInt = (sy_i F 33).toInt → (sy_i F1 34).toInt = (sy_i F 34).toInt → (sy_i F1 8).toInt = (sy_i F 8).toInt → sy_ai F1 39 = sy_ai F 39 → sy_ai F1 17 = sy_ai F 17 → (sy_i F1 82).toInt = ((sy_ai F 39).getD ((sy_i F 33).toInt).toNat 0).toInt → (sy_i F1 83).toInt = 0 → hd_W Ls xs d jm_M40 Q (88, sy_dL F1 [some (.inl (.ref 30)), none, none, some (.inr (.inl 82)), none], sy_dS F1 [.inr (.inl 83), .inl (.ref 10)], sy_dh F1 X1 X2 (iv_H 3), 0, 0))
    (k6 : 0 ≤ (sy_i F 33).toInt → (sy_i F 33).toInt ≤ 400 → ((sy_ai F 39).getD ((sy_i F 33).toInt).toNat 0).toInt ≠ 24 → 14 ≤ ((sy_ai F 39).getD ((sy_i F 33).toInt).toNat 0).toInt → ((sy_ai F 39).getD ((sy_i F 33).toInt).toNat 0).toInt ≤ 22 → oq ((((([260, 383, 383, 407, 279, 300]).getD ((sy_i F 82).toInt).toNat 0) >>> ((((sy_ai F 39).getD ((sy_i F 33).toInt).toNat 0) - ((14 : Int32))) &&& 31)) &&& ((1 : Int32))).toInt) (1) → ∀ F1 : Nat → sy_d, iv_in F1 iv_B0 → (∀ j, j < 82 → j ∉ ([] : List Nat) → F1 j = F j) → (sy_i F1 33).toInt = (sy_i F 33).toInt → (sy_i F1 34).toInt = (sy_i F 34).toInt → (sy_i F1 8).toInt = (sy_i F 8).toInt → sy_ai F1 39 = sy_ai F 39 → sy_ai F1 17 = sy_ai F 17 → (sy_i F1 82).toInt = ((sy_ai F 39).getD ((sy_i F 33).toInt).toNat 0).toInt → (sy_i F1 83).toInt = ((-1 : Int) - (((sy_ai F 39).getD ((sy_i F 33).toInt).toNat 0).toInt - 14)) → hd_W Ls xs d jm_M40 Q (88, sy_dL F1 [some (.inl (.ref 30)), none, none, some (.inr (.inl 82)), none], sy_dS F1 [.inr (.inl 83), .inl (.ref 10)], sy_dh F1 X1 X2 (iv_H 3), 0, 0))
    (k7 : 0 ≤ (sy_i F 33).toInt → (sy_i F 33).toInt ≤ 400 → ((sy_ai F 39).getD ((sy_i F 33).toInt).toNat 0).toInt = 24 → 0 ≤ (sy_i F 33).toInt → (sy_i F 33).toInt ≤ 400 → ∀ F1 : Nat → sy_d, iv_in F1 iv_B0 → (∀ j, j < 82 → j ∉ ([] : List Nat) → F1 j = F j) → (sy_i F1 33).toInt = (sy_i F 33).toInt → (sy_i F1 34).toInt = (sy_i F 34).toInt → (sy_i F1 8).toInt = (sy_i F 8).toInt → sy_ai F1 39 = sy_ai F 39 → sy_ai F1 17 = sy_ai F 17 → (sy_i F1 82).toInt = ((sy_ai F 39).getD ((sy_i F 33).toInt).toNat 0).toInt → (sy_i F1 83).toInt = (((sy_al F 41).getD ((sy_i F 33).toInt).toNat 0).toInt32).toInt → hd_W Ls xs d jm_M40 Q (34, sy_dL F1 [some (.inl (.ref 30)), none, none, some (.inr (.inl 82)), none], sy_dS F1 [.inr (.inl 83), .inl (.ref 10)], sy_dh F1 X1 X2 (iv_H 3), 0, 0)) :
    hd_W Ls xs d jm_M40 Q (0, sy_dL F [some (.inl (.ref 30)), some (.inr (.inl 82)), some (.inr (.inl 83)), none, none], sy_dS F [], sy_dh F X1 X2 (iv_H 3), 0, 0) := by
  by_cases g0 : (sy_i F 33).toInt < 0
  · have c33 := nz_bx hB (k := 33) (lo := 0) (hi := 400) rfl
    exfalso
    omega
  replace g0 : 0 ≤ (sy_i F 33).toInt := by omega
  by_cases g1 : 400 < (sy_i F 33).toInt
  · have c33 := nz_bx hB (k := 33) (lo := 0) (hi := 400) rfl
    exfalso
    omega
  replace g1 : (sy_i F 33).toInt ≤ 400 := by omega
  by_cases g2 : ((sy_ai F 39).getD ((sy_i F 33).toInt).toNat 0).toInt ≠ 24
  · by_cases g3 : ((sy_ai F 39).getD ((sy_i F 33).toInt).toNat 0).toInt < 14
    · by_cases g4 : ((sy_ai F 39).getD ((sy_i F 33).toInt).toNat 0).toInt = 40
      · have c33 := nz_bx hB (k := 33) (lo := 0) (hi := 400) rfl
        have q84 : (sy_ai F 39).getD (sy_i F 33).toNatClampNeg 0 = (sy_ai F 39).getD ((sy_i F 33).toInt).toNat 0 := by simp only [nz_c]
        have n84 : ((sy_ai F 39).getD (sy_i F 33).toNatClampNeg 0).toInt = ((sy_ai F 39).getD ((sy_i F 33).toInt).toNat 0).toInt := congrArg Int32.toInt q84
        exfalso
        omega
      replace g4 : ((sy_ai F 39).getD ((sy_i F 33).toInt).toNat 0).toInt ≠ 40 := by omega
      have c33 := nz_bx hB (k := 33) (lo := 0) (hi := 400) rfl
      have q84 : (sy_ai F 39).getD (sy_i F 33).toNatClampNeg 0 = (sy_ai F 39).getD ((sy_i F 33).toInt).toNat 0 := by simp only [nz_c]
      have n84 : ((sy_ai F 39).getD (sy_i F 33).toNatClampNeg 0).toInt = ((sy_ai F 39).getD ((sy_i F 33).toInt).toNat 0).toInt := congrArg Int32.toInt q84
      exact k3pu_0_p0 hd F X1 X2 hB (by first | exact g0 | (simp only [nz_c]; exact g0)) (by first | exact g1 | (simp only [nz_c]; exact g1)) (by first | exact ⟨by omega, by omega⟩ | (simp only [nz_c]; exact ⟨by omega, by omega⟩)) (by first | exact g2 | (simp only [nz_c]; exact g2) | (rw [n84]; exact g2)) (by first | exact g3 | (simp only [nz_c]; exact g3) | (rw [n84]; exact g3)) (by first | exact g4 | (simp only [nz_c]; exact g4) | (rw [n84]; exact g4)) (fun F1 g e34 => k0 g0 g1 g2 g3 g4 F1 (nz_in0 hB [34] (fun j hj hn => g j hj (by simp only [List.mem_cons, List.not_mem_nil, or_false, not_or] at hn; omega)) (List.forall_mem_cons.mpr ⟨fun t ht => (Option.some.inj ht) ▸ (nz_hz e34), List.forall_mem_nil _⟩)) (fun j hj hn => g j hj (by simp only [List.mem_cons, List.not_mem_nil, or_false, not_or] at hn; omega)) (nz_fi (g 33 (by decide) (by decide))) ((congrArg Int32.toInt (zz_i e34)).trans (by decide : ((1 : Int32)).toInt = 1)) (nz_fi (g 8 (by decide) (by decide))) (nz_fa (g 39 (by decide) (by decide))) (nz_fa (g 17 (by decide) (by decide))))
    replace g3 : 14 ≤ ((sy_ai F 39).getD ((sy_i F 33).toInt).toNat 0).toInt := by omega
    by_cases g4 : 22 < ((sy_ai F 39).getD ((sy_i F 33).toInt).toNat 0).toInt
    · by_cases g5 : ((sy_ai F 39).getD ((sy_i F 33).toInt).toNat 0).toInt = 40
      · by_cases g6 : (sy_i F 83).toInt < 6
        · by_cases g7 : (sy_i F 33).toInt < 0
          · have c33 := nz_bx hB (k := 33) (lo := 0) (hi := 400) rfl
            have q84 : (sy_ai F 39).getD (sy_i F 33).toNatClampNeg 0 = (sy_ai F 39).getD ((sy_i F 33).toInt).toNat 0 := by simp only [nz_c]
            have n84 : ((sy_ai F 39).getD (sy_i F 33).toNatClampNeg 0).toInt = ((sy_ai F 39).getD ((sy_i F 33).toInt).toNat 0).toInt := congrArg Int32.toInt q84
            exfalso
            omega
          replace g7 : 0 ≤ (sy_i F 33).toInt := by omega
          by_cases g8 : 400 < (sy_i F 33).toInt
          · have c33 := nz_bx hB (k := 33) (lo := 0) (hi := 400) rfl
            have q84 : (sy_ai F 39).getD (sy_i F 33).toNatClampNeg 0 = (sy_ai F 39).getD ((sy_i F 33).toInt).toNat 0 := by simp only [nz_c]
            have n84 : ((sy_ai F 39).getD (sy_i F 33).toNatClampNeg 0).toInt = ((sy_ai F 39).getD ((sy_i F 33).toInt).toNat 0).toInt := congrArg Int32.toInt q84
            exfalso
            omega
          replace g8 : (sy_i F 33).toInt ≤ 400 := by omega
          by_cases g9 : ((sy_ai F 39).getD ((sy_i F 33).toInt).toNat 0).toInt = ((sy_ai F 39).getD ((sy_i F 33).toInt).toNat 0).toInt
          · by_cases g10 : (sy_i F 33).toInt < 400
            · have c33 := nz_bx hB (k := 33) (lo := 0) (hi := 400) rfl
              have q84 : (sy_ai F 39).getD (sy_i F 33).toNatClampNeg 0 = (sy_ai F 39).getD ((sy_i F 33).toInt).toNat 0 := by simp only [nz_c]
              have n84 : ((sy_ai F 39).getD (sy_i F 33).toNatClampNeg 0).toInt = ((sy_ai F 39).getD ((sy_i F 33).toInt).toNat 0).toInt := congrArg Int32.toInt q84
              have q85 : (sy_ai F 39).getD (sy_i F 33).toNatClampNeg 0 = (sy_ai F 39).getD ((sy_i F 33).toInt).toNat 0 := by simp only [nz_c]
              have n85 : ((sy_ai F 39).getD (sy_i F 33).toNatClampNeg 0).toInt = ((sy_ai F 39).getD ((sy_i F 33).toInt).toNat 0).toInt := congrArg Int32.toInt q85
              have n86 : ((sy_i F 33) + ((1 : Int32))).toInt = ((sy_i F 33).toInt + 1) := nz_add (rfl : (sy_i F 33).toInt = (sy_i F 33).toInt) (by decide : ((1 : Int32)).toInt = 1) (by omega) (by omega)
              have n87 : ((sy_i F 83) + ((1 : Int32))).toInt = ((sy_i F 83).toInt + 1) := nz_add (rfl : (sy_i F 83).toInt = (sy_i F 83).toInt) (by decide : ((1 : Int32)).toInt = 1) (by omega) (by omega)
              exact k3pu_0_p1 hd F X1 X2 hB (by first | exact g0 | (simp only [nz_c]; exact g0)) (by first | exact g1 | (simp only [nz_c]; exact g1)) (by first | exact ⟨by omega, by omega⟩ | (simp only [nz_c]; exact ⟨by omega, by omega⟩)) (by first | exact g2 | (simp only [nz_c]; exact g2) | (rw [n84]; exact g2)) (by first | exact g3 | (simp only [nz_c]; exact g3) | (rw [n84]; exact g3)) (by first | exact g4 | (simp only [nz_c]; exact g4) | (rw [n84]; exact g4)) (by first | exact g5 | (simp only [nz_c]; exact g5) | (rw [n84]; exact g5)) (by first | exact g6 | (simp only [nz_c]; exact g6)) (by first | exact g7 | (simp only [nz_c]; exact g7)) (by first | exact g8 | (simp only [nz_c]; exact g8)) (by first | exact ⟨by omega, by omega⟩ | (simp only [nz_c]; exact ⟨by omega, by omega⟩)) (by first | exact g9 | (simp only [nz_c]; exact g9) | (rw [n85]; exact g9) | (rw [n84]; exact g9) | (rw [n85, n84]; exact g9)) (by first | exact g10 | (simp only [nz_c]; exact g10)) (fun F1 g e33 e82 e83 => k1 g0 g1 g2 g3 g4 g5 g6 g7 g8 g9 g10 F1 (nz_in0 hB [33] (fun j hj hn => g j hj (by simp only [List.mem_cons, List.not_mem_nil, or_false, not_or] at hn; omega)) (List.forall_mem_cons.mpr ⟨fun t ht => (Option.some.inj ht) ▸ (nz_hi e33 n86 (by omega) (by omega)), List.forall_mem_nil _⟩)) (fun j hj hn => g j hj (by simp only [List.mem_cons, List.not_mem_nil, or_false, not_or] at hn; omega)) ((congrArg Int32.toInt (zz_i e33)).trans n86) (nz_fi (g 34 (by decide) (by decide))) (nz_fi (g 8 (by decide) (by decide))) (nz_fa (g 39 (by decide) (by decide))) (nz_fa (g 17 (by decide) (by decide))) ((congrArg Int32.toInt (zz_i e82)).trans n87) ((congrArg Int32.toInt (zz_i e83)).trans (rfl : (sy_i F 82).toInt = (sy_i F 82).toInt)))
            replace g10 : 400 ≤ (sy_i F 33).toInt := by omega
            have c33 := nz_bx hB (k := 33) (lo := 0) (hi := 400) rfl
            have q84 : (sy_ai F 39).getD (sy_i F 33).toNatClampNeg 0 = (sy_ai F 39).getD ((sy_i F 33).toInt).toNat 0 := by simp only [nz_c]
            have n84 : ((sy_ai F 39).getD (sy_i F 33).toNatClampNeg 0).toInt = ((sy_ai F 39).getD ((sy_i F 33).toInt).toNat 0).toInt := congrArg Int32.toInt q84
            have q85 : (sy_ai F 39).getD (sy_i F 33).toNatClampNeg 0 = (sy_ai F 39).getD ((sy_i F 33).toInt).toNat 0 := by simp only [nz_c]
            have n85 : ((sy_ai F 39).getD (sy_i F 33).toNatClampNeg 0).toInt = ((sy_ai F 39).getD ((sy_i F 33).toInt).toNat 0).toInt := congrArg Int32.toInt q85
            exact k3pu_0_p2 hd F X1 X2 hB (by first | exact g0 | (simp only [nz_c]; exact g0)) (by first | exact g1 | (simp only [nz_c]; exact g1)) (by first | exact ⟨by omega, by omega⟩ | (simp only [nz_c]; exact ⟨by omega, by omega⟩)) (by first | exact g2 | (simp only [nz_c]; exact g2) | (rw [n84]; exact g2)) (by first | exact g3 | (simp only [nz_c]; exact g3) | (rw [n84]; exact g3)) (by first | exact g4 | (simp only [nz_c]; exact g4) | (rw [n84]; exact g4)) (by first | exact g5 | (simp only [nz_c]; exact g5) | (rw [n84]; exact g5)) (by first | exact g6 | (simp only [nz_c]; exact g6)) (by first | exact g7 | (simp only [nz_c]; exact g7)) (by first | exact g8 | (simp only [nz_c]; exact g8)) (by first | exact ⟨by omega, by omega⟩ | (simp only [nz_c]; exact ⟨by omega, by omega⟩)) (by first | exact g9 | (simp only [nz_c]; exact g9) | (rw [n85]; exact g9) | (rw [n84]; exact g9) | (rw [n85, n84]; exact g9)) (by first | exact g10 | (simp only [nz_c]; exact g10)) (fun F1 g e34 => k2 g0 g1 g2 g3 g4 g5 g6 g7 g8 g9 g10 F1 (nz_in0 hB [34] (fun j hj hn => g j hj (by simp only [List.mem_cons, List.not_mem_nil, or_false, not_or] at hn; omega)) (List.forall_mem_cons.mpr ⟨fun t ht => (Option.some.inj ht) ▸ (nz_hz e34), List.forall_mem_nil _⟩)) (fun j hj hn => g j hj (by simp only [List.mem_cons, List.not_mem_nil, or_false, not_or] at hn; omega)) (nz_fi (g 33 (by decide) (by decide))) ((congrArg Int32.toInt (zz_i e34)).trans (by decide : ((2 : Int32)).toInt = 2)) (nz_fi (g 8 (by decide) (by decide))) (nz_fa (g 39 (by decide) (by decide))) (nz_fa (g 17 (by decide) (by decide))))
          replace g9 : ((sy_ai F 39).getD ((sy_i F 33).toInt).toNat 0).toInt ≠ ((sy_ai F 39).getD ((sy_i F 33).toInt).toNat 0).toInt := by omega
          have c33 := nz_bx hB (k := 33) (lo := 0) (hi := 400) rfl
          have q84 : (sy_ai F 39).getD (sy_i F 33).toNatClampNeg 0 = (sy_ai F 39).getD ((sy_i F 33).toInt).toNat 0 := by simp only [nz_c]
          have n84 : ((sy_ai F 39).getD (sy_i F 33).toNatClampNeg 0).toInt = ((sy_ai F 39).getD ((sy_i F 33).toInt).toNat 0).toInt := congrArg Int32.toInt q84
          have q85 : (sy_ai F 39).getD (sy_i F 33).toNatClampNeg 0 = (sy_ai F 39).getD ((sy_i F 33).toInt).toNat 0 := by simp only [nz_c]
          have n85 : ((sy_ai F 39).getD (sy_i F 33).toNatClampNeg 0).toInt = ((sy_ai F 39).getD ((sy_i F 33).toInt).toNat 0).toInt := congrArg Int32.toInt q85
          exfalso
          omega
        replace g6 : 6 ≤ (sy_i F 83).toInt := by omega
        have c33 := nz_bx hB (k := 33) (lo := 0) (hi := 400) rfl
        have q84 : (sy_ai F 39).getD (sy_i F 33).toNatClampNeg 0 = (sy_ai F 39).getD ((sy_i F 33).toInt).toNat 0 := by simp only [nz_c]
        have n84 : ((sy_ai F 39).getD (sy_i F 33).toNatClampNeg 0).toInt = ((sy_ai F 39).getD ((sy_i F 33).toInt).toNat 0).toInt := congrArg Int32.toInt q84
        exact k3pu_0_p3 hd F X1 X2 hB (by first | exact g0 | (simp only [nz_c]; exact g0)) (by first | exact g1 | (simp only [nz_c]; exact g1)) (by first | exact ⟨by omega, by omega⟩ | (simp only [nz_c]; exact ⟨by omega, by omega⟩)) (by first | exact g2 | (simp only [nz_c]; exact g2) | (rw [n84]; exact g2)) (by first | exact g3 | (simp only [nz_c]; exact g3) | (rw [n84]; exact g3)) (by first | exact g4 | (simp only [nz_c]; exact g4) | (rw [n84]; exact g4)) (by first | exact g5 | (simp only [nz_c]; exact g5) | (rw [n84]; exact g5)) (by first | exact g6 | (simp only [nz_c]; exact g6)) (fun F1 g e34 => k3 g0 g1 g2 g3 g4 g5 g6 F1 (nz_in0 hB [34] (fun j hj hn => g j hj (by simp only [List.mem_cons, List.not_mem_nil, or_false, not_or] at hn; omega)) (List.forall_mem_cons.mpr ⟨fun t ht => (Option.some.inj ht) ▸ (nz_hz e34), List.forall_mem_nil _⟩)) (fun j hj hn => g j hj (by simp only [List.mem_cons, List.not_mem_nil, or_false, not_or] at hn; omega)) (nz_fi (g 33 (by decide) (by decide))) ((congrArg Int32.toInt (zz_i e34)).trans (by decide : ((2 : Int32)).toInt = 2)) (nz_fi (g 8 (by decide) (by decide))) (nz_fa (g 39 (by decide) (by decide))) (nz_fa (g 17 (by decide) (by decide))))
      replace g5 : ((sy_ai F 39).getD ((sy_i F 33).toInt).toNat 0).toInt ≠ 40 := by omega
      have c33 := nz_bx hB (k := 33) (lo := 0) (hi := 400) rfl
      have q84 : (sy_ai F 39).getD (sy_i F 33).toNatClampNeg 0 = (sy_ai F 39).getD ((sy_i F 33).toInt).toNat 0 := by simp only [nz_c]
      have n84 : ((sy_ai F 39).getD (sy_i F 33).toNatClampNeg 0).toInt = ((sy_ai F 39).getD ((sy_i F 33).toInt).toNat 0).toInt := congrArg Int32.toInt q84
      exact k3pu_0_p4 hd F X1 X2 hB (by first | exact g0 | (simp only [nz_c]; exact g0)) (by first | exact g1 | (simp only [nz_c]; exact g1)) (by first | exact ⟨by omega, by omega⟩ | (simp only [nz_c]; exact ⟨by omega, by omega⟩)) (by first | exact g2 | (simp only [nz_c]; exact g2) | (rw [n84]; exact g2)) (by first | exact g3 | (simp only [nz_c]; exact g3) | (rw [n84]; exact g3)) (by first | exact g4 | (simp only [nz_c]; exact g4) | (rw [n84]; exact g4)) (by first | exact g5 | (simp only [nz_c]; exact g5) | (rw [n84]; exact g5)) (fun F1 g e34 => k4 g0 g1 g2 g3 g4 g5 F1 (nz_in0 hB [34] (fun j hj hn => g j hj (by simp only [List.mem_cons, List.not_mem_nil, or_false, not_or] at hn; omega)) (List.forall_mem_cons.mpr ⟨fun t ht => (Option.some.inj ht) ▸ (nz_hz e34), List.forall_mem_nil _⟩)) (fun j hj hn => g j hj (by simp only [List.mem_cons, List.not_mem_nil, or_false, not_or] at hn; omega)) (nz_fi (g 33 (by decide) (by decide))) ((congrArg Int32.toInt (zz_i e34)).trans (by decide : ((1 : Int32)).toInt = 1)) (nz_fi (g 8 (by decide) (by decide))) (nz_fa (g 39 (by decide) (by decide))) (nz_fa (g 17 (by decide) (by decide))))
    replace g4 : ((sy_ai F 39).getD ((sy_i F 33).toInt).toNat 0).toInt ≤ 22 := by omega
    by_cases g5 : ¬ oq ((((([260, 383, 383, 407, 279, 300]).getD ((sy_i F 82).toInt).toNat 0) >>> ((((sy_ai F 39).getD ((sy_i F 33).toInt).toNat 0) - ((14 : Int32))) &&& 31)) &&& ((1 : Int32))).toInt) (1)
    · have c33 := nz_bx hB (k := 33) (lo := 0) (hi := 400) rfl
      have q84 : (sy_ai F 39).getD (sy_i F 33).toNatClampNeg 0 = (sy_ai F 39).getD ((sy_i F 33).toInt).toNat 0 := by simp only [nz_c]
      have n84 : ((sy_ai F 39).getD (sy_i F 33).toNatClampNeg 0).toInt = ((sy_ai F 39).getD ((sy_i F 33).toInt).toNat 0).toInt := congrArg Int32.toInt q84
      have n85 : (((sy_ai F 39).getD (sy_i F 33).toNatClampNeg 0) - ((14 : Int32))).toInt = (((sy_ai F 39).getD ((sy_i F 33).toInt).toNat 0).toInt - 14) := nz_sub n84 (by decide : ((14 : Int32)).toInt = 14) (by omega) (by omega)
      have q88 : ((([260, 383, 383, 407, 279, 300]).getD (sy_i F 82).toNatClampNeg 0) >>> ((((sy_ai F 39).getD (sy_i F 33).toNatClampNeg 0) - ((14 : Int32))) &&& 31)) &&& ((1 : Int32)) = ((([260, 383, 383, 407, 279, 300]).getD ((sy_i F 82).toInt).toNat 0) >>> ((((sy_ai F 39).getD ((sy_i F 33).toInt).toNat 0) - ((14 : Int32))) &&& 31)) &&& ((1 : Int32)) := by simp only [nz_c, n85, (by decide : ((1 : Int32)).toInt = 1), (by decide : ((14 : Int32)).toInt = 14)]
      have n88 : (((([260, 383, 383, 407, 279, 300]).getD (sy_i F 82).toNatClampNeg 0) >>> ((((sy_ai F 39).getD (sy_i F 33).toNatClampNeg 0) - ((14 : Int32))) &&& 31)) &&& ((1 : Int32))).toInt = (((([260, 383, 383, 407, 279, 300]).getD ((sy_i F 82).toInt).toNat 0) >>> ((((sy_ai F 39).getD ((sy_i F 33).toInt).toNat 0) - ((14 : Int32))) &&& 31)) &&& ((1 : Int32))).toInt := congrArg Int32.toInt q88
      exact k3pu_0_p5 hd F X1 X2 hB (by first | exact g0 | (simp only [nz_c]; exact g0)) (by first | exact g1 | (simp only [nz_c]; exact g1)) (by first | exact ⟨by omega, by omega⟩ | (simp only [nz_c]; exact ⟨by omega, by omega⟩)) (by first | exact g2 | (simp only [nz_c]; exact g2) | (rw [n84]; exact g2)) (by first | exact g3 | (simp only [nz_c]; exact g3) | (rw [n84]; exact g3)) (by first | exact g4 | (simp only [nz_c]; exact g4) | (rw [n84]; exact g4)) (by first | exact ⟨by omega, by omega⟩ | (simp only [nz_c]; exact ⟨by omega, by omega⟩)) (by first | exact g5 | (simp only [nz_c, n85]; exact g5) | (rw [n88]; exact g5)) (fun F1 g e82 e83 => k5 g0 g1 g2 g3 g4 g5 F1 (nz_in0 hB [] (fun j hj hn => g j hj (by simp only [List.mem_cons, List.not_mem_nil, or_false, not_or] at hn; exact trivial)) (List.forall_mem_nil _)) (fun j hj hn => g j hj (by simp only [List.mem_cons, List.not_mem_nil, or_false, not_or] at hn; exact trivial)) (nz_fi (g 33 (by decide) (by decide))) (nz_fi (g 34 (by decide) (by decide))) (nz_fi (g 8 (by decide) (by decide))) (nz_fa (g 39 (by decide) (by decide))) (nz_fa (g 17 (by decide) (by decide))) ((congrArg Int32.toInt (zz_i e82)).trans n84) ((congrArg Int32.toInt (zz_i e83)).trans (by decide : ((0 : Int32)).toInt = 0)))
    replace g5 : oq ((((([260, 383, 383, 407, 279, 300]).getD ((sy_i F 82).toInt).toNat 0) >>> ((((sy_ai F 39).getD ((sy_i F 33).toInt).toNat 0) - ((14 : Int32))) &&& 31)) &&& ((1 : Int32))).toInt) (1) := by first | exact Classical.not_not.mp g5 | exact g5 | omega
    have c33 := nz_bx hB (k := 33) (lo := 0) (hi := 400) rfl
    have q84 : (sy_ai F 39).getD (sy_i F 33).toNatClampNeg 0 = (sy_ai F 39).getD ((sy_i F 33).toInt).toNat 0 := by simp only [nz_c]
    have n84 : ((sy_ai F 39).getD (sy_i F 33).toNatClampNeg 0).toInt = ((sy_ai F 39).getD ((sy_i F 33).toInt).toNat 0).toInt := congrArg Int32.toInt q84
    have n85 : (((sy_ai F 39).getD (sy_i F 33).toNatClampNeg 0) - ((14 : Int32))).toInt = (((sy_ai F 39).getD ((sy_i F 33).toInt).toNat 0).toInt - 14) := nz_sub n84 (by decide : ((14 : Int32)).toInt = 14) (by omega) (by omega)
    have q88 : ((([260, 383, 383, 407, 279, 300]).getD (sy_i F 82).toNatClampNeg 0) >>> ((((sy_ai F 39).getD (sy_i F 33).toNatClampNeg 0) - ((14 : Int32))) &&& 31)) &&& ((1 : Int32)) = ((([260, 383, 383, 407, 279, 300]).getD ((sy_i F 82).toInt).toNat 0) >>> ((((sy_ai F 39).getD ((sy_i F 33).toInt).toNat 0) - ((14 : Int32))) &&& 31)) &&& ((1 : Int32)) := by simp only [nz_c, n85, (by decide : ((1 : Int32)).toInt = 1), (by decide : ((14 : Int32)).toInt = 14)]
    have n88 : (((([260, 383, 383, 407, 279, 300]).getD (sy_i F 82).toNatClampNeg 0) >>> ((((sy_ai F 39).getD (sy_i F 33).toNatClampNeg 0) - ((14 : Int32))) &&& 31)) &&& ((1 : Int32))).toInt = (((([260, 383, 383, 407, 279, 300]).getD ((sy_i F 82).toInt).toNat 0) >>> ((((sy_ai F 39).getD ((sy_i F 33).toInt).toNat 0) - ((14 : Int32))) &&& 31)) &&& ((1 : Int32))).toInt := congrArg Int32.toInt q88
    have n89 : ((((-1) : Int32)) - (((sy_ai F 39).getD (sy_i F 33).toNatClampNeg 0) - ((14 : Int32)))).toInt = ((-1 : Int) - (((sy_ai F 39).getD ((sy_i F 33).toInt).toNat 0).toInt - 14)) := nz_sub (by decide : (((-1) : Int32)).toInt = (-1 : Int)) n85 (by omega) (by omega)
    exact k3pu_0_p6 hd F X1 X2 hB (by first | exact g0 | (simp only [nz_c]; exact g0)) (by first | exact g1 | (simp only [nz_c]; exact g1)) (by first | exact ⟨by omega, by omega⟩ | (simp only [nz_c]; exact ⟨by omega, by omega⟩)) (by first | exact g2 | (simp only [nz_c]; exact g2) | (rw [n84]; exact g2)) (by first | exact g3 | (simp only [nz_c]; exact g3) | (rw [n84]; exact g3)) (by first | exact g4 | (simp only [nz_c]; exact g4) | (rw [n84]; exact g4)) (by first | exact ⟨by omega, by omega⟩ | (simp only [nz_c]; exact ⟨by omega, by omega⟩)) (by first | exact g5 | (simp only [nz_c, n85]; exact g5) | (rw [n88]; exact g5)) (fun F1 g e82 e83 => k6 g0 g1 g2 g3 g4 g5 F1 (nz_in0 hB [] (fun j hj hn => g j hj (by simp only [List.mem_cons, List.not_mem_nil, or_false, not_or] at hn; exact trivial)) (List.forall_mem_nil _)) (fun j hj hn => g j hj (by simp only [List.mem_cons, List.not_mem_nil, or_false, not_or] at hn; exact trivial)) (nz_fi (g 33 (by decide) (by decide))) (nz_fi (g 34 (by decide) (by decide))) (nz_fi (g 8 (by decide) (by decide))) (nz_fa (g 39 (by decide) (by decide))) (nz_fa (g 17 (by decide) (by decide))) ((congrArg Int32.toInt (zz_i e82)).trans n84) ((congrArg Int32.toInt (zz_i e83)).trans n89))
  replace g2 : ((sy_ai F 39).getD ((sy_i F 33).toInt).toNat 0).toInt = 24 := by omega
  by_cases g3 : (sy_i F 33).toInt < 0
  · have c33 := nz_bx hB (k := 33) (lo := 0) (hi := 400) rfl
    have q84 : (sy_ai F 39).getD (sy_i F 33).toNatClampNeg 0 = (sy_ai F 39).getD ((sy_i F 33).toInt).toNat 0 := by simp only [nz_c]
    have n84 : ((sy_ai F 39).getD (sy_i F 33).toNatClampNeg 0).toInt = ((sy_ai F 39).getD ((sy_i F 33).toInt).toNat 0).toInt := congrArg Int32.toInt q84
    exfalso
    omega
  replace g3 : 0 ≤ (sy_i F 33).toInt := by omega
  by_cases g4 : 400 < (sy_i F 33).toInt
  · have c33 := nz_bx hB (k := 33) (lo := 0) (hi := 400) rfl
    have q84 : (sy_ai F 39).getD (sy_i F 33).toNatClampNeg 0 = (sy_ai F 39).getD ((sy_i F 33).toInt).toNat 0 := by simp only [nz_c]
    have n84 : ((sy_ai F 39).getD (sy_i F 33).toNatClampNeg 0).toInt = ((sy_ai F 39).getD ((sy_i F 33).toInt).toNat 0).toInt := congrArg Int32.toInt q84
    exfalso
    omega
  replace g4 : (sy_i F 33).toInt ≤ 400 := by omega
  have c33 := nz_bx hB (k := 33) (lo := 0) (hi := 400) rfl
  have q84 : (sy_ai F 39).getD (sy_i F 33).toNatClampNeg 0 = (sy_ai F 39).getD ((sy_i F 33).toInt).toNat 0 := by simp only [nz_c]
  have n84 : ((sy_ai F 39).getD (sy_i F 33).toNatClampNeg 0).toInt = ((sy_ai F 39).getD ((sy_i F 33).toInt).toNat 0).toInt := congrArg Int32.toInt q84
  have q86 : ((sy_al F 41).getD (sy_i F 33).toNatClampNeg 0).toInt32 = ((sy_al F 41).getD ((sy_i F 33).toInt).toNat 0).toInt32 := by simp only [nz_c]
  have n86 : (((sy_al F 41).getD (sy_i F 33).toNatClampNeg 0).toInt32).toInt = (((sy_al F 41).getD ((sy_i F 33).toInt).toNat 0).toInt32).toInt := congrArg Int32.toInt q86
  exact k3pu_0_p7 hd F X1 X2 hB (by first | exact g0 | (simp only [nz_c]; exact g0)) (by first | exact g1 | (simp only [nz_c]; exact g1)) (by first | exact ⟨by omega, by omega⟩ | (simp only [nz_c]; exact ⟨by omega, by omega⟩)) (by first | exact g2 | (simp only [nz_c]; exact g2) | (rw [n84]; exact g2)) (by first | exact g3 | (simp only [nz_c]; exact g3)) (by first | exact g4 | (simp only [nz_c]; exact g4)) (by first | exact ⟨by omega, by omega⟩ | (simp only [nz_c]; exact ⟨by omega, by omega⟩)) (fun F1 g e82 e83 => k7 g0 g1 g2 g3 g4 F1 (nz_in0 hB [] (fun j hj hn => g j hj (by simp only [List.mem_cons, List.not_mem_nil, or_false, not_or] at hn; exact trivial)) (List.forall_mem_nil _)) (fun j hj hn => g j hj (by simp only [List.mem_cons, List.not_mem_nil, or_false, not_or] at hn; exact trivial)) (nz_fi (g 33 (by decide) (by decide))) (nz_fi (g 34 (by decide) (by decide))) (nz_fi (g 8 (by decide) (by decide))) (nz_fa (g 39 (by decide) (by decide))) (nz_fa (g 17 (by decide) (by decide))) ((congrArg Int32.toInt (zz_i e82)).trans n84) ((congrArg Int32.toInt (zz_i e83)).trans n86))
theorem k3zu_137 {Ls : Nat} {xs : Nat → Int32} {d : Nat} {Q : Option Value → jm_h → Prop} (hd : 4 ≤ d) (F : Nat → sy_d) (X1 X2 : List jm_c) (hB : iv_in F iv_B0)
    (k0 : (sy_i F 84).toInt = 0 → ∀ F1 : Nat → sy_d, iv_in F1 iv_B0 → (∀ j, j < 82 → j ∉ ([] : List Nat) → F1 j = F j) → (sy_i F1 33).toInt = (sy_i F 33).toInt → (sy_i F1 34).toInt = (sy_i F 34).toInt → (sy_i F1 8).toInt = (sy_i F 8).toInt → sy_ai F1 39 = sy_ai F 39 → sy_ai F1 17 = sy_ai F 17 → Q (some (.int ((0 : Int32)))) (sy_dh F1 X1 X2 (iv_H 3)))
    (k1 : (sy_i F 84).toInt ≠ 0 → 0 ≤ (sy_i F 33).toInt → (sy_i F 33).toInt ≤ 400 → ((sy_ai F 39).getD ((sy_i F 33).toInt).toNat 0).toInt = 41 → (sy_i F 33).toInt < 400 → ∀ F1 : Nat → sy_d, iv_in F1 iv_B0 → (∀ j, j < 82 → j ∉ ([33] : List Nat) → F1 j = F j) → (sy_i F1 33).toInt = ((sy_i F 33).toInt + 1) → (sy_i F1 34).toInt = (sy_i F 34).toInt → (sy_i F1 8).toInt = (sy_i F 8).toInt → sy_ai F1 39 = sy_ai F 39 → sy_ai F1 17 = sy_ai F 17 → Q (some (.int ((1 : Int32)))) (sy_dh F1 X1 X2 (iv_H 3)))
    (k2 : (sy_i F 84).toInt ≠ 0 → 0 ≤ (sy_i F 33).toInt → (sy_i F 33).toInt ≤ 400 → ((sy_ai F 39).getD ((sy_i F 33).toInt).toNat 0).toInt = 41 → 400 ≤ (sy_i F 33).toInt → ∀ F1 : Nat → sy_d, iv_in F1 iv_B0 → (∀ j, j < 82 → j ∉ ([34] : List Nat) → F1 j = F j) → (sy_i F1 33).toInt = (sy_i F 33).toInt → (sy_i F1 34).toInt = 2 → (sy_i F1 8).toInt = (sy_i F 8).toInt → sy_ai F1 39 = sy_ai F 39 → sy_ai F1 17 = sy_ai F 17 → Q (some (.int ((0 : Int32)))) (sy_dh F1 X1 X2 (iv_H 3)))
    (k3 : (sy_i F 84).toInt ≠ 0 → 0 ≤ (sy_i F 33).toInt → (sy_i F 33).toInt ≤ 400 → ((sy_ai F 39).getD ((sy_i F 33).toInt).toNat 0).toInt ≠ 41 → ∀ F1 : Nat → sy_d, iv_in F1 iv_B0 → (∀ j, j < 82 → j ∉ ([34] : List Nat) → F1 j = F j) → (sy_i F1 33).toInt = (sy_i F 33).toInt → (sy_i F1 34).toInt = 1 → (sy_i F1 8).toInt = (sy_i F 8).toInt → sy_ai F1 39 = sy_ai F 39 → sy_ai F1 17 = sy_ai F 17 → Q (some (.int ((0 : Int32)))) (sy_dh F1 X1 X2 (iv_H 3))) :
    hd_W Ls xs d jm_M40 Q (137, sy_dL F [some (.inl (.ref 30)), none, none, none, none], sy_dS F [.inr (.inl 84)], sy_dh F X1 X2 (iv_H 3), 0, 0) := by
  by_cases g0 : (sy_i F 84).toInt = 0
  · exact k3pu_137_p0 hd F X1 X2 hB (by first | exact g0 | (simp only [nz_c]; exact g0)) (fun F1 g  => k0 g0 F1 (nz_in0 hB [] (fun j hj hn => g j hj (by simp only [List.mem_cons, List.not_mem_nil, or_false, not_or] at hn; exact trivial)) (List.forall_mem_nil _)) (fun j hj hn => g j hj (by simp only [List.mem_cons, List.not_mem_nil, or_false, not_or] at hn; exact trivial)) (nz_fi (g 33 (by decide) (by decide))) (nz_fi (g 34 (by decide) (by decide))) (nz_fi (g 8 (by decide) (by decide))) (nz_fa (g 39 (by decide) (by decide))) (nz_fa (g 17 (by decide) (by decide))))
  replace g0 : (sy_i F 84).toInt ≠ 0 := by omega
  by_cases g1 : (sy_i F 33).toInt < 0
  · have c33 := nz_bx hB (k := 33) (lo := 0) (hi := 400) rfl
    exfalso
    omega
  replace g1 : 0 ≤ (sy_i F 33).toInt := by omega
  by_cases g2 : 400 < (sy_i F 33).toInt
  · have c33 := nz_bx hB (k := 33) (lo := 0) (hi := 400) rfl
    exfalso
    omega
  replace g2 : (sy_i F 33).toInt ≤ 400 := by omega
  by_cases g3 : ((sy_ai F 39).getD ((sy_i F 33).toInt).toNat 0).toInt = 41
  · by_cases g4 : (sy_i F 33).toInt < 400
    · have c33 := nz_bx hB (k := 33) (lo := 0) (hi := 400) rfl
      have q85 : (sy_ai F 39).getD (sy_i F 33).toNatClampNeg 0 = (sy_ai F 39).getD ((sy_i F 33).toInt).toNat 0 := by simp only [nz_c]
      have n85 : ((sy_ai F 39).getD (sy_i F 33).toNatClampNeg 0).toInt = ((sy_ai F 39).getD ((sy_i F 33).toInt).toNat 0).toInt := congrArg Int32.toInt q85
      have n86 : ((sy_i F 33) + ((1 : Int32))).toInt = ((sy_i F 33).toInt + 1) := nz_add (rfl : (sy_i F 33).toInt = (sy_i F 33).toInt) (by decide : ((1 : Int32)).toInt = 1) (by omega) (by omega)
      exact k3pu_137_p1 hd F X1 X2 hB (by first | exact g0 | (simp only [nz_c]; exact g0)) (by first | exact g1 | (simp only [nz_c]; exact g1)) (by first | exact g2 | (simp only [nz_c]; exact g2)) (by first | exact ⟨by omega, by omega⟩ | (simp only [nz_c]; exact ⟨by omega, by omega⟩)) (by first | exact g3 | (simp only [nz_c]; exact g3) | (rw [n85]; exact g3)) (by first | exact g4 | (simp only [nz_c]; exact g4)) (fun F1 g e33 => k1 g0 g1 g2 g3 g4 F1 (nz_in0 hB [33] (fun j hj hn => g j hj (by simp only [List.mem_cons, List.not_mem_nil, or_false, not_or] at hn; omega)) (List.forall_mem_cons.mpr ⟨fun t ht => (Option.some.inj ht) ▸ (nz_hi e33 n86 (by omega) (by omega)), List.forall_mem_nil _⟩)) (fun j hj hn => g j hj (by simp only [List.mem_cons, List.not_mem_nil, or_false, not_or] at hn; omega)) ((congrArg Int32.toInt (zz_i e33)).trans n86) (nz_fi (g 34 (by decide) (by decide))) (nz_fi (g 8 (by decide) (by decide))) (nz_fa (g 39 (by decide) (by decide))) (nz_fa (g 17 (by decide) (by decide))))
    replace g4 : 400 ≤ (sy_i F 33).toInt := by omega
    have c33 := nz_bx hB (k := 33) (lo := 0) (hi := 400) rfl
    have q85 : (sy_ai F 39).getD (sy_i F 33).toNatClampNeg 0 = (sy_ai F 39).getD ((sy_i F 33).toInt).toNat 0 := by simp only [nz_c]
    have n85 : ((sy_ai F 39).getD (sy_i F 33).toNatClampNeg 0).toInt = ((sy_ai F 39).getD ((sy_i F 33).toInt).toNat 0).toInt := congrArg Int32.toInt q85
    exact k3pu_137_p2 hd F X1 X2 hB (by first | exact g0 | (simp only [nz_c]; exact g0)) (by first | exact g1 | (simp only [nz_c]; exact g1)) (by first | exact g2 | (simp only [nz_c]; exact g2)) (by first | exact ⟨by omega, by omega⟩ | (simp only [nz_c]; exact ⟨by omega, by omega⟩)) (by first | exact g3 | (simp only [nz_c]; exact g3) | (rw [n85]; exact g3)) (by first | exact g4 | (simp only [nz_c]; exact g4)) (fun F1 g e34 => k2 g0 g1 g2 g3 g4 F1 (nz_in0 hB [34] (fun j hj hn => g j hj (by simp only [List.mem_cons, List.not_mem_nil, or_false, not_or] at hn; omega)) (List.forall_mem_cons.mpr ⟨fun t ht => (Option.some.inj ht) ▸ (nz_hz e34), List.forall_mem_nil _⟩)) (fun j hj hn => g j hj (by simp only [List.mem_cons, List.not_mem_nil, or_false, not_or] at hn; omega)) (nz_fi (g 33 (by decide) (by decide))) ((congrArg Int32.toInt (zz_i e34)).trans (by decide : ((2 : Int32)).toInt = 2)) (nz_fi (g 8 (by decide) (by decide))) (nz_fa (g 39 (by decide) (by decide))) (nz_fa (g 17 (by decide) (by decide))))
  replace g3 : ((sy_ai F 39).getD ((sy_i F 33).toInt).toNat 0).toInt ≠ 41 := by omega
  have c33 := nz_bx hB (k := 33) (lo := 0) (hi := 400) rfl
  have q85 : (sy_ai F 39).getD (sy_i F 33).toNatClampNeg 0 = (sy_ai F 39).getD ((sy_i F 33).toInt).toNat 0 := by simp only [nz_c]
  have n85 : ((sy_ai F 39).getD (sy_i F 33).toNatClampNeg 0).toInt = ((sy_ai F 39).getD ((sy_i F 33).toInt).toNat 0).toInt := congrArg Int32.toInt q85
  exact k3pu_137_p3 hd F X1 X2 hB (by first | exact g0 | (simp only [nz_c]; exact g0)) (by first | exact g1 | (simp only [nz_c]; exact g1)) (by first | exact g2 | (simp only [nz_c]; exact g2)) (by first | exact ⟨by omega, by omega⟩ | (simp only [nz_c]; exact ⟨by omega, by omega⟩)) (by first | exact g3 | (simp only [nz_c]; exact g3) | (rw [n85]; exact g3)) (fun F1 g e34 => k3 g0 g1 g2 g3 F1 (nz_in0 hB [34] (fun j hj hn => g j hj (by simp only [List.mem_cons, List.not_mem_nil, or_false, not_or] at hn; omega)) (List.forall_mem_cons.mpr ⟨fun t ht => (Option.some.inj ht) ▸ (nz_hz e34), List.forall_mem_nil _⟩)) (fun j hj hn => g j hj (by simp only [List.mem_cons, List.not_mem_nil, or_false, not_or] at hn; omega)) (nz_fi (g 33 (by decide) (by decide))) ((congrArg Int32.toInt (zz_i e34)).trans (by decide : ((1 : Int32)).toInt = 1)) (nz_fi (g 8 (by decide) (by decide))) (nz_fa (g 39 (by decide) (by decide))) (nz_fa (g 17 (by decide) (by decide))))
theorem k3zu_34 {Ls : Nat} {xs : Nat → Int32} {d : Nat} {Q : Option Value → jm_h → Prop} (hd : 4 ≤ d) (F : Nat → sy_d) (X1 X2 : List jm_c) (hB : iv_in F iv_B0)
    (a83 : (-100) ≤ (sy_i F 83).toInt ∧ (sy_i F 83).toInt ≤ 9999)
    (k0 : 512 ≤ (sy_i F 8).toInt → 0 ≤ (sy_i F 33).toInt → (sy_i F 33).toInt ≤ 400 → ((sy_ai F 39).getD ((sy_i F 33).toInt).toNat 0).toInt = (sy_i F 82).toInt → (sy_i F 33).toInt < 400 → ∀ F1 : Nat → sy_d, iv_in F1 iv_B0 → (∀ j, j < 82 → j ∉ ([33] : List Nat) → F1 j = F j) → (sy_i F1 33).toInt = ((sy_i F 33).toInt + 1) → (sy_i F1 34).toInt = (sy_i F 34).toInt → (sy_i F1 8).toInt = (sy_i F 8).toInt → sy_ai F1 39 = sy_ai F 39 → sy_ai F1 17 = sy_ai F 17 → Q (some (.int ((1 : Int32)))) (sy_dh F1 X1 X2 (iv_H 3)))
    (k1 : 512 ≤ (sy_i F 8).toInt → 0 ≤ (sy_i F 33).toInt → (sy_i F 33).toInt ≤ 400 → ((sy_ai F 39).getD ((sy_i F 33).toInt).toNat 0).toInt = (sy_i F 82).toInt → 400 ≤ (sy_i F 33).toInt → ∀ F1 : Nat → sy_d, iv_in F1 iv_B0 → (∀ j, j < 82 → j ∉ ([34] : List Nat) → F1 j = F j) → (sy_i F1 33).toInt = (sy_i F 33).toInt → (sy_i F1 34).toInt = 2 → (sy_i F1 8).toInt = (sy_i F 8).toInt → sy_ai F1 39 = sy_ai F 39 → sy_ai F1 17 = sy_ai F 17 → Q (some (.int ((0 : Int32)))) (sy_dh F1 X1 X2 (iv_H 3)))
    (k2 : 512 ≤ (sy_i F 8).toInt → 0 ≤ (sy_i F 33).toInt → (sy_i F 33).toInt ≤ 400 → ((sy_ai F 39).getD ((sy_i F 33).toInt).toNat 0).toInt ≠ (sy_i F 82).toInt → ∀ F1 : Nat → sy_d, iv_in F1 iv_B0 → (∀ j, j < 82 → j ∉ ([34] : List Nat) → F1 j = F j) → (sy_i F1 33).toInt = (sy_i F 33).toInt → (sy_i F1 34).toInt = 1 → (sy_i F1 8).toInt = (sy_i F 8).toInt → sy_ai F1 39 = sy_ai F 39 → sy_ai F1 17 = sy_ai F 17 → Q (some (.int ((0 : Int32)))) (sy_dh F1 X1 X2 (iv_H 3)))
    (k3 : (sy_i F 8).toInt < 512 → 0 ≤ (sy_i F 33).toInt → (sy_i F 33).toInt ≤ 400 → ((sy_ai F 39).getD ((sy_i F 33).toInt).toNat 0).toInt = (sy_i F 82).toInt → (sy_i F 33).toInt < 400 → ∀ F1 : Nat → sy_d, iv_in F1 iv_B0 → (∀ j, j < 82 → j ∉ ([8, 17, 33] : List Nat) → F1 j = F j) → (sy_i F1 33).toInt = ((sy_i F 33).toInt + 1) → (sy_i F1 34).toInt = (sy_i F 34).toInt → (sy_i F1 8).toInt = ((sy_i F 8).toInt + 1) → sy_ai F1 39 = sy_ai F 39 → sy_ai F1 17 = jm_upd (sy_ai F 17) ((sy_i F 8).toInt).toNat (sy_i F 83) → Q (some (.int ((1 : Int32)))) (sy_dh F1 X1 X2 (iv_H 3)))
    (k4 : (sy_i F 8).toInt < 512 → 0 ≤ (sy_i F 33).toInt → (sy_i F 33).toInt ≤ 400 → ((sy_ai F 39).getD ((sy_i F 33).toInt).toNat 0).toInt = (sy_i F 82).toInt → 400 ≤ (sy_i F 33).toInt → ∀ F1 : Nat → sy_d, iv_in F1 iv_B0 → (∀ j, j < 82 → j ∉ ([8, 17, 34] : List Nat) → F1 j = F j) → (sy_i F1 33).toInt = (sy_i F 33).toInt → (sy_i F1 34).toInt = 2 → (sy_i F1 8).toInt = ((sy_i F 8).toInt + 1) → sy_ai F1 39 = sy_ai F 39 → sy_ai F1 17 = jm_upd (sy_ai F 17) ((sy_i F 8).toInt).toNat (sy_i F 83) → Q (some (.int ((0 : Int32)))) (sy_dh F1 X1 X2 (iv_H 3)))
    (k5 : (sy_i F 8).toInt < 512 → 0 ≤ (sy_i F 33).toInt → (sy_i F 33).toInt ≤ 400 → ((sy_ai F 39).getD ((sy_i F 33).toInt).toNat 0).toInt ≠ (sy_i F 82).toInt → ∀ F1 : Nat → sy_d, iv_in F1 iv_B0 → (∀ j, j < 82 → j ∉ ([8, 17, 34] : List Nat) → F1 j = F j) → (sy_i F1 33).toInt = (sy_i F 33).toInt → (sy_i F1 34).toInt = 1 → (sy_i F1 8).toInt = ((sy_i F 8).toInt + 1) → sy_ai F1 39 = sy_ai F 39 → sy_ai F1 17 = jm_upd (sy_ai F 17) ((sy_i F 8).toInt).toNat (sy_i F 83) → Q (some (.int ((0 : Int32)))) (sy_dh F1 X1 X2 (iv_H 3))) :
    hd_W Ls xs d jm_M40 Q (34, sy_dL F [some (.inl (.ref 30)), none, none, some (.inr (.inl 82)), none], sy_dS F [.inr (.inl 83), .inl (.ref 10)], sy_dh F X1 X2 (iv_H 3), 0, 0) := by
  by_cases g0 : 512 ≤ (sy_i F 8).toInt
  · by_cases g1 : (sy_i F 33).toInt < 0
    · have c8 := nz_bx hB (k := 8) (lo := 0) (hi := 512) rfl
      have c33 := nz_bx hB (k := 33) (lo := 0) (hi := 400) rfl
      exfalso
      omega
    replace g1 : 0 ≤ (sy_i F 33).toInt := by omega
    by_cases g2 : 400 < (sy_i F 33).toInt
    · have c8 := nz_bx hB (k := 8) (lo := 0) (hi := 512) rfl
      have c33 := nz_bx hB (k := 33) (lo := 0) (hi := 400) rfl
      exfalso
      omega
    replace g2 : (sy_i F 33).toInt ≤ 400 := by omega
    by_cases g3 : ((sy_ai F 39).getD ((sy_i F 33).toInt).toNat 0).toInt = (sy_i F 82).toInt
    · by_cases g4 : (sy_i F 33).toInt < 400
      · have c8 := nz_bx hB (k := 8) (lo := 0) (hi := 512) rfl
        have c33 := nz_bx hB (k := 33) (lo := 0) (hi := 400) rfl
        have q84 : (sy_ai F 39).getD (sy_i F 33).toNatClampNeg 0 = (sy_ai F 39).getD ((sy_i F 33).toInt).toNat 0 := by simp only [nz_c]
        have n84 : ((sy_ai F 39).getD (sy_i F 33).toNatClampNeg 0).toInt = ((sy_ai F 39).getD ((sy_i F 33).toInt).toNat 0).toInt := congrArg Int32.toInt q84
        have n85 : ((sy_i F 33) + ((1 : Int32))).toInt = ((sy_i F 33).toInt + 1) := nz_add (rfl : (sy_i F 33).toInt = (sy_i F 33).toInt) (by decide : ((1 : Int32)).toInt = 1) (by omega) (by omega)
        exact k3pu_34_p0 hd F X1 X2 hB (by first | exact g0 | (simp only [nz_c]; exact g0)) (by first | exact g1 | (simp only [nz_c]; exact g1)) (by first | exact g2 | (simp only [nz_c]; exact g2)) (by first | exact ⟨by omega, by omega⟩ | (simp only [nz_c]; exact ⟨by omega, by omega⟩)) (by first | exact g3 | (simp only [nz_c]; exact g3) | (rw [n84]; exact g3)) (by first | exact g4 | (simp only [nz_c]; exact g4)) (fun F1 g e33 => k0 g0 g1 g2 g3 g4 F1 (nz_in0 hB [33] (fun j hj hn => g j hj (by simp only [List.mem_cons, List.not_mem_nil, or_false, not_or] at hn; omega)) (List.forall_mem_cons.mpr ⟨fun t ht => (Option.some.inj ht) ▸ (nz_hi e33 n85 (by omega) (by omega)), List.forall_mem_nil _⟩)) (fun j hj hn => g j hj (by simp only [List.mem_cons, List.not_mem_nil, or_false, not_or] at hn; omega)) ((congrArg Int32.toInt (zz_i e33)).trans n85) (nz_fi (g 34 (by decide) (by decide))) (nz_fi (g 8 (by decide) (by decide))) (nz_fa (g 39 (by decide) (by decide))) (nz_fa (g 17 (by decide) (by decide))))
      replace g4 : 400 ≤ (sy_i F 33).toInt := by omega
      have c8 := nz_bx hB (k := 8) (lo := 0) (hi := 512) rfl
      have c33 := nz_bx hB (k := 33) (lo := 0) (hi := 400) rfl
      have q84 : (sy_ai F 39).getD (sy_i F 33).toNatClampNeg 0 = (sy_ai F 39).getD ((sy_i F 33).toInt).toNat 0 := by simp only [nz_c]
      have n84 : ((sy_ai F 39).getD (sy_i F 33).toNatClampNeg 0).toInt = ((sy_ai F 39).getD ((sy_i F 33).toInt).toNat 0).toInt := congrArg Int32.toInt q84
      exact k3pu_34_p1 hd F X1 X2 hB (by first | exact g0 | (simp only [nz_c]; exact g0)) (by first | exact g1 | (simp only [nz_c]; exact g1)) (by first | exact g2 | (simp only [nz_c]; exact g2)) (by first | exact ⟨by omega, by omega⟩ | (simp only [nz_c]; exact ⟨by omega, by omega⟩)) (by first | exact g3 | (simp only [nz_c]; exact g3) | (rw [n84]; exact g3)) (by first | exact g4 | (simp only [nz_c]; exact g4)) (fun F1 g e34 => k1 g0 g1 g2 g3 g4 F1 (nz_in0 hB [34] (fun j hj hn => g j hj (by simp only [List.mem_cons, List.not_mem_nil, or_false, not_or] at hn; omega)) (List.forall_mem_cons.mpr ⟨fun t ht => (Option.some.inj ht) ▸ (nz_hz e34), List.forall_mem_nil _⟩)) (fun j hj hn => g j hj (by simp only [List.mem_cons, List.not_mem_nil, or_false, not_or] at hn; omega)) (nz_fi (g 33 (by decide) (by decide))) ((congrArg Int32.toInt (zz_i e34)).trans (by decide : ((2 : Int32)).toInt = 2)) (nz_fi (g 8 (by decide) (by decide))) (nz_fa (g 39 (by decide) (by decide))) (nz_fa (g 17 (by decide) (by decide))))
    replace g3 : ((sy_ai F 39).getD ((sy_i F 33).toInt).toNat 0).toInt ≠ (sy_i F 82).toInt := by omega
    have c8 := nz_bx hB (k := 8) (lo := 0) (hi := 512) rfl
    have c33 := nz_bx hB (k := 33) (lo := 0) (hi := 400) rfl
    have q84 : (sy_ai F 39).getD (sy_i F 33).toNatClampNeg 0 = (sy_ai F 39).getD ((sy_i F 33).toInt).toNat 0 := by simp only [nz_c]
    have n84 : ((sy_ai F 39).getD (sy_i F 33).toNatClampNeg 0).toInt = ((sy_ai F 39).getD ((sy_i F 33).toInt).toNat 0).toInt := congrArg Int32.toInt q84
    exact k3pu_34_p2 hd F X1 X2 hB (by first | exact g0 | (simp only [nz_c]; exact g0)) (by first | exact g1 | (simp only [nz_c]; exact g1)) (by first | exact g2 | (simp only [nz_c]; exact g2)) (by first | exact ⟨by omega, by omega⟩ | (simp only [nz_c]; exact ⟨by omega, by omega⟩)) (by first | exact g3 | (simp only [nz_c]; exact g3) | (rw [n84]; exact g3)) (fun F1 g e34 => k2 g0 g1 g2 g3 F1 (nz_in0 hB [34] (fun j hj hn => g j hj (by simp only [List.mem_cons, List.not_mem_nil, or_false, not_or] at hn; omega)) (List.forall_mem_cons.mpr ⟨fun t ht => (Option.some.inj ht) ▸ (nz_hz e34), List.forall_mem_nil _⟩)) (fun j hj hn => g j hj (by simp only [List.mem_cons, List.not_mem_nil, or_false, not_or] at hn; omega)) (nz_fi (g 33 (by decide) (by decide))) ((congrArg Int32.toInt (zz_i e34)).trans (by decide : ((1 : Int32)).toInt = 1)) (nz_fi (g 8 (by decide) (by decide))) (nz_fa (g 39 (by decide) (by decide))) (nz_fa (g 17 (by decide) (by decide))))
  replace g0 : (sy_i F 8).toInt < 512 := by omega
  by_cases g1 : (sy_i F 33).toInt < 0
  · have c8 := nz_bx hB (k := 8) (lo := 0) (hi := 512) rfl
    have c33 := nz_bx hB (k := 33) (lo := 0) (hi := 400) rfl
    exfalso
    omega
  replace g1 : 0 ≤ (sy_i F 33).toInt := by omega
  by_cases g2 : 400 < (sy_i F 33).toInt
  · have c8 := nz_bx hB (k := 8) (lo := 0) (hi := 512) rfl
    have c33 := nz_bx hB (k := 33) (lo := 0) (hi := 400) rfl
    exfalso
    omega
  replace g2 : (sy_i F 33).toInt ≤ 400 := by omega
  by_cases g3 : ((sy_ai F 39).getD ((sy_i F 33).toInt).toNat 0).toInt = (sy_i F 82).toInt
  · by_cases g4 : (sy_i F 33).toInt < 400
    · have c8 := nz_bx hB (k := 8) (lo := 0) (hi := 512) rfl
      have c33 := nz_bx hB (k := 33) (lo := 0) (hi := 400) rfl
      have q86 : (sy_ai F 39).getD (sy_i F 33).toNatClampNeg 0 = (sy_ai F 39).getD ((sy_i F 33).toInt).toNat 0 := by simp only [nz_c]
      have n86 : ((sy_ai F 39).getD (sy_i F 33).toNatClampNeg 0).toInt = ((sy_ai F 39).getD ((sy_i F 33).toInt).toNat 0).toInt := congrArg Int32.toInt q86
      have n85 : ((sy_i F 8) + ((1 : Int32))).toInt = ((sy_i F 8).toInt + 1) := nz_add (rfl : (sy_i F 8).toInt = (sy_i F 8).toInt) (by decide : ((1 : Int32)).toInt = 1) (by omega) (by omega)
      have n87 : ((sy_i F 33) + ((1 : Int32))).toInt = ((sy_i F 33).toInt + 1) := nz_add (rfl : (sy_i F 33).toInt = (sy_i F 33).toInt) (by decide : ((1 : Int32)).toInt = 1) (by omega) (by omega)
      have w84 : jm_upd (sy_ai F 17) (sy_i F 8).toNatClampNeg (sy_i F 83) = jm_upd (sy_ai F 17) ((sy_i F 8).toInt).toNat (sy_i F 83) := by simp only [nz_c]
      exact k3pu_34_p3 hd F X1 X2 hB (by first | exact g0 | (simp only [nz_c]; exact g0)) (by first | exact ⟨by omega, by omega⟩ | (simp only [nz_c]; exact ⟨by omega, by omega⟩)) (by first | exact g1 | (simp only [nz_c]; exact g1)) (by first | exact g2 | (simp only [nz_c]; exact g2)) (by first | exact ⟨by omega, by omega⟩ | (simp only [nz_c]; exact ⟨by omega, by omega⟩)) (by first | exact g3 | (simp only [nz_c]; exact g3) | (rw [n86]; exact g3)) (by first | exact g4 | (simp only [nz_c]; exact g4)) (fun F1 g e8 e17 e33 => k3 g0 g1 g2 g3 g4 F1 (nz_in0 hB [8, 17, 33] (fun j hj hn => g j hj (by simp only [List.mem_cons, List.not_mem_nil, or_false, not_or] at hn; omega)) (List.forall_mem_cons.mpr ⟨fun t ht => (Option.some.inj ht) ▸ (nz_hi e8 n85 (by omega) (by omega)), List.forall_mem_cons.mpr ⟨fun t ht => (Option.some.inj ht) ▸ (nz_hA e17 (nz_up (nz_ba hB (k := 17) (lo := (-2147483648)) (hi := 2147483646) rfl) (rfl : (sy_i F 83).toInt = (sy_i F 83).toInt) (by omega) (by omega))), List.forall_mem_cons.mpr ⟨fun t ht => (Option.some.inj ht) ▸ (nz_hi e33 n87 (by omega) (by omega)), List.forall_mem_nil _⟩⟩⟩)) (fun j hj hn => g j hj (by simp only [List.mem_cons, List.not_mem_nil, or_false, not_or] at hn; omega)) ((congrArg Int32.toInt (zz_i e33)).trans n87) (nz_fi (g 34 (by decide) (by decide))) ((congrArg Int32.toInt (zz_i e8)).trans n85) (nz_fa (g 39 (by decide) (by decide))) ((zz_ai e17).trans w84))
    replace g4 : 400 ≤ (sy_i F 33).toInt := by omega
    have c8 := nz_bx hB (k := 8) (lo := 0) (hi := 512) rfl
    have c33 := nz_bx hB (k := 33) (lo := 0) (hi := 400) rfl
    have q86 : (sy_ai F 39).getD (sy_i F 33).toNatClampNeg 0 = (sy_ai F 39).getD ((sy_i F 33).toInt).toNat 0 := by simp only [nz_c]
    have n86 : ((sy_ai F 39).getD (sy_i F 33).toNatClampNeg 0).toInt = ((sy_ai F 39).getD ((sy_i F 33).toInt).toNat 0).toInt := congrArg Int32.toInt q86
    have n85 : ((sy_i F 8) + ((1 : Int32))).toInt = ((sy_i F 8).toInt + 1) := nz_add (rfl : (sy_i F 8).toInt = (sy_i F 8).toInt) (by decide : ((1 : Int32)).toInt = 1) (by omega) (by omega)
    have w84 : jm_upd (sy_ai F 17) (sy_i F 8).toNatClampNeg (sy_i F 83) = jm_upd (sy_ai F 17) ((sy_i F 8).toInt).toNat (sy_i F 83) := by simp only [nz_c]
    exact k3pu_34_p4 hd F X1 X2 hB (by first | exact g0 | (simp only [nz_c]; exact g0)) (by first | exact ⟨by omega, by omega⟩ | (simp only [nz_c]; exact ⟨by omega, by omega⟩)) (by first | exact g1 | (simp only [nz_c]; exact g1)) (by first | exact g2 | (simp only [nz_c]; exact g2)) (by first | exact ⟨by omega, by omega⟩ | (simp only [nz_c]; exact ⟨by omega, by omega⟩)) (by first | exact g3 | (simp only [nz_c]; exact g3) | (rw [n86]; exact g3)) (by first | exact g4 | (simp only [nz_c]; exact g4)) (fun F1 g e8 e17 e34 => k4 g0 g1 g2 g3 g4 F1 (nz_in0 hB [8, 17, 34] (fun j hj hn => g j hj (by simp only [List.mem_cons, List.not_mem_nil, or_false, not_or] at hn; omega)) (List.forall_mem_cons.mpr ⟨fun t ht => (Option.some.inj ht) ▸ (nz_hi e8 n85 (by omega) (by omega)), List.forall_mem_cons.mpr ⟨fun t ht => (Option.some.inj ht) ▸ (nz_hA e17 (nz_up (nz_ba hB (k := 17) (lo := (-2147483648)) (hi := 2147483646) rfl) (rfl : (sy_i F 83).toInt = (sy_i F 83).toInt) (by omega) (by omega))), List.forall_mem_cons.mpr ⟨fun t ht => (Option.some.inj ht) ▸ (nz_hz e34), List.forall_mem_nil _⟩⟩⟩)) (fun j hj hn => g j hj (by simp only [List.mem_cons, List.not_mem_nil, or_false, not_or] at hn; omega)) (nz_fi (g 33 (by decide) (by decide))) ((congrArg Int32.toInt (zz_i e34)).trans (by decide : ((2 : Int32)).toInt = 2)) ((congrArg Int32.toInt (zz_i e8)).trans n85) (nz_fa (g 39 (by decide) (by decide))) ((zz_ai e17).trans w84))
  replace g3 : ((sy_ai F 39).getD ((sy_i F 33).toInt).toNat 0).toInt ≠ (sy_i F 82).toInt := by omega
  have c8 := nz_bx hB (k := 8) (lo := 0) (hi := 512) rfl
  have c33 := nz_bx hB (k := 33) (lo := 0) (hi := 400) rfl
  have q86 : (sy_ai F 39).getD (sy_i F 33).toNatClampNeg 0 = (sy_ai F 39).getD ((sy_i F 33).toInt).toNat 0 := by simp only [nz_c]
  have n86 : ((sy_ai F 39).getD (sy_i F 33).toNatClampNeg 0).toInt = ((sy_ai F 39).getD ((sy_i F 33).toInt).toNat 0).toInt := congrArg Int32.toInt q86
  have n85 : ((sy_i F 8) + ((1 : Int32))).toInt = ((sy_i F 8).toInt + 1) := nz_add (rfl : (sy_i F 8).toInt = (sy_i F 8).toInt) (by decide : ((1 : Int32)).toInt = 1) (by omega) (by omega)
  have w84 : jm_upd (sy_ai F 17) (sy_i F 8).toNatClampNeg (sy_i F 83) = jm_upd (sy_ai F 17) ((sy_i F 8).toInt).toNat (sy_i F 83) := by simp only [nz_c]
  exact k3pu_34_p5 hd F X1 X2 hB (by first | exact g0 | (simp only [nz_c]; exact g0)) (by first | exact ⟨by omega, by omega⟩ | (simp only [nz_c]; exact ⟨by omega, by omega⟩)) (by first | exact g1 | (simp only [nz_c]; exact g1)) (by first | exact g2 | (simp only [nz_c]; exact g2)) (by first | exact ⟨by omega, by omega⟩ | (simp only [nz_c]; exact ⟨by omega, by omega⟩)) (by first | exact g3 | (simp only [nz_c]; exact g3) | (rw [n86]; exact g3)) (fun F1 g e8 e17 e34 => k5 g0 g1 g2 g3 F1 (nz_in0 hB [8, 17, 34] (fun j hj hn => g j hj (by simp only [List.mem_cons, List.not_mem_nil, or_false, not_or] at hn; omega)) (List.forall_mem_cons.mpr ⟨fun t ht => (Option.some.inj ht) ▸ (nz_hi e8 n85 (by omega) (by omega)), List.forall_mem_cons.mpr ⟨fun t ht => (Option.some.inj ht) ▸ (nz_hA e17 (nz_up (nz_ba hB (k := 17) (lo := (-2147483648)) (hi := 2147483646) rfl) (rfl : (sy_i F 83).toInt = (sy_i F 83).toInt) (by omega) (by omega))), List.forall_mem_cons.mpr ⟨fun t ht => (Option.some.inj ht) ▸ (nz_hz e34), List.forall_mem_nil _⟩⟩⟩)) (fun j hj hn => g j hj (by simp only [List.mem_cons, List.not_mem_nil, or_false, not_or] at hn; omega)) (nz_fi (g 33 (by decide) (by decide))) ((congrArg Int32.toInt (zz_i e34)).trans (by decide : ((1 : Int32)).toInt = 1)) ((congrArg Int32.toInt (zz_i e8)).trans n85) (nz_fa (g 39 (by decide) (by decide))) ((zz_ai e17).trans w84))
theorem k3zu_88 {Ls : Nat} {xs : Nat → Int32} {d : Nat} {Q : Option Value → jm_h → Prop} (hd : 4 ≤ d) (F : Nat → sy_d) (X1 X2 : List jm_c) (hB : iv_in F iv_B0)
    (a83 : (-100) ≤ (sy_i F 83).toInt ∧ (sy_i F 83).toInt ≤ 9999)
    (k0 : 512 ≤ (sy_i F 8).toInt → 0 ≤ (sy_i F 33).toInt → (sy_i F 33).toInt ≤ 400 → ((sy_ai F 39).getD ((sy_i F 33).toInt).toNat 0).toInt = (sy_i F 82).toInt → (sy_i F 33).toInt < 400 → ∀ F1 : Nat → sy_d, iv_in F1 iv_B0 → (∀ j, j < 82 → j ∉ ([33] : List Nat) → F1 j = F j) → (sy_i F1 33).toInt = ((sy_i F 33).toInt + 1) → (sy_i F1 34).toInt = (sy_i F 34).toInt → (sy_i F1 8).toInt = (sy_i F 8).toInt → sy_ai F1 39 = sy_ai F 39 → sy_ai F1 17 = sy_ai F 17 → Q (some (.int ((1 : Int32)))) (sy_dh F1 X1 X2 (iv_H 3)))
    (k1 : 512 ≤ (sy_i F 8).toInt → 0 ≤ (sy_i F 33).toInt → (sy_i F 33).toInt ≤ 400 → ((sy_ai F 39).getD ((sy_i F 33).toInt).toNat 0).toInt = (sy_i F 82).toInt → 400 ≤ (sy_i F 33).toInt → ∀ F1 : Nat → sy_d, iv_in F1 iv_B0 → (∀ j, j < 82 → j ∉ ([34] : List Nat) → F1 j = F j) → (sy_i F1 33).toInt = (sy_i F 33).toInt → (sy_i F1 34).toInt = 2 → (sy_i F1 8).toInt = (sy_i F 8).toInt → sy_ai F1 39 = sy_ai F 39 → sy_ai F1 17 = sy_ai F 17 → Q (some (.int ((0 : Int32)))) (sy_dh F1 X1 X2 (iv_H 3)))
    (k2 : 512 ≤ (sy_i F 8).toInt → 0 ≤ (sy_i F 33).toInt → (sy_i F 33).toInt ≤ 400 → ((sy_ai F 39).getD ((sy_i F 33).toInt).toNat 0).toInt ≠ (sy_i F 82).toInt → ∀ F1 : Nat → sy_d, iv_in F1 iv_B0 → (∀ j, j < 82 → j ∉ ([34] : List Nat) → F1 j = F j) → (sy_i F1 33).toInt = (sy_i F 33).toInt → (sy_i F1 34).toInt = 1 → (sy_i F1 8).toInt = (sy_i F 8).toInt → sy_ai F1 39 = sy_ai F 39 → sy_ai F1 17 = sy_ai F 17 → Q (some (.int ((0 : Int32)))) (sy_dh F1 X1 X2 (iv_H 3)))
    (k3 : (sy_i F 8).toInt < 512 → 0 ≤ (sy_i F 33).toInt → (sy_i F 33).toInt ≤ 400 → ((sy_ai F 39).getD ((sy_i F 33).toInt).toNat 0).toInt = (sy_i F 82).toInt → (sy_i F 33).toInt < 400 → ∀ F1 : Nat → sy_d, iv_in F1 iv_B0 → (∀ j, j < 82 → j ∉ ([8, 17, 33] : List Nat) → F1 j = F j) → (sy_i F1 33).toInt = ((sy_i F 33).toInt + 1) → (sy_i F1 34).toInt = (sy_i F 34).toInt → (sy_i F1 8).toInt = ((sy_i F 8).toInt + 1) → sy_ai F1 39 = sy_ai F 39 → sy_ai F1 17 = jm_upd (sy_ai F 17) ((sy_i F 8).toInt).toNat (sy_i F 83) → Q (some (.int ((1 : Int32)))) (sy_dh F1 X1 X2 (iv_H 3)))
    (k4 : (sy_i F 8).toInt < 512 → 0 ≤ (sy_i F 33).toInt → (sy_i F 33).toInt ≤ 400 → ((sy_ai F 39).getD ((sy_i F 33).toInt).toNat 0).toInt = (sy_i F 82).toInt → 400 ≤ (sy_i F 33).toInt → ∀ F1 : Nat → sy_d, iv_in F1 iv_B0 → (∀ j, j < 82 → j ∉ ([8, 17, 34] : List Nat) → F1 j = F j) → (sy_i F1 33).toInt = (sy_i F 33).toInt → (sy_i F1 34).toInt = 2 → (sy_i F1 8).toInt = ((sy_i F 8).toInt + 1) → sy_ai F1 39 = sy_ai F 39 → sy_ai F1 17 = jm_upd (sy_ai F 17) ((sy_i F 8).toInt).toNat (sy_i F 83) → Q (some (.int ((0 : Int32)))) (sy_dh F1 X1 X2 (iv_H 3)))
    (k5 : (sy_i F 8).toInt < 512 → 0 ≤ (sy_i F 33).toInt → (sy_i F 33).toInt ≤ 400 → ((sy_ai F 39).getD ((sy_i F 33).toInt).toNat 0).toInt ≠ (sy_i F 82).toInt → ∀ F1 : Nat → sy_d, iv_in F1 iv_B0 → (∀ j, j < 82 → j ∉ ([8, 17, 34] : List Nat) → F1 j = F j) → (sy_i F1 33).toInt = (sy_i F 33).toInt → (sy_i F1 34).toInt = 1 → (sy_i F1 8).toInt = ((sy_i F 8).toInt + 1) → sy_ai F1 39 = sy_ai F 39 → sy_ai F1 17 = jm_upd (sy_ai F 17) ((sy_i F 8).toInt).toNat (sy_i F 83) → Q (some (.int ((0 : Int32)))) (sy_dh F1 X1 X2 (iv_H 3))) :
    hd_W Ls xs d jm_M40 Q (88, sy_dL F [some (.inl (.ref 30)), none, none, some (.inr (.inl 82)), none], sy_dS F [.inr (.inl 83), .inl (.ref 10)], sy_dh F X1 X2 (iv_H 3), 0, 0) := by
  by_cases g0 : 512 ≤ (sy_i F 8).toInt
  · by_cases g1 : (sy_i F 33).toInt < 0
    · have c8 := nz_bx hB (k := 8) (lo := 0) (hi := 512) rfl
      have c33 := nz_bx hB (k := 33) (lo := 0) (hi := 400) rfl
      exfalso
      omega
    replace g1 : 0 ≤ (sy_i F 33).toInt := by omega
    by_cases g2 : 400 < (sy_i F 33).toInt
    · have c8 := nz_bx hB (k := 8) (lo := 0) (hi := 512) rfl
      have c33 := nz_bx hB (k := 33) (lo := 0) (hi := 400) rfl
      exfalso
      omega
    replace g2 : (sy_i F 33).toInt ≤ 400 := by omega
    by_cases g3 : ((sy_ai F 39).getD ((sy_i F 33).toInt).toNat 0).toInt = (sy_i F 82).toInt
    · by_cases g4 : (sy_i F 33).toInt < 400
      · have c8 := nz_bx hB (k := 8) (lo := 0) (hi := 512) rfl
        have c33 := nz_bx hB (k := 33) (lo := 0) (hi := 400) rfl
        have q84 : (sy_ai F 39).getD (sy_i F 33).toNatClampNeg 0 = (sy_ai F 39).getD ((sy_i F 33).toInt).toNat 0 := by simp only [nz_c]
        have n84 : ((sy_ai F 39).getD (sy_i F 33).toNatClampNeg 0).toInt = ((sy_ai F 39).getD ((sy_i F 33).toInt).toNat 0).toInt := congrArg Int32.toInt q84
        have n85 : ((sy_i F 33) + ((1 : Int32))).toInt = ((sy_i F 33).toInt + 1) := nz_add (rfl : (sy_i F 33).toInt = (sy_i F 33).toInt) (by decide : ((1 : Int32)).toInt = 1) (by omega) (by omega)
        exact k3pu_88_p0 hd F X1 X2 hB (by first | exact g0 | (simp only [nz_c]; exact g0)) (by first | exact g1 | (simp only [nz_c]; exact g1)) (by first | exact g2 | (simp only [nz_c]; exact g2)) (by first | exact ⟨by omega, by omega⟩ | (simp only [nz_c]; exact ⟨by omega, by omega⟩)) (by first | exact g3 | (simp only [nz_c]; exact g3) | (rw [n84]; exact g3)) (by first | exact g4 | (simp only [nz_c]; exact g4)) (fun F1 g e33 => k0 g0 g1 g2 g3 g4 F1 (nz_in0 hB [33] (fun j hj hn => g j hj (by simp only [List.mem_cons, List.not_mem_nil, or_false, not_or] at hn; omega)) (List.forall_mem_cons.mpr ⟨fun t ht => (Option.some.inj ht) ▸ (nz_hi e33 n85 (by omega) (by omega)), List.forall_mem_nil _⟩)) (fun j hj hn => g j hj (by simp only [List.mem_cons, List.not_mem_nil, or_false, not_or] at hn; omega)) ((congrArg Int32.toInt (zz_i e33)).trans n85) (nz_fi (g 34 (by decide) (by decide))) (nz_fi (g 8 (by decide) (by decide))) (nz_fa (g 39 (by decide) (by decide))) (nz_fa (g 17 (by decide) (by decide))))
      replace g4 : 400 ≤ (sy_i F 33).toInt := by omega
      have c8 := nz_bx hB (k := 8) (lo := 0) (hi := 512) rfl
      have c33 := nz_bx hB (k := 33) (lo := 0) (hi := 400) rfl
      have q84 : (sy_ai F 39).getD (sy_i F 33).toNatClampNeg 0 = (sy_ai F 39).getD ((sy_i F 33).toInt).toNat 0 := by simp only [nz_c]
      have n84 : ((sy_ai F 39).getD (sy_i F 33).toNatClampNeg 0).toInt = ((sy_ai F 39).getD ((sy_i F 33).toInt).toNat 0).toInt := congrArg Int32.toInt q84
      exact k3pu_88_p1 hd F X1 X2 hB (by first | exact g0 | (simp only [nz_c]; exact g0)) (by first | exact g1 | (simp only [nz_c]; exact g1)) (by first | exact g2 | (simp only [nz_c]; exact g2)) (by first | exact ⟨by omega, by omega⟩ | (simp only [nz_c]; exact ⟨by omega, by omega⟩)) (by first | exact g3 | (simp only [nz_c]; exact g3) | (rw [n84]; exact g3)) (by first | exact g4 | (simp only [nz_c]; exact g4)) (fun F1 g e34 => k1 g0 g1 g2 g3 g4 F1 (nz_in0 hB [34] (fun j hj hn => g j hj (by simp only [List.mem_cons, List.not_mem_nil, or_false, not_or] at hn; omega)) (List.forall_mem_cons.mpr ⟨fun t ht => (Option.some.inj ht) ▸ (nz_hz e34), List.forall_mem_nil _⟩)) (fun j hj hn => g j hj (by simp only [List.mem_cons, List.not_mem_nil, or_false, not_or] at hn; omega)) (nz_fi (g 33 (by decide) (by decide))) ((congrArg Int32.toInt (zz_i e34)).trans (by decide : ((2 : Int32)).toInt = 2)) (nz_fi (g 8 (by decide) (by decide))) (nz_fa (g 39 (by decide) (by decide))) (nz_fa (g 17 (by decide) (by decide))))
    replace g3 : ((sy_ai F 39).getD ((sy_i F 33).toInt).toNat 0).toInt ≠ (sy_i F 82).toInt := by omega
    have c8 := nz_bx hB (k := 8) (lo := 0) (hi := 512) rfl
    have c33 := nz_bx hB (k := 33) (lo := 0) (hi := 400) rfl
    have q84 : (sy_ai F 39).getD (sy_i F 33).toNatClampNeg 0 = (sy_ai F 39).getD ((sy_i F 33).toInt).toNat 0 := by simp only [nz_c]
    have n84 : ((sy_ai F 39).getD (sy_i F 33).toNatClampNeg 0).toInt = ((sy_ai F 39).getD ((sy_i F 33).toInt).toNat 0).toInt := congrArg Int32.toInt q84
    exact k3pu_88_p2 hd F X1 X2 hB (by first | exact g0 | (simp only [nz_c]; exact g0)) (by first | exact g1 | (simp only [nz_c]; exact g1)) (by first | exact g2 | (simp only [nz_c]; exact g2)) (by first | exact ⟨by omega, by omega⟩ | (simp only [nz_c]; exact ⟨by omega, by omega⟩)) (by first | exact g3 | (simp only [nz_c]; exact g3) | (rw [n84]; exact g3)) (fun F1 g e34 => k2 g0 g1 g2 g3 F1 (nz_in0 hB [34] (fun j hj hn => g j hj (by simp only [List.mem_cons, List.not_mem_nil, or_false, not_or] at hn; omega)) (List.forall_mem_cons.mpr ⟨fun t ht => (Option.some.inj ht) ▸ (nz_hz e34), List.forall_mem_nil _⟩)) (fun j hj hn => g j hj (by simp only [List.mem_cons, List.not_mem_nil, or_false, not_or] at hn; omega)) (nz_fi (g 33 (by decide) (by decide))) ((congrArg Int32.toInt (zz_i e34)).trans (by decide : ((1 : Int32)).toInt = 1)) (nz_fi (g 8 (by decide) (by decide))) (nz_fa (g 39 (by decide) (by decide))) (nz_fa (g 17 (by decide) (by decide))))
  replace g0 : (sy_i F 8).toInt < 512 := by omega
  by_cases g1 : (sy_i F 33).toInt < 0
  · have c8 := nz_bx hB (k := 8) (lo := 0) (hi := 512) rfl
    have c33 := nz_bx hB (k := 33) (lo := 0) (hi := 400) rfl
    exfalso
    omega
  replace g1 : 0 ≤ (sy_i F 33).toInt := by omega
  by_cases g2 : 400 < (sy_i F 33).toInt
  · have c8 := nz_bx hB (k := 8) (lo := 0) (hi := 512) rfl
    have c33 := nz_bx hB (k := 33) (lo := 0) (hi := 400) rfl
    exfalso
    omega
  replace g2 : (sy_i F 33).toInt ≤ 400 := by omega
  by_cases g3 : ((sy_ai F 39).getD ((sy_i F 33).toInt).toNat 0).toInt = (sy_i F 82).toInt
  · by_cases g4 : (sy_i F 33).toInt < 400
    · have c8 := nz_bx hB (k := 8) (lo := 0) (hi := 512) rfl
      have c33 := nz_bx hB (k := 33) (lo := 0) (hi := 400) rfl
      have q86 : (sy_ai F 39).getD (sy_i F 33).toNatClampNeg 0 = (sy_ai F 39).getD ((sy_i F 33).toInt).toNat 0 := by simp only [nz_c]
      have n86 : ((sy_ai F 39).getD (sy_i F 33).toNatClampNeg 0).toInt = ((sy_ai F 39).getD ((sy_i F 33).toInt).toNat 0).toInt := congrArg Int32.toInt q86
      have n85 : ((sy_i F 8) + ((1 : Int32))).toInt = ((sy_i F 8).toInt + 1) := nz_add (rfl : (sy_i F 8).toInt = (sy_i F 8).toInt) (by decide : ((1 : Int32)).toInt = 1) (by omega) (by omega)
      have n87 : ((sy_i F 33) + ((1 : Int32))).toInt = ((sy_i F 33).toInt + 1) := nz_add (rfl : (sy_i F 33).toInt = (sy_i F 33).toInt) (by decide : ((1 : Int32)).toInt = 1) (by omega) (by omega)
      have w84 : jm_upd (sy_ai F 17) (sy_i F 8).toNatClampNeg (sy_i F 83) = jm_upd (sy_ai F 17) ((sy_i F 8).toInt).toNat (sy_i F 83) := by simp only [nz_c]
      exact k3pu_88_p3 hd F X1 X2 hB (by first | exact g0 | (simp only [nz_c]; exact g0)) (by first | exact ⟨by omega, by omega⟩ | (simp only [nz_c]; exact ⟨by omega, by omega⟩)) (by first | exact g1 | (simp only [nz_c]; exact g1)) (by first | exact g2 | (simp only [nz_c]; exact g2)) (by first | exact ⟨by omega, by omega⟩ | (simp only [nz_c]; exact ⟨by omega, by omega⟩)) (by first | exact g3 | (simp only [nz_c]; exact g3) | (rw [n86]; exact g3)) (by first | exact g4 | (simp only [nz_c]; exact g4)) (fun F1 g e8 e17 e33 => k3 g0 g1 g2 g3 g4 F1 (nz_in0 hB [8, 17, 33] (fun j hj hn => g j hj (by simp only [List.mem_cons, List.not_mem_nil, or_false, not_or] at hn; omega)) (List.forall_mem_cons.mpr ⟨fun t ht => (Option.some.inj ht) ▸ (nz_hi e8 n85 (by omega) (by omega)), List.forall_mem_cons.mpr ⟨fun t ht => (Option.some.inj ht) ▸ (nz_hA e17 (nz_up (nz_ba hB (k := 17) (lo := (-2147483648)) (hi := 2147483646) rfl) (rfl : (sy_i F 83).toInt = (sy_i F 83).toInt) (by omega) (by omega))), List.forall_mem_cons.mpr ⟨fun t ht => (Option.some.inj ht) ▸ (nz_hi e33 n87 (by omega) (by omega)), List.forall_mem_nil _⟩⟩⟩)) (fun j hj hn => g j hj (by simp only [List.mem_cons, List.not_mem_nil, or_false, not_or] at hn; omega)) ((congrArg Int32.toInt (zz_i e33)).trans n87) (nz_fi (g 34 (by decide) (by decide))) ((congrArg Int32.toInt (zz_i e8)).trans n85) (nz_fa (g 39 (by decide) (by decide))) ((zz_ai e17).trans w84))
    replace g4 : 400 ≤ (sy_i F 33).toInt := by omega
    have c8 := nz_bx hB (k := 8) (lo := 0) (hi := 512) rfl
    have c33 := nz_bx hB (k := 33) (lo := 0) (hi := 400) rfl
    have q86 : (sy_ai F 39).getD (sy_i F 33).toNatClampNeg 0 = (sy_ai F 39).getD ((sy_i F 33).toInt).toNat 0 := by simp only [nz_c]
    have n86 : ((sy_ai F 39).getD (sy_i F 33).toNatClampNeg 0).toInt = ((sy_ai F 39).getD ((sy_i F 33).toInt).toNat 0).toInt := congrArg Int32.toInt q86
    have n85 : ((sy_i F 8) + ((1 : Int32))).toInt = ((sy_i F 8).toInt + 1) := nz_add (rfl : (sy_i F 8).toInt = (sy_i F 8).toInt) (by decide : ((1 : Int32)).toInt = 1) (by omega) (by omega)
    have w84 : jm_upd (sy_ai F 17) (sy_i F 8).toNatClampNeg (sy_i F 83) = jm_upd (sy_ai F 17) ((sy_i F 8).toInt).toNat (sy_i F 83) := by simp only [nz_c]
    exact k3pu_88_p4 hd F X1 X2 hB (by first | exact g0 | (simp only [nz_c]; exact g0)) (by first | exact ⟨by omega, by omega⟩ | (simp only [nz_c]; exact ⟨by omega, by omega⟩)) (by first | exact g1 | (simp only [nz_c]; exact g1)) (by first | exact g2 | (simp only [nz_c]; exact g2)) (by first | exact ⟨by omega, by omega⟩ | (simp only [nz_c]; exact ⟨by omega, by omega⟩)) (by first | exact g3 | (simp only [nz_c]; exact g3) | (rw [n86]; exact g3)) (by first | exact g4 | (simp only [nz_c]; exact g4)) (fun F1 g e8 e17 e34 => k4 g0 g1 g2 g3 g4 F1 (nz_in0 hB [8, 17, 34] (fun j hj hn => g j hj (by simp only [List.mem_cons, List.not_mem_nil, or_false, not_or] at hn; omega)) (List.forall_mem_cons.mpr ⟨fun t ht => (Option.some.inj ht) ▸ (nz_hi e8 n85 (by omega) (by omega)), List.forall_mem_cons.mpr ⟨fun t ht => (Option.some.inj ht) ▸ (nz_hA e17 (nz_up (nz_ba hB (k := 17) (lo := (-2147483648)) (hi := 2147483646) rfl) (rfl : (sy_i F 83).toInt = (sy_i F 83).toInt) (by omega) (by omega))), List.forall_mem_cons.mpr ⟨fun t ht => (Option.some.inj ht) ▸ (nz_hz e34), List.forall_mem_nil _⟩⟩⟩)) (fun j hj hn => g j hj (by simp only [List.mem_cons, List.not_mem_nil, or_false, not_or] at hn; omega)) (nz_fi (g 33 (by decide) (by decide))) ((congrArg Int32.toInt (zz_i e34)).trans (by decide : ((2 : Int32)).toInt = 2)) ((congrArg Int32.toInt (zz_i e8)).trans n85) (nz_fa (g 39 (by decide) (by decide))) ((zz_ai e17).trans w84))
  replace g3 : ((sy_ai F 39).getD ((sy_i F 33).toInt).toNat 0).toInt ≠ (sy_i F 82).toInt := by omega
  have c8 := nz_bx hB (k := 8) (lo := 0) (hi := 512) rfl
  have c33 := nz_bx hB (k := 33) (lo := 0) (hi := 400) rfl
  have q86 : (sy_ai F 39).getD (sy_i F 33).toNatClampNeg 0 = (sy_ai F 39).getD ((sy_i F 33).toInt).toNat 0 := by simp only [nz_c]
  have n86 : ((sy_ai F 39).getD (sy_i F 33).toNatClampNeg 0).toInt = ((sy_ai F 39).getD ((sy_i F 33).toInt).toNat 0).toInt := congrArg Int32.toInt q86
  have n85 : ((sy_i F 8) + ((1 : Int32))).toInt = ((sy_i F 8).toInt + 1) := nz_add (rfl : (sy_i F 8).toInt = (sy_i F 8).toInt) (by decide : ((1 : Int32)).toInt = 1) (by omega) (by omega)
  have w84 : jm_upd (sy_ai F 17) (sy_i F 8).toNatClampNeg (sy_i F 83) = jm_upd (sy_ai F 17) ((sy_i F 8).toInt).toNat (sy_i F 83) := by simp only [nz_c]
  exact k3pu_88_p5 hd F X1 X2 hB (by first | exact g0 | (simp only [nz_c]; exact g0)) (by first | exact ⟨by omega, by omega⟩ | (simp only [nz_c]; exact ⟨by omega, by omega⟩)) (by first | exact g1 | (simp only [nz_c]; exact g1)) (by first | exact g2 | (simp only [nz_c]; exact g2)) (by first | exact ⟨by omega, by omega⟩ | (simp only [nz_c]; exact ⟨by omega, by omega⟩)) (by first | exact g3 | (simp only [nz_c]; exact g3) | (rw [n86]; exact g3)) (fun F1 g e8 e17 e34 => k5 g0 g1 g2 g3 F1 (nz_in0 hB [8, 17, 34] (fun j hj hn => g j hj (by simp only [List.mem_cons, List.not_mem_nil, or_false, not_or] at hn; omega)) (List.forall_mem_cons.mpr ⟨fun t ht => (Option.some.inj ht) ▸ (nz_hi e8 n85 (by omega) (by omega)), List.forall_mem_cons.mpr ⟨fun t ht => (Option.some.inj ht) ▸ (nz_hA e17 (nz_up (nz_ba hB (k := 17) (lo := (-2147483648)) (hi := 2147483646) rfl) (rfl : (sy_i F 83).toInt = (sy_i F 83).toInt) (by omega) (by omega))), List.forall_mem_cons.mpr ⟨fun t ht => (Option.some.inj ht) ▸ (nz_hz e34), List.forall_mem_nil _⟩⟩⟩)) (fun j hj hn => g j hj (by simp only [List.mem_cons, List.not_mem_nil, or_false, not_or] at hn; omega)) (nz_fi (g 33 (by decide) (by decide))) ((congrArg Int32.toInt (zz_i e34)).trans (by decide : ((1 : Int32)).toInt = 1)) ((congrArg Int32.toInt (zz_i e8)).trans n85) (nz_fa (g 39 (by decide) (by decide))) ((zz_ai e17).trans w84))
theorem k3zp_0 {Ls : Nat} {xs : Nat → Int32} {d : Nat} {Q : Option Value → jm_h → Prop} (hd : 4 ≤ d) (F : Nat → sy_d) (X1 X2 : List jm_c) (hB : iv_in F iv_B0)
    (k0 : ∀ F1 : Nat → sy_d, iv_in F1 iv_B0 → (∀ j, j < 82 → j ∉ ([] : List Nat) → F1 j = F j) → (sy_i F1 33).toInt = (sy_i F 33).toInt → (sy_i F1 34).toInt = (sy_i F 34).toInt → (sy_i F1 8).toInt = (sy_i F 8).toInt → sy_ai F1 39 = sy_ai F 39 → sy_ai F1 17 = sy_ai F 17 → (sy_i F1 82).toInt = (sy_i F 82).toInt → (sy_i F1 83).toInt = (sy_i F 83).toInt → hd_W Ls xs d jm_M39 Q (3, sy_dL F1 [some (.inl (.ref 30)), some (.inr (.inl 82)), some (.inr (.inl 83)), none, none, none], sy_dS F1 [.inr (.inl 83), .inr (.inl 82), .inl (.ref 30)], sy_dh F1 X1 X2 (iv_H 3), 0, 0)) :
    hd_W Ls xs d jm_M39 Q (0, sy_dL F [some (.inl (.ref 30)), some (.inr (.inl 82)), some (.inr (.inl 83)), none, none, none], sy_dS F [], sy_dh F X1 X2 (iv_H 3), 0, 0) := by
  exact k3pp_0_p0 hd F X1 X2 hB  (fun F1 g e82 e83 => k0 F1 (nz_in0 hB [] (fun j hj hn => g j hj (by simp only [List.mem_cons, List.not_mem_nil, or_false, not_or] at hn; exact trivial)) (List.forall_mem_nil _)) (fun j hj hn => g j hj (by simp only [List.mem_cons, List.not_mem_nil, or_false, not_or] at hn; exact trivial)) (nz_fi (g 33 (by decide) (by decide))) (nz_fi (g 34 (by decide) (by decide))) (nz_fi (g 8 (by decide) (by decide))) (nz_fa (g 39 (by decide) (by decide))) (nz_fa (g 17 (by decide) (by decide))) ((congrArg Int32.toInt (zz_i e82)).trans (rfl : (sy_i F 82).toInt = (sy_i F 82).toInt)) ((congrArg Int32.toInt (zz_i e83)).trans (rfl : (sy_i F 83).toInt = (sy_i F 83).toInt)))
theorem k3zp_6 {Ls : Nat} {xs : Nat → Int32} {d : Nat} {Q : Option Value → jm_h → Prop} (hd : 4 ≤ d) (F : Nat → sy_d) (X1 X2 : List jm_c) (hB : iv_in F iv_B0)
    (k0 : 0 ≤ (sy_i F 33).toInt → (sy_i F 33).toInt ≤ 400 → ∀ F1 : Nat → sy_d, iv_in F1 iv_B0 → (∀ j, j < 82 → j ∉ ([] : List Nat) → F1 j = F j) → (sy_i F1 33).toInt = (sy_i F 33).toInt → (sy_i F1 34).toInt = (sy_i F 34).toInt → (sy_i F1 8).toInt = (sy_i F 8).toInt → sy_ai F1 39 = sy_ai F 39 → sy_ai F1 17 = sy_ai F 17 → (sy_i F1 82).toInt = (sy_i F 82).toInt → (sy_i F1 83).toInt = (sy_i F 83).toInt → (sy_i F1 84).toInt = (sy_i F 84).toInt → (sy_i F1 85).toInt = ((sy_ai F 39).getD ((sy_i F 33).toInt).toNat 0).toInt → (sy_i F1 86).toInt = 0 → hd_W Ls xs d jm_M39 Q (23, sy_dL F1 [some (.inl (.ref 30)), some (.inr (.inl 82)), some (.inr (.inl 83)), some (.inr (.inl 84)), some (.inr (.inl 85)), some (.inr (.inl 86))], sy_dS F1 [], sy_dh F1 X1 X2 (iv_H 3), 0, 0)) :
    hd_W Ls xs d jm_M39 Q (6, sy_dL F [some (.inl (.ref 30)), some (.inr (.inl 82)), some (.inr (.inl 83)), none, none, none], sy_dS F [.inr (.inl 84)], sy_dh F X1 X2 (iv_H 3), 0, 0) := by
  by_cases g0 : (sy_i F 33).toInt < 0
  · have c33 := nz_bx hB (k := 33) (lo := 0) (hi := 400) rfl
    exfalso
    omega
  replace g0 : 0 ≤ (sy_i F 33).toInt := by omega
  by_cases g1 : 400 < (sy_i F 33).toInt
  · have c33 := nz_bx hB (k := 33) (lo := 0) (hi := 400) rfl
    exfalso
    omega
  replace g1 : (sy_i F 33).toInt ≤ 400 := by omega
  have c33 := nz_bx hB (k := 33) (lo := 0) (hi := 400) rfl
  have q85 : (sy_ai F 39).getD (sy_i F 33).toNatClampNeg 0 = (sy_ai F 39).getD ((sy_i F 33).toInt).toNat 0 := by simp only [nz_c]
  have n85 : ((sy_ai F 39).getD (sy_i F 33).toNatClampNeg 0).toInt = ((sy_ai F 39).getD ((sy_i F 33).toInt).toNat 0).toInt := congrArg Int32.toInt q85
  exact k3pp_6_p0 hd F X1 X2 hB (by first | exact g0 | (simp only [nz_c]; exact g0)) (by first | exact g1 | (simp only [nz_c]; exact g1)) (by first | exact ⟨by omega, by omega⟩ | (simp only [nz_c]; exact ⟨by omega, by omega⟩)) (fun F1 g e82 e83 e84 e85 e86 => k0 g0 g1 F1 (nz_in0 hB [] (fun j hj hn => g j hj (by simp only [List.mem_cons, List.not_mem_nil, or_false, not_or] at hn; exact trivial)) (List.forall_mem_nil _)) (fun j hj hn => g j hj (by simp only [List.mem_cons, List.not_mem_nil, or_false, not_or] at hn; exact trivial)) (nz_fi (g 33 (by decide) (by decide))) (nz_fi (g 34 (by decide) (by decide))) (nz_fi (g 8 (by decide) (by decide))) (nz_fa (g 39 (by decide) (by decide))) (nz_fa (g 17 (by decide) (by decide))) ((congrArg Int32.toInt (zz_i e82)).trans (rfl : (sy_i F 82).toInt = (sy_i F 82).toInt)) ((congrArg Int32.toInt (zz_i e83)).trans (rfl : (sy_i F 83).toInt = (sy_i F 83).toInt)) ((congrArg Int32.toInt (zz_i e84)).trans (rfl : (sy_i F 84).toInt = (sy_i F 84).toInt)) ((congrArg Int32.toInt (zz_i e85)).trans n85) ((congrArg Int32.toInt (zz_i e86)).trans (by decide : ((0 : Int32)).toInt = 0)))
theorem k3zp_23 {Ls : Nat} {xs : Nat → Int32} {d : Nat} {Q : Option Value → jm_h → Prop} (hd : 4 ≤ d) (F : Nat → sy_d) (X1 X2 : List jm_c) (hB : iv_in F iv_B0)
    (a86 : 0 ≤ (sy_i F 86).toInt ∧ (sy_i F 86).toInt ≤ 401)
    (o0 : 400 < (sy_i F 86).toInt → ((sy_i F 84).toInt = 0 ∨ (sy_i F 84).toInt = 1))
    (o1 : (sy_i F 86).toInt ≤ 400 → (sy_i F 84).toInt ≠ 0 → (sy_i F 85).toInt ≠ 42 → (sy_i F 85).toInt ≠ 47 → ((sy_i F 84).toInt = 0 ∨ (sy_i F 84).toInt = 1))
    (k0 : 400 < (sy_i F 86).toInt → ∀ F1 : Nat → sy_d, iv_in F1 iv_B0 → (∀ j, j < 82 → j ∉ ([] : List Nat) → F1 j = F j) → (sy_i F1 33).toInt = (sy_i F 33).toInt → (sy_i F1 34).toInt = (sy_i F 34).toInt → (sy_i F1 8).toInt = (sy_i F 8).toInt → sy_ai F1 39 = sy_ai F 39 → sy_ai F1 17 = sy_ai F 17 → Q (some (.int (sy_i F 84))) (sy_dh F1 X1 X2 (iv_H 3)))
    (k1 : (sy_i F 86).toInt ≤ 400 → (sy_i F 84).toInt = 0 → ∀ F1 : Nat → sy_d, iv_in F1 iv_B0 → (∀ j, j < 82 → j ∉ ([] : List Nat) → F1 j = F j) → (sy_i F1 33).toInt = (sy_i F 33).toInt → (sy_i F1 34).toInt = (sy_i F 34).toInt → (sy_i F1 8).toInt = (sy_i F 8).toInt → sy_ai F1 39 = sy_ai F 39 → sy_ai F1 17 = sy_ai F 17 → Q (some (.int (sy_i F 84))) (sy_dh F1 X1 X2 (iv_H 3)))
    (k2 : (sy_i F 86).toInt ≤ 400 → (sy_i F 84).toInt ≠ 0 → (sy_i F 85).toInt = 42 → 0 ≤ (sy_i F 33).toInt → (sy_i F 33).toInt ≤ 400 → ((sy_ai F 39).getD ((sy_i F 33).toInt).toNat 0).toInt = (sy_i F 85).toInt → (sy_i F 33).toInt < 400 → ∀ F1 : Nat → sy_d, iv_in F1 iv_B0 → (∀ j, j < 82 → j ∉ ([33] : List Nat) → F1 j = F j) → (sy_i F1 33).toInt = ((sy_i F 33).toInt + 1) → (sy_i F1 34).toInt = (sy_i F 34).toInt → (sy_i F1 8).toInt = (sy_i F 8).toInt → sy_ai F1 39 = sy_ai F 39 → sy_ai F1 17 = sy_ai F 17 → (sy_i F1 82).toInt = (sy_i F 82).toInt → (sy_i F1 83).toInt = (sy_i F 83).toInt → (sy_i F1 84).toInt = (sy_i F 85).toInt → (sy_i F1 85).toInt = (sy_i F 86).toInt → hd_W Ls xs d jm_M39 Q (61, sy_dL F1 [some (.inl (.ref 30)), some (.inr (.inl 82)), some (.inr (.inl 83)), none, some (.inr (.inl 84)), some (.inr (.inl 85))], sy_dS F1 [.inr (.inl 83), .inr (.inl 82), .inl (.ref 30)], sy_dh F1 X1 X2 (iv_H 3), 0, 0))
    (k3 : (sy_i F 86).toInt ≤ 400 → (sy_i F 84).toInt ≠ 0 → (sy_i F 85).toInt = 42 → 0 ≤ (sy_i F 33).toInt → (sy_i F 33).toInt ≤ 400 → ((sy_ai F 39).getD ((sy_i F 33).toInt).toNat 0).toInt = (sy_i F 85).toInt → 400 ≤ (sy_i F 33).toInt → (sy_i F 85).toInt = 42 → 512 ≤ (sy_i F 8).toInt → 0 ≤ (sy_i F 33).toInt → (sy_i F 33).toInt ≤ 400 → ∀ F1 : Nat → sy_d, iv_in F1 iv_B0 → (∀ j, j < 82 → j ∉ ([34] : List Nat) → F1 j = F j) → (sy_i F1 33).toInt = (sy_i F 33).toInt → (sy_i F1 34).toInt = 2 → (sy_i F1 8).toInt = (sy_i F 8).toInt → sy_ai F1 39 = sy_ai F 39 → sy_ai F1 17 = sy_ai F 17 → (sy_i F1 82).toInt = (sy_i F 82).toInt → (sy_i F1 83).toInt = (sy_i F 83).toInt → (sy_i F1 84).toInt = 0 → (sy_i F1 85).toInt = ((sy_ai F 39).getD ((sy_i F 33).toInt).toNat 0).toInt → (sy_i F1 86).toInt = ((sy_i F 86).toInt + 1) → hd_W Ls xs d jm_M39 Q (23, sy_dL F1 [some (.inl (.ref 30)), some (.inr (.inl 82)), some (.inr (.inl 83)), some (.inr (.inl 84)), some (.inr (.inl 85)), some (.inr (.inl 86))], sy_dS F1 [], sy_dh F1 X1 X2 (iv_H 3), 0, 0))
    (k4 : (sy_i F 86).toInt ≤ 400 → (sy_i F 84).toInt ≠ 0 → (sy_i F 85).toInt = 42 → 0 ≤ (sy_i F 33).toInt → (sy_i F 33).toInt ≤ 400 → ((sy_ai F 39).getD ((sy_i F 33).toInt).toNat 0).toInt = (sy_i F 85).toInt → 400 ≤ (sy_i F 33).toInt → (sy_i F 85).toInt = 42 → (sy_i F 8).toInt < 512 → 0 ≤ (sy_i F 33).toInt → (sy_i F 33).toInt ≤ 400 → ∀ F1 : Nat → sy_d, iv_in F1 iv_B0 → (∀ j, j < 82 → j ∉ ([8, 17, 34] : List Nat) → F1 j = F j) → (sy_i F1 33).toInt = (sy_i F 33).toInt → (sy_i F1 34).toInt = 2 → (sy_i F1 8).toInt = ((sy_i F 8).toInt + 1) → sy_ai F1 39 = sy_ai F 39 → sy_ai F1 17 = jm_upd (sy_ai F 17) ((sy_i F 8).toInt).toNat (((-12) : Int32)) → (sy_i F1 82).toInt = (sy_i F 82).toInt → (sy_i F1 83).toInt = (sy_i F 83).toInt → (sy_i F1 84).toInt = 0 → (sy_i F1 85).toInt = ((sy_ai F 39).getD ((sy_i F 33).toInt).toNat 0).toInt → (sy_i F1 86).toInt = ((sy_i F 86).toInt + 1) → hd_W Ls xs d jm_M39 Q (23, sy_dL F1 [some (.inl (.ref 30)), some (.inr (.inl 82)), some (.inr (.inl 83)), some (.inr (.inl 84)), some (.inr (.inl 85)), some (.inr (.inl 86))], sy_dS F1 [], sy_dh F1 X1 X2 (iv_H 3), 0, 0))
    (k5 : (sy_i F 86).toInt ≤ 400 → (sy_i F 84).toInt ≠ 0 → (sy_i F 85).toInt = 42 → 0 ≤ (sy_i F 33).toInt → (sy_i F 33).toInt ≤ 400 → ((sy_ai F 39).getD ((sy_i F 33).toInt).toNat 0).toInt ≠ (sy_i F 85).toInt → (sy_i F 85).toInt = 42 → 512 ≤ (sy_i F 8).toInt → 0 ≤ (sy_i F 33).toInt → (sy_i F 33).toInt ≤ 400 → ∀ F1 : Nat → sy_d, iv_in F1 iv_B0 → (∀ j, j < 82 → j ∉ ([34] : List Nat) → F1 j = F j) → (sy_i F1 33).toInt = (sy_i F 33).toInt → (sy_i F1 34).toInt = 1 → (sy_i F1 8).toInt = (sy_i F 8).toInt → sy_ai F1 39 = sy_ai F 39 → sy_ai F1 17 = sy_ai F 17 → (sy_i F1 82).toInt = (sy_i F 82).toInt → (sy_i F1 83).toInt = (sy_i F 83).toInt → (sy_i F1 84).toInt = 0 → (sy_i F1 85).toInt = ((sy_ai F 39).getD ((sy_i F 33).toInt).toNat 0).toInt → (sy_i F1 86).toInt = ((sy_i F 86).toInt + 1) → hd_W Ls xs d jm_M39 Q (23, sy_dL F1 [some (.inl (.ref 30)), some (.inr (.inl 82)), some (.inr (.inl 83)), some (.inr (.inl 84)), some (.inr (.inl 85)), some (.inr (.inl 86))], sy_dS F1 [], sy_dh F1 X1 X2 (iv_H 3), 0, 0))
    (k6 : (sy_i F 86).toInt ≤ 400 → (sy_i F 84).toInt ≠ 0 → (sy_i F 85).toInt = 42 → 0 ≤ (sy_i F 33).toInt → (sy_i F 33).toInt ≤ 400 → ((sy_ai F 39).getD ((sy_i F 33).toInt).toNat 0).toInt ≠ (sy_i F 85).toInt → (sy_i F 85).toInt = 42 → (sy_i F 8).toInt < 512 → 0 ≤ (sy_i F 33).toInt → (sy_i F 33).toInt ≤ 400 → ∀ F1 : Nat → sy_d, iv_in F1 iv_B0 → (∀ j, j < 82 → j ∉ ([8, 17, 34] : List Nat) → F1 j = F j) → (sy_i F1 33).toInt = (sy_i F 33).toInt → (sy_i F1 34).toInt = 1 → (sy_i F1 8).toInt = ((sy_i F 8).toInt + 1) → sy_ai F1 39 = sy_ai F 39 → sy_ai F1 17 = jm_upd (sy_ai F 17) ((sy_i F 8).toInt).toNat (((-12) : Int32)) → (sy_i F1 82).toInt = (sy_i F 82).toInt → (sy_i F1 83).toInt = (sy_i F 83).toInt → (sy_i F1 84).toInt = 0 → (sy_i F1 85).toInt = ((sy_ai F 39).getD ((sy_i F 33).toInt).toNat 0).toInt → (sy_i F1 86).toInt = ((sy_i F 86).toInt + 1) → hd_W Ls xs d jm_M39 Q (23, sy_dL F1 [some (.inl (.ref 30)), some (.inr (.inl 82)), some (.inr (.inl 83)), some (.inr (.inl 84)), some (.inr (.inl 85)), some (.inr (.inl 86))], sy_dS F1 [], sy_dh F1 X1 X2 (iv_H 3), 0, 0))
    (k7 : (sy_i F 86).toInt ≤ 400 → (sy_i F 84).toInt ≠ 0 → (sy_i F 85).toInt ≠ 42 → (sy_i F 85).toInt ≠ 47 → ∀ F1 : Nat → sy_d, iv_in F1 iv_B0 → (∀ j, j < 82 → j ∉ ([] : List Nat) → F1 j = F j) → (sy_i F1 33).toInt = (sy_i F 33).toInt → (sy_i F1 34).toInt = (sy_i F 34).toInt → (sy_i F1 8).toInt = (sy_i F 8).toInt → sy_ai F1 39 = sy_ai F 39 → sy_ai F1 17 = sy_ai F 17 → Q (some (.int (sy_i F 84))) (sy_dh F1 X1 X2 (iv_H 3)))
    (k8 : (sy_i F 86).toInt ≤ 400 → (sy_i F 84).toInt ≠ 0 → (sy_i F 85).toInt ≠ 42 → (sy_i F 85).toInt = 47 → 0 ≤ (sy_i F 33).toInt → (sy_i F 33).toInt ≤ 400 → ((sy_ai F 39).getD ((sy_i F 33).toInt).toNat 0).toInt = (sy_i F 85).toInt → (sy_i F 33).toInt < 400 → ∀ F1 : Nat → sy_d, iv_in F1 iv_B0 → (∀ j, j < 82 → j ∉ ([33] : List Nat) → F1 j = F j) → (sy_i F1 33).toInt = ((sy_i F 33).toInt + 1) → (sy_i F1 34).toInt = (sy_i F 34).toInt → (sy_i F1 8).toInt = (sy_i F 8).toInt → sy_ai F1 39 = sy_ai F 39 → sy_ai F1 17 = sy_ai F 17 → (sy_i F1 82).toInt = (sy_i F 82).toInt → (sy_i F1 83).toInt = (sy_i F 83).toInt → (sy_i F1 84).toInt = (sy_i F 85).toInt → (sy_i F1 85).toInt = (sy_i F 86).toInt → hd_W Ls xs d jm_M39 Q (61, sy_dL F1 [some (.inl (.ref 30)), some (.inr (.inl 82)), some (.inr (.inl 83)), none, some (.inr (.inl 84)), some (.inr (.inl 85))], sy_dS F1 [.inr (.inl 83), .inr (.inl 82), .inl (.ref 30)], sy_dh F1 X1 X2 (iv_H 3), 0, 0))
    (k9 : (sy_i F 86).toInt ≤ 400 → (sy_i F 84).toInt ≠ 0 → (sy_i F 85).toInt ≠ 42 → (sy_i F 85).toInt = 47 → 0 ≤ (sy_i F 33).toInt → (sy_i F 33).toInt ≤ 400 → ((sy_ai F 39).getD ((sy_i F 33).toInt).toNat 0).toInt = (sy_i F 85).toInt → 400 ≤ (sy_i F 33).toInt → (sy_i F 85).toInt ≠ 42 → 512 ≤ (sy_i F 8).toInt → 0 ≤ (sy_i F 33).toInt → (sy_i F 33).toInt ≤ 400 → ∀ F1 : Nat → sy_d, iv_in F1 iv_B0 → (∀ j, j < 82 → j ∉ ([34] : List Nat) → F1 j = F j) → (sy_i F1 33).toInt = (sy_i F 33).toInt → (sy_i F1 34).toInt = 2 → (sy_i F1 8).toInt = (sy_i F 8).toInt → sy_ai F1 39 = sy_ai F 39 → sy_ai F1 17 = sy_ai F 17 → (sy_i F1 82).toInt = (sy_i F 82).toInt → (sy_i F1 83).toInt = (sy_i F 83).toInt → (sy_i F1 84).toInt = 0 → (sy_i F1 85).toInt = ((sy_ai F 39).getD ((sy_i F 33).toInt).toNat 0).toInt → (sy_i F1 86).toInt = ((sy_i F 86).toInt + 1) → hd_W Ls xs d jm_M39 Q (23, sy_dL F1 [some (.inl (.ref 30)), some (.inr (.inl 82)), some (.inr (.inl 83)), some (.inr (.inl 84)), some (.inr (.inl 85)), some (.inr (.inl 86))], sy_dS F1 [], sy_dh F1 X1 X2 (iv_H 3), 0, 0))
    (k10 : (sy_i F 86).toInt ≤ 400 → (sy_i F 84).toInt ≠ 0 → (sy_i F 85).toInt ≠ 42 → (sy_i F 85).toInt = 47 → 0 ≤ (sy_i F 33).toInt → (sy_i F 33).toInt ≤ 400 → ((sy_ai F 39).getD ((sy_i F 33).toInt).toNat 0).toInt = (sy_i F 85).toInt → 400 ≤ (sy_i F 33).toInt → (sy_i F 85).toInt ≠ 42 → (sy_i F 8).toInt < 512 → 0 ≤ (sy_i F 33).toInt → (sy_i F 33).toInt ≤ 400 → ∀ F1 : Nat → sy_d, iv_in F1 iv_B0 → (∀ j, j < 82 → j ∉ ([8, 17, 34] : List Nat) → F1 j = F j) → (sy_i F1 33).toInt = (sy_i F 33).toInt → (sy_i F1 34).toInt = 2 → (sy_i F1 8).toInt = ((sy_i F 8).toInt + 1) → sy_ai F1 39 = sy_ai F 39 → sy_ai F1 17 = jm_upd (sy_ai F 17) ((sy_i F 8).toInt).toNat (((-13) : Int32)) → (sy_i F1 82).toInt = (sy_i F 82).toInt → (sy_i F1 83).toInt = (sy_i F 83).toInt → (sy_i F1 84).toInt = 0 → (sy_i F1 85).toInt = ((sy_ai F 39).getD ((sy_i F 33).toInt).toNat 0).toInt → (sy_i F1 86).toInt = ((sy_i F 86).toInt + 1) → hd_W Ls xs d jm_M39 Q (23, sy_dL F1 [some (.inl (.ref 30)), some (.inr (.inl 82)), some (.inr (.inl 83)), some (.inr (.inl 84)), some (.inr (.inl 85)), some (.inr (.inl 86))], sy_dS F1 [], sy_dh F1 X1 X2 (iv_H 3), 0, 0))
    (k11 : (sy_i F 86).toInt ≤ 400 → (sy_i F 84).toInt ≠ 0 → (sy_i F 85).toInt ≠ 42 → (sy_i F 85).toInt = 47 → 0 ≤ (sy_i F 33).toInt → (sy_i F 33).toInt ≤ 400 → ((sy_ai F 39).getD ((sy_i F 33).toInt).toNat 0).toInt ≠ (sy_i F 85).toInt → (sy_i F 85).toInt ≠ 42 → 512 ≤ (sy_i F 8).toInt → 0 ≤ (sy_i F 33).toInt → (sy_i F 33).toInt ≤ 400 → ∀ F1 : Nat → sy_d, iv_in F1 iv_B0 → (∀ j, j < 82 → j ∉ ([34] : List Nat) → F1 j = F j) → (sy_i F1 33).toInt = (sy_i F 33).toInt → (sy_i F1 34).toInt = 1 → (sy_i F1 8).toInt = (sy_i F 8).toInt → sy_ai F1 39 = sy_ai F 39 → sy_ai F1 17 = sy_ai F 17 → (sy_i F1 82).toInt = (sy_i F 82).toInt → (sy_i F1 83).toInt = (sy_i F 83).toInt → (sy_i F1 84).toInt = 0 → (sy_i F1 85).toInt = ((sy_ai F 39).getD ((sy_i F 33).toInt).toNat 0).toInt → (sy_i F1 86).toInt = ((sy_i F 86).toInt + 1) → hd_W Ls xs d jm_M39 Q (23, sy_dL F1 [some (.inl (.ref 30)), some (.inr (.inl 82)), some (.inr (.inl 83)), some (.inr (.inl 84)), some (.inr (.inl 85)), some (.inr (.inl 86))], sy_dS F1 [], sy_dh F1 X1 X2 (iv_H 3), 0, 0))
    (k12 : (sy_i F 86).toInt ≤ 400 → (sy_i F 84).toInt ≠ 0 → (sy_i F 85).toInt ≠ 42 → (sy_i F 85).toInt = 47 → 0 ≤ (sy_i F 33).toInt → (sy_i F 33).toInt ≤ 400 → ((sy_ai F 39).getD ((sy_i F 33).toInt).toNat 0).toInt ≠ (sy_i F 85).toInt → (sy_i F 85).toInt ≠ 42 → (sy_i F 8).toInt < 512 → 0 ≤ (sy_i F 33).toInt → (sy_i F 33).toInt ≤ 400 → ∀ F1 : Nat → sy_d, iv_in F1 iv_B0 → (∀ j, j < 82 → j ∉ ([8, 17, 34] : List Nat) → F1 j = F j) → (sy_i F1 33).toInt = (sy_i F 33).toInt → (sy_i F1 34).toInt = 1 → (sy_i F1 8).toInt = ((sy_i F 8).toInt + 1) → sy_ai F1 39 = sy_ai F 39 → sy_ai F1 17 = jm_upd (sy_ai F 17) ((sy_i F 8).toInt).toNat (((-13) : Int32)) → (sy_i F1 82).toInt = (sy_i F 82).toInt → (sy_i F1 83).toInt = (sy_i F 83).toInt → (sy_i F1 84).toInt = 0 → (sy_i F1 85).toInt = ((sy_ai F 39).getD ((sy_i F 33).toInt).toNat 0).toInt → (sy_i F1 86).toInt = ((sy_i F 86).toInt + 1) → hd_W Ls xs d jm_M39 Q (23, sy_dL F1 [some (.inl (.ref 30)), some (.inr (.inl 82)), some (.inr (.inl 83)), some (.inr (.inl 84)), some (.inr (.inl 85)), some (.inr (.inl 86))], sy_dS F1 [], sy_dh F1 X1 X2 (iv_H 3), 0, 0)) :
    hd_W Ls xs d jm_M39 Q (23, sy_dL F [some (.inl (.ref 30)), some (.inr (.inl 82)), some (.inr (.inl 83)), some (.inr (.inl 84)), some (.inr (.inl 85)), some (.inr (.inl 86))], sy_dS F [], sy_dh F X1 X2 (iv_H 3), 0, 0) := by
  by_cases g0 : 400 < (sy_i F 86).toInt
  · exact k3pp_23_p0 hd F X1 X2 hB (by first | exact g0 | (simp only [nz_c]; exact g0)) (by first | exact (o0 g0) | (simp only [nz_c]; exact (o0 g0))) (fun F1 g  => by rw [(rfl : sy_i F 84 = sy_i F 84)]; exact k0 g0 F1 (nz_in0 hB [] (fun j hj hn => g j hj (by simp only [List.mem_cons, List.not_mem_nil, or_false, not_or] at hn; exact trivial)) (List.forall_mem_nil _)) (fun j hj hn => g j hj (by simp only [List.mem_cons, List.not_mem_nil, or_false, not_or] at hn; exact trivial)) (nz_fi (g 33 (by decide) (by decide))) (nz_fi (g 34 (by decide) (by decide))) (nz_fi (g 8 (by decide) (by decide))) (nz_fa (g 39 (by decide) (by decide))) (nz_fa (g 17 (by decide) (by decide))))
  replace g0 : (sy_i F 86).toInt ≤ 400 := by omega
  by_cases g1 : (sy_i F 84).toInt = 0
  · exact k3pp_23_p1 hd F X1 X2 hB (by first | exact g0 | (simp only [nz_c]; exact g0)) (by first | exact g1 | (simp only [nz_c]; exact g1)) (by first | exact (by omega) | (simp only [nz_c]; exact (by omega))) (fun F1 g  => by rw [(rfl : sy_i F 84 = sy_i F 84)]; exact k1 g0 g1 F1 (nz_in0 hB [] (fun j hj hn => g j hj (by simp only [List.mem_cons, List.not_mem_nil, or_false, not_or] at hn; exact trivial)) (List.forall_mem_nil _)) (fun j hj hn => g j hj (by simp only [List.mem_cons, List.not_mem_nil, or_false, not_or] at hn; exact trivial)) (nz_fi (g 33 (by decide) (by decide))) (nz_fi (g 34 (by decide) (by decide))) (nz_fi (g 8 (by decide) (by decide))) (nz_fa (g 39 (by decide) (by decide))) (nz_fa (g 17 (by decide) (by decide))))
  replace g1 : (sy_i F 84).toInt ≠ 0 := by omega
  by_cases g2 : (sy_i F 85).toInt = 42
  · by_cases g3 : (sy_i F 33).toInt < 0
    · have c33 := nz_bx hB (k := 33) (lo := 0) (hi := 400) rfl
      exfalso
      omega
    replace g3 : 0 ≤ (sy_i F 33).toInt := by omega
    by_cases g4 : 400 < (sy_i F 33).toInt
    · have c33 := nz_bx hB (k := 33) (lo := 0) (hi := 400) rfl
      exfalso
      omega
    replace g4 : (sy_i F 33).toInt ≤ 400 := by omega
    by_cases g5 : ((sy_ai F 39).getD ((sy_i F 33).toInt).toNat 0).toInt = (sy_i F 85).toInt
    · by_cases g6 : (sy_i F 33).toInt < 400
      · have c33 := nz_bx hB (k := 33) (lo := 0) (hi := 400) rfl
        have q87 : (sy_ai F 39).getD (sy_i F 33).toNatClampNeg 0 = (sy_ai F 39).getD ((sy_i F 33).toInt).toNat 0 := by simp only [nz_c]
        have n87 : ((sy_ai F 39).getD (sy_i F 33).toNatClampNeg 0).toInt = ((sy_ai F 39).getD ((sy_i F 33).toInt).toNat 0).toInt := congrArg Int32.toInt q87
        have n88 : ((sy_i F 33) + ((1 : Int32))).toInt = ((sy_i F 33).toInt + 1) := nz_add (rfl : (sy_i F 33).toInt = (sy_i F 33).toInt) (by decide : ((1 : Int32)).toInt = 1) (by omega) (by omega)
        exact k3pp_23_p2 hd F X1 X2 hB (by first | exact g0 | (simp only [nz_c]; exact g0)) (by first | exact g1 | (simp only [nz_c]; exact g1)) (by first | exact g2 | (simp only [nz_c]; exact g2)) (by first | exact g3 | (simp only [nz_c]; exact g3)) (by first | exact g4 | (simp only [nz_c]; exact g4)) (by first | exact ⟨by omega, by omega⟩ | (simp only [nz_c]; exact ⟨by omega, by omega⟩)) (by first | exact g5 | (simp only [nz_c]; exact g5) | (rw [n87]; exact g5)) (by first | exact g6 | (simp only [nz_c]; exact g6)) (fun F1 g e33 e82 e83 e84 e85 => k2 g0 g1 g2 g3 g4 g5 g6 F1 (nz_in0 hB [33] (fun j hj hn => g j hj (by simp only [List.mem_cons, List.not_mem_nil, or_false, not_or] at hn; omega)) (List.forall_mem_cons.mpr ⟨fun t ht => (Option.some.inj ht) ▸ (nz_hi e33 n88 (by omega) (by omega)), List.forall_mem_nil _⟩)) (fun j hj hn => g j hj (by simp only [List.mem_cons, List.not_mem_nil, or_false, not_or] at hn; omega)) ((congrArg Int32.toInt (zz_i e33)).trans n88) (nz_fi (g 34 (by decide) (by decide))) (nz_fi (g 8 (by decide) (by decide))) (nz_fa (g 39 (by decide) (by decide))) (nz_fa (g 17 (by decide) (by decide))) ((congrArg Int32.toInt (zz_i e82)).trans (rfl : (sy_i F 82).toInt = (sy_i F 82).toInt)) ((congrArg Int32.toInt (zz_i e83)).trans (rfl : (sy_i F 83).toInt = (sy_i F 83).toInt)) ((congrArg Int32.toInt (zz_i e84)).trans (rfl : (sy_i F 85).toInt = (sy_i F 85).toInt)) ((congrArg Int32.toInt (zz_i e85)).trans (rfl : (sy_i F 86).toInt = (sy_i F 86).toInt)))
      replace g6 : 400 ≤ (sy_i F 33).toInt := by omega
      by_cases g7 : (sy_i F 85).toInt ≠ 42
      · have c33 := nz_bx hB (k := 33) (lo := 0) (hi := 400) rfl
        have q87 : (sy_ai F 39).getD (sy_i F 33).toNatClampNeg 0 = (sy_ai F 39).getD ((sy_i F 33).toInt).toNat 0 := by simp only [nz_c]
        have n87 : ((sy_ai F 39).getD (sy_i F 33).toNatClampNeg 0).toInt = ((sy_ai F 39).getD ((sy_i F 33).toInt).toNat 0).toInt := congrArg Int32.toInt q87
        exfalso
        omega
      replace g7 : (sy_i F 85).toInt = 42 := by omega
      by_cases g8 : 512 ≤ (sy_i F 8).toInt
      · by_cases g9 : (sy_i F 33).toInt < 0
        · have c33 := nz_bx hB (k := 33) (lo := 0) (hi := 400) rfl
          have q87 : (sy_ai F 39).getD (sy_i F 33).toNatClampNeg 0 = (sy_ai F 39).getD ((sy_i F 33).toInt).toNat 0 := by simp only [nz_c]
          have n87 : ((sy_ai F 39).getD (sy_i F 33).toNatClampNeg 0).toInt = ((sy_ai F 39).getD ((sy_i F 33).toInt).toNat 0).toInt := congrArg Int32.toInt q87
          have c8 := nz_bx hB (k := 8) (lo := 0) (hi := 512) rfl
          exfalso
          omega
        replace g9 : 0 ≤ (sy_i F 33).toInt := by omega
        by_cases g10 : 400 < (sy_i F 33).toInt
        · have c33 := nz_bx hB (k := 33) (lo := 0) (hi := 400) rfl
          have q87 : (sy_ai F 39).getD (sy_i F 33).toNatClampNeg 0 = (sy_ai F 39).getD ((sy_i F 33).toInt).toNat 0 := by simp only [nz_c]
          have n87 : ((sy_ai F 39).getD (sy_i F 33).toNatClampNeg 0).toInt = ((sy_ai F 39).getD ((sy_i F 33).toInt).toNat 0).toInt := congrArg Int32.toInt q87
          have c8 := nz_bx hB (k := 8) (lo := 0) (hi := 512) rfl
          exfalso
          omega
        replace g10 : (sy_i F 33).toInt ≤ 400 := by omega
        have c33 := nz_bx hB (k := 33) (lo := 0) (hi := 400) rfl
        have q87 : (sy_ai F 39).getD (sy_i F 33).toNatClampNeg 0 = (sy_ai F 39).getD ((sy_i F 33).toInt).toNat 0 := by simp only [nz_c]
        have n87 : ((sy_ai F 39).getD (sy_i F 33).toNatClampNeg 0).toInt = ((sy_ai F 39).getD ((sy_i F 33).toInt).toNat 0).toInt := congrArg Int32.toInt q87
        have c8 := nz_bx hB (k := 8) (lo := 0) (hi := 512) rfl
        have q88 : (sy_ai F 39).getD (sy_i F 33).toNatClampNeg 0 = (sy_ai F 39).getD ((sy_i F 33).toInt).toNat 0 := by simp only [nz_c]
        have n88 : ((sy_ai F 39).getD (sy_i F 33).toNatClampNeg 0).toInt = ((sy_ai F 39).getD ((sy_i F 33).toInt).toNat 0).toInt := congrArg Int32.toInt q88
        have n89 : ((sy_i F 86) + ((1 : Int32))).toInt = ((sy_i F 86).toInt + 1) := nz_add (rfl : (sy_i F 86).toInt = (sy_i F 86).toInt) (by decide : ((1 : Int32)).toInt = 1) (by omega) (by omega)
        exact k3pp_23_p3 hd F X1 X2 hB (by first | exact g0 | (simp only [nz_c]; exact g0)) (by first | exact g1 | (simp only [nz_c]; exact g1)) (by first | exact g2 | (simp only [nz_c]; exact g2)) (by first | exact g3 | (simp only [nz_c]; exact g3)) (by first | exact g4 | (simp only [nz_c]; exact g4)) (by first | exact ⟨by omega, by omega⟩ | (simp only [nz_c]; exact ⟨by omega, by omega⟩)) (by first | exact g5 | (simp only [nz_c]; exact g5) | (rw [n87]; exact g5)) (by first | exact g6 | (simp only [nz_c]; exact g6)) (by first | exact g7 | (simp only [nz_c]; exact g7)) (by first | exact g8 | (simp only [nz_c]; exact g8)) (by first | exact g9 | (simp only [nz_c]; exact g9)) (by first | exact g10 | (simp only [nz_c]; exact g10)) (by first | exact ⟨by omega, by omega⟩ | (simp only [nz_c]; exact ⟨by omega, by omega⟩)) (fun F1 g e34 e82 e83 e84 e85 e86 => k3 g0 g1 g2 g3 g4 g5 g6 g7 g8 g9 g10 F1 (nz_in0 hB [34] (fun j hj hn => g j hj (by simp only [List.mem_cons, List.not_mem_nil, or_false, not_or] at hn; omega)) (List.forall_mem_cons.mpr ⟨fun t ht => (Option.some.inj ht) ▸ (nz_hz e34), List.forall_mem_nil _⟩)) (fun j hj hn => g j hj (by simp only [List.mem_cons, List.not_mem_nil, or_false, not_or] at hn; omega)) (nz_fi (g 33 (by decide) (by decide))) ((congrArg Int32.toInt (zz_i e34)).trans (by decide : ((2 : Int32)).toInt = 2)) (nz_fi (g 8 (by decide) (by decide))) (nz_fa (g 39 (by decide) (by decide))) (nz_fa (g 17 (by decide) (by decide))) ((congrArg Int32.toInt (zz_i e82)).trans (rfl : (sy_i F 82).toInt = (sy_i F 82).toInt)) ((congrArg Int32.toInt (zz_i e83)).trans (rfl : (sy_i F 83).toInt = (sy_i F 83).toInt)) ((congrArg Int32.toInt (zz_i e84)).trans (by decide : ((0 : Int32)).toInt = 0)) ((congrArg Int32.toInt (zz_i e85)).trans n88) ((congrArg Int32.toInt (zz_i e86)).trans n89))
      replace g8 : (sy_i F 8).toInt < 512 := by omega
      by_cases g9 : (sy_i F 33).toInt < 0
      · have c33 := nz_bx hB (k := 33) (lo := 0) (hi := 400) rfl
        have q87 : (sy_ai F 39).getD (sy_i F 33).toNatClampNeg 0 = (sy_ai F 39).getD ((sy_i F 33).toInt).toNat 0 := by simp only [nz_c]
        have n87 : ((sy_ai F 39).getD (sy_i F 33).toNatClampNeg 0).toInt = ((sy_ai F 39).getD ((sy_i F 33).toInt).toNat 0).toInt := congrArg Int32.toInt q87
        have c8 := nz_bx hB (k := 8) (lo := 0) (hi := 512) rfl
        exfalso
        omega
      replace g9 : 0 ≤ (sy_i F 33).toInt := by omega
      by_cases g10 : 400 < (sy_i F 33).toInt
      · have c33 := nz_bx hB (k := 33) (lo := 0) (hi := 400) rfl
        have q87 : (sy_ai F 39).getD (sy_i F 33).toNatClampNeg 0 = (sy_ai F 39).getD ((sy_i F 33).toInt).toNat 0 := by simp only [nz_c]
        have n87 : ((sy_ai F 39).getD (sy_i F 33).toNatClampNeg 0).toInt = ((sy_ai F 39).getD ((sy_i F 33).toInt).toNat 0).toInt := congrArg Int32.toInt q87
        have c8 := nz_bx hB (k := 8) (lo := 0) (hi := 512) rfl
        exfalso
        omega
      replace g10 : (sy_i F 33).toInt ≤ 400 := by omega
      have c33 := nz_bx hB (k := 33) (lo := 0) (hi := 400) rfl
      have q87 : (sy_ai F 39).getD (sy_i F 33).toNatClampNeg 0 = (sy_ai F 39).getD ((sy_i F 33).toInt).toNat 0 := by simp only [nz_c]
      have n87 : ((sy_ai F 39).getD (sy_i F 33).toNatClampNeg 0).toInt = ((sy_ai F 39).getD ((sy_i F 33).toInt).toNat 0).toInt := congrArg Int32.toInt q87
      have c8 := nz_bx hB (k := 8) (lo := 0) (hi := 512) rfl
      have n89 : ((sy_i F 8) + ((1 : Int32))).toInt = ((sy_i F 8).toInt + 1) := nz_add (rfl : (sy_i F 8).toInt = (sy_i F 8).toInt) (by decide : ((1 : Int32)).toInt = 1) (by omega) (by omega)
      have w88 : jm_upd (sy_ai F 17) (sy_i F 8).toNatClampNeg (((-12) : Int32)) = jm_upd (sy_ai F 17) ((sy_i F 8).toInt).toNat (((-12) : Int32)) := by simp only [nz_c, (by decide : (((-12) : Int32)).toInt = (-12 : Int))]
      have q90 : (sy_ai F 39).getD (sy_i F 33).toNatClampNeg 0 = (sy_ai F 39).getD ((sy_i F 33).toInt).toNat 0 := by simp only [nz_c]
      have n90 : ((sy_ai F 39).getD (sy_i F 33).toNatClampNeg 0).toInt = ((sy_ai F 39).getD ((sy_i F 33).toInt).toNat 0).toInt := congrArg Int32.toInt q90
      have n91 : ((sy_i F 86) + ((1 : Int32))).toInt = ((sy_i F 86).toInt + 1) := nz_add (rfl : (sy_i F 86).toInt = (sy_i F 86).toInt) (by decide : ((1 : Int32)).toInt = 1) (by omega) (by omega)
      exact k3pp_23_p4 hd F X1 X2 hB (by first | exact g0 | (simp only [nz_c]; exact g0)) (by first | exact g1 | (simp only [nz_c]; exact g1)) (by first | exact g2 | (simp only [nz_c]; exact g2)) (by first | exact g3 | (simp only [nz_c]; exact g3)) (by first | exact g4 | (simp only [nz_c]; exact g4)) (by first | exact ⟨by omega, by omega⟩ | (simp only [nz_c]; exact ⟨by omega, by omega⟩)) (by first | exact g5 | (simp only [nz_c]; exact g5) | (rw [n87]; exact g5)) (by first | exact g6 | (simp only [nz_c]; exact g6)) (by first | exact g7 | (simp only [nz_c]; exact g7)) (by first | exact g8 | (simp only [nz_c]; exact g8)) (by first | exact ⟨by omega, by omega⟩ | (simp only [nz_c]; exact ⟨by omega, by omega⟩)) (by first | exact g9 | (simp only [nz_c]; exact g9)) (by first | exact g10 | (simp only [nz_c]; exact g10)) (by first | exact ⟨by omega, by omega⟩ | (simp only [nz_c]; exact ⟨by omega, by omega⟩)) (fun F1 g e8 e17 e34 e82 e83 e84 e85 e86 => k4 g0 g1 g2 g3 g4 g5 g6 g7 g8 g9 g10 F1 (nz_in0 hB [8, 17, 34] (fun j hj hn => g j hj (by simp only [List.mem_cons, List.not_mem_nil, or_false, not_or] at hn; omega)) (List.forall_mem_cons.mpr ⟨fun t ht => (Option.some.inj ht) ▸ (nz_hi e8 n89 (by omega) (by omega)), List.forall_mem_cons.mpr ⟨fun t ht => (Option.some.inj ht) ▸ (nz_hA e17 (nz_up (nz_ba hB (k := 17) (lo := (-2147483648)) (hi := 2147483646) rfl) (by decide : (((-12) : Int32)).toInt = (-12 : Int)) (by omega) (by omega))), List.forall_mem_cons.mpr ⟨fun t ht => (Option.some.inj ht) ▸ (nz_hz e34), List.forall_mem_nil _⟩⟩⟩)) (fun j hj hn => g j hj (by simp only [List.mem_cons, List.not_mem_nil, or_false, not_or] at hn; omega)) (nz_fi (g 33 (by decide) (by decide))) ((congrArg Int32.toInt (zz_i e34)).trans (by decide : ((2 : Int32)).toInt = 2)) ((congrArg Int32.toInt (zz_i e8)).trans n89) (nz_fa (g 39 (by decide) (by decide))) ((zz_ai e17).trans w88) ((congrArg Int32.toInt (zz_i e82)).trans (rfl : (sy_i F 82).toInt = (sy_i F 82).toInt)) ((congrArg Int32.toInt (zz_i e83)).trans (rfl : (sy_i F 83).toInt = (sy_i F 83).toInt)) ((congrArg Int32.toInt (zz_i e84)).trans (by decide : ((0 : Int32)).toInt = 0)) ((congrArg Int32.toInt (zz_i e85)).trans n90) ((congrArg Int32.toInt (zz_i e86)).trans n91))
    replace g5 : ((sy_ai F 39).getD ((sy_i F 33).toInt).toNat 0).toInt ≠ (sy_i F 85).toInt := by omega
    by_cases g6 : (sy_i F 85).toInt ≠ 42
    · have c33 := nz_bx hB (k := 33) (lo := 0) (hi := 400) rfl
      have q87 : (sy_ai F 39).getD (sy_i F 33).toNatClampNeg 0 = (sy_ai F 39).getD ((sy_i F 33).toInt).toNat 0 := by simp only [nz_c]
      have n87 : ((sy_ai F 39).getD (sy_i F 33).toNatClampNeg 0).toInt = ((sy_ai F 39).getD ((sy_i F 33).toInt).toNat 0).toInt := congrArg Int32.toInt q87
      exfalso
      omega
    replace g6 : (sy_i F 85).toInt = 42 := by omega
    by_cases g7 : 512 ≤ (sy_i F 8).toInt
    · by_cases g8 : (sy_i F 33).toInt < 0
      · have c33 := nz_bx hB (k := 33) (lo := 0) (hi := 400) rfl
        have q87 : (sy_ai F 39).getD (sy_i F 33).toNatClampNeg 0 = (sy_ai F 39).getD ((sy_i F 33).toInt).toNat 0 := by simp only [nz_c]
        have n87 : ((sy_ai F 39).getD (sy_i F 33).toNatClampNeg 0).toInt = ((sy_ai F 39).getD ((sy_i F 33).toInt).toNat 0).toInt := congrArg Int32.toInt q87
        have c8 := nz_bx hB (k := 8) (lo := 0) (hi := 512) rfl
        exfalso
        omega
      replace g8 : 0 ≤ (sy_i F 33).toInt := by omega
      by_cases g9 : 400 < (sy_i F 33).toInt
      · have c33 := nz_bx hB (k := 33) (lo := 0) (hi := 400) rfl
        have q87 : (sy_ai F 39).getD (sy_i F 33).toNatClampNeg 0 = (sy_ai F 39).getD ((sy_i F 33).toInt).toNat 0 := by simp only [nz_c]
        have n87 : ((sy_ai F 39).getD (sy_i F 33).toNatClampNeg 0).toInt = ((sy_ai F 39).getD ((sy_i F 33).toInt).toNat 0).toInt := congrArg Int32.toInt q87
        have c8 := nz_bx hB (k := 8) (lo := 0) (hi := 512) rfl
        exfalso
        omega
      replace g9 : (sy_i F 33).toInt ≤ 400 := by omega
      have c33 := nz_bx hB (k := 33) (lo := 0) (hi := 400) rfl
      have q87 : (sy_ai F 39).getD (sy_i F 33).toNatClampNeg 0 = (sy_ai F 39).getD ((sy_i F 33).toInt).toNat 0 := by simp only [nz_c]
      have n87 : ((sy_ai F 39).getD (sy_i F 33).toNatClampNeg 0).toInt = ((sy_ai F 39).getD ((sy_i F 33).toInt).toNat 0).toInt := congrArg Int32.toInt q87
      have c8 := nz_bx hB (k := 8) (lo := 0) (hi := 512) rfl
      have q88 : (sy_ai F 39).getD (sy_i F 33).toNatClampNeg 0 = (sy_ai F 39).getD ((sy_i F 33).toInt).toNat 0 := by simp only [nz_c]
      have n88 : ((sy_ai F 39).getD (sy_i F 33).toNatClampNeg 0).toInt = ((sy_ai F 39).getD ((sy_i F 33).toInt).toNat 0).toInt := congrArg Int32.toInt q88
      have n89 : ((sy_i F 86) + ((1 : Int32))).toInt = ((sy_i F 86).toInt + 1) := nz_add (rfl : (sy_i F 86).toInt = (sy_i F 86).toInt) (by decide : ((1 : Int32)).toInt = 1) (by omega) (by omega)
      exact k3pp_23_p5 hd F X1 X2 hB (by first | exact g0 | (simp only [nz_c]; exact g0)) (by first | exact g1 | (simp only [nz_c]; exact g1)) (by first | exact g2 | (simp only [nz_c]; exact g2)) (by first | exact g3 | (simp only [nz_c]; exact g3)) (by first | exact g4 | (simp only [nz_c]; exact g4)) (by first | exact ⟨by omega, by omega⟩ | (simp only [nz_c]; exact ⟨by omega, by omega⟩)) (by first | exact g5 | (simp only [nz_c]; exact g5) | (rw [n87]; exact g5)) (by first | exact g6 | (simp only [nz_c]; exact g6)) (by first | exact g7 | (simp only [nz_c]; exact g7)) (by first | exact g8 | (simp only [nz_c]; exact g8)) (by first | exact g9 | (simp only [nz_c]; exact g9)) (by first | exact ⟨by omega, by omega⟩ | (simp only [nz_c]; exact ⟨by omega, by omega⟩)) (fun F1 g e34 e82 e83 e84 e85 e86 => k5 g0 g1 g2 g3 g4 g5 g6 g7 g8 g9 F1 (nz_in0 hB [34] (fun j hj hn => g j hj (by simp only [List.mem_cons, List.not_mem_nil, or_false, not_or] at hn; omega)) (List.forall_mem_cons.mpr ⟨fun t ht => (Option.some.inj ht) ▸ (nz_hz e34), List.forall_mem_nil _⟩)) (fun j hj hn => g j hj (by simp only [List.mem_cons, List.not_mem_nil, or_false, not_or] at hn; omega)) (nz_fi (g 33 (by decide) (by decide))) ((congrArg Int32.toInt (zz_i e34)).trans (by decide : ((1 : Int32)).toInt = 1)) (nz_fi (g 8 (by decide) (by decide))) (nz_fa (g 39 (by decide) (by decide))) (nz_fa (g 17 (by decide) (by decide))) ((congrArg Int32.toInt (zz_i e82)).trans (rfl : (sy_i F 82).toInt = (sy_i F 82).toInt)) ((congrArg Int32.toInt (zz_i e83)).trans (rfl : (sy_i F 83).toInt = (sy_i F 83).toInt)) ((congrArg Int32.toInt (zz_i e84)).trans (by decide : ((0 : Int32)).toInt = 0)) ((congrArg Int32.toInt (zz_i e85)).trans n88) ((congrArg Int32.toInt (zz_i e86)).trans n89))
    replace g7 : (sy_i F 8).toInt < 512 := by omega
    by_cases g8 : (sy_i F 33).toInt < 0
    · have c33 := nz_bx hB (k := 33) (lo := 0) (hi := 400) rfl
      have q87 : (sy_ai F 39).getD (sy_i F 33).toNatClampNeg 0 = (sy_ai F 39).getD ((sy_i F 33).toInt).toNat 0 := by simp only [nz_c]
      have n87 : ((sy_ai F 39).getD (sy_i F 33).toNatClampNeg 0).toInt = ((sy_ai F 39).getD ((sy_i F 33).toInt).toNat 0).toInt := congrArg Int32.toInt q87
      have c8 := nz_bx hB (k := 8) (lo := 0) (hi := 512) rfl
      exfalso
      omega
    replace g8 : 0 ≤ (sy_i F 33).toInt := by omega
    by_cases g9 : 400 < (sy_i F 33).toInt
    · have c33 := nz_bx hB (k := 33) (lo := 0) (hi := 400) rfl
      have q87 : (sy_ai F 39).getD (sy_i F 33).toNatClampNeg 0 = (sy_ai F 39).getD ((sy_i F 33).toInt).toNat 0 := by simp only [nz_c]
      have n87 : ((sy_ai F 39).getD (sy_i F 33).toNatClampNeg 0).toInt = ((sy_ai F 39).getD ((sy_i F 33).toInt).toNat 0).toInt := congrArg Int32.toInt q87
      have c8 := nz_bx hB (k := 8) (lo := 0) (hi := 512) rfl
      exfalso
      omega
    replace g9 : (sy_i F 33).toInt ≤ 400 := by omega
    have c33 := nz_bx hB (k := 33) (lo := 0) (hi := 400) rfl
    have q87 : (sy_ai F 39).getD (sy_i F 33).toNatClampNeg 0 = (sy_ai F 39).getD ((sy_i F 33).toInt).toNat 0 := by simp only [nz_c]
    have n87 : ((sy_ai F 39).getD (sy_i F 33).toNatClampNeg 0).toInt = ((sy_ai F 39).getD ((sy_i F 33).toInt).toNat 0).toInt := congrArg Int32.toInt q87
    have c8 := nz_bx hB (k := 8) (lo := 0) (hi := 512) rfl
    have n89 : ((sy_i F 8) + ((1 : Int32))).toInt = ((sy_i F 8).toInt + 1) := nz_add (rfl : (sy_i F 8).toInt = (sy_i F 8).toInt) (by decide : ((1 : Int32)).toInt = 1) (by omega) (by omega)
    have w88 : jm_upd (sy_ai F 17) (sy_i F 8).toNatClampNeg (((-12) : Int32)) = jm_upd (sy_ai F 17) ((sy_i F 8).toInt).toNat (((-12) : Int32)) := by simp only [nz_c, (by decide : (((-12) : Int32)).toInt = (-12 : Int))]
    have q90 : (sy_ai F 39).getD (sy_i F 33).toNatClampNeg 0 = (sy_ai F 39).getD ((sy_i F 33).toInt).toNat 0 := by simp only [nz_c]
    have n90 : ((sy_ai F 39).getD (sy_i F 33).toNatClampNeg 0).toInt = ((sy_ai F 39).getD ((sy_i F 33).toInt).toNat 0).toInt := congrArg Int32.toInt q90
    have n91 : ((sy_i F 86) + ((1 : Int32))).toInt = ((sy_i F 86).toInt + 1) := nz_add (rfl : (sy_i F 86).toInt = (sy_i F 86).toInt) (by decide : ((1 : Int32)).toInt = 1) (by omega) (by omega)
    exact k3pp_23_p6 hd F X1 X2 hB (by first | exact g0 | (simp only [nz_c]; exact g0)) (by first | exact g1 | (simp only [nz_c]; exact g1)) (by first | exact g2 | (simp only [nz_c]; exact g2)) (by first | exact g3 | (simp only [nz_c]; exact g3)) (by first | exact g4 | (simp only [nz_c]; exact g4)) (by first | exact ⟨by omega, by omega⟩ | (simp only [nz_c]; exact ⟨by omega, by omega⟩)) (by first | exact g5 | (simp only [nz_c]; exact g5) | (rw [n87]; exact g5)) (by first | exact g6 | (simp only [nz_c]; exact g6)) (by first | exact g7 | (simp only [nz_c]; exact g7)) (by first | exact ⟨by omega, by omega⟩ | (simp only [nz_c]; exact ⟨by omega, by omega⟩)) (by first | exact g8 | (simp only [nz_c]; exact g8)) (by first | exact g9 | (simp only [nz_c]; exact g9)) (by first | exact ⟨by omega, by omega⟩ | (simp only [nz_c]; exact ⟨by omega, by omega⟩)) (fun F1 g e8 e17 e34 e82 e83 e84 e85 e86 => k6 g0 g1 g2 g3 g4 g5 g6 g7 g8 g9 F1 (nz_in0 hB [8, 17, 34] (fun j hj hn => g j hj (by simp only [List.mem_cons, List.not_mem_nil, or_false, not_or] at hn; omega)) (List.forall_mem_cons.mpr ⟨fun t ht => (Option.some.inj ht) ▸ (nz_hi e8 n89 (by omega) (by omega)), List.forall_mem_cons.mpr ⟨fun t ht => (Option.some.inj ht) ▸ (nz_hA e17 (nz_up (nz_ba hB (k := 17) (lo := (-2147483648)) (hi := 2147483646) rfl) (by decide : (((-12) : Int32)).toInt = (-12 : Int)) (by omega) (by omega))), List.forall_mem_cons.mpr ⟨fun t ht => (Option.some.inj ht) ▸ (nz_hz e34), List.forall_mem_nil _⟩⟩⟩)) (fun j hj hn => g j hj (by simp only [List.mem_cons, List.not_mem_nil, or_false, not_or] at hn; omega)) (nz_fi (g 33 (by decide) (by decide))) ((congrArg Int32.toInt (zz_i e34)).trans (by decide : ((1 : Int32)).toInt = 1)) ((congrArg Int32.toInt (zz_i e8)).trans n89) (nz_fa (g 39 (by decide) (by decide))) ((zz_ai e17).trans w88) ((congrArg Int32.toInt (zz_i e82)).trans (rfl : (sy_i F 82).toInt = (sy_i F 82).toInt)) ((congrArg Int32.toInt (zz_i e83)).trans (rfl : (sy_i F 83).toInt = (sy_i F 83).toInt)) ((congrArg Int32.toInt (zz_i e84)).trans (by decide : ((0 : Int32)).toInt = 0)) ((congrArg Int32.toInt (zz_i e85)).trans n90) ((congrArg Int32.toInt (zz_i e86)).trans n91))
  replace g2 : (sy_i F 85).toInt ≠ 42 := by omega
  by_cases g3 : (sy_i F 85).toInt ≠ 47
  · exact k3pp_23_p7 hd F X1 X2 hB (by first | exact g0 | (simp only [nz_c]; exact g0)) (by first | exact g1 | (simp only [nz_c]; exact g1)) (by first | exact g2 | (simp only [nz_c]; exact g2)) (by first | exact g3 | (simp only [nz_c]; exact g3)) (by first | exact (o1 g0 g1 g2 g3) | (simp only [nz_c]; exact (o1 g0 g1 g2 g3))) (fun F1 g  => by rw [(rfl : sy_i F 84 = sy_i F 84)]; exact k7 g0 g1 g2 g3 F1 (nz_in0 hB [] (fun j hj hn => g j hj (by simp only [List.mem_cons, List.not_mem_nil, or_false, not_or] at hn; exact trivial)) (List.forall_mem_nil _)) (fun j hj hn => g j hj (by simp only [List.mem_cons, List.not_mem_nil, or_false, not_or] at hn; exact trivial)) (nz_fi (g 33 (by decide) (by decide))) (nz_fi (g 34 (by decide) (by decide))) (nz_fi (g 8 (by decide) (by decide))) (nz_fa (g 39 (by decide) (by decide))) (nz_fa (g 17 (by decide) (by decide))))
  replace g3 : (sy_i F 85).toInt = 47 := by omega
  by_cases g4 : (sy_i F 33).toInt < 0
  · have c33 := nz_bx hB (k := 33) (lo := 0) (hi := 400) rfl
    exfalso
    omega
  replace g4 : 0 ≤ (sy_i F 33).toInt := by omega
  by_cases g5 : 400 < (sy_i F 33).toInt
  · have c33 := nz_bx hB (k := 33) (lo := 0) (hi := 400) rfl
    exfalso
    omega
  replace g5 : (sy_i F 33).toInt ≤ 400 := by omega
  by_cases g6 : ((sy_ai F 39).getD ((sy_i F 33).toInt).toNat 0).toInt = (sy_i F 85).toInt
  · by_cases g7 : (sy_i F 33).toInt < 400
    · have c33 := nz_bx hB (k := 33) (lo := 0) (hi := 400) rfl
      have q87 : (sy_ai F 39).getD (sy_i F 33).toNatClampNeg 0 = (sy_ai F 39).getD ((sy_i F 33).toInt).toNat 0 := by simp only [nz_c]
      have n87 : ((sy_ai F 39).getD (sy_i F 33).toNatClampNeg 0).toInt = ((sy_ai F 39).getD ((sy_i F 33).toInt).toNat 0).toInt := congrArg Int32.toInt q87
      have n88 : ((sy_i F 33) + ((1 : Int32))).toInt = ((sy_i F 33).toInt + 1) := nz_add (rfl : (sy_i F 33).toInt = (sy_i F 33).toInt) (by decide : ((1 : Int32)).toInt = 1) (by omega) (by omega)
      exact k3pp_23_p8 hd F X1 X2 hB (by first | exact g0 | (simp only [nz_c]; exact g0)) (by first | exact g1 | (simp only [nz_c]; exact g1)) (by first | exact g2 | (simp only [nz_c]; exact g2)) (by first | exact g3 | (simp only [nz_c]; exact g3)) (by first | exact g4 | (simp only [nz_c]; exact g4)) (by first | exact g5 | (simp only [nz_c]; exact g5)) (by first | exact ⟨by omega, by omega⟩ | (simp only [nz_c]; exact ⟨by omega, by omega⟩)) (by first | exact g6 | (simp only [nz_c]; exact g6) | (rw [n87]; exact g6)) (by first | exact g7 | (simp only [nz_c]; exact g7)) (fun F1 g e33 e82 e83 e84 e85 => k8 g0 g1 g2 g3 g4 g5 g6 g7 F1 (nz_in0 hB [33] (fun j hj hn => g j hj (by simp only [List.mem_cons, List.not_mem_nil, or_false, not_or] at hn; omega)) (List.forall_mem_cons.mpr ⟨fun t ht => (Option.some.inj ht) ▸ (nz_hi e33 n88 (by omega) (by omega)), List.forall_mem_nil _⟩)) (fun j hj hn => g j hj (by simp only [List.mem_cons, List.not_mem_nil, or_false, not_or] at hn; omega)) ((congrArg Int32.toInt (zz_i e33)).trans n88) (nz_fi (g 34 (by decide) (by decide))) (nz_fi (g 8 (by decide) (by decide))) (nz_fa (g 39 (by decide) (by decide))) (nz_fa (g 17 (by decide) (by decide))) ((congrArg Int32.toInt (zz_i e82)).trans (rfl : (sy_i F 82).toInt = (sy_i F 82).toInt)) ((congrArg Int32.toInt (zz_i e83)).trans (rfl : (sy_i F 83).toInt = (sy_i F 83).toInt)) ((congrArg Int32.toInt (zz_i e84)).trans (rfl : (sy_i F 85).toInt = (sy_i F 85).toInt)) ((congrArg Int32.toInt (zz_i e85)).trans (rfl : (sy_i F 86).toInt = (sy_i F 86).toInt)))
    replace g7 : 400 ≤ (sy_i F 33).toInt := by omega
    by_cases g8 : (sy_i F 85).toInt ≠ 42
    · by_cases g9 : 512 ≤ (sy_i F 8).toInt
      · by_cases g10 : (sy_i F 33).toInt < 0
        · have c33 := nz_bx hB (k := 33) (lo := 0) (hi := 400) rfl
          have q87 : (sy_ai F 39).getD (sy_i F 33).toNatClampNeg 0 = (sy_ai F 39).getD ((sy_i F 33).toInt).toNat 0 := by simp only [nz_c]
          have n87 : ((sy_ai F 39).getD (sy_i F 33).toNatClampNeg 0).toInt = ((sy_ai F 39).getD ((sy_i F 33).toInt).toNat 0).toInt := congrArg Int32.toInt q87
          have c8 := nz_bx hB (k := 8) (lo := 0) (hi := 512) rfl
          exfalso
          omega
        replace g10 : 0 ≤ (sy_i F 33).toInt := by omega
        by_cases g11 : 400 < (sy_i F 33).toInt
        · have c33 := nz_bx hB (k := 33) (lo := 0) (hi := 400) rfl
          have q87 : (sy_ai F 39).getD (sy_i F 33).toNatClampNeg 0 = (sy_ai F 39).getD ((sy_i F 33).toInt).toNat 0 := by simp only [nz_c]
          have n87 : ((sy_ai F 39).getD (sy_i F 33).toNatClampNeg 0).toInt = ((sy_ai F 39).getD ((sy_i F 33).toInt).toNat 0).toInt := congrArg Int32.toInt q87
          have c8 := nz_bx hB (k := 8) (lo := 0) (hi := 512) rfl
          exfalso
          omega
        replace g11 : (sy_i F 33).toInt ≤ 400 := by omega
        have c33 := nz_bx hB (k := 33) (lo := 0) (hi := 400) rfl
        have q87 : (sy_ai F 39).getD (sy_i F 33).toNatClampNeg 0 = (sy_ai F 39).getD ((sy_i F 33).toInt).toNat 0 := by simp only [nz_c]
        have n87 : ((sy_ai F 39).getD (sy_i F 33).toNatClampNeg 0).toInt = ((sy_ai F 39).getD ((sy_i F 33).toInt).toNat 0).toInt := congrArg Int32.toInt q87
        have c8 := nz_bx hB (k := 8) (lo := 0) (hi := 512) rfl
        have q88 : (sy_ai F 39).getD (sy_i F 33).toNatClampNeg 0 = (sy_ai F 39).getD ((sy_i F 33).toInt).toNat 0 := by simp only [nz_c]
        have n88 : ((sy_ai F 39).getD (sy_i F 33).toNatClampNeg 0).toInt = ((sy_ai F 39).getD ((sy_i F 33).toInt).toNat 0).toInt := congrArg Int32.toInt q88
        have n89 : ((sy_i F 86) + ((1 : Int32))).toInt = ((sy_i F 86).toInt + 1) := nz_add (rfl : (sy_i F 86).toInt = (sy_i F 86).toInt) (by decide : ((1 : Int32)).toInt = 1) (by omega) (by omega)
        exact k3pp_23_p9 hd F X1 X2 hB (by first | exact g0 | (simp only [nz_c]; exact g0)) (by first | exact g1 | (simp only [nz_c]; exact g1)) (by first | exact g2 | (simp only [nz_c]; exact g2)) (by first | exact g3 | (simp only [nz_c]; exact g3)) (by first | exact g4 | (simp only [nz_c]; exact g4)) (by first | exact g5 | (simp only [nz_c]; exact g5)) (by first | exact ⟨by omega, by omega⟩ | (simp only [nz_c]; exact ⟨by omega, by omega⟩)) (by first | exact g6 | (simp only [nz_c]; exact g6) | (rw [n87]; exact g6)) (by first | exact g7 | (simp only [nz_c]; exact g7)) (by first | exact g8 | (simp only [nz_c]; exact g8)) (by first | exact g9 | (simp only [nz_c]; exact g9)) (by first | exact g10 | (simp only [nz_c]; exact g10)) (by first | exact g11 | (simp only [nz_c]; exact g11)) (by first | exact ⟨by omega, by omega⟩ | (simp only [nz_c]; exact ⟨by omega, by omega⟩)) (fun F1 g e34 e82 e83 e84 e85 e86 => k9 g0 g1 g2 g3 g4 g5 g6 g7 g8 g9 g10 g11 F1 (nz_in0 hB [34] (fun j hj hn => g j hj (by simp only [List.mem_cons, List.not_mem_nil, or_false, not_or] at hn; omega)) (List.forall_mem_cons.mpr ⟨fun t ht => (Option.some.inj ht) ▸ (nz_hz e34), List.forall_mem_nil _⟩)) (fun j hj hn => g j hj (by simp only [List.mem_cons, List.not_mem_nil, or_false, not_or] at hn; omega)) (nz_fi (g 33 (by decide) (by decide))) ((congrArg Int32.toInt (zz_i e34)).trans (by decide : ((2 : Int32)).toInt = 2)) (nz_fi (g 8 (by decide) (by decide))) (nz_fa (g 39 (by decide) (by decide))) (nz_fa (g 17 (by decide) (by decide))) ((congrArg Int32.toInt (zz_i e82)).trans (rfl : (sy_i F 82).toInt = (sy_i F 82).toInt)) ((congrArg Int32.toInt (zz_i e83)).trans (rfl : (sy_i F 83).toInt = (sy_i F 83).toInt)) ((congrArg Int32.toInt (zz_i e84)).trans (by decide : ((0 : Int32)).toInt = 0)) ((congrArg Int32.toInt (zz_i e85)).trans n88) ((congrArg Int32.toInt (zz_i e86)).trans n89))
      replace g9 : (sy_i F 8).toInt < 512 := by omega
      by_cases g10 : (sy_i F 33).toInt < 0
      · have c33 := nz_bx hB (k := 33) (lo := 0) (hi := 400) rfl
        have q87 : (sy_ai F 39).getD (sy_i F 33).toNatClampNeg 0 = (sy_ai F 39).getD ((sy_i F 33).toInt).toNat 0 := by simp only [nz_c]
        have n87 : ((sy_ai F 39).getD (sy_i F 33).toNatClampNeg 0).toInt = ((sy_ai F 39).getD ((sy_i F 33).toInt).toNat 0).toInt := congrArg Int32.toInt q87
        have c8 := nz_bx hB (k := 8) (lo := 0) (hi := 512) rfl
        exfalso
        omega
      replace g10 : 0 ≤ (sy_i F 33).toInt := by omega
      by_cases g11 : 400 < (sy_i F 33).toInt
      · have c33 := nz_bx hB (k := 33) (lo := 0) (hi := 400) rfl
        have q87 : (sy_ai F 39).getD (sy_i F 33).toNatClampNeg 0 = (sy_ai F 39).getD ((sy_i F 33).toInt).toNat 0 := by simp only [nz_c]
        have n87 : ((sy_ai F 39).getD (sy_i F 33).toNatClampNeg 0).toInt = ((sy_ai F 39).getD ((sy_i F 33).toInt).toNat 0).toInt := congrArg Int32.toInt q87
        have c8 := nz_bx hB (k := 8) (lo := 0) (hi := 512) rfl
        exfalso
        omega
      replace g11 : (sy_i F 33).toInt ≤ 400 := by omega
      have c33 := nz_bx hB (k := 33) (lo := 0) (hi := 400) rfl
      have q87 : (sy_ai F 39).getD (sy_i F 33).toNatClampNeg 0 = (sy_ai F 39).getD ((sy_i F 33).toInt).toNat 0 := by simp only [nz_c]
      have n87 : ((sy_ai F 39).getD (sy_i F 33).toNatClampNeg 0).toInt = ((sy_ai F 39).getD ((sy_i F 33).toInt).toNat 0).toInt := congrArg Int32.toInt q87
      have c8 := nz_bx hB (k := 8) (lo := 0) (hi := 512) rfl
      have n89 : ((sy_i F 8) + ((1 : Int32))).toInt = ((sy_i F 8).toInt + 1) := nz_add (rfl : (sy_i F 8).toInt = (sy_i F 8).toInt) (by decide : ((1 : Int32)).toInt = 1) (by omega) (by omega)
      have w88 : jm_upd (sy_ai F 17) (sy_i F 8).toNatClampNeg (((-13) : Int32)) = jm_upd (sy_ai F 17) ((sy_i F 8).toInt).toNat (((-13) : Int32)) := by simp only [nz_c, (by decide : (((-13) : Int32)).toInt = (-13 : Int))]
      have q90 : (sy_ai F 39).getD (sy_i F 33).toNatClampNeg 0 = (sy_ai F 39).getD ((sy_i F 33).toInt).toNat 0 := by simp only [nz_c]
      have n90 : ((sy_ai F 39).getD (sy_i F 33).toNatClampNeg 0).toInt = ((sy_ai F 39).getD ((sy_i F 33).toInt).toNat 0).toInt := congrArg Int32.toInt q90
      have n91 : ((sy_i F 86) + ((1 : Int32))).toInt = ((sy_i F 86).toInt + 1) := nz_add (rfl : (sy_i F 86).toInt = (sy_i F 86).toInt) (by decide : ((1 : Int32)).toInt = 1) (by omega) (by omega)
      exact k3pp_23_p10 hd F X1 X2 hB (by first | exact g0 | (simp only [nz_c]; exact g0)) (by first | exact g1 | (simp only [nz_c]; exact g1)) (by first | exact g2 | (simp only [nz_c]; exact g2)) (by first | exact g3 | (simp only [nz_c]; exact g3)) (by first | exact g4 | (simp only [nz_c]; exact g4)) (by first | exact g5 | (simp only [nz_c]; exact g5)) (by first | exact ⟨by omega, by omega⟩ | (simp only [nz_c]; exact ⟨by omega, by omega⟩)) (by first | exact g6 | (simp only [nz_c]; exact g6) | (rw [n87]; exact g6)) (by first | exact g7 | (simp only [nz_c]; exact g7)) (by first | exact g8 | (simp only [nz_c]; exact g8)) (by first | exact g9 | (simp only [nz_c]; exact g9)) (by first | exact ⟨by omega, by omega⟩ | (simp only [nz_c]; exact ⟨by omega, by omega⟩)) (by first | exact g10 | (simp only [nz_c]; exact g10)) (by first | exact g11 | (simp only [nz_c]; exact g11)) (by first | exact ⟨by omega, by omega⟩ | (simp only [nz_c]; exact ⟨by omega, by omega⟩)) (fun F1 g e8 e17 e34 e82 e83 e84 e85 e86 => k10 g0 g1 g2 g3 g4 g5 g6 g7 g8 g9 g10 g11 F1 (nz_in0 hB [8, 17, 34] (fun j hj hn => g j hj (by simp only [List.mem_cons, List.not_mem_nil, or_false, not_or] at hn; omega)) (List.forall_mem_cons.mpr ⟨fun t ht => (Option.some.inj ht) ▸ (nz_hi e8 n89 (by omega) (by omega)), List.forall_mem_cons.mpr ⟨fun t ht => (Option.some.inj ht) ▸ (nz_hA e17 (nz_up (nz_ba hB (k := 17) (lo := (-2147483648)) (hi := 2147483646) rfl) (by decide : (((-13) : Int32)).toInt = (-13 : Int)) (by omega) (by omega))), List.forall_mem_cons.mpr ⟨fun t ht => (Option.some.inj ht) ▸ (nz_hz e34), List.forall_mem_nil _⟩⟩⟩)) (fun j hj hn => g j hj (by simp only [List.mem_cons, List.not_mem_nil, or_false, not_or] at hn; omega)) (nz_fi (g 33 (by decide) (by decide))) ((congrArg Int32.toInt (zz_i e34)).trans (by decide : ((2 : Int32)).toInt = 2)) ((congrArg Int32.toInt (zz_i e8)).trans n89) (nz_fa (g 39 (by decide) (by decide))) ((zz_ai e17).trans w88) ((congrArg Int32.toInt (zz_i e82)).trans (rfl : (sy_i F 82).toInt = (sy_i F 82).toInt)) ((congrArg Int32.toInt (zz_i e83)).trans (rfl : (sy_i F 83).toInt = (sy_i F 83).toInt)) ((congrArg Int32.toInt (zz_i e84)).trans (by decide : ((0 : Int32)).toInt = 0)) ((congrArg Int32.toInt (zz_i e85)).trans n90) ((congrArg Int32.toInt (zz_i e86)).trans n91))
    replace g8 : (sy_i F 85).toInt = 42 := by omega
    have c33 := nz_bx hB (k := 33) (lo := 0) (hi := 400) rfl
    have q87 : (sy_ai F 39).getD (sy_i F 33).toNatClampNeg 0 = (sy_ai F 39).getD ((sy_i F 33).toInt).toNat 0 := by simp only [nz_c]
    have n87 : ((sy_ai F 39).getD (sy_i F 33).toNatClampNeg 0).toInt = ((sy_ai F 39).getD ((sy_i F 33).toInt).toNat 0).toInt := congrArg Int32.toInt q87
    exfalso
    omega
  replace g6 : ((sy_ai F 39).getD ((sy_i F 33).toInt).toNat 0).toInt ≠ (sy_i F 85).toInt := by omega
  by_cases g7 : (sy_i F 85).toInt ≠ 42
  · by_cases g8 : 512 ≤ (sy_i F 8).toInt
    · by_cases g9 : (sy_i F 33).toInt < 0
      · have c33 := nz_bx hB (k := 33) (lo := 0) (hi := 400) rfl
        have q87 : (sy_ai F 39).getD (sy_i F 33).toNatClampNeg 0 = (sy_ai F 39).getD ((sy_i F 33).toInt).toNat 0 := by simp only [nz_c]
        have n87 : ((sy_ai F 39).getD (sy_i F 33).toNatClampNeg 0).toInt = ((sy_ai F 39).getD ((sy_i F 33).toInt).toNat 0).toInt := congrArg Int32.toInt q87
        have c8 := nz_bx hB (k := 8) (lo := 0) (hi := 512) rfl
        exfalso
        omega
      replace g9 : 0 ≤ (sy_i F 33).toInt := by omega
      by_cases g10 : 400 < (sy_i F 33).toInt
      · have c33 := nz_bx hB (k := 33) (lo := 0) (hi := 400) rfl
        have q87 : (sy_ai F 39).getD (sy_i F 33).toNatClampNeg 0 = (sy_ai F 39).getD ((sy_i F 33).toInt).toNat 0 := by simp only [nz_c]
        have n87 : ((sy_ai F 39).getD (sy_i F 33).toNatClampNeg 0).toInt = ((sy_ai F 39).getD ((sy_i F 33).toInt).toNat 0).toInt := congrArg Int32.toInt q87
        have c8 := nz_bx hB (k := 8) (lo := 0) (hi := 512) rfl
        exfalso
        omega
      replace g10 : (sy_i F 33).toInt ≤ 400 := by omega
      have c33 := nz_bx hB (k := 33) (lo := 0) (hi := 400) rfl
      have q87 : (sy_ai F 39).getD (sy_i F 33).toNatClampNeg 0 = (sy_ai F 39).getD ((sy_i F 33).toInt).toNat 0 := by simp only [nz_c]
      have n87 : ((sy_ai F 39).getD (sy_i F 33).toNatClampNeg 0).toInt = ((sy_ai F 39).getD ((sy_i F 33).toInt).toNat 0).toInt := congrArg Int32.toInt q87
      have c8 := nz_bx hB (k := 8) (lo := 0) (hi := 512) rfl
      have q88 : (sy_ai F 39).getD (sy_i F 33).toNatClampNeg 0 = (sy_ai F 39).getD ((sy_i F 33).toInt).toNat 0 := by simp only [nz_c]
      have n88 : ((sy_ai F 39).getD (sy_i F 33).toNatClampNeg 0).toInt = ((sy_ai F 39).getD ((sy_i F 33).toInt).toNat 0).toInt := congrArg Int32.toInt q88
      have n89 : ((sy_i F 86) + ((1 : Int32))).toInt = ((sy_i F 86).toInt + 1) := nz_add (rfl : (sy_i F 86).toInt = (sy_i F 86).toInt) (by decide : ((1 : Int32)).toInt = 1) (by omega) (by omega)
      exact k3pp_23_p11 hd F X1 X2 hB (by first | exact g0 | (simp only [nz_c]; exact g0)) (by first | exact g1 | (simp only [nz_c]; exact g1)) (by first | exact g2 | (simp only [nz_c]; exact g2)) (by first | exact g3 | (simp only [nz_c]; exact g3)) (by first | exact g4 | (simp only [nz_c]; exact g4)) (by first | exact g5 | (simp only [nz_c]; exact g5)) (by first | exact ⟨by omega, by omega⟩ | (simp only [nz_c]; exact ⟨by omega, by omega⟩)) (by first | exact g6 | (simp only [nz_c]; exact g6) | (rw [n87]; exact g6)) (by first | exact g7 | (simp only [nz_c]; exact g7)) (by first | exact g8 | (simp only [nz_c]; exact g8)) (by first | exact g9 | (simp only [nz_c]; exact g9)) (by first | exact g10 | (simp only [nz_c]; exact g10)) (by first | exact ⟨by omega, by omega⟩ | (simp only [nz_c]; exact ⟨by omega, by omega⟩)) (fun F1 g e34 e82 e83 e84 e85 e86 => k11 g0 g1 g2 g3 g4 g5 g6 g7 g8 g9 g10 F1 (nz_in0 hB [34] (fun j hj hn => g j hj (by simp only [List.mem_cons, List.not_mem_nil, or_false, not_or] at hn; omega)) (List.forall_mem_cons.mpr ⟨fun t ht => (Option.some.inj ht) ▸ (nz_hz e34), List.forall_mem_nil _⟩)) (fun j hj hn => g j hj (by simp only [List.mem_cons, List.not_mem_nil, or_false, not_or] at hn; omega)) (nz_fi (g 33 (by decide) (by decide))) ((congrArg Int32.toInt (zz_i e34)).trans (by decide : ((1 : Int32)).toInt = 1)) (nz_fi (g 8 (by decide) (by decide))) (nz_fa (g 39 (by decide) (by decide))) (nz_fa (g 17 (by decide) (by decide))) ((congrArg Int32.toInt (zz_i e82)).trans (rfl : (sy_i F 82).toInt = (sy_i F 82).toInt)) ((congrArg Int32.toInt (zz_i e83)).trans (rfl : (sy_i F 83).toInt = (sy_i F 83).toInt)) ((congrArg Int32.toInt (zz_i e84)).trans (by decide : ((0 : Int32)).toInt = 0)) ((congrArg Int32.toInt (zz_i e85)).trans n88) ((congrArg Int32.toInt (zz_i e86)).trans n89))
    replace g8 : (sy_i F 8).toInt < 512 := by omega
    by_cases g9 : (sy_i F 33).toInt < 0
    · have c33 := nz_bx hB (k := 33) (lo := 0) (hi := 400) rfl
      have q87 : (sy_ai F 39).getD (sy_i F 33).toNatClampNeg 0 = (sy_ai F 39).getD ((sy_i F 33).toInt).toNat 0 := by simp only [nz_c]
      have n87 : ((sy_ai F 39).getD (sy_i F 33).toNatClampNeg 0).toInt = ((sy_ai F 39).getD ((sy_i F 33).toInt).toNat 0).toInt := congrArg Int32.toInt q87
      have c8 := nz_bx hB (k := 8) (lo := 0) (hi := 512) rfl
      exfalso
      omega
    replace g9 : 0 ≤ (sy_i F 33).toInt := by omega
    by_cases g10 : 400 < (sy_i F 33).toInt
    · have c33 := nz_bx hB (k := 33) (lo := 0) (hi := 400) rfl
      have q87 : (sy_ai F 39).getD (sy_i F 33).toNatClampNeg 0 = (sy_ai F 39).getD ((sy_i F 33).toInt).toNat 0 := by simp only [nz_c]
      have n87 : ((sy_ai F 39).getD (sy_i F 33).toNatClampNeg 0).toInt = ((sy_ai F 39).getD ((sy_i F 33).toInt).toNat 0).toInt := congrArg Int32.toInt q87
      have c8 := nz_bx hB (k := 8) (lo := 0) (hi := 512) rfl
      exfalso
      omega
    replace g10 : (sy_i F 33).toInt ≤ 400 := by omega
    have c33 := nz_bx hB (k := 33) (lo := 0) (hi := 400) rfl
    have q87 : (sy_ai F 39).getD (sy_i F 33).toNatClampNeg 0 = (sy_ai F 39).getD ((sy_i F 33).toInt).toNat 0 := by simp only [nz_c]
    have n87 : ((sy_ai F 39).getD (sy_i F 33).toNatClampNeg 0).toInt = ((sy_ai F 39).getD ((sy_i F 33).toInt).toNat 0).toInt := congrArg Int32.toInt q87
    have c8 := nz_bx hB (k := 8) (lo := 0) (hi := 512) rfl
    have n89 : ((sy_i F 8) + ((1 : Int32))).toInt = ((sy_i F 8).toInt + 1) := nz_add (rfl : (sy_i F 8).toInt = (sy_i F 8).toInt) (by decide : ((1 : Int32)).toInt = 1) (by omega) (by omega)
    have w88 : jm_upd (sy_ai F 17) (sy_i F 8).toNatClampNeg (((-13) : Int32)) = jm_upd (sy_ai F 17) ((sy_i F 8).toInt).toNat (((-13) : Int32)) := by simp only [nz_c, (by decide : (((-13) : Int32)).toInt = (-13 : Int))]
    have q90 : (sy_ai F 39).getD (sy_i F 33).toNatClampNeg 0 = (sy_ai F 39).getD ((sy_i F 33).toInt).toNat 0 := by simp only [nz_c]
    have n90 : ((sy_ai F 39).getD (sy_i F 33).toNatClampNeg 0).toInt = ((sy_ai F 39).getD ((sy_i F 33).toInt).toNat 0).toInt := congrArg Int32.toInt q90
    have n91 : ((sy_i F 86) + ((1 : Int32))).toInt = ((sy_i F 86).toInt + 1) := nz_add (rfl : (sy_i F 86).toInt = (sy_i F 86).toInt) (by decide : ((1 : Int32)).toInt = 1) (by omega) (by omega)
    exact k3pp_23_p12 hd F X1 X2 hB (by first | exact g0 | (simp only [nz_c]; exact g0)) (by first | exact g1 | (simp only [nz_c]; exact g1)) (by first | exact g2 | (simp only [nz_c]; exact g2)) (by first | exact g3 | (simp only [nz_c]; exact g3)) (by first | exact g4 | (simp only [nz_c]; exact g4)) (by first | exact g5 | (simp only [nz_c]; exact g5)) (by first | exact ⟨by omega, by omega⟩ | (simp only [nz_c]; exact ⟨by omega, by omega⟩)) (by first | exact g6 | (simp only [nz_c]; exact g6) | (rw [n87]; exact g6)) (by first | exact g7 | (simp only [nz_c]; exact g7)) (by first | exact g8 | (simp only [nz_c]; exact g8)) (by first | exact ⟨by omega, by omega⟩ | (simp only [nz_c]; exact ⟨by omega, by omega⟩)) (by first | exact g9 | (simp only [nz_c]; exact g9)) (by first | exact g10 | (simp only [nz_c]; exact g10)) (by first | exact ⟨by omega, by omega⟩ | (simp only [nz_c]; exact ⟨by omega, by omega⟩)) (fun F1 g e8 e17 e34 e82 e83 e84 e85 e86 => k12 g0 g1 g2 g3 g4 g5 g6 g7 g8 g9 g10 F1 (nz_in0 hB [8, 17, 34] (fun j hj hn => g j hj (by simp only [List.mem_cons, List.not_mem_nil, or_false, not_or] at hn; omega)) (List.forall_mem_cons.mpr ⟨fun t ht => (Option.some.inj ht) ▸ (nz_hi e8 n89 (by omega) (by omega)), List.forall_mem_cons.mpr ⟨fun t ht => (Option.some.inj ht) ▸ (nz_hA e17 (nz_up (nz_ba hB (k := 17) (lo := (-2147483648)) (hi := 2147483646) rfl) (by decide : (((-13) : Int32)).toInt = (-13 : Int)) (by omega) (by omega))), List.forall_mem_cons.mpr ⟨fun t ht => (Option.some.inj ht) ▸ (nz_hz e34), List.forall_mem_nil _⟩⟩⟩)) (fun j hj hn => g j hj (by simp only [List.mem_cons, List.not_mem_nil, or_false, not_or] at hn; omega)) (nz_fi (g 33 (by decide) (by decide))) ((congrArg Int32.toInt (zz_i e34)).trans (by decide : ((1 : Int32)).toInt = 1)) ((congrArg Int32.toInt (zz_i e8)).trans n89) (nz_fa (g 39 (by decide) (by decide))) ((zz_ai e17).trans w88) ((congrArg Int32.toInt (zz_i e82)).trans (rfl : (sy_i F 82).toInt = (sy_i F 82).toInt)) ((congrArg Int32.toInt (zz_i e83)).trans (rfl : (sy_i F 83).toInt = (sy_i F 83).toInt)) ((congrArg Int32.toInt (zz_i e84)).trans (by decide : ((0 : Int32)).toInt = 0)) ((congrArg Int32.toInt (zz_i e85)).trans n90) ((congrArg Int32.toInt (zz_i e86)).trans n91))
  replace g7 : (sy_i F 85).toInt = 42 := by omega
  have c33 := nz_bx hB (k := 33) (lo := 0) (hi := 400) rfl
  have q87 : (sy_ai F 39).getD (sy_i F 33).toNatClampNeg 0 = (sy_ai F 39).getD ((sy_i F 33).toInt).toNat 0 := by simp only [nz_c]
  have n87 : ((sy_ai F 39).getD (sy_i F 33).toNatClampNeg 0).toInt = ((sy_ai F 39).getD ((sy_i F 33).toInt).toNat 0).toInt := congrArg Int32.toInt q87
  exfalso
  omega
theorem k3zp_64 {Ls : Nat} {xs : Nat → Int32} {d : Nat} {Q : Option Value → jm_h → Prop} (hd : 4 ≤ d) (F : Nat → sy_d) (X1 X2 : List jm_c) (hB : iv_in F iv_B0)
    (a85 : 0 ≤ (sy_i F 85).toInt ∧ (sy_i F 85).toInt ≤ 400)
    (k0 : (sy_i F 86).toInt = 0 → (sy_i F 84).toInt ≠ 42 → 512 ≤ (sy_i F 8).toInt → 0 ≤ (sy_i F 33).toInt → (sy_i F 33).toInt ≤ 400 → ∀ F1 : Nat → sy_d, iv_in F1 iv_B0 → (∀ j, j < 82 → j ∉ ([] : List Nat) → F1 j = F j) → (sy_i F1 33).toInt = (sy_i F 33).toInt → (sy_i F1 34).toInt = (sy_i F 34).toInt → (sy_i F1 8).toInt = (sy_i F 8).toInt → sy_ai F1 39 = sy_ai F 39 → sy_ai F1 17 = sy_ai F 17 → (sy_i F1 82).toInt = (sy_i F 82).toInt → (sy_i F1 83).toInt = (sy_i F 83).toInt → (sy_i F1 84).toInt = 0 → (sy_i F1 85).toInt = ((sy_ai F 39).getD ((sy_i F 33).toInt).toNat 0).toInt → (sy_i F1 86).toInt = ((sy_i F 85).toInt + 1) → hd_W Ls xs d jm_M39 Q (23, sy_dL F1 [some (.inl (.ref 30)), some (.inr (.inl 82)), some (.inr (.inl 83)), some (.inr (.inl 84)), some (.inr (.inl 85)), some (.inr (.inl 86))], sy_dS F1 [], sy_dh F1 X1 X2 (iv_H 3), 0, 0))
    (k1 : (sy_i F 86).toInt = 0 → (sy_i F 84).toInt ≠ 42 → (sy_i F 8).toInt < 512 → 0 ≤ (sy_i F 33).toInt → (sy_i F 33).toInt ≤ 400 → ∀ F1 : Nat → sy_d, iv_in F1 iv_B0 → (∀ j, j < 82 → j ∉ ([8, 17] : List Nat) → F1 j = F j) → (sy_i F1 33).toInt = (sy_i F 33).toInt → (sy_i F1 34).toInt = (sy_i F 34).toInt → (sy_i F1 8).toInt = ((sy_i F 8).toInt + 1) → sy_ai F1 39 = sy_ai F 39 → sy_ai F1 17 = jm_upd (sy_ai F 17) ((sy_i F 8).toInt).toNat (((-13) : Int32)) → (sy_i F1 82).toInt = (sy_i F 82).toInt → (sy_i F1 83).toInt = (sy_i F 83).toInt → (sy_i F1 84).toInt = 0 → (sy_i F1 85).toInt = ((sy_ai F 39).getD ((sy_i F 33).toInt).toNat 0).toInt → (sy_i F1 86).toInt = ((sy_i F 85).toInt + 1) → hd_W Ls xs d jm_M39 Q (23, sy_dL F1 [some (.inl (.ref 30)), some (.inr (.inl 82)), some (.inr (.inl 83)), some (.inr (.inl 84)), some (.inr (.inl 85)), some (.inr (.inl 86))], sy_dS F1 [], sy_dh F1 X1 X2 (iv_H 3), 0, 0))
    (k2 : (sy_i F 86).toInt = 0 → (sy_i F 84).toInt = 42 → 512 ≤ (sy_i F 8).toInt → 0 ≤ (sy_i F 33).toInt → (sy_i F 33).toInt ≤ 400 → ∀ F1 : Nat → sy_d, iv_in F1 iv_B0 → (∀ j, j < 82 → j ∉ ([] : List Nat) → F1 j = F j) → (sy_i F1 33).toInt = (sy_i F 33).toInt → (sy_i F1 34).toInt = (sy_i F 34).toInt → (sy_i F1 8).toInt = (sy_i F 8).toInt → sy_ai F1 39 = sy_ai F 39 → sy_ai F1 17 = sy_ai F 17 → (sy_i F1 82).toInt = (sy_i F 82).toInt → (sy_i F1 83).toInt = (sy_i F 83).toInt → (sy_i F1 84).toInt = 0 → (sy_i F1 85).toInt = ((sy_ai F 39).getD ((sy_i F 33).toInt).toNat 0).toInt → (sy_i F1 86).toInt = ((sy_i F 85).toInt + 1) → hd_W Ls xs d jm_M39 Q (23, sy_dL F1 [some (.inl (.ref 30)), some (.inr (.inl 82)), some (.inr (.inl 83)), some (.inr (.inl 84)), some (.inr (.inl 85)), some (.inr (.inl 86))], sy_dS F1 [], sy_dh F1 X1 X2 (iv_H 3), 0, 0))
    (k3 : (sy_i F 86).toInt = 0 → (sy_i F 84).toInt = 42 → (sy_i F 8).toInt < 512 → 0 ≤ (sy_i F 33).toInt → (sy_i F 33).toInt ≤ 400 → ∀ F1 : Nat → sy_d, iv_in F1 iv_B0 → (∀ j, j < 82 → j ∉ ([8, 17] : List Nat) → F1 j = F j) → (sy_i F1 33).toInt = (sy_i F 33).toInt → (sy_i F1 34).toInt = (sy_i F 34).toInt → (sy_i F1 8).toInt = ((sy_i F 8).toInt + 1) → sy_ai F1 39 = sy_ai F 39 → sy_ai F1 17 = jm_upd (sy_ai F 17) ((sy_i F 8).toInt).toNat (((-12) : Int32)) → (sy_i F1 82).toInt = (sy_i F 82).toInt → (sy_i F1 83).toInt = (sy_i F 83).toInt → (sy_i F1 84).toInt = 0 → (sy_i F1 85).toInt = ((sy_ai F 39).getD ((sy_i F 33).toInt).toNat 0).toInt → (sy_i F1 86).toInt = ((sy_i F 85).toInt + 1) → hd_W Ls xs d jm_M39 Q (23, sy_dL F1 [some (.inl (.ref 30)), some (.inr (.inl 82)), some (.inr (.inl 83)), some (.inr (.inl 84)), some (.inr (.inl 85)), some (.inr (.inl 86))], sy_dS F1 [], sy_dh F1 X1 X2 (iv_H 3), 0, 0))
    (k4 : (sy_i F 86).toInt ≠ 0 → (sy_i F 84).toInt ≠ 42 → 512 ≤ (sy_i F 8).toInt → 0 ≤ (sy_i F 33).toInt → (sy_i F 33).toInt ≤ 400 → ∀ F1 : Nat → sy_d, iv_in F1 iv_B0 → (∀ j, j < 82 → j ∉ ([] : List Nat) → F1 j = F j) → (sy_i F1 33).toInt = (sy_i F 33).toInt → (sy_i F1 34).toInt = (sy_i F 34).toInt → (sy_i F1 8).toInt = (sy_i F 8).toInt → sy_ai F1 39 = sy_ai F 39 → sy_ai F1 17 = sy_ai F 17 → (sy_i F1 82).toInt = (sy_i F 82).toInt → (sy_i F1 83).toInt = (sy_i F 83).toInt → (sy_i F1 84).toInt = 1 → (sy_i F1 85).toInt = ((sy_ai F 39).getD ((sy_i F 33).toInt).toNat 0).toInt → (sy_i F1 86).toInt = ((sy_i F 85).toInt + 1) → hd_W Ls xs d jm_M39 Q (23, sy_dL F1 [some (.inl (.ref 30)), some (.inr (.inl 82)), some (.inr (.inl 83)), some (.inr (.inl 84)), some (.inr (.inl 85)), some (.inr (.inl 86))], sy_dS F1 [], sy_dh F1 X1 X2 (iv_H 3), 0, 0))
    (k5 : (sy_i F 86).toInt ≠ 0 → (sy_i F 84).toInt ≠ 42 → (sy_i F 8).toInt < 512 → 0 ≤ (sy_i F 33).toInt → (sy_i F 33).toInt ≤ 400 → ∀ F1 : Nat → sy_d, iv_in F1 iv_B0 → (∀ j, j < 82 → j ∉ ([8, 17] : List Nat) → F1 j = F j) → (sy_i F1 33).toInt = (sy_i F 33).toInt → (sy_i F1 34).toInt = (sy_i F 34).toInt → (sy_i F1 8).toInt = ((sy_i F 8).toInt + 1) → sy_ai F1 39 = sy_ai F 39 → sy_ai F1 17 = jm_upd (sy_ai F 17) ((sy_i F 8).toInt).toNat (((-13) : Int32)) → (sy_i F1 82).toInt = (sy_i F 82).toInt → (sy_i F1 83).toInt = (sy_i F 83).toInt → (sy_i F1 84).toInt = 1 → (sy_i F1 85).toInt = ((sy_ai F 39).getD ((sy_i F 33).toInt).toNat 0).toInt → (sy_i F1 86).toInt = ((sy_i F 85).toInt + 1) → hd_W Ls xs d jm_M39 Q (23, sy_dL F1 [some (.inl (.ref 30)), some (.inr (.inl 82)), some (.inr (.inl 83)), some (.inr (.inl 84)), some (.inr (.inl 85)), some (.inr (.inl 86))], sy_dS F1 [], sy_dh F1 X1 X2 (iv_H 3), 0, 0))
    (k6 : (sy_i F 86).toInt ≠ 0 → (sy_i F 84).toInt = 42 → 512 ≤ (sy_i F 8).toInt → 0 ≤ (sy_i F 33).toInt → (sy_i F 33).toInt ≤ 400 → ∀ F1 : Nat → sy_d, iv_in F1 iv_B0 → (∀ j, j < 82 → j ∉ ([] : List Nat) → F1 j = F j) → (sy_i F1 33).toInt = (sy_i F 33).toInt → (sy_i F1 34).toInt = (sy_i F 34).toInt → (sy_i F1 8).toInt = (sy_i F 8).toInt → sy_ai F1 39 = sy_ai F 39 → sy_ai F1 17 = sy_ai F 17 → (sy_i F1 82).toInt = (sy_i F 82).toInt → (sy_i F1 83).toInt = (sy_i F 83).toInt → (sy_i F1 84).toInt = 1 → (sy_i F1 85).toInt = ((sy_ai F 39).getD ((sy_i F 33).toInt).toNat 0).toInt → (sy_i F1 86).toInt = ((sy_i F 85).toInt + 1) → hd_W Ls xs d jm_M39 Q (23, sy_dL F1 [some (.inl (.ref 30)), some (.inr (.inl 82)), some (.inr (.inl 83)), some (.inr (.inl 84)), some (.inr (.inl 85)), some (.inr (.inl 86))], sy_dS F1 [], sy_dh F1 X1 X2 (iv_H 3), 0, 0))
    (k7 : (sy_i F 86).toInt ≠ 0 → (sy_i F 84).toInt = 42 → (sy_i F 8).toInt < 512 → 0 ≤ (sy_i F 33).toInt → (sy_i F 33).toInt ≤ 400 → ∀ F1 : Nat → sy_d, iv_in F1 iv_B0 → (∀ j, j < 82 → j ∉ ([8, 17] : List Nat) → F1 j = F j) → (sy_i F1 33).toInt = (sy_i F 33).toInt → (sy_i F1 34).toInt = (sy_i F 34).toInt → (sy_i F1 8).toInt = ((sy_i F 8).toInt + 1) → sy_ai F1 39 = sy_ai F 39 → sy_ai F1 17 = jm_upd (sy_ai F 17) ((sy_i F 8).toInt).toNat (((-12) : Int32)) → (sy_i F1 82).toInt = (sy_i F 82).toInt → (sy_i F1 83).toInt = (sy_i F 83).toInt → (sy_i F1 84).toInt = 1 → (sy_i F1 85).toInt = ((sy_ai F 39).getD ((sy_i F 33).toInt).toNat 0).toInt → (sy_i F1 86).toInt = ((sy_i F 85).toInt + 1) → hd_W Ls xs d jm_M39 Q (23, sy_dL F1 [some (.inl (.ref 30)), some (.inr (.inl 82)), some (.inr (.inl 83)), some (.inr (.inl 84)), some (.inr (.inl 85)), some (.inr (.inl 86))], sy_dS F1 [], sy_dh F1 X1 X2 (iv_H 3), 0, 0)) :
    hd_W Ls xs d jm_M39 Q (64, sy_dL F [some (.inl (.ref 30)), some (.inr (.inl 82)), some (.inr (.inl 83)), none, some (.inr (.inl 84)), some (.inr (.inl 85))], sy_dS F [.inr (.inl 86)], sy_dh F X1 X2 (iv_H 3), 0, 0) := by
  by_cases g0 : (sy_i F 86).toInt = 0
  · by_cases g1 : (sy_i F 84).toInt ≠ 42
    · by_cases g2 : 512 ≤ (sy_i F 8).toInt
      · by_cases g3 : (sy_i F 33).toInt < 0
        · have c8 := nz_bx hB (k := 8) (lo := 0) (hi := 512) rfl
          have c33 := nz_bx hB (k := 33) (lo := 0) (hi := 400) rfl
          exfalso
          omega
        replace g3 : 0 ≤ (sy_i F 33).toInt := by omega
        by_cases g4 : 400 < (sy_i F 33).toInt
        · have c8 := nz_bx hB (k := 8) (lo := 0) (hi := 512) rfl
          have c33 := nz_bx hB (k := 33) (lo := 0) (hi := 400) rfl
          exfalso
          omega
        replace g4 : (sy_i F 33).toInt ≤ 400 := by omega
        have c8 := nz_bx hB (k := 8) (lo := 0) (hi := 512) rfl
        have c33 := nz_bx hB (k := 33) (lo := 0) (hi := 400) rfl
        have q87 : (sy_ai F 39).getD (sy_i F 33).toNatClampNeg 0 = (sy_ai F 39).getD ((sy_i F 33).toInt).toNat 0 := by simp only [nz_c]
        have n87 : ((sy_ai F 39).getD (sy_i F 33).toNatClampNeg 0).toInt = ((sy_ai F 39).getD ((sy_i F 33).toInt).toNat 0).toInt := congrArg Int32.toInt q87
        have n88 : ((sy_i F 85) + ((1 : Int32))).toInt = ((sy_i F 85).toInt + 1) := nz_add (rfl : (sy_i F 85).toInt = (sy_i F 85).toInt) (by decide : ((1 : Int32)).toInt = 1) (by omega) (by omega)
        exact k3pp_64_p0 hd F X1 X2 hB (by first | exact g0 | (simp only [nz_c]; exact g0)) (by first | exact g1 | (simp only [nz_c]; exact g1)) (by first | exact g2 | (simp only [nz_c]; exact g2)) (by first | exact g3 | (simp only [nz_c]; exact g3)) (by first | exact g4 | (simp only [nz_c]; exact g4)) (by first | exact ⟨by omega, by omega⟩ | (simp only [nz_c]; exact ⟨by omega, by omega⟩)) (fun F1 g e82 e83 e84 e85 e86 => k0 g0 g1 g2 g3 g4 F1 (nz_in0 hB [] (fun j hj hn => g j hj (by simp only [List.mem_cons, List.not_mem_nil, or_false, not_or] at hn; exact trivial)) (List.forall_mem_nil _)) (fun j hj hn => g j hj (by simp only [List.mem_cons, List.not_mem_nil, or_false, not_or] at hn; exact trivial)) (nz_fi (g 33 (by decide) (by decide))) (nz_fi (g 34 (by decide) (by decide))) (nz_fi (g 8 (by decide) (by decide))) (nz_fa (g 39 (by decide) (by decide))) (nz_fa (g 17 (by decide) (by decide))) ((congrArg Int32.toInt (zz_i e82)).trans (rfl : (sy_i F 82).toInt = (sy_i F 82).toInt)) ((congrArg Int32.toInt (zz_i e83)).trans (rfl : (sy_i F 83).toInt = (sy_i F 83).toInt)) ((congrArg Int32.toInt (zz_i e84)).trans (by decide : ((0 : Int32)).toInt = 0)) ((congrArg Int32.toInt (zz_i e85)).trans n87) ((congrArg Int32.toInt (zz_i e86)).trans n88))
      replace g2 : (sy_i F 8).toInt < 512 := by omega
      by_cases g3 : (sy_i F 33).toInt < 0
      · have c8 := nz_bx hB (k := 8) (lo := 0) (hi := 512) rfl
        have c33 := nz_bx hB (k := 33) (lo := 0) (hi := 400) rfl
        exfalso
        omega
      replace g3 : 0 ≤ (sy_i F 33).toInt := by omega
      by_cases g4 : 400 < (sy_i F 33).toInt
      · have c8 := nz_bx hB (k := 8) (lo := 0) (hi := 512) rfl
        have c33 := nz_bx hB (k := 33) (lo := 0) (hi := 400) rfl
        exfalso
        omega
      replace g4 : (sy_i F 33).toInt ≤ 400 := by omega
      have c8 := nz_bx hB (k := 8) (lo := 0) (hi := 512) rfl
      have c33 := nz_bx hB (k := 33) (lo := 0) (hi := 400) rfl
      have n88 : ((sy_i F 8) + ((1 : Int32))).toInt = ((sy_i F 8).toInt + 1) := nz_add (rfl : (sy_i F 8).toInt = (sy_i F 8).toInt) (by decide : ((1 : Int32)).toInt = 1) (by omega) (by omega)
      have w87 : jm_upd (sy_ai F 17) (sy_i F 8).toNatClampNeg (((-13) : Int32)) = jm_upd (sy_ai F 17) ((sy_i F 8).toInt).toNat (((-13) : Int32)) := by simp only [nz_c, (by decide : (((-13) : Int32)).toInt = (-13 : Int))]
      have q89 : (sy_ai F 39).getD (sy_i F 33).toNatClampNeg 0 = (sy_ai F 39).getD ((sy_i F 33).toInt).toNat 0 := by simp only [nz_c]
      have n89 : ((sy_ai F 39).getD (sy_i F 33).toNatClampNeg 0).toInt = ((sy_ai F 39).getD ((sy_i F 33).toInt).toNat 0).toInt := congrArg Int32.toInt q89
      have n90 : ((sy_i F 85) + ((1 : Int32))).toInt = ((sy_i F 85).toInt + 1) := nz_add (rfl : (sy_i F 85).toInt = (sy_i F 85).toInt) (by decide : ((1 : Int32)).toInt = 1) (by omega) (by omega)
      exact k3pp_64_p1 hd F X1 X2 hB (by first | exact g0 | (simp only [nz_c]; exact g0)) (by first | exact g1 | (simp only [nz_c]; exact g1)) (by first | exact g2 | (simp only [nz_c]; exact g2)) (by first | exact ⟨by omega, by omega⟩ | (simp only [nz_c]; exact ⟨by omega, by omega⟩)) (by first | exact g3 | (simp only [nz_c]; exact g3)) (by first | exact g4 | (simp only [nz_c]; exact g4)) (by first | exact ⟨by omega, by omega⟩ | (simp only [nz_c]; exact ⟨by omega, by omega⟩)) (fun F1 g e8 e17 e82 e83 e84 e85 e86 => k1 g0 g1 g2 g3 g4 F1 (nz_in0 hB [8, 17] (fun j hj hn => g j hj (by simp only [List.mem_cons, List.not_mem_nil, or_false, not_or] at hn; omega)) (List.forall_mem_cons.mpr ⟨fun t ht => (Option.some.inj ht) ▸ (nz_hi e8 n88 (by omega) (by omega)), List.forall_mem_cons.mpr ⟨fun t ht => (Option.some.inj ht) ▸ (nz_hA e17 (nz_up (nz_ba hB (k := 17) (lo := (-2147483648)) (hi := 2147483646) rfl) (by decide : (((-13) : Int32)).toInt = (-13 : Int)) (by omega) (by omega))), List.forall_mem_nil _⟩⟩)) (fun j hj hn => g j hj (by simp only [List.mem_cons, List.not_mem_nil, or_false, not_or] at hn; omega)) (nz_fi (g 33 (by decide) (by decide))) (nz_fi (g 34 (by decide) (by decide))) ((congrArg Int32.toInt (zz_i e8)).trans n88) (nz_fa (g 39 (by decide) (by decide))) ((zz_ai e17).trans w87) ((congrArg Int32.toInt (zz_i e82)).trans (rfl : (sy_i F 82).toInt = (sy_i F 82).toInt)) ((congrArg Int32.toInt (zz_i e83)).trans (rfl : (sy_i F 83).toInt = (sy_i F 83).toInt)) ((congrArg Int32.toInt (zz_i e84)).trans (by decide : ((0 : Int32)).toInt = 0)) ((congrArg Int32.toInt (zz_i e85)).trans n89) ((congrArg Int32.toInt (zz_i e86)).trans n90))
    replace g1 : (sy_i F 84).toInt = 42 := by omega
    by_cases g2 : 512 ≤ (sy_i F 8).toInt
    · by_cases g3 : (sy_i F 33).toInt < 0
      · have c8 := nz_bx hB (k := 8) (lo := 0) (hi := 512) rfl
        have c33 := nz_bx hB (k := 33) (lo := 0) (hi := 400) rfl
        exfalso
        omega
      replace g3 : 0 ≤ (sy_i F 33).toInt := by omega
      by_cases g4 : 400 < (sy_i F 33).toInt
      · have c8 := nz_bx hB (k := 8) (lo := 0) (hi := 512) rfl
        have c33 := nz_bx hB (k := 33) (lo := 0) (hi := 400) rfl
        exfalso
        omega
      replace g4 : (sy_i F 33).toInt ≤ 400 := by omega
      have c8 := nz_bx hB (k := 8) (lo := 0) (hi := 512) rfl
      have c33 := nz_bx hB (k := 33) (lo := 0) (hi := 400) rfl
      have q87 : (sy_ai F 39).getD (sy_i F 33).toNatClampNeg 0 = (sy_ai F 39).getD ((sy_i F 33).toInt).toNat 0 := by simp only [nz_c]
      have n87 : ((sy_ai F 39).getD (sy_i F 33).toNatClampNeg 0).toInt = ((sy_ai F 39).getD ((sy_i F 33).toInt).toNat 0).toInt := congrArg Int32.toInt q87
      have n88 : ((sy_i F 85) + ((1 : Int32))).toInt = ((sy_i F 85).toInt + 1) := nz_add (rfl : (sy_i F 85).toInt = (sy_i F 85).toInt) (by decide : ((1 : Int32)).toInt = 1) (by omega) (by omega)
      exact k3pp_64_p2 hd F X1 X2 hB (by first | exact g0 | (simp only [nz_c]; exact g0)) (by first | exact g1 | (simp only [nz_c]; exact g1)) (by first | exact g2 | (simp only [nz_c]; exact g2)) (by first | exact g3 | (simp only [nz_c]; exact g3)) (by first | exact g4 | (simp only [nz_c]; exact g4)) (by first | exact ⟨by omega, by omega⟩ | (simp only [nz_c]; exact ⟨by omega, by omega⟩)) (fun F1 g e82 e83 e84 e85 e86 => k2 g0 g1 g2 g3 g4 F1 (nz_in0 hB [] (fun j hj hn => g j hj (by simp only [List.mem_cons, List.not_mem_nil, or_false, not_or] at hn; exact trivial)) (List.forall_mem_nil _)) (fun j hj hn => g j hj (by simp only [List.mem_cons, List.not_mem_nil, or_false, not_or] at hn; exact trivial)) (nz_fi (g 33 (by decide) (by decide))) (nz_fi (g 34 (by decide) (by decide))) (nz_fi (g 8 (by decide) (by decide))) (nz_fa (g 39 (by decide) (by decide))) (nz_fa (g 17 (by decide) (by decide))) ((congrArg Int32.toInt (zz_i e82)).trans (rfl : (sy_i F 82).toInt = (sy_i F 82).toInt)) ((congrArg Int32.toInt (zz_i e83)).trans (rfl : (sy_i F 83).toInt = (sy_i F 83).toInt)) ((congrArg Int32.toInt (zz_i e84)).trans (by decide : ((0 : Int32)).toInt = 0)) ((congrArg Int32.toInt (zz_i e85)).trans n87) ((congrArg Int32.toInt (zz_i e86)).trans n88))
    replace g2 : (sy_i F 8).toInt < 512 := by omega
    by_cases g3 : (sy_i F 33).toInt < 0
    · have c8 := nz_bx hB (k := 8) (lo := 0) (hi := 512) rfl
      have c33 := nz_bx hB (k := 33) (lo := 0) (hi := 400) rfl
      exfalso
      omega
    replace g3 : 0 ≤ (sy_i F 33).toInt := by omega
    by_cases g4 : 400 < (sy_i F 33).toInt
    · have c8 := nz_bx hB (k := 8) (lo := 0) (hi := 512) rfl
      have c33 := nz_bx hB (k := 33) (lo := 0) (hi := 400) rfl
      exfalso
      omega
    replace g4 : (sy_i F 33).toInt ≤ 400 := by omega
    have c8 := nz_bx hB (k := 8) (lo := 0) (hi := 512) rfl
    have c33 := nz_bx hB (k := 33) (lo := 0) (hi := 400) rfl
    have n88 : ((sy_i F 8) + ((1 : Int32))).toInt = ((sy_i F 8).toInt + 1) := nz_add (rfl : (sy_i F 8).toInt = (sy_i F 8).toInt) (by decide : ((1 : Int32)).toInt = 1) (by omega) (by omega)
    have w87 : jm_upd (sy_ai F 17) (sy_i F 8).toNatClampNeg (((-12) : Int32)) = jm_upd (sy_ai F 17) ((sy_i F 8).toInt).toNat (((-12) : Int32)) := by simp only [nz_c, (by decide : (((-12) : Int32)).toInt = (-12 : Int))]
    have q89 : (sy_ai F 39).getD (sy_i F 33).toNatClampNeg 0 = (sy_ai F 39).getD ((sy_i F 33).toInt).toNat 0 := by simp only [nz_c]
    have n89 : ((sy_ai F 39).getD (sy_i F 33).toNatClampNeg 0).toInt = ((sy_ai F 39).getD ((sy_i F 33).toInt).toNat 0).toInt := congrArg Int32.toInt q89
    have n90 : ((sy_i F 85) + ((1 : Int32))).toInt = ((sy_i F 85).toInt + 1) := nz_add (rfl : (sy_i F 85).toInt = (sy_i F 85).toInt) (by decide : ((1 : Int32)).toInt = 1) (by omega) (by omega)
    exact k3pp_64_p3 hd F X1 X2 hB (by first | exact g0 | (simp only [nz_c]; exact g0)) (by first | exact g1 | (simp only [nz_c]; exact g1)) (by first | exact g2 | (simp only [nz_c]; exact g2)) (by first | exact ⟨by omega, by omega⟩ | (simp only [nz_c]; exact ⟨by omega, by omega⟩)) (by first | exact g3 | (simp only [nz_c]; exact g3)) (by first | exact g4 | (simp only [nz_c]; exact g4)) (by first | exact ⟨by omega, by omega⟩ | (simp only [nz_c]; exact ⟨by omega, by omega⟩)) (fun F1 g e8 e17 e82 e83 e84 e85 e86 => k3 g0 g1 g2 g3 g4 F1 (nz_in0 hB [8, 17] (fun j hj hn => g j hj (by simp only [List.mem_cons, List.not_mem_nil, or_false, not_or] at hn; omega)) (List.forall_mem_cons.mpr ⟨fun t ht => (Option.some.inj ht) ▸ (nz_hi e8 n88 (by omega) (by omega)), List.forall_mem_cons.mpr ⟨fun t ht => (Option.some.inj ht) ▸ (nz_hA e17 (nz_up (nz_ba hB (k := 17) (lo := (-2147483648)) (hi := 2147483646) rfl) (by decide : (((-12) : Int32)).toInt = (-12 : Int)) (by omega) (by omega))), List.forall_mem_nil _⟩⟩)) (fun j hj hn => g j hj (by simp only [List.mem_cons, List.not_mem_nil, or_false, not_or] at hn; omega)) (nz_fi (g 33 (by decide) (by decide))) (nz_fi (g 34 (by decide) (by decide))) ((congrArg Int32.toInt (zz_i e8)).trans n88) (nz_fa (g 39 (by decide) (by decide))) ((zz_ai e17).trans w87) ((congrArg Int32.toInt (zz_i e82)).trans (rfl : (sy_i F 82).toInt = (sy_i F 82).toInt)) ((congrArg Int32.toInt (zz_i e83)).trans (rfl : (sy_i F 83).toInt = (sy_i F 83).toInt)) ((congrArg Int32.toInt (zz_i e84)).trans (by decide : ((0 : Int32)).toInt = 0)) ((congrArg Int32.toInt (zz_i e85)).trans n89) ((congrArg Int32.toInt (zz_i e86)).trans n90))
  replace g0 : (sy_i F 86).toInt ≠ 0 := by omega
  by_cases g1 : (sy_i F 84).toInt ≠ 42
  · by_cases g2 : 512 ≤ (sy_i F 8).toInt
    · by_cases g3 : (sy_i F 33).toInt < 0
      · have c8 := nz_bx hB (k := 8) (lo := 0) (hi := 512) rfl
        have c33 := nz_bx hB (k := 33) (lo := 0) (hi := 400) rfl
        exfalso
        omega
      replace g3 : 0 ≤ (sy_i F 33).toInt := by omega
      by_cases g4 : 400 < (sy_i F 33).toInt
      · have c8 := nz_bx hB (k := 8) (lo := 0) (hi := 512) rfl
        have c33 := nz_bx hB (k := 33) (lo := 0) (hi := 400) rfl
        exfalso
        omega
      replace g4 : (sy_i F 33).toInt ≤ 400 := by omega
      have c8 := nz_bx hB (k := 8) (lo := 0) (hi := 512) rfl
      have c33 := nz_bx hB (k := 33) (lo := 0) (hi := 400) rfl
      have q87 : (sy_ai F 39).getD (sy_i F 33).toNatClampNeg 0 = (sy_ai F 39).getD ((sy_i F 33).toInt).toNat 0 := by simp only [nz_c]
      have n87 : ((sy_ai F 39).getD (sy_i F 33).toNatClampNeg 0).toInt = ((sy_ai F 39).getD ((sy_i F 33).toInt).toNat 0).toInt := congrArg Int32.toInt q87
      have n88 : ((sy_i F 85) + ((1 : Int32))).toInt = ((sy_i F 85).toInt + 1) := nz_add (rfl : (sy_i F 85).toInt = (sy_i F 85).toInt) (by decide : ((1 : Int32)).toInt = 1) (by omega) (by omega)
      exact k3pp_64_p4 hd F X1 X2 hB (by first | exact g0 | (simp only [nz_c]; exact g0)) (by first | exact g1 | (simp only [nz_c]; exact g1)) (by first | exact g2 | (simp only [nz_c]; exact g2)) (by first | exact g3 | (simp only [nz_c]; exact g3)) (by first | exact g4 | (simp only [nz_c]; exact g4)) (by first | exact ⟨by omega, by omega⟩ | (simp only [nz_c]; exact ⟨by omega, by omega⟩)) (fun F1 g e82 e83 e84 e85 e86 => k4 g0 g1 g2 g3 g4 F1 (nz_in0 hB [] (fun j hj hn => g j hj (by simp only [List.mem_cons, List.not_mem_nil, or_false, not_or] at hn; exact trivial)) (List.forall_mem_nil _)) (fun j hj hn => g j hj (by simp only [List.mem_cons, List.not_mem_nil, or_false, not_or] at hn; exact trivial)) (nz_fi (g 33 (by decide) (by decide))) (nz_fi (g 34 (by decide) (by decide))) (nz_fi (g 8 (by decide) (by decide))) (nz_fa (g 39 (by decide) (by decide))) (nz_fa (g 17 (by decide) (by decide))) ((congrArg Int32.toInt (zz_i e82)).trans (rfl : (sy_i F 82).toInt = (sy_i F 82).toInt)) ((congrArg Int32.toInt (zz_i e83)).trans (rfl : (sy_i F 83).toInt = (sy_i F 83).toInt)) ((congrArg Int32.toInt (zz_i e84)).trans (by decide : ((1 : Int32)).toInt = 1)) ((congrArg Int32.toInt (zz_i e85)).trans n87) ((congrArg Int32.toInt (zz_i e86)).trans n88))
    replace g2 : (sy_i F 8).toInt < 512 := by omega
    by_cases g3 : (sy_i F 33).toInt < 0
    · have c8 := nz_bx hB (k := 8) (lo := 0) (hi := 512) rfl
      have c33 := nz_bx hB (k := 33) (lo := 0) (hi := 400) rfl
      exfalso
      omega
    replace g3 : 0 ≤ (sy_i F 33).toInt := by omega
    by_cases g4 : 400 < (sy_i F 33).toInt
    · have c8 := nz_bx hB (k := 8) (lo := 0) (hi := 512) rfl
      have c33 := nz_bx hB (k := 33) (lo := 0) (hi := 400) rfl
      exfalso
      omega
    replace g4 : (sy_i F 33).toInt ≤ 400 := by omega
    have c8 := nz_bx hB (k := 8) (lo := 0) (hi := 512) rfl
    have c33 := nz_bx hB (k := 33) (lo := 0) (hi := 400) rfl
    have n88 : ((sy_i F 8) + ((1 : Int32))).toInt = ((sy_i F 8).toInt + 1) := nz_add (rfl : (sy_i F 8).toInt = (sy_i F 8).toInt) (by decide : ((1 : Int32)).toInt = 1) (by omega) (by omega)
    have w87 : jm_upd (sy_ai F 17) (sy_i F 8).toNatClampNeg (((-13) : Int32)) = jm_upd (sy_ai F 17) ((sy_i F 8).toInt).toNat (((-13) : Int32)) := by simp only [nz_c, (by decide : (((-13) : Int32)).toInt = (-13 : Int))]
    have q89 : (sy_ai F 39).getD (sy_i F 33).toNatClampNeg 0 = (sy_ai F 39).getD ((sy_i F 33).toInt).toNat 0 := by simp only [nz_c]
    have n89 : ((sy_ai F 39).getD (sy_i F 33).toNatClampNeg 0).toInt = ((sy_ai F 39).getD ((sy_i F 33).toInt).toNat 0).toInt := congrArg Int32.toInt q89
    have n90 : ((sy_i F 85) + ((1 : Int32))).toInt = ((sy_i F 85).toInt + 1) := nz_add (rfl : (sy_i F 85).toInt = (sy_i F 85).toInt) (by decide : ((1 : Int32)).toInt = 1) (by omega) (by omega)
    exact k3pp_64_p5 hd F X1 X2 hB (by first | exact g0 | (simp only [nz_c]; exact g0)) (by first | exact g1 | (simp only [nz_c]; exact g1)) (by first | exact g2 | (simp only [nz_c]; exact g2)) (by first | exact ⟨by omega, by omega⟩ | (simp only [nz_c]; exact ⟨by omega, by omega⟩)) (by first | exact g3 | (simp only [nz_c]; exact g3)) (by first | exact g4 | (simp only [nz_c]; exact g4)) (by first | exact ⟨by omega, by omega⟩ | (simp only [nz_c]; exact ⟨by omega, by omega⟩)) (fun F1 g e8 e17 e82 e83 e84 e85 e86 => k5 g0 g1 g2 g3 g4 F1 (nz_in0 hB [8, 17] (fun j hj hn => g j hj (by simp only [List.mem_cons, List.not_mem_nil, or_false, not_or] at hn; omega)) (List.forall_mem_cons.mpr ⟨fun t ht => (Option.some.inj ht) ▸ (nz_hi e8 n88 (by omega) (by omega)), List.forall_mem_cons.mpr ⟨fun t ht => (Option.some.inj ht) ▸ (nz_hA e17 (nz_up (nz_ba hB (k := 17) (lo := (-2147483648)) (hi := 2147483646) rfl) (by decide : (((-13) : Int32)).toInt = (-13 : Int)) (by omega) (by omega))), List.forall_mem_nil _⟩⟩)) (fun j hj hn => g j hj (by simp only [List.mem_cons, List.not_mem_nil, or_false, not_or] at hn; omega)) (nz_fi (g 33 (by decide) (by decide))) (nz_fi (g 34 (by decide) (by decide))) ((congrArg Int32.toInt (zz_i e8)).trans n88) (nz_fa (g 39 (by decide) (by decide))) ((zz_ai e17).trans w87) ((congrArg Int32.toInt (zz_i e82)).trans (rfl : (sy_i F 82).toInt = (sy_i F 82).toInt)) ((congrArg Int32.toInt (zz_i e83)).trans (rfl : (sy_i F 83).toInt = (sy_i F 83).toInt)) ((congrArg Int32.toInt (zz_i e84)).trans (by decide : ((1 : Int32)).toInt = 1)) ((congrArg Int32.toInt (zz_i e85)).trans n89) ((congrArg Int32.toInt (zz_i e86)).trans n90))
  replace g1 : (sy_i F 84).toInt = 42 := by omega
  by_cases g2 : 512 ≤ (sy_i F 8).toInt
  · by_cases g3 : (sy_i F 33).toInt < 0
    · have c8 := nz_bx hB (k := 8) (lo := 0) (hi := 512) rfl
      have c33 := nz_bx hB (k := 33) (lo := 0) (hi := 400) rfl
      exfalso
      omega
    replace g3 : 0 ≤ (sy_i F 33).toInt := by omega
    by_cases g4 : 400 < (sy_i F 33).toInt
    · have c8 := nz_bx hB (k := 8) (lo := 0) (hi := 512) rfl
      have c33 := nz_bx hB (k := 33) (lo := 0) (hi := 400) rfl
      exfalso
      omega
    replace g4 : (sy_i F 33).toInt ≤ 400 := by omega
    have c8 := nz_bx hB (k := 8) (lo := 0) (hi := 512) rfl
    have c33 := nz_bx hB (k := 33) (lo := 0) (hi := 400) rfl
    have q87 : (sy_ai F 39).getD (sy_i F 33).toNatClampNeg 0 = (sy_ai F 39).getD ((sy_i F 33).toInt).toNat 0 := by simp only [nz_c]
    have n87 : ((sy_ai F 39).getD (sy_i F 33).toNatClampNeg 0).toInt = ((sy_ai F 39).getD ((sy_i F 33).toInt).toNat 0).toInt := congrArg Int32.toInt q87
    have n88 : ((sy_i F 85) + ((1 : Int32))).toInt = ((sy_i F 85).toInt + 1) := nz_add (rfl : (sy_i F 85).toInt = (sy_i F 85).toInt) (by decide : ((1 : Int32)).toInt = 1) (by omega) (by omega)
    exact k3pp_64_p6 hd F X1 X2 hB (by first | exact g0 | (simp only [nz_c]; exact g0)) (by first | exact g1 | (simp only [nz_c]; exact g1)) (by first | exact g2 | (simp only [nz_c]; exact g2)) (by first | exact g3 | (simp only [nz_c]; exact g3)) (by first | exact g4 | (simp only [nz_c]; exact g4)) (by first | exact ⟨by omega, by omega⟩ | (simp only [nz_c]; exact ⟨by omega, by omega⟩)) (fun F1 g e82 e83 e84 e85 e86 => k6 g0 g1 g2 g3 g4 F1 (nz_in0 hB [] (fun j hj hn => g j hj (by simp only [List.mem_cons, List.not_mem_nil, or_false, not_or] at hn; exact trivial)) (List.forall_mem_nil _)) (fun j hj hn => g j hj (by simp only [List.mem_cons, List.not_mem_nil, or_false, not_or] at hn; exact trivial)) (nz_fi (g 33 (by decide) (by decide))) (nz_fi (g 34 (by decide) (by decide))) (nz_fi (g 8 (by decide) (by decide))) (nz_fa (g 39 (by decide) (by decide))) (nz_fa (g 17 (by decide) (by decide))) ((congrArg Int32.toInt (zz_i e82)).trans (rfl : (sy_i F 82).toInt = (sy_i F 82).toInt)) ((congrArg Int32.toInt (zz_i e83)).trans (rfl : (sy_i F 83).toInt = (sy_i F 83).toInt)) ((congrArg Int32.toInt (zz_i e84)).trans (by decide : ((1 : Int32)).toInt = 1)) ((congrArg Int32.toInt (zz_i e85)).trans n87) ((congrArg Int32.toInt (zz_i e86)).trans n88))
  replace g2 : (sy_i F 8).toInt < 512 := by omega
  by_cases g3 : (sy_i F 33).toInt < 0
  · have c8 := nz_bx hB (k := 8) (lo := 0) (hi := 512) rfl
    have c33 := nz_bx hB (k := 33) (lo := 0) (hi := 400) rfl
    exfalso
    omega
  replace g3 : 0 ≤ (sy_i F 33).toInt := by omega
  by_cases g4 : 400 < (sy_i F 33).toInt
  · have c8 := nz_bx hB (k := 8) (lo := 0) (hi := 512) rfl
    have c33 := nz_bx hB (k := 33) (lo := 0) (hi := 400) rfl
    exfalso
    omega
  replace g4 : (sy_i F 33).toInt ≤ 400 := by omega
  have c8 := nz_bx hB (k := 8) (lo := 0) (hi := 512) rfl
  have c33 := nz_bx hB (k := 33) (lo := 0) (hi := 400) rfl
  have n88 : ((sy_i F 8) + ((1 : Int32))).toInt = ((sy_i F 8).toInt + 1) := nz_add (rfl : (sy_i F 8).toInt = (sy_i F 8).toInt) (by decide : ((1 : Int32)).toInt = 1) (by omega) (by omega)
  have w87 : jm_upd (sy_ai F 17) (sy_i F 8).toNatClampNeg (((-12) : Int32)) = jm_upd (sy_ai F 17) ((sy_i F 8).toInt).toNat (((-12) : Int32)) := by simp only [nz_c, (by decide : (((-12) : Int32)).toInt = (-12 : Int))]
  have q89 : (sy_ai F 39).getD (sy_i F 33).toNatClampNeg 0 = (sy_ai F 39).getD ((sy_i F 33).toInt).toNat 0 := by simp only [nz_c]
  have n89 : ((sy_ai F 39).getD (sy_i F 33).toNatClampNeg 0).toInt = ((sy_ai F 39).getD ((sy_i F 33).toInt).toNat 0).toInt := congrArg Int32.toInt q89
  have n90 : ((sy_i F 85) + ((1 : Int32))).toInt = ((sy_i F 85).toInt + 1) := nz_add (rfl : (sy_i F 85).toInt = (sy_i F 85).toInt) (by decide : ((1 : Int32)).toInt = 1) (by omega) (by omega)
  exact k3pp_64_p7 hd F X1 X2 hB (by first | exact g0 | (simp only [nz_c]; exact g0)) (by first | exact g1 | (simp only [nz_c]; exact g1)) (by first | exact g2 | (simp only [nz_c]; exact g2)) (by first | exact ⟨by omega, by omega⟩ | (simp only [nz_c]; exact ⟨by omega, by omega⟩)) (by first | exact g3 | (simp only [nz_c]; exact g3)) (by first | exact g4 | (simp only [nz_c]; exact g4)) (by first | exact ⟨by omega, by omega⟩ | (simp only [nz_c]; exact ⟨by omega, by omega⟩)) (fun F1 g e8 e17 e82 e83 e84 e85 e86 => k7 g0 g1 g2 g3 g4 F1 (nz_in0 hB [8, 17] (fun j hj hn => g j hj (by simp only [List.mem_cons, List.not_mem_nil, or_false, not_or] at hn; omega)) (List.forall_mem_cons.mpr ⟨fun t ht => (Option.some.inj ht) ▸ (nz_hi e8 n88 (by omega) (by omega)), List.forall_mem_cons.mpr ⟨fun t ht => (Option.some.inj ht) ▸ (nz_hA e17 (nz_up (nz_ba hB (k := 17) (lo := (-2147483648)) (hi := 2147483646) rfl) (by decide : (((-12) : Int32)).toInt = (-12 : Int)) (by omega) (by omega))), List.forall_mem_nil _⟩⟩)) (fun j hj hn => g j hj (by simp only [List.mem_cons, List.not_mem_nil, or_false, not_or] at hn; omega)) (nz_fi (g 33 (by decide) (by decide))) (nz_fi (g 34 (by decide) (by decide))) ((congrArg Int32.toInt (zz_i e8)).trans n88) (nz_fa (g 39 (by decide) (by decide))) ((zz_ai e17).trans w87) ((congrArg Int32.toInt (zz_i e82)).trans (rfl : (sy_i F 82).toInt = (sy_i F 82).toInt)) ((congrArg Int32.toInt (zz_i e83)).trans (rfl : (sy_i F 83).toInt = (sy_i F 83).toInt)) ((congrArg Int32.toInt (zz_i e84)).trans (by decide : ((1 : Int32)).toInt = 1)) ((congrArg Int32.toInt (zz_i e85)).trans n89) ((congrArg Int32.toInt (zz_i e86)).trans n90))
theorem k3zs_0 {Ls : Nat} {xs : Nat → Int32} {d : Nat} {Q : Option Value → jm_h → Prop} (hd : 4 ≤ d) (F : Nat → sy_d) (X1 X2 : List jm_c) (hB : iv_in F iv_B0)
    (k0 : ∀ F1 : Nat → sy_d, iv_in F1 iv_B0 → (∀ j, j < 82 → j ∉ ([] : List Nat) → F1 j = F j) → (sy_i F1 33).toInt = (sy_i F 33).toInt → (sy_i F1 34).toInt = (sy_i F 34).toInt → (sy_i F1 8).toInt = (sy_i F 8).toInt → sy_ai F1 39 = sy_ai F 39 → sy_ai F1 17 = sy_ai F 17 → (sy_i F1 82).toInt = (sy_i F 82).toInt → (sy_i F1 83).toInt = (sy_i F 83).toInt → hd_W Ls xs d jm_M38 Q (3, sy_dL F1 [some (.inl (.ref 30)), some (.inr (.inl 82)), some (.inr (.inl 83)), none, none, none], sy_dS F1 [.inr (.inl 83), .inr (.inl 82), .inl (.ref 30)], sy_dh F1 X1 X2 (iv_H 3), 0, 0)) :
    hd_W Ls xs d jm_M38 Q (0, sy_dL F [some (.inl (.ref 30)), some (.inr (.inl 82)), some (.inr (.inl 83)), none, none, none], sy_dS F [], sy_dh F X1 X2 (iv_H 3), 0, 0) := by
  exact k3ps_0_p0 hd F X1 X2 hB  (fun F1 g e82 e83 => k0 F1 (nz_in0 hB [] (fun j hj hn => g j hj (by simp only [List.mem_cons, List.not_mem_nil, or_false, not_or] at hn; exact trivial)) (List.forall_mem_nil _)) (fun j hj hn => g j hj (by simp only [List.mem_cons, List.not_mem_nil, or_false, not_or] at hn; exact trivial)) (nz_fi (g 33 (by decide) (by decide))) (nz_fi (g 34 (by decide) (by decide))) (nz_fi (g 8 (by decide) (by decide))) (nz_fa (g 39 (by decide) (by decide))) (nz_fa (g 17 (by decide) (by decide))) ((congrArg Int32.toInt (zz_i e82)).trans (rfl : (sy_i F 82).toInt = (sy_i F 82).toInt)) ((congrArg Int32.toInt (zz_i e83)).trans (rfl : (sy_i F 83).toInt = (sy_i F 83).toInt)))
theorem k3zs_6 {Ls : Nat} {xs : Nat → Int32} {d : Nat} {Q : Option Value → jm_h → Prop} (hd : 4 ≤ d) (F : Nat → sy_d) (X1 X2 : List jm_c) (hB : iv_in F iv_B0)
    (k0 : 0 ≤ (sy_i F 33).toInt → (sy_i F 33).toInt ≤ 400 → ∀ F1 : Nat → sy_d, iv_in F1 iv_B0 → (∀ j, j < 82 → j ∉ ([] : List Nat) → F1 j = F j) → (sy_i F1 33).toInt = (sy_i F 33).toInt → (sy_i F1 34).toInt = (sy_i F 34).toInt → (sy_i F1 8).toInt = (sy_i F 8).toInt → sy_ai F1 39 = sy_ai F 39 → sy_ai F1 17 = sy_ai F 17 → (sy_i F1 82).toInt = (sy_i F 82).toInt → (sy_i F1 83).toInt = (sy_i F 83).toInt → (sy_i F1 84).toInt = (sy_i F 84).toInt → (sy_i F1 85).toInt = ((sy_ai F 39).getD ((sy_i F 33).toInt).toNat 0).toInt → (sy_i F1 86).toInt = 0 → hd_W Ls xs d jm_M38 Q (23, sy_dL F1 [some (.inl (.ref 30)), some (.inr (.inl 82)), some (.inr (.inl 83)), some (.inr (.inl 84)), some (.inr (.inl 85)), some (.inr (.inl 86))], sy_dS F1 [], sy_dh F1 X1 X2 (iv_H 3), 0, 0)) :
    hd_W Ls xs d jm_M38 Q (6, sy_dL F [some (.inl (.ref 30)), some (.inr (.inl 82)), some (.inr (.inl 83)), none, none, none], sy_dS F [.inr (.inl 84)], sy_dh F X1 X2 (iv_H 3), 0, 0) := by
  by_cases g0 : (sy_i F 33).toInt < 0
  · have c33 := nz_bx hB (k := 33) (lo := 0) (hi := 400) rfl
    exfalso
    omega
  replace g0 : 0 ≤ (sy_i F 33).toInt := by omega
  by_cases g1 : 400 < (sy_i F 33).toInt
  · have c33 := nz_bx hB (k := 33) (lo := 0) (hi := 400) rfl
    exfalso
    omega
  replace g1 : (sy_i F 33).toInt ≤ 400 := by omega
  have c33 := nz_bx hB (k := 33) (lo := 0) (hi := 400) rfl
  have q85 : (sy_ai F 39).getD (sy_i F 33).toNatClampNeg 0 = (sy_ai F 39).getD ((sy_i F 33).toInt).toNat 0 := by simp only [nz_c]
  have n85 : ((sy_ai F 39).getD (sy_i F 33).toNatClampNeg 0).toInt = ((sy_ai F 39).getD ((sy_i F 33).toInt).toNat 0).toInt := congrArg Int32.toInt q85
  exact k3ps_6_p0 hd F X1 X2 hB (by first | exact g0 | (simp only [nz_c]; exact g0)) (by first | exact g1 | (simp only [nz_c]; exact g1)) (by first | exact ⟨by omega, by omega⟩ | (simp only [nz_c]; exact ⟨by omega, by omega⟩)) (fun F1 g e82 e83 e84 e85 e86 => k0 g0 g1 F1 (nz_in0 hB [] (fun j hj hn => g j hj (by simp only [List.mem_cons, List.not_mem_nil, or_false, not_or] at hn; exact trivial)) (List.forall_mem_nil _)) (fun j hj hn => g j hj (by simp only [List.mem_cons, List.not_mem_nil, or_false, not_or] at hn; exact trivial)) (nz_fi (g 33 (by decide) (by decide))) (nz_fi (g 34 (by decide) (by decide))) (nz_fi (g 8 (by decide) (by decide))) (nz_fa (g 39 (by decide) (by decide))) (nz_fa (g 17 (by decide) (by decide))) ((congrArg Int32.toInt (zz_i e82)).trans (rfl : (sy_i F 82).toInt = (sy_i F 82).toInt)) ((congrArg Int32.toInt (zz_i e83)).trans (rfl : (sy_i F 83).toInt = (sy_i F 83).toInt)) ((congrArg Int32.toInt (zz_i e84)).trans (rfl : (sy_i F 84).toInt = (sy_i F 84).toInt)) ((congrArg Int32.toInt (zz_i e85)).trans n85) ((congrArg Int32.toInt (zz_i e86)).trans (by decide : ((0 : Int32)).toInt = 0)))
theorem k3zs_23 {Ls : Nat} {xs : Nat → Int32} {d : Nat} {Q : Option Value → jm_h → Prop} (hd : 4 ≤ d) (F : Nat → sy_d) (X1 X2 : List jm_c) (hB : iv_in F iv_B0)
    (a86 : 0 ≤ (sy_i F 86).toInt ∧ (sy_i F 86).toInt ≤ 401)
    (o0 : 400 < (sy_i F 86).toInt → ((sy_i F 84).toInt = 0 ∨ (sy_i F 84).toInt = 1))
    (o1 : (sy_i F 86).toInt ≤ 400 → (sy_i F 84).toInt ≠ 0 → (sy_i F 85).toInt ≠ 43 → (sy_i F 85).toInt ≠ 45 → ((sy_i F 84).toInt = 0 ∨ (sy_i F 84).toInt = 1))
    (k0 : 400 < (sy_i F 86).toInt → ∀ F1 : Nat → sy_d, iv_in F1 iv_B0 → (∀ j, j < 82 → j ∉ ([] : List Nat) → F1 j = F j) → (sy_i F1 33).toInt = (sy_i F 33).toInt → (sy_i F1 34).toInt = (sy_i F 34).toInt → (sy_i F1 8).toInt = (sy_i F 8).toInt → sy_ai F1 39 = sy_ai F 39 → sy_ai F1 17 = sy_ai F 17 → Q (some (.int (sy_i F 84))) (sy_dh F1 X1 X2 (iv_H 3)))
    (k1 : (sy_i F 86).toInt ≤ 400 → (sy_i F 84).toInt = 0 → ∀ F1 : Nat → sy_d, iv_in F1 iv_B0 → (∀ j, j < 82 → j ∉ ([] : List Nat) → F1 j = F j) → (sy_i F1 33).toInt = (sy_i F 33).toInt → (sy_i F1 34).toInt = (sy_i F 34).toInt → (sy_i F1 8).toInt = (sy_i F 8).toInt → sy_ai F1 39 = sy_ai F 39 → sy_ai F1 17 = sy_ai F 17 → Q (some (.int (sy_i F 84))) (sy_dh F1 X1 X2 (iv_H 3)))
    (k2 : (sy_i F 86).toInt ≤ 400 → (sy_i F 84).toInt ≠ 0 → (sy_i F 85).toInt = 43 → 0 ≤ (sy_i F 33).toInt → (sy_i F 33).toInt ≤ 400 → ((sy_ai F 39).getD ((sy_i F 33).toInt).toNat 0).toInt = (sy_i F 85).toInt → (sy_i F 33).toInt < 400 → ∀ F1 : Nat → sy_d, iv_in F1 iv_B0 → (∀ j, j < 82 → j ∉ ([33] : List Nat) → F1 j = F j) → (sy_i F1 33).toInt = ((sy_i F 33).toInt + 1) → (sy_i F1 34).toInt = (sy_i F 34).toInt → (sy_i F1 8).toInt = (sy_i F 8).toInt → sy_ai F1 39 = sy_ai F 39 → sy_ai F1 17 = sy_ai F 17 → (sy_i F1 82).toInt = (sy_i F 82).toInt → (sy_i F1 83).toInt = (sy_i F 83).toInt → (sy_i F1 84).toInt = (sy_i F 85).toInt → (sy_i F1 85).toInt = (sy_i F 86).toInt → hd_W Ls xs d jm_M38 Q (61, sy_dL F1 [some (.inl (.ref 30)), some (.inr (.inl 82)), some (.inr (.inl 83)), none, some (.inr (.inl 84)), some (.inr (.inl 85))], sy_dS F1 [.inr (.inl 83), .inr (.inl 82), .inl (.ref 30)], sy_dh F1 X1 X2 (iv_H 3), 0, 0))
    (k3 : (sy_i F 86).toInt ≤ 400 → (sy_i F 84).toInt ≠ 0 → (sy_i F 85).toInt = 43 → 0 ≤ (sy_i F 33).toInt → (sy_i F 33).toInt ≤ 400 → ((sy_ai F 39).getD ((sy_i F 33).toInt).toNat 0).toInt = (sy_i F 85).toInt → 400 ≤ (sy_i F 33).toInt → (sy_i F 85).toInt = 43 → 512 ≤ (sy_i F 8).toInt → 0 ≤ (sy_i F 33).toInt → (sy_i F 33).toInt ≤ 400 → ∀ F1 : Nat → sy_d, iv_in F1 iv_B0 → (∀ j, j < 82 → j ∉ ([34] : List Nat) → F1 j = F j) → (sy_i F1 33).toInt = (sy_i F 33).toInt → (sy_i F1 34).toInt = 2 → (sy_i F1 8).toInt = (sy_i F 8).toInt → sy_ai F1 39 = sy_ai F 39 → sy_ai F1 17 = sy_ai F 17 → (sy_i F1 82).toInt = (sy_i F 82).toInt → (sy_i F1 83).toInt = (sy_i F 83).toInt → (sy_i F1 84).toInt = 0 → (sy_i F1 85).toInt = ((sy_ai F 39).getD ((sy_i F 33).toInt).toNat 0).toInt → (sy_i F1 86).toInt = ((sy_i F 86).toInt + 1) → hd_W Ls xs d jm_M38 Q (23, sy_dL F1 [some (.inl (.ref 30)), some (.inr (.inl 82)), some (.inr (.inl 83)), some (.inr (.inl 84)), some (.inr (.inl 85)), some (.inr (.inl 86))], sy_dS F1 [], sy_dh F1 X1 X2 (iv_H 3), 0, 0))
    (k4 : (sy_i F 86).toInt ≤ 400 → (sy_i F 84).toInt ≠ 0 → (sy_i F 85).toInt = 43 → 0 ≤ (sy_i F 33).toInt → (sy_i F 33).toInt ≤ 400 → ((sy_ai F 39).getD ((sy_i F 33).toInt).toNat 0).toInt = (sy_i F 85).toInt → 400 ≤ (sy_i F 33).toInt → (sy_i F 85).toInt = 43 → (sy_i F 8).toInt < 512 → 0 ≤ (sy_i F 33).toInt → (sy_i F 33).toInt ≤ 400 → ∀ F1 : Nat → sy_d, iv_in F1 iv_B0 → (∀ j, j < 82 → j ∉ ([8, 17, 34] : List Nat) → F1 j = F j) → (sy_i F1 33).toInt = (sy_i F 33).toInt → (sy_i F1 34).toInt = 2 → (sy_i F1 8).toInt = ((sy_i F 8).toInt + 1) → sy_ai F1 39 = sy_ai F 39 → sy_ai F1 17 = jm_upd (sy_ai F 17) ((sy_i F 8).toInt).toNat (((-10) : Int32)) → (sy_i F1 82).toInt = (sy_i F 82).toInt → (sy_i F1 83).toInt = (sy_i F 83).toInt → (sy_i F1 84).toInt = 0 → (sy_i F1 85).toInt = ((sy_ai F 39).getD ((sy_i F 33).toInt).toNat 0).toInt → (sy_i F1 86).toInt = ((sy_i F 86).toInt + 1) → hd_W Ls xs d jm_M38 Q (23, sy_dL F1 [some (.inl (.ref 30)), some (.inr (.inl 82)), some (.inr (.inl 83)), some (.inr (.inl 84)), some (.inr (.inl 85)), some (.inr (.inl 86))], sy_dS F1 [], sy_dh F1 X1 X2 (iv_H 3), 0, 0))
    (k5 : (sy_i F 86).toInt ≤ 400 → (sy_i F 84).toInt ≠ 0 → (sy_i F 85).toInt = 43 → 0 ≤ (sy_i F 33).toInt → (sy_i F 33).toInt ≤ 400 → ((sy_ai F 39).getD ((sy_i F 33).toInt).toNat 0).toInt ≠ (sy_i F 85).toInt → (sy_i F 85).toInt = 43 → 512 ≤ (sy_i F 8).toInt → 0 ≤ (sy_i F 33).toInt → (sy_i F 33).toInt ≤ 400 → ∀ F1 : Nat → sy_d, iv_in F1 iv_B0 → (∀ j, j < 82 → j ∉ ([34] : List Nat) → F1 j = F j) → (sy_i F1 33).toInt = (sy_i F 33).toInt → (sy_i F1 34).toInt = 1 → (sy_i F1 8).toInt = (sy_i F 8).toInt → sy_ai F1 39 = sy_ai F 39 → sy_ai F1 17 = sy_ai F 17 → (sy_i F1 82).toInt = (sy_i F 82).toInt → (sy_i F1 83).toInt = (sy_i F 83).toInt → (sy_i F1 84).toInt = 0 → (sy_i F1 85).toInt = ((sy_ai F 39).getD ((sy_i F 33).toInt).toNat 0).toInt → (sy_i F1 86).toInt = ((sy_i F 86).toInt + 1) → hd_W Ls xs d jm_M38 Q (23, sy_dL F1 [some (.inl (.ref 30)), some (.inr (.inl 82)), some (.inr (.inl 83)), some (.inr (.inl 84)), some (.inr (.inl 85)), some (.inr (.inl 86))], sy_dS F1 [], sy_dh F1 X1 X2 (iv_H 3), 0, 0))
    (k6 : (sy_i F 86).toInt ≤ 400 → (sy_i F 84).toInt ≠ 0 → (sy_i F 85).toInt = 43 → 0 ≤ (sy_i F 33).toInt → (sy_i F 33).toInt ≤ 400 → ((sy_ai F 39).getD ((sy_i F 33).toInt).toNat 0).toInt ≠ (sy_i F 85).toInt → (sy_i F 85).toInt = 43 → (sy_i F 8).toInt < 512 → 0 ≤ (sy_i F 33).toInt → (sy_i F 33).toInt ≤ 400 → ∀ F1 : Nat → sy_d, iv_in F1 iv_B0 → (∀ j, j < 82 → j ∉ ([8, 17, 34] : List Nat) → F1 j = F j) → (sy_i F1 33).toInt = (sy_i F 33).toInt → (sy_i F1 34).toInt = 1 → (sy_i F1 8).toInt = ((sy_i F 8).toInt + 1) → sy_ai F1 39 = sy_ai F 39 → sy_ai F1 17 = jm_upd (sy_ai F 17) ((sy_i F 8).toInt).toNat (((-10) : Int32)) → (sy_i F1 82).toInt = (sy_i F 82).toInt → (sy_i F1 83).toInt = (sy_i F 83).toInt → (sy_i F1 84).toInt = 0 → (sy_i F1 85).toInt = ((sy_ai F 39).getD ((sy_i F 33).toInt).toNat 0).toInt → (sy_i F1 86).toInt = ((sy_i F 86).toInt + 1) → hd_W Ls xs d jm_M38 Q (23, sy_dL F1 [some (.inl (.ref 30)), some (.inr (.inl 82)), some (.inr (.inl 83)), some (.inr (.inl 84)), some (.inr (.inl 85)), some (.inr (.inl 86))], sy_dS F1 [], sy_dh F1 X1 X2 (iv_H 3), 0, 0))
    (k7 : (sy_i F 86).toInt ≤ 400 → (sy_i F 84).toInt ≠ 0 → (sy_i F 85).toInt ≠ 43 → (sy_i F 85).toInt ≠ 45 → ∀ F1 : Nat → sy_d, iv_in F1 iv_B0 → (∀ j, j < 82 → j ∉ ([] : List Nat) → F1 j = F j) → (sy_i F1 33).toInt = (sy_i F 33).toInt → (sy_i F1 34).toInt = (sy_i F 34).toInt → (sy_i F1 8).toInt = (sy_i F 8).toInt → sy_ai F1 39 = sy_ai F 39 → sy_ai F1 17 = sy_ai F 17 → Q (some (.int (sy_i F 84))) (sy_dh F1 X1 X2 (iv_H 3)))
    (k8 : (sy_i F 86).toInt ≤ 400 → (sy_i F 84).toInt ≠ 0 → (sy_i F 85).toInt ≠ 43 → (sy_i F 85).toInt = 45 → 0 ≤ (sy_i F 33).toInt → (sy_i F 33).toInt ≤ 400 → ((sy_ai F 39).getD ((sy_i F 33).toInt).toNat 0).toInt = (sy_i F 85).toInt → (sy_i F 33).toInt < 400 → ∀ F1 : Nat → sy_d, iv_in F1 iv_B0 → (∀ j, j < 82 → j ∉ ([33] : List Nat) → F1 j = F j) → (sy_i F1 33).toInt = ((sy_i F 33).toInt + 1) → (sy_i F1 34).toInt = (sy_i F 34).toInt → (sy_i F1 8).toInt = (sy_i F 8).toInt → sy_ai F1 39 = sy_ai F 39 → sy_ai F1 17 = sy_ai F 17 → (sy_i F1 82).toInt = (sy_i F 82).toInt → (sy_i F1 83).toInt = (sy_i F 83).toInt → (sy_i F1 84).toInt = (sy_i F 85).toInt → (sy_i F1 85).toInt = (sy_i F 86).toInt → hd_W Ls xs d jm_M38 Q (61, sy_dL F1 [some (.inl (.ref 30)), some (.inr (.inl 82)), some (.inr (.inl 83)), none, some (.inr (.inl 84)), some (.inr (.inl 85))], sy_dS F1 [.inr (.inl 83), .inr (.inl 82), .inl (.ref 30)], sy_dh F1 X1 X2 (iv_H 3), 0, 0))
    (k9 : (sy_i F 86).toInt ≤ 400 → (sy_i F 84).toInt ≠ 0 → (sy_i F 85).toInt ≠ 43 → (sy_i F 85).toInt = 45 → 0 ≤ (sy_i F 33).toInt → (sy_i F 33).toInt ≤ 400 → ((sy_ai F 39).getD ((sy_i F 33).toInt).toNat 0).toInt = (sy_i F 85).toInt → 400 ≤ (sy_i F 33).toInt → (sy_i F 85).toInt ≠ 43 → 512 ≤ (sy_i F 8).toInt → 0 ≤ (sy_i F 33).toInt → (sy_i F 33).toInt ≤ 400 → ∀ F1 : Nat → sy_d, iv_in F1 iv_B0 → (∀ j, j < 82 → j ∉ ([34] : List Nat) → F1 j = F j) → (sy_i F1 33).toInt = (sy_i F 33).toInt → (sy_i F1 34).toInt = 2 → (sy_i F1 8).toInt = (sy_i F 8).toInt → sy_ai F1 39 = sy_ai F 39 → sy_ai F1 17 = sy_ai F 17 → (sy_i F1 82).toInt = (sy_i F 82).toInt → (sy_i F1 83).toInt = (sy_i F 83).toInt → (sy_i F1 84).toInt = 0 → (sy_i F1 85).toInt = ((sy_ai F 39).getD ((sy_i F 33).toInt).toNat 0).toInt → (sy_i F1 86).toInt = ((sy_i F 86).toInt + 1) → hd_W Ls xs d jm_M38 Q (23, sy_dL F1 [some (.inl (.ref 30)), some (.inr (.inl 82)), some (.inr (.inl 83)), some (.inr (.inl 84)), some (.inr (.inl 85)), some (.inr (.inl 86))], sy_dS F1 [], sy_dh F1 X1 X2 (iv_H 3), 0, 0))
    (k10 : (sy_i F 86).toInt ≤ 400 → (sy_i F 84).toInt ≠ 0 → (sy_i F 85).toInt ≠ 43 → (sy_i F 85).toInt = 45 → 0 ≤ (sy_i F 33).toInt → (sy_i F 33).toInt ≤ 400 → ((sy_ai F 39).getD ((sy_i F 33).toInt).toNat 0).toInt = (sy_i F 85).toInt → 400 ≤ (sy_i F 33).toInt → (sy_i F 85).toInt ≠ 43 → (sy_i F 8).toInt < 512 → 0 ≤ (sy_i F 33).toInt → (sy_i F 33).toInt ≤ 400 → ∀ F1 : Nat → sy_d, iv_in F1 iv_B0 → (∀ j, j < 82 → j ∉ ([8, 17, 34] : List Nat) → F1 j = F j) → (sy_i F1 33).toInt = (sy_i F 33).toInt → (sy_i F1 34).toInt = 2 → (sy_i F1 8).toInt = ((sy_i F 8).toInt + 1) → sy_ai F1 39 = sy_ai F 39 → sy_ai F1 17 = jm_upd (sy_ai F 17) ((sy_i F 8).toInt).toNat (((-11) : Int32)) → (sy_i F1 82).toInt = (sy_i F 82).toInt → (sy_i F1 83).toInt = (sy_i F 83).toInt → (sy_i F1 84).toInt = 0 → (sy_i F1 85).toInt = ((sy_ai F 39).getD ((sy_i F 33).toInt).toNat 0).toInt → (sy_i F1 86).toInt = ((sy_i F 86).toInt + 1) → hd_W Ls xs d jm_M38 Q (23, sy_dL F1 [some (.inl (.ref 30)), some (.inr (.inl 82)), some (.inr (.inl 83)), some (.inr (.inl 84)), some (.inr (.inl 85)), some (.inr (.inl 86))], sy_dS F1 [], sy_dh F1 X1 X2 (iv_H 3), 0, 0))
    (k11 : (sy_i F 86).toInt ≤ 400 → (sy_i F 84).toInt ≠ 0 → (sy_i F 85).toInt ≠ 43 → (sy_i F 85).toInt = 45 → 0 ≤ (sy_i F 33).toInt → (sy_i F 33).toInt ≤ 400 → ((sy_ai F 39).getD ((sy_i F 33).toInt).toNat 0).toInt ≠ (sy_i F 85).toInt → (sy_i F 85).toInt ≠ 43 → 512 ≤ (sy_i F 8).toInt → 0 ≤ (sy_i F 33).toInt → (sy_i F 33).toInt ≤ 400 → ∀ F1 : Nat → sy_d, iv_in F1 iv_B0 → (∀ j, j < 82 → j ∉ ([34] : List Nat) → F1 j = F j) → (sy_i F1 33).toInt = (sy_i F 33).toInt → (sy_i F1 34).toInt = 1 → (sy_i F1 8).toInt = (sy_i F 8).toInt → sy_ai F1 39 = sy_ai F 39 → sy_ai F1 17 = sy_ai F 17 → (sy_i F1 82).toInt = (sy_i F 82).toInt → (sy_i F1 83).toInt = (sy_i F 83).toInt → (sy_i F1 84).toInt = 0 → (sy_i F1 85).toInt = ((sy_ai F 39).getD ((sy_i F 33).toInt).toNat 0).toInt → (sy_i F1 86).toInt = ((sy_i F 86).toInt + 1) → hd_W Ls xs d jm_M38 Q (23, sy_dL F1 [some (.inl (.ref 30)), some (.inr (.inl 82)), some (.inr (.inl 83)), some (.inr (.inl 84)), some (.inr (.inl 85)), some (.inr (.inl 86))], sy_dS F1 [], sy_dh F1 X1 X2 (iv_H 3), 0, 0))
    (k12 : (sy_i F 86).toInt ≤ 400 → (sy_i F 84).toInt ≠ 0 → (sy_i F 85).toInt ≠ 43 → (sy_i F 85).toInt = 45 → 0 ≤ (sy_i F 33).toInt → (sy_i F 33).toInt ≤ 400 → ((sy_ai F 39).getD ((sy_i F 33).toInt).toNat 0).toInt ≠ (sy_i F 85).toInt → (sy_i F 85).toInt ≠ 43 → (sy_i F 8).toInt < 512 → 0 ≤ (sy_i F 33).toInt → (sy_i F 33).toInt ≤ 400 → ∀ F1 : Nat → sy_d, iv_in F1 iv_B0 → (∀ j, j < 82 → j ∉ ([8, 17, 34] : List Nat) → F1 j = F j) → (sy_i F1 33).toInt = (sy_i F 33).toInt → (sy_i F1 34).toInt = 1 → (sy_i F1 8).toInt = ((sy_i F 8).toInt + 1) → sy_ai F1 39 = sy_ai F 39 → sy_ai F1 17 = jm_upd (sy_ai F 17) ((sy_i F 8).toInt).toNat (((-11) : Int32)) → (sy_i F1 82).toInt = (sy_i F 82).toInt → (sy_i F1 83).toInt = (sy_i F 83).toInt → (sy_i F1 84).toInt = 0 → (sy_i F1 85).toInt = ((sy_ai F 39).getD ((sy_i F 33).toInt).toNat 0).toInt → (sy_i F1 86).toInt = ((sy_i F 86).toInt + 1) → hd_W Ls xs d jm_M38 Q (23, sy_dL F1 [some (.inl (.ref 30)), some (.inr (.inl 82)), some (.inr (.inl 83)), some (.inr (.inl 84)), some (.inr (.inl 85)), some (.inr (.inl 86))], sy_dS F1 [], sy_dh F1 X1 X2 (iv_H 3), 0, 0)) :
    hd_W Ls xs d jm_M38 Q (23, sy_dL F [some (.inl (.ref 30)), some (.inr (.inl 82)), some (.inr (.inl 83)), some (.inr (.inl 84)), some (.inr (.inl 85)), some (.inr (.inl 86))], sy_dS F [], sy_dh F X1 X2 (iv_H 3), 0, 0) := by
  by_cases g0 : 400 < (sy_i F 86).toInt
  · exact k3ps_23_p0 hd F X1 X2 hB (by first | exact g0 | (simp only [nz_c]; exact g0)) (by first | exact (o0 g0) | (simp only [nz_c]; exact (o0 g0))) (fun F1 g  => by rw [(rfl : sy_i F 84 = sy_i F 84)]; exact k0 g0 F1 (nz_in0 hB [] (fun j hj hn => g j hj (by simp only [List.mem_cons, List.not_mem_nil, or_false, not_or] at hn; exact trivial)) (List.forall_mem_nil _)) (fun j hj hn => g j hj (by simp only [List.mem_cons, List.not_mem_nil, or_false, not_or] at hn; exact trivial)) (nz_fi (g 33 (by decide) (by decide))) (nz_fi (g 34 (by decide) (by decide))) (nz_fi (g 8 (by decide) (by decide))) (nz_fa (g 39 (by decide) (by decide))) (nz_fa (g 17 (by decide) (by decide))))
  replace g0 : (sy_i F 86).toInt ≤ 400 := by omega
  by_cases g1 : (sy_i F 84).toInt = 0
  · exact k3ps_23_p1 hd F X1 X2 hB (by first | exact g0 | (simp only [nz_c]; exact g0)) (by first | exact g1 | (simp only [nz_c]; exact g1)) (by first | exact (by omega) | (simp only [nz_c]; exact (by omega))) (fun F1 g  => by rw [(rfl : sy_i F 84 = sy_i F 84)]; exact k1 g0 g1 F1 (nz_in0 hB [] (fun j hj hn => g j hj (by simp only [List.mem_cons, List.not_mem_nil, or_false, not_or] at hn; exact trivial)) (List.forall_mem_nil _)) (fun j hj hn => g j hj (by simp only [List.mem_cons, List.not_mem_nil, or_false, not_or] at hn; exact trivial)) (nz_fi (g 33 (by decide) (by decide))) (nz_fi (g 34 (by decide) (by decide))) (nz_fi (g 8 (by decide) (by decide))) (nz_fa (g 39 (by decide) (by decide))) (nz_fa (g 17 (by decide) (by decide))))
  replace g1 : (sy_i F 84).toInt ≠ 0 := by omega
  by_cases g2 : (sy_i F 85).toInt = 43
  · by_cases g3 : (sy_i F 33).toInt < 0
    · have c33 := nz_bx hB (k := 33) (lo := 0) (hi := 400) rfl
      exfalso
      omega
    replace g3 : 0 ≤ (sy_i F 33).toInt := by omega
    by_cases g4 : 400 < (sy_i F 33).toInt
    · have c33 := nz_bx hB (k := 33) (lo := 0) (hi := 400) rfl
      exfalso
      omega
    replace g4 : (sy_i F 33).toInt ≤ 400 := by omega
    by_cases g5 : ((sy_ai F 39).getD ((sy_i F 33).toInt).toNat 0).toInt = (sy_i F 85).toInt
    · by_cases g6 : (sy_i F 33).toInt < 400
      · have c33 := nz_bx hB (k := 33) (lo := 0) (hi := 400) rfl
        have q87 : (sy_ai F 39).getD (sy_i F 33).toNatClampNeg 0 = (sy_ai F 39).getD ((sy_i F 33).toInt).toNat 0 := by simp only [nz_c]
        have n87 : ((sy_ai F 39).getD (sy_i F 33).toNatClampNeg 0).toInt = ((sy_ai F 39).getD ((sy_i F 33).toInt).toNat 0).toInt := congrArg Int32.toInt q87
        have n88 : ((sy_i F 33) + ((1 : Int32))).toInt = ((sy_i F 33).toInt + 1) := nz_add (rfl : (sy_i F 33).toInt = (sy_i F 33).toInt) (by decide : ((1 : Int32)).toInt = 1) (by omega) (by omega)
        exact k3ps_23_p2 hd F X1 X2 hB (by first | exact g0 | (simp only [nz_c]; exact g0)) (by first | exact g1 | (simp only [nz_c]; exact g1)) (by first | exact g2 | (simp only [nz_c]; exact g2)) (by first | exact g3 | (simp only [nz_c]; exact g3)) (by first | exact g4 | (simp only [nz_c]; exact g4)) (by first | exact ⟨by omega, by omega⟩ | (simp only [nz_c]; exact ⟨by omega, by omega⟩)) (by first | exact g5 | (simp only [nz_c]; exact g5) | (rw [n87]; exact g5)) (by first | exact g6 | (simp only [nz_c]; exact g6)) (fun F1 g e33 e82 e83 e84 e85 => k2 g0 g1 g2 g3 g4 g5 g6 F1 (nz_in0 hB [33] (fun j hj hn => g j hj (by simp only [List.mem_cons, List.not_mem_nil, or_false, not_or] at hn; omega)) (List.forall_mem_cons.mpr ⟨fun t ht => (Option.some.inj ht) ▸ (nz_hi e33 n88 (by omega) (by omega)), List.forall_mem_nil _⟩)) (fun j hj hn => g j hj (by simp only [List.mem_cons, List.not_mem_nil, or_false, not_or] at hn; omega)) ((congrArg Int32.toInt (zz_i e33)).trans n88) (nz_fi (g 34 (by decide) (by decide))) (nz_fi (g 8 (by decide) (by decide))) (nz_fa (g 39 (by decide) (by decide))) (nz_fa (g 17 (by decide) (by decide))) ((congrArg Int32.toInt (zz_i e82)).trans (rfl : (sy_i F 82).toInt = (sy_i F 82).toInt)) ((congrArg Int32.toInt (zz_i e83)).trans (rfl : (sy_i F 83).toInt = (sy_i F 83).toInt)) ((congrArg Int32.toInt (zz_i e84)).trans (rfl : (sy_i F 85).toInt = (sy_i F 85).toInt)) ((congrArg Int32.toInt (zz_i e85)).trans (rfl : (sy_i F 86).toInt = (sy_i F 86).toInt)))
      replace g6 : 400 ≤ (sy_i F 33).toInt := by omega
      by_cases g7 : (sy_i F 85).toInt ≠ 43
      · have c33 := nz_bx hB (k := 33) (lo := 0) (hi := 400) rfl
        have q87 : (sy_ai F 39).getD (sy_i F 33).toNatClampNeg 0 = (sy_ai F 39).getD ((sy_i F 33).toInt).toNat 0 := by simp only [nz_c]
        have n87 : ((sy_ai F 39).getD (sy_i F 33).toNatClampNeg 0).toInt = ((sy_ai F 39).getD ((sy_i F 33).toInt).toNat 0).toInt := congrArg Int32.toInt q87
        exfalso
        omega
      replace g7 : (sy_i F 85).toInt = 43 := by omega
      by_cases g8 : 512 ≤ (sy_i F 8).toInt
      · by_cases g9 : (sy_i F 33).toInt < 0
        · have c33 := nz_bx hB (k := 33) (lo := 0) (hi := 400) rfl
          have q87 : (sy_ai F 39).getD (sy_i F 33).toNatClampNeg 0 = (sy_ai F 39).getD ((sy_i F 33).toInt).toNat 0 := by simp only [nz_c]
          have n87 : ((sy_ai F 39).getD (sy_i F 33).toNatClampNeg 0).toInt = ((sy_ai F 39).getD ((sy_i F 33).toInt).toNat 0).toInt := congrArg Int32.toInt q87
          have c8 := nz_bx hB (k := 8) (lo := 0) (hi := 512) rfl
          exfalso
          omega
        replace g9 : 0 ≤ (sy_i F 33).toInt := by omega
        by_cases g10 : 400 < (sy_i F 33).toInt
        · have c33 := nz_bx hB (k := 33) (lo := 0) (hi := 400) rfl
          have q87 : (sy_ai F 39).getD (sy_i F 33).toNatClampNeg 0 = (sy_ai F 39).getD ((sy_i F 33).toInt).toNat 0 := by simp only [nz_c]
          have n87 : ((sy_ai F 39).getD (sy_i F 33).toNatClampNeg 0).toInt = ((sy_ai F 39).getD ((sy_i F 33).toInt).toNat 0).toInt := congrArg Int32.toInt q87
          have c8 := nz_bx hB (k := 8) (lo := 0) (hi := 512) rfl
          exfalso
          omega
        replace g10 : (sy_i F 33).toInt ≤ 400 := by omega
        have c33 := nz_bx hB (k := 33) (lo := 0) (hi := 400) rfl
        have q87 : (sy_ai F 39).getD (sy_i F 33).toNatClampNeg 0 = (sy_ai F 39).getD ((sy_i F 33).toInt).toNat 0 := by simp only [nz_c]
        have n87 : ((sy_ai F 39).getD (sy_i F 33).toNatClampNeg 0).toInt = ((sy_ai F 39).getD ((sy_i F 33).toInt).toNat 0).toInt := congrArg Int32.toInt q87
        have c8 := nz_bx hB (k := 8) (lo := 0) (hi := 512) rfl
        have q88 : (sy_ai F 39).getD (sy_i F 33).toNatClampNeg 0 = (sy_ai F 39).getD ((sy_i F 33).toInt).toNat 0 := by simp only [nz_c]
        have n88 : ((sy_ai F 39).getD (sy_i F 33).toNatClampNeg 0).toInt = ((sy_ai F 39).getD ((sy_i F 33).toInt).toNat 0).toInt := congrArg Int32.toInt q88
        have n89 : ((sy_i F 86) + ((1 : Int32))).toInt = ((sy_i F 86).toInt + 1) := nz_add (rfl : (sy_i F 86).toInt = (sy_i F 86).toInt) (by decide : ((1 : Int32)).toInt = 1) (by omega) (by omega)
        exact k3ps_23_p3 hd F X1 X2 hB (by first | exact g0 | (simp only [nz_c]; exact g0)) (by first | exact g1 | (simp only [nz_c]; exact g1)) (by first | exact g2 | (simp only [nz_c]; exact g2)) (by first | exact g3 | (simp only [nz_c]; exact g3)) (by first | exact g4 | (simp only [nz_c]; exact g4)) (by first | exact ⟨by omega, by omega⟩ | (simp only [nz_c]; exact ⟨by omega, by omega⟩)) (by first | exact g5 | (simp only [nz_c]; exact g5) | (rw [n87]; exact g5)) (by first | exact g6 | (simp only [nz_c]; exact g6)) (by first | exact g7 | (simp only [nz_c]; exact g7)) (by first | exact g8 | (simp only [nz_c]; exact g8)) (by first | exact g9 | (simp only [nz_c]; exact g9)) (by first | exact g10 | (simp only [nz_c]; exact g10)) (by first | exact ⟨by omega, by omega⟩ | (simp only [nz_c]; exact ⟨by omega, by omega⟩)) (fun F1 g e34 e82 e83 e84 e85 e86 => k3 g0 g1 g2 g3 g4 g5 g6 g7 g8 g9 g10 F1 (nz_in0 hB [34] (fun j hj hn => g j hj (by simp only [List.mem_cons, List.not_mem_nil, or_false, not_or] at hn; omega)) (List.forall_mem_cons.mpr ⟨fun t ht => (Option.some.inj ht) ▸ (nz_hz e34), List.forall_mem_nil _⟩)) (fun j hj hn => g j hj (by simp only [List.mem_cons, List.not_mem_nil, or_false, not_or] at hn; omega)) (nz_fi (g 33 (by decide) (by decide))) ((congrArg Int32.toInt (zz_i e34)).trans (by decide : ((2 : Int32)).toInt = 2)) (nz_fi (g 8 (by decide) (by decide))) (nz_fa (g 39 (by decide) (by decide))) (nz_fa (g 17 (by decide) (by decide))) ((congrArg Int32.toInt (zz_i e82)).trans (rfl : (sy_i F 82).toInt = (sy_i F 82).toInt)) ((congrArg Int32.toInt (zz_i e83)).trans (rfl : (sy_i F 83).toInt = (sy_i F 83).toInt)) ((congrArg Int32.toInt (zz_i e84)).trans (by decide : ((0 : Int32)).toInt = 0)) ((congrArg Int32.toInt (zz_i e85)).trans n88) ((congrArg Int32.toInt (zz_i e86)).trans n89))
      replace g8 : (sy_i F 8).toInt < 512 := by omega
      by_cases g9 : (sy_i F 33).toInt < 0
      · have c33 := nz_bx hB (k := 33) (lo := 0) (hi := 400) rfl
        have q87 : (sy_ai F 39).getD (sy_i F 33).toNatClampNeg 0 = (sy_ai F 39).getD ((sy_i F 33).toInt).toNat 0 := by simp only [nz_c]
        have n87 : ((sy_ai F 39).getD (sy_i F 33).toNatClampNeg 0).toInt = ((sy_ai F 39).getD ((sy_i F 33).toInt).toNat 0).toInt := congrArg Int32.toInt q87
        have c8 := nz_bx hB (k := 8) (lo := 0) (hi := 512) rfl
        exfalso
        omega
      replace g9 : 0 ≤ (sy_i F 33).toInt := by omega
      by_cases g10 : 400 < (sy_i F 33).toInt
      · have c33 := nz_bx hB (k := 33) (lo := 0) (hi := 400) rfl
        have q87 : (sy_ai F 39).getD (sy_i F 33).toNatClampNeg 0 = (sy_ai F 39).getD ((sy_i F 33).toInt).toNat 0 := by simp only [nz_c]
        have n87 : ((sy_ai F 39).getD (sy_i F 33).toNatClampNeg 0).toInt = ((sy_ai F 39).getD ((sy_i F 33).toInt).toNat 0).toInt := congrArg Int32.toInt q87
        have c8 := nz_bx hB (k := 8) (lo := 0) (hi := 512) rfl
        exfalso
        omega
      replace g10 : (sy_i F 33).toInt ≤ 400 := by omega
      have c33 := nz_bx hB (k := 33) (lo := 0) (hi := 400) rfl
      have q87 : (sy_ai F 39).getD (sy_i F 33).toNatClampNeg 0 = (sy_ai F 39).getD ((sy_i F 33).toInt).toNat 0 := by simp only [nz_c]
      have n87 : ((sy_ai F 39).getD (sy_i F 33).toNatClampNeg 0).toInt = ((sy_ai F 39).getD ((sy_i F 33).toInt).toNat 0).toInt := congrArg Int32.toInt q87
      have c8 := nz_bx hB (k := 8) (lo := 0) (hi := 512) rfl
      have n89 : ((sy_i F 8) + ((1 : Int32))).toInt = ((sy_i F 8).toInt + 1) := nz_add (rfl : (sy_i F 8).toInt = (sy_i F 8).toInt) (by decide : ((1 : Int32)).toInt = 1) (by omega) (by omega)
      have w88 : jm_upd (sy_ai F 17) (sy_i F 8).toNatClampNeg (((-10) : Int32)) = jm_upd (sy_ai F 17) ((sy_i F 8).toInt).toNat (((-10) : Int32)) := by simp only [nz_c, (by decide : (((-10) : Int32)).toInt = (-10 : Int))]
      have q90 : (sy_ai F 39).getD (sy_i F 33).toNatClampNeg 0 = (sy_ai F 39).getD ((sy_i F 33).toInt).toNat 0 := by simp only [nz_c]
      have n90 : ((sy_ai F 39).getD (sy_i F 33).toNatClampNeg 0).toInt = ((sy_ai F 39).getD ((sy_i F 33).toInt).toNat 0).toInt := congrArg Int32.toInt q90
      have n91 : ((sy_i F 86) + ((1 : Int32))).toInt = ((sy_i F 86).toInt + 1) := nz_add (rfl : (sy_i F 86).toInt = (sy_i F 86).toInt) (by decide : ((1 : Int32)).toInt = 1) (by omega) (by omega)
      exact k3ps_23_p4 hd F X1 X2 hB (by first | exact g0 | (simp only [nz_c]; exact g0)) (by first | exact g1 | (simp only [nz_c]; exact g1)) (by first | exact g2 | (simp only [nz_c]; exact g2)) (by first | exact g3 | (simp only [nz_c]; exact g3)) (by first | exact g4 | (simp only [nz_c]; exact g4)) (by first | exact ⟨by omega, by omega⟩ | (simp only [nz_c]; exact ⟨by omega, by omega⟩)) (by first | exact g5 | (simp only [nz_c]; exact g5) | (rw [n87]; exact g5)) (by first | exact g6 | (simp only [nz_c]; exact g6)) (by first | exact g7 | (simp only [nz_c]; exact g7)) (by first | exact g8 | (simp only [nz_c]; exact g8)) (by first | exact ⟨by omega, by omega⟩ | (simp only [nz_c]; exact ⟨by omega, by omega⟩)) (by first | exact g9 | (simp only [nz_c]; exact g9)) (by first | exact g10 | (simp only [nz_c]; exact g10)) (by first | exact ⟨by omega, by omega⟩ | (simp only [nz_c]; exact ⟨by omega, by omega⟩)) (fun F1 g e8 e17 e34 e82 e83 e84 e85 e86 => k4 g0 g1 g2 g3 g4 g5 g6 g7 g8 g9 g10 F1 (nz_in0 hB [8, 17, 34] (fun j hj hn => g j hj (by simp only [List.mem_cons, List.not_mem_nil, or_false, not_or] at hn; omega)) (List.forall_mem_cons.mpr ⟨fun t ht => (Option.some.inj ht) ▸ (nz_hi e8 n89 (by omega) (by omega)), List.forall_mem_cons.mpr ⟨fun t ht => (Option.some.inj ht) ▸ (nz_hA e17 (nz_up (nz_ba hB (k := 17) (lo := (-2147483648)) (hi := 2147483646) rfl) (by decide : (((-10) : Int32)).toInt = (-10 : Int)) (by omega) (by omega))), List.forall_mem_cons.mpr ⟨fun t ht => (Option.some.inj ht) ▸ (nz_hz e34), List.forall_mem_nil _⟩⟩⟩)) (fun j hj hn => g j hj (by simp only [List.mem_cons, List.not_mem_nil, or_false, not_or] at hn; omega)) (nz_fi (g 33 (by decide) (by decide))) ((congrArg Int32.toInt (zz_i e34)).trans (by decide : ((2 : Int32)).toInt = 2)) ((congrArg Int32.toInt (zz_i e8)).trans n89) (nz_fa (g 39 (by decide) (by decide))) ((zz_ai e17).trans w88) ((congrArg Int32.toInt (zz_i e82)).trans (rfl : (sy_i F 82).toInt = (sy_i F 82).toInt)) ((congrArg Int32.toInt (zz_i e83)).trans (rfl : (sy_i F 83).toInt = (sy_i F 83).toInt)) ((congrArg Int32.toInt (zz_i e84)).trans (by decide : ((0 : Int32)).toInt = 0)) ((congrArg Int32.toInt (zz_i e85)).trans n90) ((congrArg Int32.toInt (zz_i e86)).trans n91))
    replace g5 : ((sy_ai F 39).getD ((sy_i F 33).toInt).toNat 0).toInt ≠ (sy_i F 85).toInt := by omega
    by_cases g6 : (sy_i F 85).toInt ≠ 43
    · have c33 := nz_bx hB (k := 33) (lo := 0) (hi := 400) rfl
      have q87 : (sy_ai F 39).getD (sy_i F 33).toNatClampNeg 0 = (sy_ai F 39).getD ((sy_i F 33).toInt).toNat 0 := by simp only [nz_c]
      have n87 : ((sy_ai F 39).getD (sy_i F 33).toNatClampNeg 0).toInt = ((sy_ai F 39).getD ((sy_i F 33).toInt).toNat 0).toInt := congrArg Int32.toInt q87
      exfalso
      omega
    replace g6 : (sy_i F 85).toInt = 43 := by omega
    by_cases g7 : 512 ≤ (sy_i F 8).toInt
    · by_cases g8 : (sy_i F 33).toInt < 0
      · have c33 := nz_bx hB (k := 33) (lo := 0) (hi := 400) rfl
        have q87 : (sy_ai F 39).getD (sy_i F 33).toNatClampNeg 0 = (sy_ai F 39).getD ((sy_i F 33).toInt).toNat 0 := by simp only [nz_c]
        have n87 : ((sy_ai F 39).getD (sy_i F 33).toNatClampNeg 0).toInt = ((sy_ai F 39).getD ((sy_i F 33).toInt).toNat 0).toInt := congrArg Int32.toInt q87
        have c8 := nz_bx hB (k := 8) (lo := 0) (hi := 512) rfl
        exfalso
        omega
      replace g8 : 0 ≤ (sy_i F 33).toInt := by omega
      by_cases g9 : 400 < (sy_i F 33).toInt
      · have c33 := nz_bx hB (k := 33) (lo := 0) (hi := 400) rfl
        have q87 : (sy_ai F 39).getD (sy_i F 33).toNatClampNeg 0 = (sy_ai F 39).getD ((sy_i F 33).toInt).toNat 0 := by simp only [nz_c]
        have n87 : ((sy_ai F 39).getD (sy_i F 33).toNatClampNeg 0).toInt = ((sy_ai F 39).getD ((sy_i F 33).toInt).toNat 0).toInt := congrArg Int32.toInt q87
        have c8 := nz_bx hB (k := 8) (lo := 0) (hi := 512) rfl
        exfalso
        omega
      replace g9 : (sy_i F 33).toInt ≤ 400 := by omega
      have c33 := nz_bx hB (k := 33) (lo := 0) (hi := 400) rfl
      have q87 : (sy_ai F 39).getD (sy_i F 33).toNatClampNeg 0 = (sy_ai F 39).getD ((sy_i F 33).toInt).toNat 0 := by simp only [nz_c]
      have n87 : ((sy_ai F 39).getD (sy_i F 33).toNatClampNeg 0).toInt = ((sy_ai F 39).getD ((sy_i F 33).toInt).toNat 0).toInt := congrArg Int32.toInt q87
      have c8 := nz_bx hB (k := 8) (lo := 0) (hi := 512) rfl
      have q88 : (sy_ai F 39).getD (sy_i F 33).toNatClampNeg 0 = (sy_ai F 39).getD ((sy_i F 33).toInt).toNat 0 := by simp only [nz_c]
      have n88 : ((sy_ai F 39).getD (sy_i F 33).toNatClampNeg 0).toInt = ((sy_ai F 39).getD ((sy_i F 33).toInt).toNat 0).toInt := congrArg Int32.toInt q88
      have n89 : ((sy_i F 86) + ((1 : Int32))).toInt = ((sy_i F 86).toInt + 1) := nz_add (rfl : (sy_i F 86).toInt = (sy_i F 86).toInt) (by decide : ((1 : Int32)).toInt = 1) (by omega) (by omega)
      exact k3ps_23_p5 hd F X1 X2 hB (by first | exact g0 | (simp only [nz_c]; exact g0)) (by first | exact g1 | (simp only [nz_c]; exact g1)) (by first | exact g2 | (simp only [nz_c]; exact g2)) (by first | exact g3 | (simp only [nz_c]; exact g3)) (by first | exact g4 | (simp only [nz_c]; exact g4)) (by first | exact ⟨by omega, by omega⟩ | (simp only [nz_c]; exact ⟨by omega, by omega⟩)) (by first | exact g5 | (simp only [nz_c]; exact g5) | (rw [n87]; exact g5)) (by first | exact g6 | (simp only [nz_c]; exact g6)) (by first | exact g7 | (simp only [nz_c]; exact g7)) (by first | exact g8 | (simp only [nz_c]; exact g8)) (by first | exact g9 | (simp only [nz_c]; exact g9)) (by first | exact ⟨by omega, by omega⟩ | (simp only [nz_c]; exact ⟨by omega, by omega⟩)) (fun F1 g e34 e82 e83 e84 e85 e86 => k5 g0 g1 g2 g3 g4 g5 g6 g7 g8 g9 F1 (nz_in0 hB [34] (fun j hj hn => g j hj (by simp only [List.mem_cons, List.not_mem_nil, or_false, not_or] at hn; omega)) (List.forall_mem_cons.mpr ⟨fun t ht => (Option.some.inj ht) ▸ (nz_hz e34), List.forall_mem_nil _⟩)) (fun j hj hn => g j hj (by simp only [List.mem_cons, List.not_mem_nil, or_false, not_or] at hn; omega)) (nz_fi (g 33 (by decide) (by decide))) ((congrArg Int32.toInt (zz_i e34)).trans (by decide : ((1 : Int32)).toInt = 1)) (nz_fi (g 8 (by decide) (by decide))) (nz_fa (g 39 (by decide) (by decide))) (nz_fa (g 17 (by decide) (by decide))) ((congrArg Int32.toInt (zz_i e82)).trans (rfl : (sy_i F 82).toInt = (sy_i F 82).toInt)) ((congrArg Int32.toInt (zz_i e83)).trans (rfl : (sy_i F 83).toInt = (sy_i F 83).toInt)) ((congrArg Int32.toInt (zz_i e84)).trans (by decide : ((0 : Int32)).toInt = 0)) ((congrArg Int32.toInt (zz_i e85)).trans n88) ((congrArg Int32.toInt (zz_i e86)).trans n89))
    replace g7 : (sy_i F 8).toInt < 512 := by omega
    by_cases g8 : (sy_i F 33).toInt < 0
    · have c33 := nz_bx hB (k := 33) (lo := 0) (hi := 400) rfl
      have q87 : (sy_ai F 39).getD (sy_i F 33).toNatClampNeg 0 = (sy_ai F 39).getD ((sy_i F 33).toInt).toNat 0 := by simp only [nz_c]
      have n87 : ((sy_ai F 39).getD (sy_i F 33).toNatClampNeg 0).toInt = ((sy_ai F 39).getD ((sy_i F 33).toInt).toNat 0).toInt := congrArg Int32.toInt q87
      have c8 := nz_bx hB (k := 8) (lo := 0) (hi := 512) rfl
      exfalso
      omega
    replace g8 : 0 ≤ (sy_i F 33).toInt := by omega
    by_cases g9 : 400 < (sy_i F 33).toInt
    · have c33 := nz_bx hB (k := 33) (lo := 0) (hi := 400) rfl
      have q87 : (sy_ai F 39).getD (sy_i F 33).toNatClampNeg 0 = (sy_ai F 39).getD ((sy_i F 33).toInt).toNat 0 := by simp only [nz_c]
      have n87 : ((sy_ai F 39).getD (sy_i F 33).toNatClampNeg 0).toInt = ((sy_ai F 39).getD ((sy_i F 33).toInt).toNat 0).toInt := congrArg Int32.toInt q87
      have c8 := nz_bx hB (k := 8) (lo := 0) (hi := 512) rfl
      exfalso
      omega
    replace g9 : (sy_i F 33).toInt ≤ 400 := by omega
    have c33 := nz_bx hB (k := 33) (lo := 0) (hi := 400) rfl
    have q87 : (sy_ai F 39).getD (sy_i F 33).toNatClampNeg 0 = (sy_ai F 39).getD ((sy_i F 33).toInt).toNat 0 := by simp only [nz_c]
    have n87 : ((sy_ai F 39).getD (sy_i F 33).toNatClampNeg 0).toInt = ((sy_ai F 39).getD ((sy_i F 33).toInt).toNat 0).toInt := congrArg Int32.toInt q87
    have c8 := nz_bx hB (k := 8) (lo := 0) (hi := 512) rfl
    have n89 : ((sy_i F 8) + ((1 : Int32))).toInt = ((sy_i F 8).toInt + 1) := nz_add (rfl : (sy_i F 8).toInt = (sy_i F 8).toInt) (by decide : ((1 : Int32)).toInt = 1) (by omega) (by omega)
    have w88 : jm_upd (sy_ai F 17) (sy_i F 8).toNatClampNeg (((-10) : Int32)) = jm_upd (sy_ai F 17) ((sy_i F 8).toInt).toNat (((-10) : Int32)) := by simp only [nz_c, (by decide : (((-10) : Int32)).toInt = (-10 : Int))]
    have q90 : (sy_ai F 39).getD (sy_i F 33).toNatClampNeg 0 = (sy_ai F 39).getD ((sy_i F 33).toInt).toNat 0 := by simp only [nz_c]
    have n90 : ((sy_ai F 39).getD (sy_i F 33).toNatClampNeg 0).toInt = ((sy_ai F 39).getD ((sy_i F 33).toInt).toNat 0).toInt := congrArg Int32.toInt q90
    have n91 : ((sy_i F 86) + ((1 : Int32))).toInt = ((sy_i F 86).toInt + 1) := nz_add (rfl : (sy_i F 86).toInt = (sy_i F 86).toInt) (by decide : ((1 : Int32)).toInt = 1) (by omega) (by omega)
    exact k3ps_23_p6 hd F X1 X2 hB (by first | exact g0 | (simp only [nz_c]; exact g0)) (by first | exact g1 | (simp only [nz_c]; exact g1)) (by first | exact g2 | (simp only [nz_c]; exact g2)) (by first | exact g3 | (simp only [nz_c]; exact g3)) (by first | exact g4 | (simp only [nz_c]; exact g4)) (by first | exact ⟨by omega, by omega⟩ | (simp only [nz_c]; exact ⟨by omega, by omega⟩)) (by first | exact g5 | (simp only [nz_c]; exact g5) | (rw [n87]; exact g5)) (by first | exact g6 | (simp only [nz_c]; exact g6)) (by first | exact g7 | (simp only [nz_c]; exact g7)) (by first | exact ⟨by omega, by omega⟩ | (simp only [nz_c]; exact ⟨by omega, by omega⟩)) (by first | exact g8 | (simp only [nz_c]; exact g8)) (by first | exact g9 | (simp only [nz_c]; exact g9)) (by first | exact ⟨by omega, by omega⟩ | (simp only [nz_c]; exact ⟨by omega, by omega⟩)) (fun F1 g e8 e17 e34 e82 e83 e84 e85 e86 => k6 g0 g1 g2 g3 g4 g5 g6 g7 g8 g9 F1 (nz_in0 hB [8, 17, 34] (fun j hj hn => g j hj (by simp only [List.mem_cons, List.not_mem_nil, or_false, not_or] at hn; omega)) (List.forall_mem_cons.mpr ⟨fun t ht => (Option.some.inj ht) ▸ (nz_hi e8 n89 (by omega) (by omega)), List.forall_mem_cons.mpr ⟨fun t ht => (Option.some.inj ht) ▸ (nz_hA e17 (nz_up (nz_ba hB (k := 17) (lo := (-2147483648)) (hi := 2147483646) rfl) (by decide : (((-10) : Int32)).toInt = (-10 : Int)) (by omega) (by omega))), List.forall_mem_cons.mpr ⟨fun t ht => (Option.some.inj ht) ▸ (nz_hz e34), List.forall_mem_nil _⟩⟩⟩)) (fun j hj hn => g j hj (by simp only [List.mem_cons, List.not_mem_nil, or_false, not_or] at hn; omega)) (nz_fi (g 33 (by decide) (by decide))) ((congrArg Int32.toInt (zz_i e34)).trans (by decide : ((1 : Int32)).toInt = 1)) ((congrArg Int32.toInt (zz_i e8)).trans n89) (nz_fa (g 39 (by decide) (by decide))) ((zz_ai e17).trans w88) ((congrArg Int32.toInt (zz_i e82)).trans (rfl : (sy_i F 82).toInt = (sy_i F 82).toInt)) ((congrArg Int32.toInt (zz_i e83)).trans (rfl : (sy_i F 83).toInt = (sy_i F 83).toInt)) ((congrArg Int32.toInt (zz_i e84)).trans (by decide : ((0 : Int32)).toInt = 0)) ((congrArg Int32.toInt (zz_i e85)).trans n90) ((congrArg Int32.toInt (zz_i e86)).trans n91))
  replace g2 : (sy_i F 85).toInt ≠ 43 := by omega
  by_cases g3 : (sy_i F 85).toInt ≠ 45
  · exact k3ps_23_p7 hd F X1 X2 hB (by first | exact g0 | (simp only [nz_c]; exact g0)) (by first | exact g1 | (simp only [nz_c]; exact g1)) (by first | exact g2 | (simp only [nz_c]; exact g2)) (by first | exact g3 | (simp only [nz_c]; exact g3)) (by first | exact (o1 g0 g1 g2 g3) | (simp only [nz_c]; exact (o1 g0 g1 g2 g3))) (fun F1 g  => by rw [(rfl : sy_i F 84 = sy_i F 84)]; exact k7 g0 g1 g2 g3 F1 (nz_in0 hB [] (fun j hj hn => g j hj (by simp only [List.mem_cons, List.not_mem_nil, or_false, not_or] at hn; exact trivial)) (List.forall_mem_nil _)) (fun j hj hn => g j hj (by simp only [List.mem_cons, List.not_mem_nil, or_false, not_or] at hn; exact trivial)) (nz_fi (g 33 (by decide) (by decide))) (nz_fi (g 34 (by decide) (by decide))) (nz_fi (g 8 (by decide) (by decide))) (nz_fa (g 39 (by decide) (by decide))) (nz_fa (g 17 (by decide) (by decide))))
  replace g3 : (sy_i F 85).toInt = 45 := by omega
  by_cases g4 : (sy_i F 33).toInt < 0
  · have c33 := nz_bx hB (k := 33) (lo := 0) (hi := 400) rfl
    exfalso
    omega
  replace g4 : 0 ≤ (sy_i F 33).toInt := by omega
  by_cases g5 : 400 < (sy_i F 33).toInt
  · have c33 := nz_bx hB (k := 33) (lo := 0) (hi := 400) rfl
    exfalso
    omega
  replace g5 : (sy_i F 33).toInt ≤ 400 := by omega
  by_cases g6 : ((sy_ai F 39).getD ((sy_i F 33).toInt).toNat 0).toInt = (sy_i F 85).toInt
  · by_cases g7 : (sy_i F 33).toInt < 400
    · have c33 := nz_bx hB (k := 33) (lo := 0) (hi := 400) rfl
      have q87 : (sy_ai F 39).getD (sy_i F 33).toNatClampNeg 0 = (sy_ai F 39).getD ((sy_i F 33).toInt).toNat 0 := by simp only [nz_c]
      have n87 : ((sy_ai F 39).getD (sy_i F 33).toNatClampNeg 0).toInt = ((sy_ai F 39).getD ((sy_i F 33).toInt).toNat 0).toInt := congrArg Int32.toInt q87
      have n88 : ((sy_i F 33) + ((1 : Int32))).toInt = ((sy_i F 33).toInt + 1) := nz_add (rfl : (sy_i F 33).toInt = (sy_i F 33).toInt) (by decide : ((1 : Int32)).toInt = 1) (by omega) (by omega)
      exact k3ps_23_p8 hd F X1 X2 hB (by first | exact g0 | (simp only [nz_c]; exact g0)) (by first | exact g1 | (simp only [nz_c]; exact g1)) (by first | exact g2 | (simp only [nz_c]; exact g2)) (by first | exact g3 | (simp only [nz_c]; exact g3)) (by first | exact g4 | (simp only [nz_c]; exact g4)) (by first | exact g5 | (simp only [nz_c]; exact g5)) (by first | exact ⟨by omega, by omega⟩ | (simp only [nz_c]; exact ⟨by omega, by omega⟩)) (by first | exact g6 | (simp only [nz_c]; exact g6) | (rw [n87]; exact g6)) (by first | exact g7 | (simp only [nz_c]; exact g7)) (fun F1 g e33 e82 e83 e84 e85 => k8 g0 g1 g2 g3 g4 g5 g6 g7 F1 (nz_in0 hB [33] (fun j hj hn => g j hj (by simp only [List.mem_cons, List.not_mem_nil, or_false, not_or] at hn; omega)) (List.forall_mem_cons.mpr ⟨fun t ht => (Option.some.inj ht) ▸ (nz_hi e33 n88 (by omega) (by omega)), List.forall_mem_nil _⟩)) (fun j hj hn => g j hj (by simp only [List.mem_cons, List.not_mem_nil, or_false, not_or] at hn; omega)) ((congrArg Int32.toInt (zz_i e33)).trans n88) (nz_fi (g 34 (by decide) (by decide))) (nz_fi (g 8 (by decide) (by decide))) (nz_fa (g 39 (by decide) (by decide))) (nz_fa (g 17 (by decide) (by decide))) ((congrArg Int32.toInt (zz_i e82)).trans (rfl : (sy_i F 82).toInt = (sy_i F 82).toInt)) ((congrArg Int32.toInt (zz_i e83)).trans (rfl : (sy_i F 83).toInt = (sy_i F 83).toInt)) ((congrArg Int32.toInt (zz_i e84)).trans (rfl : (sy_i F 85).toInt = (sy_i F 85).toInt)) ((congrArg Int32.toInt (zz_i e85)).trans (rfl : (sy_i F 86).toInt = (sy_i F 86).toInt)))
    replace g7 : 400 ≤ (sy_i F 33).toInt := by omega
    by_cases g8 : (sy_i F 85).toInt ≠ 43
    · by_cases g9 : 512 ≤ (sy_i F 8).toInt
      · by_cases g10 : (sy_i F 33).toInt < 0
        · have c33 := nz_bx hB (k := 33) (lo := 0) (hi := 400) rfl
          have q87 : (sy_ai F 39).getD (sy_i F 33).toNatClampNeg 0 = (sy_ai F 39).getD ((sy_i F 33).toInt).toNat 0 := by simp only [nz_c]
          have n87 : ((sy_ai F 39).getD (sy_i F 33).toNatClampNeg 0).toInt = ((sy_ai F 39).getD ((sy_i F 33).toInt).toNat 0).toInt := congrArg Int32.toInt q87
          have c8 := nz_bx hB (k := 8) (lo := 0) (hi := 512) rfl
          exfalso
          omega
        replace g10 : 0 ≤ (sy_i F 33).toInt := by omega
        by_cases g11 : 400 < (sy_i F 33).toInt
        · have c33 := nz_bx hB (k := 33) (lo := 0) (hi := 400) rfl
          have q87 : (sy_ai F 39).getD (sy_i F 33).toNatClampNeg 0 = (sy_ai F 39).getD ((sy_i F 33).toInt).toNat 0 := by simp only [nz_c]
          have n87 : ((sy_ai F 39).getD (sy_i F 33).toNatClampNeg 0).toInt = ((sy_ai F 39).getD ((sy_i F 33).toInt).toNat 0).toInt := congrArg Int32.toInt q87
          have c8 := nz_bx hB (k := 8) (lo := 0) (hi := 512) rfl
          exfalso
          omega
        replace g11 : (sy_i F 33).toInt ≤ 400 := by omega
        have c33 := nz_bx hB (k := 33) (lo := 0) (hi := 400) rfl
        have q87 : (sy_ai F 39).getD (sy_i F 33).toNatClampNeg 0 = (sy_ai F 39).getD ((sy_i F 33).toInt).toNat 0 := by simp only [nz_c]
        have n87 : ((sy_ai F 39).getD (sy_i F 33).toNatClampNeg 0).toInt = ((sy_ai F 39).getD ((sy_i F 33).toInt).toNat 0).toInt := congrArg Int32.toInt q87
        have c8 := nz_bx hB (k := 8) (lo := 0) (hi := 512) rfl
        have q88 : (sy_ai F 39).getD (sy_i F 33).toNatClampNeg 0 = (sy_ai F 39).getD ((sy_i F 33).toInt).toNat 0 := by simp only [nz_c]
        have n88 : ((sy_ai F 39).getD (sy_i F 33).toNatClampNeg 0).toInt = ((sy_ai F 39).getD ((sy_i F 33).toInt).toNat 0).toInt := congrArg Int32.toInt q88
        have n89 : ((sy_i F 86) + ((1 : Int32))).toInt = ((sy_i F 86).toInt + 1) := nz_add (rfl : (sy_i F 86).toInt = (sy_i F 86).toInt) (by decide : ((1 : Int32)).toInt = 1) (by omega) (by omega)
        exact k3ps_23_p9 hd F X1 X2 hB (by first | exact g0 | (simp only [nz_c]; exact g0)) (by first | exact g1 | (simp only [nz_c]; exact g1)) (by first | exact g2 | (simp only [nz_c]; exact g2)) (by first | exact g3 | (simp only [nz_c]; exact g3)) (by first | exact g4 | (simp only [nz_c]; exact g4)) (by first | exact g5 | (simp only [nz_c]; exact g5)) (by first | exact ⟨by omega, by omega⟩ | (simp only [nz_c]; exact ⟨by omega, by omega⟩)) (by first | exact g6 | (simp only [nz_c]; exact g6) | (rw [n87]; exact g6)) (by first | exact g7 | (simp only [nz_c]; exact g7)) (by first | exact g8 | (simp only [nz_c]; exact g8)) (by first | exact g9 | (simp only [nz_c]; exact g9)) (by first | exact g10 | (simp only [nz_c]; exact g10)) (by first | exact g11 | (simp only [nz_c]; exact g11)) (by first | exact ⟨by omega, by omega⟩ | (simp only [nz_c]; exact ⟨by omega, by omega⟩)) (fun F1 g e34 e82 e83 e84 e85 e86 => k9 g0 g1 g2 g3 g4 g5 g6 g7 g8 g9 g10 g11 F1 (nz_in0 hB [34] (fun j hj hn => g j hj (by simp only [List.mem_cons, List.not_mem_nil, or_false, not_or] at hn; omega)) (List.forall_mem_cons.mpr ⟨fun t ht => (Option.some.inj ht) ▸ (nz_hz e34), List.forall_mem_nil _⟩)) (fun j hj hn => g j hj (by simp only [List.mem_cons, List.not_mem_nil, or_false, not_or] at hn; omega)) (nz_fi (g 33 (by decide) (by decide))) ((congrArg Int32.toInt (zz_i e34)).trans (by decide : ((2 : Int32)).toInt = 2)) (nz_fi (g 8 (by decide) (by decide))) (nz_fa (g 39 (by decide) (by decide))) (nz_fa (g 17 (by decide) (by decide))) ((congrArg Int32.toInt (zz_i e82)).trans (rfl : (sy_i F 82).toInt = (sy_i F 82).toInt)) ((congrArg Int32.toInt (zz_i e83)).trans (rfl : (sy_i F 83).toInt = (sy_i F 83).toInt)) ((congrArg Int32.toInt (zz_i e84)).trans (by decide : ((0 : Int32)).toInt = 0)) ((congrArg Int32.toInt (zz_i e85)).trans n88) ((congrArg Int32.toInt (zz_i e86)).trans n89))
      replace g9 : (sy_i F 8).toInt < 512 := by omega
      by_cases g10 : (sy_i F 33).toInt < 0
      · have c33 := nz_bx hB (k := 33) (lo := 0) (hi := 400) rfl
        have q87 : (sy_ai F 39).getD (sy_i F 33).toNatClampNeg 0 = (sy_ai F 39).getD ((sy_i F 33).toInt).toNat 0 := by simp only [nz_c]
        have n87 : ((sy_ai F 39).getD (sy_i F 33).toNatClampNeg 0).toInt = ((sy_ai F 39).getD ((sy_i F 33).toInt).toNat 0).toInt := congrArg Int32.toInt q87
        have c8 := nz_bx hB (k := 8) (lo := 0) (hi := 512) rfl
        exfalso
        omega
      replace g10 : 0 ≤ (sy_i F 33).toInt := by omega
      by_cases g11 : 400 < (sy_i F 33).toInt
      · have c33 := nz_bx hB (k := 33) (lo := 0) (hi := 400) rfl
        have q87 : (sy_ai F 39).getD (sy_i F 33).toNatClampNeg 0 = (sy_ai F 39).getD ((sy_i F 33).toInt).toNat 0 := by simp only [nz_c]
        have n87 : ((sy_ai F 39).getD (sy_i F 33).toNatClampNeg 0).toInt = ((sy_ai F 39).getD ((sy_i F 33).toInt).toNat 0).toInt := congrArg Int32.toInt q87
        have c8 := nz_bx hB (k := 8) (lo := 0) (hi := 512) rfl
        exfalso
        omega
      replace g11 : (sy_i F 33).toInt ≤ 400 := by omega
      have c33 := nz_bx hB (k := 33) (lo := 0) (hi := 400) rfl
      have q87 : (sy_ai F 39).getD (sy_i F 33).toNatClampNeg 0 = (sy_ai F 39).getD ((sy_i F 33).toInt).toNat 0 := by simp only [nz_c]
      have n87 : ((sy_ai F 39).getD (sy_i F 33).toNatClampNeg 0).toInt = ((sy_ai F 39).getD ((sy_i F 33).toInt).toNat 0).toInt := congrArg Int32.toInt q87
      have c8 := nz_bx hB (k := 8) (lo := 0) (hi := 512) rfl
      have n89 : ((sy_i F 8) + ((1 : Int32))).toInt = ((sy_i F 8).toInt + 1) := nz_add (rfl : (sy_i F 8).toInt = (sy_i F 8).toInt) (by decide : ((1 : Int32)).toInt = 1) (by omega) (by omega)
      have w88 : jm_upd (sy_ai F 17) (sy_i F 8).toNatClampNeg (((-11) : Int32)) = jm_upd (sy_ai F 17) ((sy_i F 8).toInt).toNat (((-11) : Int32)) := by simp only [nz_c, (by decide : (((-11) : Int32)).toInt = (-11 : Int))]
      have q90 : (sy_ai F 39).getD (sy_i F 33).toNatClampNeg 0 = (sy_ai F 39).getD ((sy_i F 33).toInt).toNat 0 := by simp only [nz_c]
      have n90 : ((sy_ai F 39).getD (sy_i F 33).toNatClampNeg 0).toInt = ((sy_ai F 39).getD ((sy_i F 33).toInt).toNat 0).toInt := congrArg Int32.toInt q90
      have n91 : ((sy_i F 86) + ((1 : Int32))).toInt = ((sy_i F 86).toInt + 1) := nz_add (rfl : (sy_i F 86).toInt = (sy_i F 86).toInt) (by decide : ((1 : Int32)).toInt = 1) (by omega) (by omega)
      exact k3ps_23_p10 hd F X1 X2 hB (by first | exact g0 | (simp only [nz_c]; exact g0)) (by first | exact g1 | (simp only [nz_c]; exact g1)) (by first | exact g2 | (simp only [nz_c]; exact g2)) (by first | exact g3 | (simp only [nz_c]; exact g3)) (by first | exact g4 | (simp only [nz_c]; exact g4)) (by first | exact g5 | (simp only [nz_c]; exact g5)) (by first | exact ⟨by omega, by omega⟩ | (simp only [nz_c]; exact ⟨by omega, by omega⟩)) (by first | exact g6 | (simp only [nz_c]; exact g6) | (rw [n87]; exact g6)) (by first | exact g7 | (simp only [nz_c]; exact g7)) (by first | exact g8 | (simp only [nz_c]; exact g8)) (by first | exact g9 | (simp only [nz_c]; exact g9)) (by first | exact ⟨by omega, by omega⟩ | (simp only [nz_c]; exact ⟨by omega, by omega⟩)) (by first | exact g10 | (simp only [nz_c]; exact g10)) (by first | exact g11 | (simp only [nz_c]; exact g11)) (by first | exact ⟨by omega, by omega⟩ | (simp only [nz_c]; exact ⟨by omega, by omega⟩)) (fun F1 g e8 e17 e34 e82 e83 e84 e85 e86 => k10 g0 g1 g2 g3 g4 g5 g6 g7 g8 g9 g10 g11 F1 (nz_in0 hB [8, 17, 34] (fun j hj hn => g j hj (by simp only [List.mem_cons, List.not_mem_nil, or_false, not_or] at hn; omega)) (List.forall_mem_cons.mpr ⟨fun t ht => (Option.some.inj ht) ▸ (nz_hi e8 n89 (by omega) (by omega)), List.forall_mem_cons.mpr ⟨fun t ht => (Option.some.inj ht) ▸ (nz_hA e17 (nz_up (nz_ba hB (k := 17) (lo := (-2147483648)) (hi := 2147483646) rfl) (by decide : (((-11) : Int32)).toInt = (-11 : Int)) (by omega) (by omega))), List.forall_mem_cons.mpr ⟨fun t ht => (Option.some.inj ht) ▸ (nz_hz e34), List.forall_mem_nil _⟩⟩⟩)) (fun j hj hn => g j hj (by simp only [List.mem_cons, List.not_mem_nil, or_false, not_or] at hn; omega)) (nz_fi (g 33 (by decide) (by decide))) ((congrArg Int32.toInt (zz_i e34)).trans (by decide : ((2 : Int32)).toInt = 2)) ((congrArg Int32.toInt (zz_i e8)).trans n89) (nz_fa (g 39 (by decide) (by decide))) ((zz_ai e17).trans w88) ((congrArg Int32.toInt (zz_i e82)).trans (rfl : (sy_i F 82).toInt = (sy_i F 82).toInt)) ((congrArg Int32.toInt (zz_i e83)).trans (rfl : (sy_i F 83).toInt = (sy_i F 83).toInt)) ((congrArg Int32.toInt (zz_i e84)).trans (by decide : ((0 : Int32)).toInt = 0)) ((congrArg Int32.toInt (zz_i e85)).trans n90) ((congrArg Int32.toInt (zz_i e86)).trans n91))
    replace g8 : (sy_i F 85).toInt = 43 := by omega
    have c33 := nz_bx hB (k := 33) (lo := 0) (hi := 400) rfl
    have q87 : (sy_ai F 39).getD (sy_i F 33).toNatClampNeg 0 = (sy_ai F 39).getD ((sy_i F 33).toInt).toNat 0 := by simp only [nz_c]
    have n87 : ((sy_ai F 39).getD (sy_i F 33).toNatClampNeg 0).toInt = ((sy_ai F 39).getD ((sy_i F 33).toInt).toNat 0).toInt := congrArg Int32.toInt q87
    exfalso
    omega
  replace g6 : ((sy_ai F 39).getD ((sy_i F 33).toInt).toNat 0).toInt ≠ (sy_i F 85).toInt := by omega
  by_cases g7 : (sy_i F 85).toInt ≠ 43
  · by_cases g8 : 512 ≤ (sy_i F 8).toInt
    · by_cases g9 : (sy_i F 33).toInt < 0
      · have c33 := nz_bx hB (k := 33) (lo := 0) (hi := 400) rfl
        have q87 : (sy_ai F 39).getD (sy_i F 33).toNatClampNeg 0 = (sy_ai F 39).getD ((sy_i F 33).toInt).toNat 0 := by simp only [nz_c]
        have n87 : ((sy_ai F 39).getD (sy_i F 33).toNatClampNeg 0).toInt = ((sy_ai F 39).getD ((sy_i F 33).toInt).toNat 0).toInt := congrArg Int32.toInt q87
        have c8 := nz_bx hB (k := 8) (lo := 0) (hi := 512) rfl
        exfalso
        omega
      replace g9 : 0 ≤ (sy_i F 33).toInt := by omega
      by_cases g10 : 400 < (sy_i F 33).toInt
      · have c33 := nz_bx hB (k := 33) (lo := 0) (hi := 400) rfl
        have q87 : (sy_ai F 39).getD (sy_i F 33).toNatClampNeg 0 = (sy_ai F 39).getD ((sy_i F 33).toInt).toNat 0 := by simp only [nz_c]
        have n87 : ((sy_ai F 39).getD (sy_i F 33).toNatClampNeg 0).toInt = ((sy_ai F 39).getD ((sy_i F 33).toInt).toNat 0).toInt := congrArg Int32.toInt q87
        have c8 := nz_bx hB (k := 8) (lo := 0) (hi := 512) rfl
        exfalso
        omega
      replace g10 : (sy_i F 33).toInt ≤ 400 := by omega
      have c33 := nz_bx hB (k := 33) (lo := 0) (hi := 400) rfl
      have q87 : (sy_ai F 39).getD (sy_i F 33).toNatClampNeg 0 = (sy_ai F 39).getD ((sy_i F 33).toInt).toNat 0 := by simp only [nz_c]
      have n87 : ((sy_ai F 39).getD (sy_i F 33).toNatClampNeg 0).toInt = ((sy_ai F 39).getD ((sy_i F 33).toInt).toNat 0).toInt := congrArg Int32.toInt q87
      have c8 := nz_bx hB (k := 8) (lo := 0) (hi := 512) rfl
      have q88 : (sy_ai F 39).getD (sy_i F 33).toNatClampNeg 0 = (sy_ai F 39).getD ((sy_i F 33).toInt).toNat 0 := by simp only [nz_c]
      have n88 : ((sy_ai F 39).getD (sy_i F 33).toNatClampNeg 0).toInt = ((sy_ai F 39).getD ((sy_i F 33).toInt).toNat 0).toInt := congrArg Int32.toInt q88
      have n89 : ((sy_i F 86) + ((1 : Int32))).toInt = ((sy_i F 86).toInt + 1) := nz_add (rfl : (sy_i F 86).toInt = (sy_i F 86).toInt) (by decide : ((1 : Int32)).toInt = 1) (by omega) (by omega)
      exact k3ps_23_p11 hd F X1 X2 hB (by first | exact g0 | (simp only [nz_c]; exact g0)) (by first | exact g1 | (simp only [nz_c]; exact g1)) (by first | exact g2 | (simp only [nz_c]; exact g2)) (by first | exact g3 | (simp only [nz_c]; exact g3)) (by first | exact g4 | (simp only [nz_c]; exact g4)) (by first | exact g5 | (simp only [nz_c]; exact g5)) (by first | exact ⟨by omega, by omega⟩ | (simp only [nz_c]; exact ⟨by omega, by omega⟩)) (by first | exact g6 | (simp only [nz_c]; exact g6) | (rw [n87]; exact g6)) (by first | exact g7 | (simp only [nz_c]; exact g7)) (by first | exact g8 | (simp only [nz_c]; exact g8)) (by first | exact g9 | (simp only [nz_c]; exact g9)) (by first | exact g10 | (simp only [nz_c]; exact g10)) (by first | exact ⟨by omega, by omega⟩ | (simp only [nz_c]; exact ⟨by omega, by omega⟩)) (fun F1 g e34 e82 e83 e84 e85 e86 => k11 g0 g1 g2 g3 g4 g5 g6 g7 g8 g9 g10 F1 (nz_in0 hB [34] (fun j hj hn => g j hj (by simp only [List.mem_cons, List.not_mem_nil, or_false, not_or] at hn; omega)) (List.forall_mem_cons.mpr ⟨fun t ht => (Option.some.inj ht) ▸ (nz_hz e34), List.forall_mem_nil _⟩)) (fun j hj hn => g j hj (by simp only [List.mem_cons, List.not_mem_nil, or_false, not_or] at hn; omega)) (nz_fi (g 33 (by decide) (by decide))) ((congrArg Int32.toInt (zz_i e34)).trans (by decide : ((1 : Int32)).toInt = 1)) (nz_fi (g 8 (by decide) (by decide))) (nz_fa (g 39 (by decide) (by decide))) (nz_fa (g 17 (by decide) (by decide))) ((congrArg Int32.toInt (zz_i e82)).trans (rfl : (sy_i F 82).toInt = (sy_i F 82).toInt)) ((congrArg Int32.toInt (zz_i e83)).trans (rfl : (sy_i F 83).toInt = (sy_i F 83).toInt)) ((congrArg Int32.toInt (zz_i e84)).trans (by decide : ((0 : Int32)).toInt = 0)) ((congrArg Int32.toInt (zz_i e85)).trans n88) ((congrArg Int32.toInt (zz_i e86)).trans n89))
    replace g8 : (sy_i F 8).toInt < 512 := by omega
    by_cases g9 : (sy_i F 33).toInt < 0
    · have c33 := nz_bx hB (k := 33) (lo := 0) (hi := 400) rfl
      have q87 : (sy_ai F 39).getD (sy_i F 33).toNatClampNeg 0 = (sy_ai F 39).getD ((sy_i F 33).toInt).toNat 0 := by simp only [nz_c]
      have n87 : ((sy_ai F 39).getD (sy_i F 33).toNatClampNeg 0).toInt = ((sy_ai F 39).getD ((sy_i F 33).toInt).toNat 0).toInt := congrArg Int32.toInt q87
      have c8 := nz_bx hB (k := 8) (lo := 0) (hi := 512) rfl
      exfalso
      omega
    replace g9 : 0 ≤ (sy_i F 33).toInt := by omega
    by_cases g10 : 400 < (sy_i F 33).toInt
    · have c33 := nz_bx hB (k := 33) (lo := 0) (hi := 400) rfl
      have q87 : (sy_ai F 39).getD (sy_i F 33).toNatClampNeg 0 = (sy_ai F 39).getD ((sy_i F 33).toInt).toNat 0 := by simp only [nz_c]
      have n87 : ((sy_ai F 39).getD (sy_i F 33).toNatClampNeg 0).toInt = ((sy_ai F 39).getD ((sy_i F 33).toInt).toNat 0).toInt := congrArg Int32.toInt q87
      have c8 := nz_bx hB (k := 8) (lo := 0) (hi := 512) rfl
      exfalso
      omega
    replace g10 : (sy_i F 33).toInt ≤ 400 := by omega
    have c33 := nz_bx hB (k := 33) (lo := 0) (hi := 400) rfl
    have q87 : (sy_ai F 39).getD (sy_i F 33).toNatClampNeg 0 = (sy_ai F 39).getD ((sy_i F 33).toInt).toNat 0 := by simp only [nz_c]
    have n87 : ((sy_ai F 39).getD (sy_i F 33).toNatClampNeg 0).toInt = ((sy_ai F 39).getD ((sy_i F 33).toInt).toNat 0).toInt := congrArg Int32.toInt q87
    have c8 := nz_bx hB (k := 8) (lo := 0) (hi := 512) rfl
    have n89 : ((sy_i F 8) + ((1 : Int32))).toInt = ((sy_i F 8).toInt + 1) := nz_add (rfl : (sy_i F 8).toInt = (sy_i F 8).toInt) (by decide : ((1 : Int32)).toInt = 1) (by omega) (by omega)
    have w88 : jm_upd (sy_ai F 17) (sy_i F 8).toNatClampNeg (((-11) : Int32)) = jm_upd (sy_ai F 17) ((sy_i F 8).toInt).toNat (((-11) : Int32)) := by simp only [nz_c, (by decide : (((-11) : Int32)).toInt = (-11 : Int))]
    have q90 : (sy_ai F 39).getD (sy_i F 33).toNatClampNeg 0 = (sy_ai F 39).getD ((sy_i F 33).toInt).toNat 0 := by simp only [nz_c]
    have n90 : ((sy_ai F 39).getD (sy_i F 33).toNatClampNeg 0).toInt = ((sy_ai F 39).getD ((sy_i F 33).toInt).toNat 0).toInt := congrArg Int32.toInt q90
    have n91 : ((sy_i F 86) + ((1 : Int32))).toInt = ((sy_i F 86).toInt + 1) := nz_add (rfl : (sy_i F 86).toInt = (sy_i F 86).toInt) (by decide : ((1 : Int32)).toInt = 1) (by omega) (by omega)
    exact k3ps_23_p12 hd F X1 X2 hB (by first | exact g0 | (simp only [nz_c]; exact g0)) (by first | exact g1 | (simp only [nz_c]; exact g1)) (by first | exact g2 | (simp only [nz_c]; exact g2)) (by first | exact g3 | (simp only [nz_c]; exact g3)) (by first | exact g4 | (simp only [nz_c]; exact g4)) (by first | exact g5 | (simp only [nz_c]; exact g5)) (by first | exact ⟨by omega, by omega⟩ | (simp only [nz_c]; exact ⟨by omega, by omega⟩)) (by first | exact g6 | (simp only [nz_c]; exact g6) | (rw [n87]; exact g6)) (by first | exact g7 | (simp only [nz_c]; exact g7)) (by first | exact g8 | (simp only [nz_c]; exact g8)) (by first | exact ⟨by omega, by omega⟩ | (simp only [nz_c]; exact ⟨by omega, by omega⟩)) (by first | exact g9 | (simp only [nz_c]; exact g9)) (by first | exact g10 | (simp only [nz_c]; exact g10)) (by first | exact ⟨by omega, by omega⟩ | (simp only [nz_c]; exact ⟨by omega, by omega⟩)) (fun F1 g e8 e17 e34 e82 e83 e84 e85 e86 => k12 g0 g1 g2 g3 g4 g5 g6 g7 g8 g9 g10 F1 (nz_in0 hB [8, 17, 34] (fun j hj hn => g j hj (by simp only [List.mem_cons, List.not_mem_nil, or_false, not_or] at hn; omega)) (List.forall_mem_cons.mpr ⟨fun t ht => (Option.some.inj ht) ▸ (nz_hi e8 n89 (by omega) (by omega)), List.forall_mem_cons.mpr ⟨fun t ht => (Option.some.inj ht) ▸ (nz_hA e17 (nz_up (nz_ba hB (k := 17) (lo := (-2147483648)) (hi := 2147483646) rfl) (by decide : (((-11) : Int32)).toInt = (-11 : Int)) (by omega) (by omega))), List.forall_mem_cons.mpr ⟨fun t ht => (Option.some.inj ht) ▸ (nz_hz e34), List.forall_mem_nil _⟩⟩⟩)) (fun j hj hn => g j hj (by simp only [List.mem_cons, List.not_mem_nil, or_false, not_or] at hn; omega)) (nz_fi (g 33 (by decide) (by decide))) ((congrArg Int32.toInt (zz_i e34)).trans (by decide : ((1 : Int32)).toInt = 1)) ((congrArg Int32.toInt (zz_i e8)).trans n89) (nz_fa (g 39 (by decide) (by decide))) ((zz_ai e17).trans w88) ((congrArg Int32.toInt (zz_i e82)).trans (rfl : (sy_i F 82).toInt = (sy_i F 82).toInt)) ((congrArg Int32.toInt (zz_i e83)).trans (rfl : (sy_i F 83).toInt = (sy_i F 83).toInt)) ((congrArg Int32.toInt (zz_i e84)).trans (by decide : ((0 : Int32)).toInt = 0)) ((congrArg Int32.toInt (zz_i e85)).trans n90) ((congrArg Int32.toInt (zz_i e86)).trans n91))
  replace g7 : (sy_i F 85).toInt = 43 := by omega
  have c33 := nz_bx hB (k := 33) (lo := 0) (hi := 400) rfl
  have q87 : (sy_ai F 39).getD (sy_i F 33).toNatClampNeg 0 = (sy_ai F 39).getD ((sy_i F 33).toInt).toNat 0 := by simp only [nz_c]
  have n87 : ((sy_ai F 39).getD (sy_i F 33).toNatClampNeg 0).toInt = ((sy_ai F 39).getD ((sy_i F 33).toInt).toNat 0).toInt := congrArg Int32.toInt q87
  exfalso
  omega
theorem k3zs_64 {Ls : Nat} {xs : Nat → Int32} {d : Nat} {Q : Option Value → jm_h → Prop} (hd : 4 ≤ d) (F : Nat → sy_d) (X1 X2 : List jm_c) (hB : iv_in F iv_B0)
    (a85 : 0 ≤ (sy_i F 85).toInt ∧ (sy_i F 85).toInt ≤ 400)
    (k0 : (sy_i F 86).toInt = 0 → (sy_i F 84).toInt ≠ 43 → 512 ≤ (sy_i F 8).toInt → 0 ≤ (sy_i F 33).toInt → (sy_i F 33).toInt ≤ 400 → ∀ F1 : Nat → sy_d, iv_in F1 iv_B0 → (∀ j, j < 82 → j ∉ ([] : List Nat) → F1 j = F j) → (sy_i F1 33).toInt = (sy_i F 33).toInt → (sy_i F1 34).toInt = (sy_i F 34).toInt → (sy_i F1 8).toInt = (sy_i F 8).toInt → sy_ai F1 39 = sy_ai F 39 → sy_ai F1 17 = sy_ai F 17 → (sy_i F1 82).toInt = (sy_i F 82).toInt → (sy_i F1 83).toInt = (sy_i F 83).toInt → (sy_i F1 84).toInt = 0 → (sy_i F1 85).toInt = ((sy_ai F 39).getD ((sy_i F 33).toInt).toNat 0).toInt → (sy_i F1 86).toInt = ((sy_i F 85).toInt + 1) → hd_W Ls xs d jm_M38 Q (23, sy_dL F1 [some (.inl (.ref 30)), some (.inr (.inl 82)), some (.inr (.inl 83)), some (.inr (.inl 84)), some (.inr (.inl 85)), some (.inr (.inl 86))], sy_dS F1 [], sy_dh F1 X1 X2 (iv_H 3), 0, 0))
    (k1 : (sy_i F 86).toInt = 0 → (sy_i F 84).toInt ≠ 43 → (sy_i F 8).toInt < 512 → 0 ≤ (sy_i F 33).toInt → (sy_i F 33).toInt ≤ 400 → ∀ F1 : Nat → sy_d, iv_in F1 iv_B0 → (∀ j, j < 82 → j ∉ ([8, 17] : List Nat) → F1 j = F j) → (sy_i F1 33).toInt = (sy_i F 33).toInt → (sy_i F1 34).toInt = (sy_i F 34).toInt → (sy_i F1 8).toInt = ((sy_i F 8).toInt + 1) → sy_ai F1 39 = sy_ai F 39 → sy_ai F1 17 = jm_upd (sy_ai F 17) ((sy_i F 8).toInt).toNat (((-11) : Int32)) → (sy_i F1 82).toInt = (sy_i F 82).toInt → (sy_i F1 83).toInt = (sy_i F 83).toInt → (sy_i F1 84).toInt = 0 → (sy_i F1 85).toInt = ((sy_ai F 39).getD ((sy_i F 33).toInt).toNat 0).toInt → (sy_i F1 86).toInt = ((sy_i F 85).toInt + 1) → hd_W Ls xs d jm_M38 Q (23, sy_dL F1 [some (.inl (.ref 30)), some (.inr (.inl 82)), some (.inr (.inl 83)), some (.inr (.inl 84)), some (.inr (.inl 85)), some (.inr (.inl 86))], sy_dS F1 [], sy_dh F1 X1 X2 (iv_H 3), 0, 0))
    (k2 : (sy_i F 86).toInt = 0 → (sy_i F 84).toInt = 43 → 512 ≤ (sy_i F 8).toInt → 0 ≤ (sy_i F 33).toInt → (sy_i F 33).toInt ≤ 400 → ∀ F1 : Nat → sy_d, iv_in F1 iv_B0 → (∀ j, j < 82 → j ∉ ([] : List Nat) → F1 j = F j) → (sy_i F1 33).toInt = (sy_i F 33).toInt → (sy_i F1 34).toInt = (sy_i F 34).toInt → (sy_i F1 8).toInt = (sy_i F 8).toInt → sy_ai F1 39 = sy_ai F 39 → sy_ai F1 17 = sy_ai F 17 → (sy_i F1 82).toInt = (sy_i F 82).toInt → (sy_i F1 83).toInt = (sy_i F 83).toInt → (sy_i F1 84).toInt = 0 → (sy_i F1 85).toInt = ((sy_ai F 39).getD ((sy_i F 33).toInt).toNat 0).toInt → (sy_i F1 86).toInt = ((sy_i F 85).toInt + 1) → hd_W Ls xs d jm_M38 Q (23, sy_dL F1 [some (.inl (.ref 30)), some (.inr (.inl 82)), some (.inr (.inl 83)), some (.inr (.inl 84)), some (.inr (.inl 85)), some (.inr (.inl 86))], sy_dS F1 [], sy_dh F1 X1 X2 (iv_H 3), 0, 0))
    (k3 : (sy_i F 86).toInt = 0 → (sy_i F 84).toInt = 43 → (sy_i F 8).toInt < 512 → 0 ≤ (sy_i F 33).toInt → (sy_i F 33).toInt ≤ 400 → ∀ F1 : Nat → sy_d, iv_in F1 iv_B0 → (∀ j, j < 82 → j ∉ ([8, 17] : List Nat) → F1 j = F j) → (sy_i F1 33).toInt = (sy_i F 33).toInt → (sy_i F1 34).toInt = (sy_i F 34).toInt → (sy_i F1 8).toInt = ((sy_i F 8).toInt + 1) → sy_ai F1 39 = sy_ai F 39 → sy_ai F1 17 = jm_upd (sy_ai F 17) ((sy_i F 8).toInt).toNat (((-10) : Int32)) → (sy_i F1 82).toInt = (sy_i F 82).toInt → (sy_i F1 83).toInt = (sy_i F 83).toInt → (sy_i F1 84).toInt = 0 → (sy_i F1 85).toInt = ((sy_ai F 39).getD ((sy_i F 33).toInt).toNat 0).toInt → (sy_i F1 86).toInt = ((sy_i F 85).toInt + 1) → hd_W Ls xs d jm_M38 Q (23, sy_dL F1 [some (.inl (.ref 30)), some (.inr (.inl 82)), some (.inr (.inl 83)), some (.inr (.inl 84)), some (.inr (.inl 85)), some (.inr (.inl 86))], sy_dS F1 [], sy_dh F1 X1 X2 (iv_H 3), 0, 0))
    (k4 : (sy_i F 86).toInt ≠ 0 → (sy_i F 84).toInt ≠ 43 → 512 ≤ (sy_i F 8).toInt → 0 ≤ (sy_i F 33).toInt → (sy_i F 33).toInt ≤ 400 → ∀ F1 : Nat → sy_d, iv_in F1 iv_B0 → (∀ j, j < 82 → j ∉ ([] : List Nat) → F1 j = F j) → (sy_i F1 33).toInt = (sy_i F 33).toInt → (sy_i F1 34).toInt = (sy_i F 34).toInt → (sy_i F1 8).toInt = (sy_i F 8).toInt → sy_ai F1 39 = sy_ai F 39 → sy_ai F1 17 = sy_ai F 17 → (sy_i F1 82).toInt = (sy_i F 82).toInt → (sy_i F1 83).toInt = (sy_i F 83).toInt → (sy_i F1 84).toInt = 1 → (sy_i F1 85).toInt = ((sy_ai F 39).getD ((sy_i F 33).toInt).toNat 0).toInt → (sy_i F1 86).toInt = ((sy_i F 85).toInt + 1) → hd_W Ls xs d jm_M38 Q (23, sy_dL F1 [some (.inl (.ref 30)), some (.inr (.inl 82)), some (.inr (.inl 83)), some (.inr (.inl 84)), some (.inr (.inl 85)), some (.inr (.inl 86))], sy_dS F1 [], sy_dh F1 X1 X2 (iv_H 3), 0, 0))
    (k5 : (sy_i F 86).toInt ≠ 0 → (sy_i F 84).toInt ≠ 43 → (sy_i F 8).toInt < 512 → 0 ≤ (sy_i F 33).toInt → (sy_i F 33).toInt ≤ 400 → ∀ F1 : Nat → sy_d, iv_in F1 iv_B0 → (∀ j, j < 82 → j ∉ ([8, 17] : List Nat) → F1 j = F j) → (sy_i F1 33).toInt = (sy_i F 33).toInt → (sy_i F1 34).toInt = (sy_i F 34).toInt → (sy_i F1 8).toInt = ((sy_i F 8).toInt + 1) → sy_ai F1 39 = sy_ai F 39 → sy_ai F1 17 = jm_upd (sy_ai F 17) ((sy_i F 8).toInt).toNat (((-11) : Int32)) → (sy_i F1 82).toInt = (sy_i F 82).toInt → (sy_i F1 83).toInt = (sy_i F 83).toInt → (sy_i F1 84).toInt = 1 → (sy_i F1 85).toInt = ((sy_ai F 39).getD ((sy_i F 33).toInt).toNat 0).toInt → (sy_i F1 86).toInt = ((sy_i F 85).toInt + 1) → hd_W Ls xs d jm_M38 Q (23, sy_dL F1 [some (.inl (.ref 30)), some (.inr (.inl 82)), some (.inr (.inl 83)), some (.inr (.inl 84)), some (.inr (.inl 85)), some (.inr (.inl 86))], sy_dS F1 [], sy_dh F1 X1 X2 (iv_H 3), 0, 0))
    (k6 : (sy_i F 86).toInt ≠ 0 → (sy_i F 84).toInt = 43 → 512 ≤ (sy_i F 8).toInt → 0 ≤ (sy_i F 33).toInt → (sy_i F 33).toInt ≤ 400 → ∀ F1 : Nat → sy_d, iv_in F1 iv_B0 → (∀ j, j < 82 → j ∉ ([] : List Nat) → F1 j = F j) → (sy_i F1 33).toInt = (sy_i F 33).toInt → (sy_i F1 34).toInt = (sy_i F 34).toInt → (sy_i F1 8).toInt = (sy_i F 8).toInt → sy_ai F1 39 = sy_ai F 39 → sy_ai F1 17 = sy_ai F 17 → (sy_i F1 82).toInt = (sy_i F 82).toInt → (sy_i F1 83).toInt = (sy_i F 83).toInt → (sy_i F1 84).toInt = 1 → (sy_i F1 85).toInt = ((sy_ai F 39).getD ((sy_i F 33).toInt).toNat 0).toInt → (sy_i F1 86).toInt = ((sy_i F 85).toInt + 1) → hd_W Ls xs d jm_M38 Q (23, sy_dL F1 [some (.inl (.ref 30)), some (.inr (.inl 82)), some (.inr (.inl 83)), some (.inr (.inl 84)), some (.inr (.inl 85)), some (.inr (.inl 86))], sy_dS F1 [], sy_dh F1 X1 X2 (iv_H 3), 0, 0))
    (k7 : (sy_i F 86).toInt ≠ 0 → (sy_i F 84).toInt = 43 → (sy_i F 8).toInt < 512 → 0 ≤ (sy_i F 33).toInt → (sy_i F 33).toInt ≤ 400 → ∀ F1 : Nat → sy_d, iv_in F1 iv_B0 → (∀ j, j < 82 → j ∉ ([8, 17] : List Nat) → F1 j = F j) → (sy_i F1 33).toInt = (sy_i F 33).toInt → (sy_i F1 34).toInt = (sy_i F 34).toInt → (sy_i F1 8).toInt = ((sy_i F 8).toInt + 1) → sy_ai F1 39 = sy_ai F 39 → sy_ai F1 17 = jm_upd (sy_ai F 17) ((sy_i F 8).toInt).toNat (((-10) : Int32)) → (sy_i F1 82).toInt = (sy_i F 82).toInt → (sy_i F1 83).toInt = (sy_i F 83).toInt → (sy_i F1 84).toInt = 1 → (sy_i F1 85).toInt = ((sy_ai F 39).getD ((sy_i F 33).toInt).toNat 0).toInt → (sy_i F1 86).toInt = ((sy_i F 85).toInt + 1) → hd_W Ls xs d jm_M38 Q (23, sy_dL F1 [some (.inl (.ref 30)), some (.inr (.inl 82)), some (.inr (.inl 83)), some (.inr (.inl 84)), some (.inr (.inl 85)), some (.inr (.inl 86))], sy_dS F1 [], sy_dh F1 X1 X2 (iv_H 3), 0, 0)) :
    hd_W Ls xs d jm_M38 Q (64, sy_dL F [some (.inl (.ref 30)), some (.inr (.inl 82)), some (.inr (.inl 83)), none, some (.inr (.inl 84)), some (.inr (.inl 85))], sy_dS F [.inr (.inl 86)], sy_dh F X1 X2 (iv_H 3), 0, 0) := by
  by_cases g0 : (sy_i F 86).toInt = 0
  · by_cases g1 : (sy_i F 84).toInt ≠ 43
    · by_cases g2 : 512 ≤ (sy_i F 8).toInt
      · by_cases g3 : (sy_i F 33).toInt < 0
        · have c8 := nz_bx hB (k := 8) (lo := 0) (hi := 512) rfl
          have c33 := nz_bx hB (k := 33) (lo := 0) (hi := 400) rfl
          exfalso
          omega
        replace g3 : 0 ≤ (sy_i F 33).toInt := by omega
        by_cases g4 : 400 < (sy_i F 33).toInt
        · have c8 := nz_bx hB (k := 8) (lo := 0) (hi := 512) rfl
          have c33 := nz_bx hB (k := 33) (lo := 0) (hi := 400) rfl
          exfalso
          omega
        replace g4 : (sy_i F 33).toInt ≤ 400 := by omega
        have c8 := nz_bx hB (k := 8) (lo := 0) (hi := 512) rfl
        have c33 := nz_bx hB (k := 33) (lo := 0) (hi := 400) rfl
        have q87 : (sy_ai F 39).getD (sy_i F 33).toNatClampNeg 0 = (sy_ai F 39).getD ((sy_i F 33).toInt).toNat 0 := by simp only [nz_c]
        have n87 : ((sy_ai F 39).getD (sy_i F 33).toNatClampNeg 0).toInt = ((sy_ai F 39).getD ((sy_i F 33).toInt).toNat 0).toInt := congrArg Int32.toInt q87
        have n88 : ((sy_i F 85) + ((1 : Int32))).toInt = ((sy_i F 85).toInt + 1) := nz_add (rfl : (sy_i F 85).toInt = (sy_i F 85).toInt) (by decide : ((1 : Int32)).toInt = 1) (by omega) (by omega)
        exact k3ps_64_p0 hd F X1 X2 hB (by first | exact g0 | (simp only [nz_c]; exact g0)) (by first | exact g1 | (simp only [nz_c]; exact g1)) (by first | exact g2 | (simp only [nz_c]; exact g2)) (by first | exact g3 | (simp only [nz_c]; exact g3)) (by first | exact g4 | (simp only [nz_c]; exact g4)) (by first | exact ⟨by omega, by omega⟩ | (simp only [nz_c]; exact ⟨by omega, by omega⟩)) (fun F1 g e82 e83 e84 e85 e86 => k0 g0 g1 g2 g3 g4 F1 (nz_in0 hB [] (fun j hj hn => g j hj (by simp only [List.mem_cons, List.not_mem_nil, or_false, not_or] at hn; exact trivial)) (List.forall_mem_nil _)) (fun j hj hn => g j hj (by simp only [List.mem_cons, List.not_mem_nil, or_false, not_or] at hn; exact trivial)) (nz_fi (g 33 (by decide) (by decide))) (nz_fi (g 34 (by decide) (by decide))) (nz_fi (g 8 (by decide) (by decide))) (nz_fa (g 39 (by decide) (by decide))) (nz_fa (g 17 (by decide) (by decide))) ((congrArg Int32.toInt (zz_i e82)).trans (rfl : (sy_i F 82).toInt = (sy_i F 82).toInt)) ((congrArg Int32.toInt (zz_i e83)).trans (rfl : (sy_i F 83).toInt = (sy_i F 83).toInt)) ((congrArg Int32.toInt (zz_i e84)).trans (by decide : ((0 : Int32)).toInt = 0)) ((congrArg Int32.toInt (zz_i e85)).trans n87) ((congrArg Int32.toInt (zz_i e86)).trans n88))
      replace g2 : (sy_i F 8).toInt < 512 := by omega
      by_cases g3 : (sy_i F 33).toInt < 0
      · have c8 := nz_bx hB (k := 8) (lo := 0) (hi := 512) rfl
        have c33 := nz_bx hB (k := 33) (lo := 0) (hi := 400) rfl
        exfalso
        omega
      replace g3 : 0 ≤ (sy_i F 33).toInt := by omega
      by_cases g4 : 400 < (sy_i F 33).toInt
      · have c8 := nz_bx hB (k := 8) (lo := 0) (hi := 512) rfl
        have c33 := nz_bx hB (k := 33) (lo := 0) (hi := 400) rfl
        exfalso
        omega
      replace g4 : (sy_i F 33).toInt ≤ 400 := by omega
      have c8 := nz_bx hB (k := 8) (lo := 0) (hi := 512) rfl
      have c33 := nz_bx hB (k := 33) (lo := 0) (hi := 400) rfl
      have n88 : ((sy_i F 8) + ((1 : Int32))).toInt = ((sy_i F 8).toInt + 1) := nz_add (rfl : (sy_i F 8).toInt = (sy_i F 8).toInt) (by decide : ((1 : Int32)).toInt = 1) (by omega) (by omega)
      have w87 : jm_upd (sy_ai F 17) (sy_i F 8).toNatClampNeg (((-11) : Int32)) = jm_upd (sy_ai F 17) ((sy_i F 8).toInt).toNat (((-11) : Int32)) := by simp only [nz_c, (by decide : (((-11) : Int32)).toInt = (-11 : Int))]
      have q89 : (sy_ai F 39).getD (sy_i F 33).toNatClampNeg 0 = (sy_ai F 39).getD ((sy_i F 33).toInt).toNat 0 := by simp only [nz_c]
      have n89 : ((sy_ai F 39).getD (sy_i F 33).toNatClampNeg 0).toInt = ((sy_ai F 39).getD ((sy_i F 33).toInt).toNat 0).toInt := congrArg Int32.toInt q89
      have n90 : ((sy_i F 85) + ((1 : Int32))).toInt = ((sy_i F 85).toInt + 1) := nz_add (rfl : (sy_i F 85).toInt = (sy_i F 85).toInt) (by decide : ((1 : Int32)).toInt = 1) (by omega) (by omega)
      exact k3ps_64_p1 hd F X1 X2 hB (by first | exact g0 | (simp only [nz_c]; exact g0)) (by first | exact g1 | (simp only [nz_c]; exact g1)) (by first | exact g2 | (simp only [nz_c]; exact g2)) (by first | exact ⟨by omega, by omega⟩ | (simp only [nz_c]; exact ⟨by omega, by omega⟩)) (by first | exact g3 | (simp only [nz_c]; exact g3)) (by first | exact g4 | (simp only [nz_c]; exact g4)) (by first | exact ⟨by omega, by omega⟩ | (simp only [nz_c]; exact ⟨by omega, by omega⟩)) (fun F1 g e8 e17 e82 e83 e84 e85 e86 => k1 g0 g1 g2 g3 g4 F1 (nz_in0 hB [8, 17] (fun j hj hn => g j hj (by simp only [List.mem_cons, List.not_mem_nil, or_false, not_or] at hn; omega)) (List.forall_mem_cons.mpr ⟨fun t ht => (Option.some.inj ht) ▸ (nz_hi e8 n88 (by omega) (by omega)), List.forall_mem_cons.mpr ⟨fun t ht => (Option.some.inj ht) ▸ (nz_hA e17 (nz_up (nz_ba hB (k := 17) (lo := (-2147483648)) (hi := 2147483646) rfl) (by decide : (((-11) : Int32)).toInt = (-11 : Int)) (by omega) (by omega))), List.forall_mem_nil _⟩⟩)) (fun j hj hn => g j hj (by simp only [List.mem_cons, List.not_mem_nil, or_false, not_or] at hn; omega)) (nz_fi (g 33 (by decide) (by decide))) (nz_fi (g 34 (by decide) (by decide))) ((congrArg Int32.toInt (zz_i e8)).trans n88) (nz_fa (g 39 (by decide) (by decide))) ((zz_ai e17).trans w87) ((congrArg Int32.toInt (zz_i e82)).trans (rfl : (sy_i F 82).toInt = (sy_i F 82).toInt)) ((congrArg Int32.toInt (zz_i e83)).trans (rfl : (sy_i F 83).toInt = (sy_i F 83).toInt)) ((congrArg Int32.toInt (zz_i e84)).trans (by decide : ((0 : Int32)).toInt = 0)) ((congrArg Int32.toInt (zz_i e85)).trans n89) ((congrArg Int32.toInt (zz_i e86)).trans n90))
    replace g1 : (sy_i F 84).toInt = 43 := by omega
    by_cases g2 : 512 ≤ (sy_i F 8).toInt
    · by_cases g3 : (sy_i F 33).toInt < 0
      · have c8 := nz_bx hB (k := 8) (lo := 0) (hi := 512) rfl
        have c33 := nz_bx hB (k := 33) (lo := 0) (hi := 400) rfl
        exfalso
        omega
      replace g3 : 0 ≤ (sy_i F 33).toInt := by omega
      by_cases g4 : 400 < (sy_i F 33).toInt
      · have c8 := nz_bx hB (k := 8) (lo := 0) (hi := 512) rfl
        have c33 := nz_bx hB (k := 33) (lo := 0) (hi := 400) rfl
        exfalso
        omega
      replace g4 : (sy_i F 33).toInt ≤ 400 := by omega
      have c8 := nz_bx hB (k := 8) (lo := 0) (hi := 512) rfl
      have c33 := nz_bx hB (k := 33) (lo := 0) (hi := 400) rfl
      have q87 : (sy_ai F 39).getD (sy_i F 33).toNatClampNeg 0 = (sy_ai F 39).getD ((sy_i F 33).toInt).toNat 0 := by simp only [nz_c]
      have n87 : ((sy_ai F 39).getD (sy_i F 33).toNatClampNeg 0).toInt = ((sy_ai F 39).getD ((sy_i F 33).toInt).toNat 0).toInt := congrArg Int32.toInt q87
      have n88 : ((sy_i F 85) + ((1 : Int32))).toInt = ((sy_i F 85).toInt + 1) := nz_add (rfl : (sy_i F 85).toInt = (sy_i F 85).toInt) (by decide : ((1 : Int32)).toInt = 1) (by omega) (by omega)
      exact k3ps_64_p2 hd F X1 X2 hB (by first | exact g0 | (simp only [nz_c]; exact g0)) (by first | exact g1 | (simp only [nz_c]; exact g1)) (by first | exact g2 | (simp only [nz_c]; exact g2)) (by first | exact g3 | (simp only [nz_c]; exact g3)) (by first | exact g4 | (simp only [nz_c]; exact g4)) (by first | exact ⟨by omega, by omega⟩ | (simp only [nz_c]; exact ⟨by omega, by omega⟩)) (fun F1 g e82 e83 e84 e85 e86 => k2 g0 g1 g2 g3 g4 F1 (nz_in0 hB [] (fun j hj hn => g j hj (by simp only [List.mem_cons, List.not_mem_nil, or_false, not_or] at hn; exact trivial)) (List.forall_mem_nil _)) (fun j hj hn => g j hj (by simp only [List.mem_cons, List.not_mem_nil, or_false, not_or] at hn; exact trivial)) (nz_fi (g 33 (by decide) (by decide))) (nz_fi (g 34 (by decide) (by decide))) (nz_fi (g 8 (by decide) (by decide))) (nz_fa (g 39 (by decide) (by decide))) (nz_fa (g 17 (by decide) (by decide))) ((congrArg Int32.toInt (zz_i e82)).trans (rfl : (sy_i F 82).toInt = (sy_i F 82).toInt)) ((congrArg Int32.toInt (zz_i e83)).trans (rfl : (sy_i F 83).toInt = (sy_i F 83).toInt)) ((congrArg Int32.toInt (zz_i e84)).trans (by decide : ((0 : Int32)).toInt = 0)) ((congrArg Int32.toInt (zz_i e85)).trans n87) ((congrArg Int32.toInt (zz_i e86)).trans n88))
    replace g2 : (sy_i F 8).toInt < 512 := by omega
    by_cases g3 : (sy_i F 33).toInt < 0
    · have c8 := nz_bx hB (k := 8) (lo := 0) (hi := 512) rfl
      have c33 := nz_bx hB (k := 33) (lo := 0) (hi := 400) rfl
      exfalso
      omega
    replace g3 : 0 ≤ (sy_i F 33).toInt := by omega
    by_cases g4 : 400 < (sy_i F 33).toInt
    · have c8 := nz_bx hB (k := 8) (lo := 0) (hi := 512) rfl
      have c33 := nz_bx hB (k := 33) (lo := 0) (hi := 400) rfl
      exfalso
      omega
    replace g4 : (sy_i F 33).toInt ≤ 400 := by omega
    have c8 := nz_bx hB (k := 8) (lo := 0) (hi := 512) rfl
    have c33 := nz_bx hB (k := 33) (lo := 0) (hi := 400) rfl
    have n88 : ((sy_i F 8) + ((1 : Int32))).toInt = ((sy_i F 8).toInt + 1) := nz_add (rfl : (sy_i F 8).toInt = (sy_i F 8).toInt) (by decide : ((1 : Int32)).toInt = 1) (by omega) (by omega)
    have w87 : jm_upd (sy_ai F 17) (sy_i F 8).toNatClampNeg (((-10) : Int32)) = jm_upd (sy_ai F 17) ((sy_i F 8).toInt).toNat (((-10) : Int32)) := by simp only [nz_c, (by decide : (((-10) : Int32)).toInt = (-10 : Int))]
    have q89 : (sy_ai F 39).getD (sy_i F 33).toNatClampNeg 0 = (sy_ai F 39).getD ((sy_i F 33).toInt).toNat 0 := by simp only [nz_c]
    have n89 : ((sy_ai F 39).getD (sy_i F 33).toNatClampNeg 0).toInt = ((sy_ai F 39).getD ((sy_i F 33).toInt).toNat 0).toInt := congrArg Int32.toInt q89
    have n90 : ((sy_i F 85) + ((1 : Int32))).toInt = ((sy_i F 85).toInt + 1) := nz_add (rfl : (sy_i F 85).toInt = (sy_i F 85).toInt) (by decide : ((1 : Int32)).toInt = 1) (by omega) (by omega)
    exact k3ps_64_p3 hd F X1 X2 hB (by first | exact g0 | (simp only [nz_c]; exact g0)) (by first | exact g1 | (simp only [nz_c]; exact g1)) (by first | exact g2 | (simp only [nz_c]; exact g2)) (by first | exact ⟨by omega, by omega⟩ | (simp only [nz_c]; exact ⟨by omega, by omega⟩)) (by first | exact g3 | (simp only [nz_c]; exact g3)) (by first | exact g4 | (simp only [nz_c]; exact g4)) (by first | exact ⟨by omega, by omega⟩ | (simp only [nz_c]; exact ⟨by omega, by omega⟩)) (fun F1 g e8 e17 e82 e83 e84 e85 e86 => k3 g0 g1 g2 g3 g4 F1 (nz_in0 hB [8, 17] (fun j hj hn => g j hj (by simp only [List.mem_cons, List.not_mem_nil, or_false, not_or] at hn; omega)) (List.forall_mem_cons.mpr ⟨fun t ht => (Option.some.inj ht) ▸ (nz_hi e8 n88 (by omega) (by omega)), List.forall_mem_cons.mpr ⟨fun t ht => (Option.some.inj ht) ▸ (nz_hA e17 (nz_up (nz_ba hB (k := 17) (lo := (-2147483648)) (hi := 2147483646) rfl) (by decide : (((-10) : Int32)).toInt = (-10 : Int)) (by omega) (by omega))), List.forall_mem_nil _⟩⟩)) (fun j hj hn => g j hj (by simp only [List.mem_cons, List.not_mem_nil, or_false, not_or] at hn; omega)) (nz_fi (g 33 (by decide) (by decide))) (nz_fi (g 34 (by decide) (by decide))) ((congrArg Int32.toInt (zz_i e8)).trans n88) (nz_fa (g 39 (by decide) (by decide))) ((zz_ai e17).trans w87) ((congrArg Int32.toInt (zz_i e82)).trans (rfl : (sy_i F 82).toInt = (sy_i F 82).toInt)) ((congrArg Int32.toInt (zz_i e83)).trans (rfl : (sy_i F 83).toInt = (sy_i F 83).toInt)) ((congrArg Int32.toInt (zz_i e84)).trans (by decide : ((0 : Int32)).toInt = 0)) ((congrArg Int32.toInt (zz_i e85)).trans n89) ((congrArg Int32.toInt (zz_i e86)).trans n90))
  replace g0 : (sy_i F 86).toInt ≠ 0 := by omega
  by_cases g1 : (sy_i F 84).toInt ≠ 43
  · by_cases g2 : 512 ≤ (sy_i F 8).toInt
    · by_cases g3 : (sy_i F 33).toInt < 0
      · have c8 := nz_bx hB (k := 8) (lo := 0) (hi := 512) rfl
        have c33 := nz_bx hB (k := 33) (lo := 0) (hi := 400) rfl
        exfalso
        omega
      replace g3 : 0 ≤ (sy_i F 33).toInt := by omega
      by_cases g4 : 400 < (sy_i F 33).toInt
      · have c8 := nz_bx hB (k := 8) (lo := 0) (hi := 512) rfl
        have c33 := nz_bx hB (k := 33) (lo := 0) (hi := 400) rfl
        exfalso
        omega
      replace g4 : (sy_i F 33).toInt ≤ 400 := by omega
      have c8 := nz_bx hB (k := 8) (lo := 0) (hi := 512) rfl
      have c33 := nz_bx hB (k := 33) (lo := 0) (hi := 400) rfl
      have q87 : (sy_ai F 39).getD (sy_i F 33).toNatClampNeg 0 = (sy_ai F 39).getD ((sy_i F 33).toInt).toNat 0 := by simp only [nz_c]
      have n87 : ((sy_ai F 39).getD (sy_i F 33).toNatClampNeg 0).toInt = ((sy_ai F 39).getD ((sy_i F 33).toInt).toNat 0).toInt := congrArg Int32.toInt q87
      have n88 : ((sy_i F 85) + ((1 : Int32))).toInt = ((sy_i F 85).toInt + 1) := nz_add (rfl : (sy_i F 85).toInt = (sy_i F 85).toInt) (by decide : ((1 : Int32)).toInt = 1) (by omega) (by omega)
      exact k3ps_64_p4 hd F X1 X2 hB (by first | exact g0 | (simp only [nz_c]; exact g0)) (by first | exact g1 | (simp only [nz_c]; exact g1)) (by first | exact g2 | (simp only [nz_c]; exact g2)) (by first | exact g3 | (simp only [nz_c]; exact g3)) (by first | exact g4 | (simp only [nz_c]; exact g4)) (by first | exact ⟨by omega, by omega⟩ | (simp only [nz_c]; exact ⟨by omega, by omega⟩)) (fun F1 g e82 e83 e84 e85 e86 => k4 g0 g1 g2 g3 g4 F1 (nz_in0 hB [] (fun j hj hn => g j hj (by simp only [List.mem_cons, List.not_mem_nil, or_false, not_or] at hn; exact trivial)) (List.forall_mem_nil _)) (fun j hj hn => g j hj (by simp only [List.mem_cons, List.not_mem_nil, or_false, not_or] at hn; exact trivial)) (nz_fi (g 33 (by decide) (by decide))) (nz_fi (g 34 (by decide) (by decide))) (nz_fi (g 8 (by decide) (by decide))) (nz_fa (g 39 (by decide) (by decide))) (nz_fa (g 17 (by decide) (by decide))) ((congrArg Int32.toInt (zz_i e82)).trans (rfl : (sy_i F 82).toInt = (sy_i F 82).toInt)) ((congrArg Int32.toInt (zz_i e83)).trans (rfl : (sy_i F 83).toInt = (sy_i F 83).toInt)) ((congrArg Int32.toInt (zz_i e84)).trans (by decide : ((1 : Int32)).toInt = 1)) ((congrArg Int32.toInt (zz_i e85)).trans n87) ((congrArg Int32.toInt (zz_i e86)).trans n88))
    replace g2 : (sy_i F 8).toInt < 512 := by omega
    by_cases g3 : (sy_i F 33).toInt < 0
    · have c8 := nz_bx hB (k := 8) (lo := 0) (hi := 512) rfl
      have c33 := nz_bx hB (k := 33) (lo := 0) (hi := 400) rfl
      exfalso
      omega
    replace g3 : 0 ≤ (sy_i F 33).toInt := by omega
    by_cases g4 : 400 < (sy_i F 33).toInt
    · have c8 := nz_bx hB (k := 8) (lo := 0) (hi := 512) rfl
      have c33 := nz_bx hB (k := 33) (lo := 0) (hi := 400) rfl
      exfalso
      omega
    replace g4 : (sy_i F 33).toInt ≤ 400 := by omega
    have c8 := nz_bx hB (k := 8) (lo := 0) (hi := 512) rfl
    have c33 := nz_bx hB (k := 33) (lo := 0) (hi := 400) rfl
    have n88 : ((sy_i F 8) + ((1 : Int32))).toInt = ((sy_i F 8).toInt + 1) := nz_add (rfl : (sy_i F 8).toInt = (sy_i F 8).toInt) (by decide : ((1 : Int32)).toInt = 1) (by omega) (by omega)
    have w87 : jm_upd (sy_ai F 17) (sy_i F 8).toNatClampNeg (((-11) : Int32)) = jm_upd (sy_ai F 17) ((sy_i F 8).toInt).toNat (((-11) : Int32)) := by simp only [nz_c, (by decide : (((-11) : Int32)).toInt = (-11 : Int))]
    have q89 : (sy_ai F 39).getD (sy_i F 33).toNatClampNeg 0 = (sy_ai F 39).getD ((sy_i F 33).toInt).toNat 0 := by simp only [nz_c]
    have n89 : ((sy_ai F 39).getD (sy_i F 33).toNatClampNeg 0).toInt = ((sy_ai F 39).getD ((sy_i F 33).toInt).toNat 0).toInt := congrArg Int32.toInt q89
    have n90 : ((sy_i F 85) + ((1 : Int32))).toInt = ((sy_i F 85).toInt + 1) := nz_add (rfl : (sy_i F 85).toInt = (sy_i F 85).toInt) (by decide : ((1 : Int32)).toInt = 1) (by omega) (by omega)
    exact k3ps_64_p5 hd F X1 X2 hB (by first | exact g0 | (simp only [nz_c]; exact g0)) (by first | exact g1 | (simp only [nz_c]; exact g1)) (by first | exact g2 | (simp only [nz_c]; exact g2)) (by first | exact ⟨by omega, by omega⟩ | (simp only [nz_c]; exact ⟨by omega, by omega⟩)) (by first | exact g3 | (simp only [nz_c]; exact g3)) (by first | exact g4 | (simp only [nz_c]; exact g4)) (by first | exact ⟨by omega, by omega⟩ | (simp only [nz_c]; exact ⟨by omega, by omega⟩)) (fun F1 g e8 e17 e82 e83 e84 e85 e86 => k5 g0 g1 g2 g3 g4 F1 (nz_in0 hB [8, 17] (fun j hj hn => g j hj (by simp only [List.mem_cons, List.not_mem_nil, or_false, not_or] at hn; omega)) (List.forall_mem_cons.mpr ⟨fun t ht => (Option.some.inj ht) ▸ (nz_hi e8 n88 (by omega) (by omega)), List.forall_mem_cons.mpr ⟨fun t ht => (Option.some.inj ht) ▸ (nz_hA e17 (nz_up (nz_ba hB (k := 17) (lo := (-2147483648)) (hi := 2147483646) rfl) (by decide : (((-11) : Int32)).toInt = (-11 : Int)) (by omega) (by omega))), List.forall_mem_nil _⟩⟩)) (fun j hj hn => g j hj (by simp only [List.mem_cons, List.not_mem_nil, or_false, not_or] at hn; omega)) (nz_fi (g 33 (by decide) (by decide))) (nz_fi (g 34 (by decide) (by decide))) ((congrArg Int32.toInt (zz_i e8)).trans n88) (nz_fa (g 39 (by decide) (by decide))) ((zz_ai e17).trans w87) ((congrArg Int32.toInt (zz_i e82)).trans (rfl : (sy_i F 82).toInt = (sy_i F 82).toInt)) ((congrArg Int32.toInt (zz_i e83)).trans (rfl : (sy_i F 83).toInt = (sy_i F 83).toInt)) ((congrArg Int32.toInt (zz_i e84)).trans (by decide : ((1 : Int32)).toInt = 1)) ((congrArg Int32.toInt (zz_i e85)).trans n89) ((congrArg Int32.toInt (zz_i e86)).trans n90))
  replace g1 : (sy_i F 84).toInt = 43 := by omega
  by_cases g2 : 512 ≤ (sy_i F 8).toInt
  · by_cases g3 : (sy_i F 33).toInt < 0
    · have c8 := nz_bx hB (k := 8) (lo := 0) (hi := 512) rfl
      have c33 := nz_bx hB (k := 33) (lo := 0) (hi := 400) rfl
      exfalso
      omega
    replace g3 : 0 ≤ (sy_i F 33).toInt := by omega
    by_cases g4 : 400 < (sy_i F 33).toInt
    · have c8 := nz_bx hB (k := 8) (lo := 0) (hi := 512) rfl
      have c33 := nz_bx hB (k := 33) (lo := 0) (hi := 400) rfl
      exfalso
      omega
    replace g4 : (sy_i F 33).toInt ≤ 400 := by omega
    have c8 := nz_bx hB (k := 8) (lo := 0) (hi := 512) rfl
    have c33 := nz_bx hB (k := 33) (lo := 0) (hi := 400) rfl
    have q87 : (sy_ai F 39).getD (sy_i F 33).toNatClampNeg 0 = (sy_ai F 39).getD ((sy_i F 33).toInt).toNat 0 := by simp only [nz_c]
    have n87 : ((sy_ai F 39).getD (sy_i F 33).toNatClampNeg 0).toInt = ((sy_ai F 39).getD ((sy_i F 33).toInt).toNat 0).toInt := congrArg Int32.toInt q87
    have n88 : ((sy_i F 85) + ((1 : Int32))).toInt = ((sy_i F 85).toInt + 1) := nz_add (rfl : (sy_i F 85).toInt = (sy_i F 85).toInt) (by decide : ((1 : Int32)).toInt = 1) (by omega) (by omega)
    exact k3ps_64_p6 hd F X1 X2 hB (by first | exact g0 | (simp only [nz_c]; exact g0)) (by first | exact g1 | (simp only [nz_c]; exact g1)) (by first | exact g2 | (simp only [nz_c]; exact g2)) (by first | exact g3 | (simp only [nz_c]; exact g3)) (by first | exact g4 | (simp only [nz_c]; exact g4)) (by first | exact ⟨by omega, by omega⟩ | (simp only [nz_c]; exact ⟨by omega, by omega⟩)) (fun F1 g e82 e83 e84 e85 e86 => k6 g0 g1 g2 g3 g4 F1 (nz_in0 hB [] (fun j hj hn => g j hj (by simp only [List.mem_cons, List.not_mem_nil, or_false, not_or] at hn; exact trivial)) (List.forall_mem_nil _)) (fun j hj hn => g j hj (by simp only [List.mem_cons, List.not_mem_nil, or_false, not_or] at hn; exact trivial)) (nz_fi (g 33 (by decide) (by decide))) (nz_fi (g 34 (by decide) (by decide))) (nz_fi (g 8 (by decide) (by decide))) (nz_fa (g 39 (by decide) (by decide))) (nz_fa (g 17 (by decide) (by decide))) ((congrArg Int32.toInt (zz_i e82)).trans (rfl : (sy_i F 82).toInt = (sy_i F 82).toInt)) ((congrArg Int32.toInt (zz_i e83)).trans (rfl : (sy_i F 83).toInt = (sy_i F 83).toInt)) ((congrArg Int32.toInt (zz_i e84)).trans (by decide : ((1 : Int32)).toInt = 1)) ((congrArg Int32.toInt (zz_i e85)).trans n87) ((congrArg Int32.toInt (zz_i e86)).trans n88))
  replace g2 : (sy_i F 8).toInt < 512 := by omega
  by_cases g3 : (sy_i F 33).toInt < 0
  · have c8 := nz_bx hB (k := 8) (lo := 0) (hi := 512) rfl
    have c33 := nz_bx hB (k := 33) (lo := 0) (hi := 400) rfl
    exfalso
    omega
  replace g3 : 0 ≤ (sy_i F 33).toInt := by omega
  by_cases g4 : 400 < (sy_i F 33).toInt
  · have c8 := nz_bx hB (k := 8) (lo := 0) (hi := 512) rfl
    have c33 := nz_bx hB (k := 33) (lo := 0) (hi := 400) rfl
    exfalso
    omega
  replace g4 : (sy_i F 33).toInt ≤ 400 := by omega
  have c8 := nz_bx hB (k := 8) (lo := 0) (hi := 512) rfl
  have c33 := nz_bx hB (k := 33) (lo := 0) (hi := 400) rfl
  have n88 : ((sy_i F 8) + ((1 : Int32))).toInt = ((sy_i F 8).toInt + 1) := nz_add (rfl : (sy_i F 8).toInt = (sy_i F 8).toInt) (by decide : ((1 : Int32)).toInt = 1) (by omega) (by omega)
  have w87 : jm_upd (sy_ai F 17) (sy_i F 8).toNatClampNeg (((-10) : Int32)) = jm_upd (sy_ai F 17) ((sy_i F 8).toInt).toNat (((-10) : Int32)) := by simp only [nz_c, (by decide : (((-10) : Int32)).toInt = (-10 : Int))]
  have q89 : (sy_ai F 39).getD (sy_i F 33).toNatClampNeg 0 = (sy_ai F 39).getD ((sy_i F 33).toInt).toNat 0 := by simp only [nz_c]
  have n89 : ((sy_ai F 39).getD (sy_i F 33).toNatClampNeg 0).toInt = ((sy_ai F 39).getD ((sy_i F 33).toInt).toNat 0).toInt := congrArg Int32.toInt q89
  have n90 : ((sy_i F 85) + ((1 : Int32))).toInt = ((sy_i F 85).toInt + 1) := nz_add (rfl : (sy_i F 85).toInt = (sy_i F 85).toInt) (by decide : ((1 : Int32)).toInt = 1) (by omega) (by omega)
  exact k3ps_64_p7 hd F X1 X2 hB (by first | exact g0 | (simp only [nz_c]; exact g0)) (by first | exact g1 | (simp only [nz_c]; exact g1)) (by first | exact g2 | (simp only [nz_c]; exact g2)) (by first | exact ⟨by omega, by omega⟩ | (simp only [nz_c]; exact ⟨by omega, by omega⟩)) (by first | exact g3 | (simp only [nz_c]; exact g3)) (by first | exact g4 | (simp only [nz_c]; exact g4)) (by first | exact ⟨by omega, by omega⟩ | (simp only [nz_c]; exact ⟨by omega, by omega⟩)) (fun F1 g e8 e17 e82 e83 e84 e85 e86 => k7 g0 g1 g2 g3 g4 F1 (nz_in0 hB [8, 17] (fun j hj hn => g j hj (by simp only [List.mem_cons, List.not_mem_nil, or_false, not_or] at hn; omega)) (List.forall_mem_cons.mpr ⟨fun t ht => (Option.some.inj ht) ▸ (nz_hi e8 n88 (by omega) (by omega)), List.forall_mem_cons.mpr ⟨fun t ht => (Option.some.inj ht) ▸ (nz_hA e17 (nz_up (nz_ba hB (k := 17) (lo := (-2147483648)) (hi := 2147483646) rfl) (by decide : (((-10) : Int32)).toInt = (-10 : Int)) (by omega) (by omega))), List.forall_mem_nil _⟩⟩)) (fun j hj hn => g j hj (by simp only [List.mem_cons, List.not_mem_nil, or_false, not_or] at hn; omega)) (nz_fi (g 33 (by decide) (by decide))) (nz_fi (g 34 (by decide) (by decide))) ((congrArg Int32.toInt (zz_i e8)).trans n88) (nz_fa (g 39 (by decide) (by decide))) ((zz_ai e17).trans w87) ((congrArg Int32.toInt (zz_i e82)).trans (rfl : (sy_i F 82).toInt = (sy_i F 82).toInt)) ((congrArg Int32.toInt (zz_i e83)).trans (rfl : (sy_i F 83).toInt = (sy_i F 83).toInt)) ((congrArg Int32.toInt (zz_i e84)).trans (by decide : ((1 : Int32)).toInt = 1)) ((congrArg Int32.toInt (zz_i e85)).trans n89) ((congrArg Int32.toInt (zz_i e86)).trans n90))
end
section
/-! ===== an expression's cells, piece by piece ===== -/
def okW (l : Nat) (W : List Int) : Prop := (l = 1 → coS true W = (W, [])) ∧ (l = 2 → coS false W = (W, []))
theorem okW_0 {W : List Int} : okW 0 W := ⟨fun z => absurd z (by decide), fun z => absurd z (by decide)⟩
theorem okW_21 {W : List Int} (h : okW 2 W) : okW 1 W := by
  refine ⟨fun _ => ?_, fun z => absurd z (by decide)⟩
  have h2 := h.2 rfl
  match W, h2 with
  | [], _ => rfl
  | w :: W, h2 =>
    by_cases q : w = 6
    · exact ok_w true (Or.inl q)
    · have e : coS false (w :: W) = ((coS false W).1, (opc w, 0) :: (coS false W).2) := by
        show (if _ then _ else _) = _
        rw [if_neg (by intro z; rcases z with z | z; exact q z; exact absurd z.1 (by decide))]
      rw [e] at h2
      exact absurd (congrArg Prod.snd h2) (by simp)
/-- the cells of an expression stand behind the others -/
noncomputable def zE (cs co l : Nat) (a : Int) (d : Nat) (F F' : Nat → sy_d) : Prop := (sy_i F cs).toInt ≤ (sy_i F' cs).toInt ∧ (sy_i F' cs).toInt + tg F ≤ (sy_i F cs).toInt + tg F' ∧ (∀ i : Nat, (i : Int) < (sy_i F cs).toInt → (sy_ai F' co).getD i 0 = (sy_ai F co).getD i 0) ∧ ∃ ops : List rO, clc (sy_ai F' co) (sy_i F cs).toInt.toNat ((sy_i F' cs).toInt - (sy_i F cs).toInt).toNat = ops.map (cell a) ∧ ∀ (W : List Int) (O : List rO), opn W = d → okW l W → cX (kg F) (vg F) (tg F) W 0 O = cX (kg F) (vg F) (tg F') W 1 (O ++ ops)
section ZE
variable {cs co l d : Nat} {a : Int} {F F1 F3 F4 : Nat → sy_d}
theorem zE_src {F0 : Nat → sy_d} (h : zE cs co l a d F0 F4) (e : ∀ q, q < 82 → F0 q = F q) (h1 : cs < 82) (h2 : co < 82) : zE cs co l a d F F4 := by
  unfold zE at h ⊢
  rw [nz_fi (e cs h1), nz_fa (e co h2), kg_eq (e 39 (by decide)), vg_eq (e 41 (by decide)), tg_eq (nz_fi (e 33 (by decide)))] at h
  exact h
theorem zE_dst {F2 : Nat → sy_d} (h : zE cs co l a d F F4) (e : ∀ q, q < 82 → F2 q = F4 q) (h1 : cs < 82) (h2 : co < 82) : zE cs co l a d F F2 := by
  unfold zE at h ⊢
  rw [nz_fi (e cs h1), nz_fa (e co h2), tg_eq (nz_fi (e 33 (by decide)))]
  exact h
theorem zE_mk {F2 : Nat → sy_d} (h : zE cs co l a d F F4) (e1 : (sy_i F2 cs).toInt = (sy_i F4 cs).toInt) (e2 : sy_ai F2 co = sy_ai F4 co) (e3 : (sy_i F2 33).toInt = (sy_i F4 33).toInt) : zE cs co l a d F F2 := by
  unfold zE at h ⊢
  rw [e1, e2, tg_eq e3]
  exact h
theorem zE_01 (h : zE cs co 0 a d F F4) (l : Nat) : zE cs co l a d F F4 := by
  obtain ⟨h1, h2, h3, ops, h4, h5⟩ := h
  exact ⟨h1, h2, h3, ops, h4, fun W O q _ => h5 W O q okW_0⟩
theorem zE_12 (h : zE cs co 1 a d F F4) : zE cs co 2 a d F F4 := by
  obtain ⟨h1, h2, h3, ops, h4, h5⟩ := h
  exact ⟨h1, h2, h3, ops, h4, fun W O q k => h5 W O q (okW_21 k)⟩
/-- one cell more, for a token -/
theorem zE_cell {o : rO} {v : Int32} (h0 : 0 ≤ (sy_i F cs).toInt) (ecs : (sy_i F4 cs).toInt = (sy_i F cs).toInt + 1) (eco : sy_ai F4 co = jm_upd (sy_ai F co) ((sy_i F cs).toInt).toNat v) (ht : tg F4 = tg F + 1) (hv : v.toInt = cell a o) (hX : ∀ (W : List Int) (O : List rO), cX (kg F) (vg F) (tg F) W 0 O = cX (kg F) (vg F) (tg F + 1) W 1 (O ++ [o])) : zE cs co l a d F F4 := by
  refine ⟨by omega, by omega, fun i hi => ?_, [o], ?_, fun W O _ _ => by rw [ht]; exact hX W O⟩
  · rw [eco, jm_upd_at, if_neg (by omega)]
  · rw [show ((sy_i F4 cs).toInt - (sy_i F cs).toInt).toNat = 1 by omega]
    show [((sy_ai F4 co).getD ((sy_i F cs).toInt.toNat + 0) 0).toInt] = [cell a o]
    rw [eco, jm_upd_at, if_pos (by omega), hv]
/-- a bracket -/
theorem zE_br (hcs : (sy_i F1 cs).toInt = (sy_i F cs).toInt) (hco : sy_ai F1 co = sy_ai F co) (hk : kg F1 = kg F) (hvg : vg F1 = vg F) (t1 : tg F1 = tg F + 1) (hB : zE cs co 2 a (d + 1) F1 F3) (e1 : (sy_i F4 cs).toInt = (sy_i F3 cs).toInt) (e2 : sy_ai F4 co = sy_ai F3 co) (t4 : tg F4 = tg F3 + 1) (k6 : kg F (tg F) = 6) (k7 : kg F (tg F3) = 7) (hd : d ≠ 6) (h1 : tg F < 400) (h3 : tg F3 < 400) : zE cs co 0 a d F F4 := by
  obtain ⟨b1, b2, b3, ops, b4, b5⟩ := hB
  rw [hcs, hco] at b3
  rw [hcs] at b1 b2 b4
  rw [hk, hvg, t1] at b5
  refine ⟨by omega, by omega, fun i hi => by rw [e2]; exact b3 i hi, ops, by rw [e1, e2]; exact b4, fun W O hW _ => ?_⟩
  rw [cX_o h1 k6 (by omega), b5 (6 :: W) O (by show (if (6 : Int) = 6 then opn W + 1 else opn W) = d + 1; rw [if_pos rfl, hW]) ⟨fun z => absurd z (by decide), fun _ => ok_w false (Or.inl rfl)⟩, cX_cl h3 k7, t4]
/-- a sign, and what comes behind it -/
theorem zE_sg {l' : Nat} {v : Int32} (h0 : 0 ≤ (sy_i F cs).toInt) (hA : zE cs co l a d F F1) {F2 : Nat → sy_d} (hcs : (sy_i F2 cs).toInt = (sy_i F1 cs).toInt) (hco : sy_ai F2 co = sy_ai F1 co) (hk : kg F2 = kg F) (hvg : vg F2 = vg F) (t2 : tg F2 = tg F1 + 1) (hB : zE cs co l' a d F2 F3) (e1 : (sy_i F4 cs).toInt = (sy_i F3 cs).toInt + 1) (e2 : sy_ai F4 co = jm_upd (sy_ai F3 co) ((sy_i F3 cs).toInt).toNat v) (t4 : tg F4 = tg F3) (hv : v.toInt = -8 - opc (kg F (tg F1)))
    (hX : ∀ (W : List Int) (O : List rO), okW l W → okW l' (kg F (tg F1) :: W) ∧ opn (kg F (tg F1) :: W) = opn W ∧ cX (kg F) (vg F) (tg F1) W 1 O = cX (kg F) (vg F) (tg F1 + 1) (kg F (tg F1) :: W) 0 O ∧ cX (kg F) (vg F) (tg F3) (kg F (tg F1) :: W) 1 O = cX (kg F) (vg F) (tg F3) W 1 (O ++ [(opc (kg F (tg F1)), 0)])) : zE cs co l a d F F4 := by
  obtain ⟨a1, a2, a3, p, a4, a5⟩ := hA
  obtain ⟨b1, b2, b3, q, b4, b5⟩ := hB
  rw [hcs, hco] at b3
  rw [hcs] at b1 b2 b4
  rw [hk, hvg, t2] at b5
  refine ⟨by omega, by omega, fun i hi => ?_, p ++ q ++ [(opc (kg F (tg F1)), 0)], ?_, fun W O hW ho => ?_⟩
  · rw [e2, jm_upd_at, if_neg (by omega), b3 i (by omega), a3 i hi]
  · have n1 : ((sy_i F4 cs).toInt - (sy_i F cs).toInt).toNat = (((sy_i F1 cs).toInt - (sy_i F cs).toInt).toNat + ((sy_i F3 cs).toInt - (sy_i F1 cs).toInt).toNat) + 1 := by omega
    have hc : clc (sy_ai F4 co) (sy_i F cs).toInt.toNat (((sy_i F1 cs).toInt - (sy_i F cs).toInt).toNat + ((sy_i F3 cs).toInt - (sy_i F1 cs).toInt).toNat) = (p ++ q).map (cell a) := by
      rw [e2, clc_eq (a := sy_ai F3 co) _ (fun i _ h2 => by rw [jm_upd_at, if_neg (by omega)]), clc_add, List.map_append, clc_eq (a := sy_ai F1 co) _ (fun i _ h2 => b3 i (by omega)), a4, show (sy_i F cs).toInt.toNat + ((sy_i F1 cs).toInt - (sy_i F cs).toInt).toNat = (sy_i F1 cs).toInt.toNat by omega, b4]
    rw [n1]
    show clc _ _ _ ++ [_] = _
    rw [hc, List.map_append (l₁ := p ++ q)]
    have hz : (opc (kg F (tg F1))) ≠ 0 ∧ (opc (kg F (tg F1))) ≠ 1 := by unfold opc; (repeat' split) <;> decide
    have hcell : cell a (opc (kg F (tg F1)), 0) = -8 - opc (kg F (tg F1)) := by
      show (if opc (kg F (tg F1)) = 0 then _ else if opc (kg F (tg F1)) = 1 then _ else _) = _
      rw [if_neg hz.1, if_neg hz.2]
    show _ ++ [((sy_ai F4 co).getD _ 0).toInt] = _ ++ [cell a (opc (kg F (tg F1)), 0)]
    rw [hcell, e2, jm_upd_at, if_pos (by omega), hv]
  · obtain ⟨x1, x2, x3, x4⟩ := hX W (O ++ p) ho
    obtain ⟨-, -, -, x5⟩ := hX W (O ++ p ++ q) ho
    rw [a5 W O hW ho, x3, b5 _ _ (x2.trans hW) x1, x5, t4, List.append_assoc, List.append_assoc, List.append_assoc]
end ZE
theorem zX_p {K V : Nat → Int} {t t3 : Nat} (h : K t = 10 ∨ K t = 15) (h1 : t < 400) (h3 : t3 ≤ 400) (W : List Int) (O : List rO) (ho : okW 1 W) : okW 0 (K t :: W) ∧ opn (K t :: W) = opn W ∧ cX K V t W 1 O = cX K V (t + 1) (K t :: W) 0 O ∧ cX K V t3 (K t :: W) 1 O = cX K V t3 W 1 (O ++ [(opc (K t), 0)]) :=
  ⟨okW_0, by show (if K t = 6 then _ else _) = _; rw [if_neg (by omega)], cX_bp h1 h (ho.1 rfl), cX_p h3 h (ho.1 rfl)⟩
theorem zX_s {K V : Nat → Int} {t t3 : Nat} (h : K t = 8 ∨ K t = 9) (h1 : t < 400) (h3 : t3 ≤ 400) (n1 : K t3 ≠ 10) (n2 : K t3 ≠ 15) (W : List Int) (O : List rO) (ho : okW 2 W) : okW 1 (K t :: W) ∧ opn (K t :: W) = opn W ∧ cX K V t W 1 O = cX K V (t + 1) (K t :: W) 0 O ∧ cX K V t3 (K t :: W) 1 O = cX K V t3 W 1 (O ++ [(opc (K t), 0)]) :=
  ⟨⟨fun _ => ok_w true (Or.inr ⟨rfl, h⟩), fun z => absurd z (by decide)⟩, by show (if K t = 6 then _ else _) = _; rw [if_neg (by omega)], cX_bs h1 h (ho.2 rfl), cX_s h3 h n1 n2⟩
/-- a var's cell, for the law a -/
theorem tv_all : ∀ i : Fin 6, ∀ j : Fin 9, ((((([260, 383, 383, 407, 279, 300] : List Int32).getD i.val 0) >>> ((Int32.ofNat (j.val + 14) - (14 : Int32)) &&& 31)) &&& (1 : Int32)).toInt = 1 ↔ tvs i.val j.val = true) := by decide +kernel
theorem tv_is {A : Int} {k : Int32} (a0 : 0 ≤ A) (a5 : A ≤ 5) (k0 : 14 ≤ k.toInt) (k1 : k.toInt ≤ 22) : ((((([260, 383, 383, 407, 279, 300] : List Int32).getD A.toNat 0) >>> ((k - (14 : Int32)) &&& 31)) &&& (1 : Int32)).toInt = 1 ↔ tvs A (k.toInt - 14) = true) := by
  have h := tv_all ⟨A.toNat, by omega⟩ ⟨(k.toInt - 14).toNat, by omega⟩
  have ek : Int32.ofNat ((k.toInt - 14).toNat + 14) = k := Int32.toInt_inj.mp (by
    rw [show (k.toInt - 14).toNat + 14 = k.toInt.toNat by omega]
    rw [Int32.toInt_ofNat_of_lt (by omega)]
    omega)
  have e1 : ((A.toNat : Nat) : Int) = A := by omega
  have e2 : (((k.toInt - 14).toNat : Nat) : Int) = k.toInt - 14 := by omega
  simp only [ek, e1, e2] at h
  exact h
theorem tv_cell1 {A v : Int} {k : Int32} (a0 : 0 ≤ A) (a5 : A ≤ 5) (k0 : 14 ≤ k.toInt) (k1 : k.toInt ≤ 22) (hv : v = k.toInt + 20) (h : oq (((([260, 383, 383, 407, 279, 300] : List Int32).getD A.toNat 0) >>> ((k - (14 : Int32)) &&& 31)) &&& (1 : Int32)).toInt 1) : -1 - (k.toInt - 14) = cell A (1, v - 34) := by
  show _ = if (1 : Int) = 0 then _ else if (1 : Int) = 1 then (if tvs A (v - 34) = true then -1 - (v - 34) else 0) else _
  rw [if_neg (by decide), if_pos rfl, show v - 34 = k.toInt - 14 by omega, if_pos ((tv_is a0 a5 k0 k1).mp h)]
theorem tv_cell0 {A v : Int} {k : Int32} (a0 : 0 ≤ A) (a5 : A ≤ 5) (k0 : 14 ≤ k.toInt) (k1 : k.toInt ≤ 22) (hv : v = k.toInt + 20) (h : ¬ oq (((([260, 383, 383, 407, 279, 300] : List Int32).getD A.toNat 0) >>> ((k - (14 : Int32)) &&& 31)) &&& (1 : Int32)).toInt 1) : 0 = cell A (1, v - 34) := by
  show _ = if (1 : Int) = 0 then _ else if (1 : Int) = 1 then (if tvs A (v - 34) = true then -1 - (v - 34) else 0) else _
  rw [if_neg (by decide), if_pos rfl, show v - 34 = k.toInt - 14 by omega, if_neg (fun q => h ((tv_is a0 a5 k0 k1).mpr q))]
end
section
/-! ===== the class parses expressions: the cells ===== -/
noncomputable def zR (cs co l : Nat) (W : List Nat) (E : Int → Prop) (d : Nat) (a : Int) (x : Int32) (F F' : Nat → sy_d) : Prop := pR W E d x F F' ∧ (x = 1 → zE cs co l a d F F')
theorem zR_src {cs co l : Nat} {W : List Nat} {E : Int → Prop} {d : Nat} {a : Int} {x : Int32} {F F0 F' : Nat → sy_d} (h : zR cs co l W E d a x F0 F') (e : ∀ q, q < 82 → F0 q = F q) (h1 : cs < 82) (h2 : co < 82) : zR cs co l W E d a x F F' := ⟨pR_src h.1 e, fun z => zE_src (h.2 z) e h1 h2⟩
section PZ0
variable {Ls : Nat} {xs : Nat → Int32} (X1 X2 : List jm_c)
noncomputable def k0uZ (Ls : Nat) (xs : Nat → Int32) (X1 X2 : List jm_c) (m : Nat) : Prop := ∀ (F : Nat → sy_d) (a b : Int32), iv_in F iv_B0 → jx_ok F → (sy_i F 23).toInt ≤ 12 + tg F → 0 ≤ a.toInt → a.toInt ≤ 5 → b.toInt = 6 - m → jm_T Ls xs (4 + 3 * m) jm_M40 [.ref 30, .int a, .int b] (sy_dh F X1 X2 (iv_H 0)) 0 0 (fun v G => ∃ (x : Int32) (F' : Nat → sy_d), v = some (.int x) ∧ G = sy_dh F' X1 X2 (iv_H 0) ∧ zR 23 32 0 k0_W E0 b.toInt.toNat a.toInt x F F')
noncomputable def k0pZ (Ls : Nat) (xs : Nat → Int32) (X1 X2 : List jm_c) (m : Nat) : Prop := ∀ (F : Nat → sy_d) (a b : Int32), iv_in F iv_B0 → jx_ok F → (sy_i F 23).toInt ≤ 12 + tg F → 0 ≤ a.toInt → a.toInt ≤ 5 → b.toInt = 6 - m → jm_T Ls xs (5 + 3 * m) jm_M39 [.ref 30, .int a, .int b] (sy_dh F X1 X2 (iv_H 0)) 0 0 (fun v G => ∃ (x : Int32) (F' : Nat → sy_d), v = some (.int x) ∧ G = sy_dh F' X1 X2 (iv_H 0) ∧ zR 23 32 1 k0_W E1 b.toInt.toNat a.toInt x F F')
noncomputable def k0sZ (Ls : Nat) (xs : Nat → Int32) (X1 X2 : List jm_c) (m : Nat) : Prop := ∀ (F : Nat → sy_d) (a b : Int32), iv_in F iv_B0 → jx_ok F → (sy_i F 23).toInt ≤ 12 + tg F → 0 ≤ a.toInt → a.toInt ≤ 5 → b.toInt = 6 - m → jm_T Ls xs (6 + 3 * m) jm_M38 [.ref 30, .int a, .int b] (sy_dh F X1 X2 (iv_H 0)) 0 0 (fun v G => ∃ (x : Int32) (F' : Nat → sy_d), v = some (.int x) ∧ G = sy_dh F' X1 X2 (iv_H 0) ∧ zR 23 32 2 k0_W E2 b.toInt.toNat a.toInt x F F')
theorem k0u_endz {dp : Nat} (F0 F1 F3 : Nat → sy_d) (d : Nat) (a : Int) (hd : 4 ≤ dp) (g1 : gc k0_W F0 F1) (g3 : gc k0_W F1 F3) (hlt : tg F0 < tg F1) (hle : tg F1 ≤ tg F3) (h : (sy_i F3 84 = 0 ∧ eX (kg F0) (tg F0) d 0 = .inl ((sy_i F3 34).toInt, tg F3)) ∨ (sy_i F3 84 = 1 ∧ eX (kg F0) (tg F0) d 0 = eX (kg F0) (tg F3) (d + 1) 1 ∧ tg F0 < tg F3 ∧ ¬ E2 (kg F0 (tg F3)))) (hz : sy_i F3 84 = 1 → zE 23 32 2 a (d + 1) F1 F3) (hcs : (sy_i F1 23).toInt = (sy_i F0 23).toInt) (hco : sy_ai F1 32 = sy_ai F0 32) (t1 : tg F1 = tg F0 + 1) (k6 : kg F0 (tg F0) = 6) (hd6 : d ≠ 6) (h1 : tg F0 < 400) :
    hd_W Ls xs dp jm_M40 (fun v G => ∃ (x : Int32) (F' : Nat → sy_d), v = some (.int x) ∧ G = sy_dh F' X1 X2 (iv_H 0) ∧ zR 23 32 0 k0_W E0 d a x F0 F') (137, sy_dL F3 [some (.inl (.ref 30)), none, none, none, none], sy_dS F3 [.inr (.inl 84)], sy_dh F3 X1 X2 (iv_H 0), 0, 0) := by
  have g03 : gc k0_W F0 F3 := g1.trans g3 (fun _ q => q)
  have hB3 := g03.1
  have c33 := nz_bx hB3 (k := 33) (lo := 0) (hi := 400) rfl
  have et : (tg F3 : Int) = (sy_i F3 33).toInt := by unfold tg; omega
  have eK : kg F0 (tg F3) = km ((sy_ai F3 39).getD (sy_i F3 33).toInt.toNat 0).toInt := by rw [show sy_ai F3 39 = sy_ai F0 39 from nz_fa (g03.2 39 (by decide) (by decide))]; rfl
  have m2 : kg F0 (tg F3) = 2 ↔ ((sy_ai F3 39).getD (sy_i F3 33).toInt.toNat 0).toInt = 24 := by rw [eK]; exact km_2
  have m6 : kg F0 (tg F3) = 6 ↔ ((sy_ai F3 39).getD (sy_i F3 33).toInt.toNat 0).toInt = 40 := by rw [eK]; exact km_6
  have m7 : kg F0 (tg F3) = 7 ↔ ((sy_ai F3 39).getD (sy_i F3 33).toInt.toNat 0).toInt = 41 := by rw [eK]; exact km_7
  have m8 : kg F0 (tg F3) = 8 ↔ ((sy_ai F3 39).getD (sy_i F3 33).toInt.toNat 0).toInt = 43 := by rw [eK]; exact km_8
  have m9 : kg F0 (tg F3) = 9 ↔ ((sy_ai F3 39).getD (sy_i F3 33).toInt.toNat 0).toInt = 45 := by rw [eK]; exact km_9
  have m10 : kg F0 (tg F3) = 10 ↔ ((sy_ai F3 39).getD (sy_i F3 33).toInt.toNat 0).toInt = 42 := by rw [eK]; exact km_10
  have m15 : kg F0 (tg F3) = 15 ↔ ((sy_ai F3 39).getD (sy_i F3 33).toInt.toNat 0).toInt = 47 := by rw [eK]; exact km_15
  have mv : (34 ≤ kg F0 (tg F3) ∧ kg F0 (tg F3) ≤ 42) ↔ (14 ≤ ((sy_ai F3 39).getD (sy_i F3 33).toInt.toNat 0).toInt ∧ ((sy_ai F3 39).getD (sy_i F3 33).toInt.toNat 0).toInt ≤ 22) := by rw [eK]; exact km_v
  refine k0zu_137 (by omega) F3 X1 X2 hB3 ?_ ?_ ?_ ?_
  · intro q F4 hb g e33 e34 eC a39 aC
    refine ⟨_, F4, rfl, rfl, ⟨g03.trans (gc_mk (W := k0_W) hb g (by decide)) (fun _ q => q), by rw [tg_eq e33]; omega, Or.inl ⟨rfl, ?_⟩⟩, fun zz => absurd zz (by decide)⟩
    rcases h with ⟨h1', h2⟩ | ⟨h1', -⟩
    · rw [e34, tg_eq e33]
      exact h2
    · rw [h1'] at q
      exact absurd q (by decide)
  · intro q84 _ _ _ _ F4 hb g e33 e34 eC a39 aC
    rcases h with ⟨h1', -⟩ | ⟨h1', h2, h3, h4⟩
    · rw [h1'] at q84
      exact absurd (by decide) q84
    have hE : ¬ (kg F0 (tg F3) = 8 ∨ kg F0 (tg F3) = 9 ∨ kg F0 (tg F3) = 10 ∨ kg F0 (tg F3) = 15) := h4
    refine ⟨_, F4, rfl, rfl, ⟨g03.trans (gc_mk (W := k0_W) hb g (by decide)) (fun _ q => q), by first | (rw [tg_eq e33]; omega) | (rw [tg_s c33.1 e33]; omega), ?_⟩, fun zz => ?_⟩
    rotate_left
    · first
      | exact absurd zz (by decide)
      | exact zE_br hcs hco (kg_eq (g1.2 39 (by decide) (by decide))) (vg_eq (g1.2 41 (by decide) (by decide))) t1 (hz h1') eC aC (tg_s c33.1 e33) k6 (by omega) hd6 h1 (by omega)
    first
      | exact Or.inr ⟨rfl, by rw [tg_s c33.1 e33]; exact h2.trans (eX_c (by omega) (by omega) (by omega)), by rw [tg_s c33.1 e33]; omega, id⟩
      | exact Or.inl ⟨rfl, by rw [e34, tg_eq e33]; exact h2.trans (eX_c4 (by omega) (by omega) (by omega))⟩
      | exact Or.inl ⟨rfl, by rw [e34, tg_eq e33]; exact h2.trans (eX_e1 (by omega) (by omega) hE (by omega))⟩
  · intro q84 _ _ _ _ F4 hb g e33 e34 eC a39 aC
    rcases h with ⟨h1', -⟩ | ⟨h1', h2, h3, h4⟩
    · rw [h1'] at q84
      exact absurd (by decide) q84
    have hE : ¬ (kg F0 (tg F3) = 8 ∨ kg F0 (tg F3) = 9 ∨ kg F0 (tg F3) = 10 ∨ kg F0 (tg F3) = 15) := h4
    refine ⟨_, F4, rfl, rfl, ⟨g03.trans (gc_mk (W := k0_W) hb g (by decide)) (fun _ q => q), by first | (rw [tg_eq e33]; omega) | (rw [tg_s c33.1 e33]; omega), ?_⟩, fun zz => ?_⟩
    rotate_left
    · first
      | exact absurd zz (by decide)
      | exact zE_br hcs hco (kg_eq (g1.2 39 (by decide) (by decide))) (vg_eq (g1.2 41 (by decide) (by decide))) t1 (hz h1') eC aC (tg_s c33.1 e33) k6 (by omega) hd6 h1 (by omega)
    first
      | exact Or.inr ⟨rfl, by rw [tg_s c33.1 e33]; exact h2.trans (eX_c (by omega) (by omega) (by omega)), by rw [tg_s c33.1 e33]; omega, id⟩
      | exact Or.inl ⟨rfl, by rw [e34, tg_eq e33]; exact h2.trans (eX_c4 (by omega) (by omega) (by omega))⟩
      | exact Or.inl ⟨rfl, by rw [e34, tg_eq e33]; exact h2.trans (eX_e1 (by omega) (by omega) hE (by omega))⟩
  · intro q84 _ _ _ F4 hb g e33 e34 eC a39 aC
    rcases h with ⟨h1', -⟩ | ⟨h1', h2, h3, h4⟩
    · rw [h1'] at q84
      exact absurd (by decide) q84
    have hE : ¬ (kg F0 (tg F3) = 8 ∨ kg F0 (tg F3) = 9 ∨ kg F0 (tg F3) = 10 ∨ kg F0 (tg F3) = 15) := h4
    refine ⟨_, F4, rfl, rfl, ⟨g03.trans (gc_mk (W := k0_W) hb g (by decide)) (fun _ q => q), by first | (rw [tg_eq e33]; omega) | (rw [tg_s c33.1 e33]; omega), ?_⟩, fun zz => ?_⟩
    rotate_left
    · first
      | exact absurd zz (by decide)
      | exact zE_br hcs hco (kg_eq (g1.2 39 (by decide) (by decide))) (vg_eq (g1.2 41 (by decide) (by decide))) t1 (hz h1') eC aC (tg_s c33.1 e33) k6 (by omega) hd6 h1 (by omega)
    first
      | exact Or.inr ⟨rfl, by rw [tg_s c33.1 e33]; exact h2.trans (eX_c (by omega) (by omega) (by omega)), by rw [tg_s c33.1 e33]; omega, id⟩
      | exact Or.inl ⟨rfl, by rw [e34, tg_eq e33]; exact h2.trans (eX_c4 (by omega) (by omega) (by omega))⟩
      | exact Or.inl ⟨rfl, by rw [e34, tg_eq e33]; exact h2.trans (eX_e1 (by omega) (by omega) hE (by omega))⟩
theorem k0u_ofz (m : Nat) (hm : m ≤ 6) (ih : ∀ m', m = m' + 1 → k0sZ Ls xs X1 X2 m') : k0uZ Ls xs X1 X2 m := by
  intro F a b hB hJ hcs a0 a5 hb
  refine nx_T (s := 0) (by decide) F X1 X2 (as := [a, b]) (A := [.inl (.ref 30), .inr (.inl 82), .inr (.inl 83)]) jm_ok40 (by decide) rfl ?_
  obtain ⟨F0, hF0⟩ : ∃ F0, F0 = nx 82 F [a, b] := ⟨_, rfl⟩
  rw [← hF0]
  have k0 : ∀ q, q < 82 → F0 q = F q := by rw [hF0]; exact nx_lt
  have i82 : sy_i F0 82 = a := by rw [hF0]; rfl
  have i83 : sy_i F0 83 = b := by rw [hF0]; rfl
  have hB0 := hd_iveq0 hB k0
  have hJ0 : jx_ok F0 := jx_ok_eq (k0 39 (by decide)) (k0 41 (by decide)) hJ
  have hcs0 : (sy_i F0 23).toInt ≤ 12 + tg F0 := by rw [nz_fi (k0 23 (by decide)), tg_eq (nz_fi (k0 33 (by decide)))]; exact hcs
  have cC := nz_bx hB0 (k := 23) (lo := 0) (hi := 512) rfl
  refine hd_W_mono (Q := fun v G => ∃ (x : Int32) (F' : Nat → sy_d), v = some (.int x) ∧ G = sy_dh F' X1 X2 (iv_H 0) ∧ zR 23 32 0 k0_W E0 b.toInt.toNat a.toInt x F0 F') ?_ (by
    rintro v G ⟨x, F', rfl, rfl, hR⟩
    exact ⟨x, F', rfl, rfl, zR_src hR k0 (by decide) (by decide)⟩)
  clear hF0
  have j82 : (sy_i F0 82).toInt = a.toInt := by rw [i82]
  have j83 : (sy_i F0 83).toInt = b.toInt := by rw [i83]
  have c33 := nz_bx hB0 (k := 33) (lo := 0) (hi := 400) rfl
  have et : (tg F0 : Int) = (sy_i F0 33).toInt := by unfold tg; omega
  have eK : kg F0 (tg F0) = km ((sy_ai F0 39).getD (sy_i F0 33).toInt.toNat 0).toInt := rfl
  have m2 : kg F0 (tg F0) = 2 ↔ ((sy_ai F0 39).getD (sy_i F0 33).toInt.toNat 0).toInt = 24 := by rw [eK]; exact km_2
  have m6 : kg F0 (tg F0) = 6 ↔ ((sy_ai F0 39).getD (sy_i F0 33).toInt.toNat 0).toInt = 40 := by rw [eK]; exact km_6
  have m7 : kg F0 (tg F0) = 7 ↔ ((sy_ai F0 39).getD (sy_i F0 33).toInt.toNat 0).toInt = 41 := by rw [eK]; exact km_7
  have m8 : kg F0 (tg F0) = 8 ↔ ((sy_ai F0 39).getD (sy_i F0 33).toInt.toNat 0).toInt = 43 := by rw [eK]; exact km_8
  have m9 : kg F0 (tg F0) = 9 ↔ ((sy_ai F0 39).getD (sy_i F0 33).toInt.toNat 0).toInt = 45 := by rw [eK]; exact km_9
  have m10 : kg F0 (tg F0) = 10 ↔ ((sy_ai F0 39).getD (sy_i F0 33).toInt.toNat 0).toInt = 42 := by rw [eK]; exact km_10
  have m15 : kg F0 (tg F0) = 15 ↔ ((sy_ai F0 39).getD (sy_i F0 33).toInt.toNat 0).toInt = 47 := by rw [eK]; exact km_15
  have mv : (34 ≤ kg F0 (tg F0) ∧ kg F0 (tg F0) ≤ 42) ↔ (14 ≤ ((sy_ai F0 39).getD (sy_i F0 33).toInt.toNat 0).toInt ∧ ((sy_ai F0 39).getD (sy_i F0 33).toInt.toNat 0).toInt ≤ 22) := by rw [eK]; exact km_v
  have hJ1 : ((sy_ai F0 39).getD (sy_i F0 33).toInt.toNat 0).toInt = 24 → 0 ≤ (((sy_al F0 41).getD (sy_i F0 33).toInt.toNat 0).toInt32).toInt ∧ (((sy_al F0 41).getD (sy_i F0 33).toInt.toNat 0).toInt32).toInt ≤ 9999 := fun h => jx_i32 hJ0 h
  have em : ∀ (F1 : Nat → sy_d) (o : rO), (∀ q, q < 82 → F1 q = F0 q) → (sy_i F1 83).toInt = cell a.toInt o → (∀ (W : List Int) (O : List rO), tg F0 < 400 → cX (kg F0) (vg F0) (tg F0) W 0 O = cX (kg F0) (vg F0) (tg F0 + 1) W 1 (O ++ [o])) → gc k0_W F0 F1 → (sy_i F1 33).toInt = (sy_i F0 33).toInt → (sy_i F1 82).toInt = ((sy_ai F0 39).getD (sy_i F0 33).toInt.toNat 0).toInt → -100 ≤ (sy_i F1 83).toInt → (sy_i F1 83).toInt ≤ 9999 → (kg F0 (tg F0) = 2 ∨ (34 ≤ kg F0 (tg F0) ∧ kg F0 (tg F0) ≤ 42)) → ∀ pc, (pc = 34 ∨ pc = 88) → hd_W Ls xs (4 + 3 * m) jm_M40 (fun v G => ∃ (x : Int32) (F' : Nat → sy_d), v = some (.int x) ∧ G = sy_dh F' X1 X2 (iv_H 0) ∧ zR 23 32 0 k0_W E0 b.toInt.toNat a.toInt x F0 F') (pc, sy_dL F1 [some (.inl (.ref 30)), none, none, some (.inr (.inl 82)), none], sy_dS F1 [.inr (.inl 83), .inl (.ref 20)], sy_dh F1 X1 X2 (iv_H 0), 0, 0) := by
    intro F1 o g1a hcell hXo g1 f33 f82 v0 v1 hk pc hpc
    have fC := nz_fi (g1a 23 (by decide))
    have fO := nz_fa (g1a 32 (by decide))
    have x39 : sy_ai F1 39 = sy_ai F0 39 := nz_fa (g1.2 39 (by decide) (by decide))
    have c82 : ((sy_ai F1 39).getD (sy_i F1 33).toInt.toNat 0).toInt = (sy_i F1 82).toInt := by rw [x39, f33, f82]
    have e0 : tg F1 = tg F0 := tg_eq f33
    clear m2 m6 m7 m8 m9 m10 m15 mv eK
    rcases hpc with rfl | rfl
    · refine k0zu_34 (by omega) F1 X1 X2 g1.1 (by omega) ?_ ?_ ?_ ?_ ?_ ?_
      all_goals intros
      all_goals first
        | (exfalso; omega)
        | (rename_i F2 hb2 g e33 e34 eC a39 aC
           exact ⟨_, F2, rfl, rfl, ⟨g1.trans (gc_mk (W := k0_W) hb2 g (by decide)) (fun _ q => q), by rw [tg_eq e33]; omega, Or.inl ⟨rfl, by rw [e34, tg_eq e33, e0]; exact eX_u4 (by omega) hk⟩⟩, fun zz => absurd zz (by decide)⟩)
        | (rename_i F2 hb2 g e33 e34 eC a39 aC
           have ts := tg_s (by omega) e33
           exact ⟨_, F2, rfl, rfl, ⟨g1.trans (gc_mk (W := k0_W) hb2 g (by decide)) (fun _ q => q), by omega, Or.inr ⟨rfl, by rw [ts, e0]; exact eX_u (by omega) hk, by omega, id⟩⟩, fun _ => zE_cell (by omega) (by rw [eC, fC]) (by rw [aC, fO, fC]) (by omega) hcell (fun W O => hXo W O (by omega))⟩)
    · refine k0zu_88 (by omega) F1 X1 X2 g1.1 (by omega) ?_ ?_ ?_ ?_ ?_ ?_
      all_goals intros
      all_goals first
        | (exfalso; omega)
        | (rename_i F2 hb2 g e33 e34 eC a39 aC
           exact ⟨_, F2, rfl, rfl, ⟨g1.trans (gc_mk (W := k0_W) hb2 g (by decide)) (fun _ q => q), by rw [tg_eq e33]; omega, Or.inl ⟨rfl, by rw [e34, tg_eq e33, e0]; exact eX_u4 (by omega) hk⟩⟩, fun zz => absurd zz (by decide)⟩)
        | (rename_i F2 hb2 g e33 e34 eC a39 aC
           have ts := tg_s (by omega) e33
           exact ⟨_, F2, rfl, rfl, ⟨g1.trans (gc_mk (W := k0_W) hb2 g (by decide)) (fun _ q => q), by omega, Or.inr ⟨rfl, by rw [ts, e0]; exact eX_u (by omega) hk, by omega, id⟩⟩, fun _ => zE_cell (by omega) (by rw [eC, fC]) (by rw [aC, fO, fC]) (by omega) hcell (fun W O => hXo W O (by omega))⟩)
  refine k0zu_0 (by omega) F0 X1 X2 hB0 (by omega) (by omega) ?_ ?_ ?_ ?_ ?_ ?_ ?_ ?_
  all_goals intros
  all_goals first
    | (exfalso; clear em hJ1; omega)
    | (rename_i F1 hb1 g e33 e34 eC a39 aC
       clear em hJ1
       exact ⟨_, F1, rfl, rfl, ⟨gc_mk hb1 g (by decide), by rw [tg_eq e33]; omega, Or.inl ⟨rfl, by rw [e34, tg_eq e33]; exact eX_u1 (by omega) (by omega) (by omega) (by omega)⟩⟩, fun zz => absurd zz (by decide)⟩)
    | (rename_i F1 hb1 g e33 e34 eC a39 aC
       clear em hJ1
       exact ⟨_, F1, rfl, rfl, ⟨gc_mk hb1 g (by decide), by rw [tg_eq e33]; omega, Or.inl ⟨rfl, by rw [e34, tg_eq e33]; exact eX_o6 (by omega) (by omega) (by omega)⟩⟩, fun zz => absurd zz (by decide)⟩)
    | (rename_i F1 hb1 g e33 e34 eC a39 aC e82 e83
       have hv := hJ1 (by omega)
       exact em F1 (0, vg F0 (tg F0)) (fun q hq => g q hq (by simp)) (by rw [e83]; rfl) (fun W O h4 => cX_i h4 (by omega)) (gc_mk hb1 g (by decide)) e33 e82 (by omega) (by omega) (by omega) 34 (Or.inl rfl))
    | (rename_i qv1 qv2 qv3 F1 hb1 g e33 e34 eC a39 aC e82 e83
       exact em F1 (1, kg F0 (tg F0) - 34) (fun q hq => g q hq (by simp)) (by rw [e83]; first | exact tv_cell1 (by omega) (by omega) qv1 qv2 (by rw [eK, km_r (by omega) (by omega)]) (by rw [← j82]; exact qv3) | exact tv_cell0 (by omega) (by omega) qv1 qv2 (by rw [eK, km_r (by omega) (by omega)]) (by rw [← j82]; exact qv3)) (fun W O h4 => cX_v h4 (by omega)) (gc_mk hb1 g (by decide)) e33 e82 (by omega) (by omega) (by omega) 88 (Or.inr rfl))
    | (rename_i F1 hb1 g e33 e34 eC a39 aC e82 e83
       clear em hJ1
       have ts := tg_s c33.1 e33
       obtain ⟨m', rfl⟩ : ∃ m', m = m' + 1 := ⟨m - 1, by omega⟩
       have hJ1 : jx_ok F1 := jx_ok_eq (g 39 (by decide) (by decide)) (g 41 (by decide) (by decide)) hJ0
       refine hd_calI (R := fun x F' => zR 23 32 2 k0_W E2 (sy_i F1 82).toInt.toNat (sy_i F1 83).toInt x F1 F') (nh := 82) (nv := 84) (s := 0) (s1 := 0) (d1 := 6 + 3 * m') (M1 := jm_M38) (As := [.inl (.ref 30), .inr (.inl 83), .inr (.inl 82)]) (rest := []) jm_ok40 rfl rfl (by omega) (by decide +kernel) (ih m' rfl F1 (sy_i F1 83) (sy_i F1 82) hb1 hJ1 (by omega) (by omega) (by omega) (by omega)) (fun F3 F' x hR0 p1 p2 p3 => ?_)
       have hzE := fun zz => zE_dst (hR0.2 zz) p1 (by decide) (by decide)
       have hR := hR0.1
       obtain ⟨r1, rl, r2⟩ := pR_dst hR p1
       have i84 : sy_i F3 84 = x := zz_i p3
       have e0 : eX (kg F0) (tg F0) b.toInt.toNat 0 = eX (kg F0) (tg F1) (sy_i F1 82).toInt.toNat 0 := by
         rw [ts, show (sy_i F1 82).toInt.toNat = b.toInt.toNat + 1 by omega]
         exact eX_o (by omega) (by omega) (by omega)
       rw [kg_eq (g 39 (by decide) (by decide))] at r2
       refine k0u_endz X1 X2 F0 F1 F3 b.toInt.toNat a.toInt (by omega) (gc_mk hb1 g (by decide)) r1 (by omega) (by omega) ?_ (fun zz => by have z2 := hzE (i84.symm.trans zz); rw [show (sy_i F1 82).toInt.toNat = b.toInt.toNat + 1 by omega, show (sy_i F1 83).toInt = a.toInt by omega] at z2; exact z2) eC aC ts (by omega) (by omega) (by omega)
       rw [i84]
       rcases r2 with ⟨q1, q2⟩ | ⟨q1, q2, q3, q4⟩
       · exact Or.inl ⟨q1, e0.trans q2⟩
       · exact Or.inr ⟨q1, by rw [show b.toInt.toNat + 1 = (sy_i F1 82).toInt.toNat by omega]; exact e0.trans q2, by omega, q4⟩)
/-- at the loop's head -/
noncomputable def k0ppJ (F0 F : Nat → sy_d) (d : Nat) : Prop := gc k0_W F0 F ∧ (sy_i F 82).toInt = (sy_i F0 82).toInt ∧ (sy_i F 83).toInt = (sy_i F0 83).toInt ∧ (sy_i F 85).toInt = ((sy_ai F 39).getD (sy_i F 33).toInt.toNat 0).toInt ∧ 0 ≤ (sy_i F 86).toInt ∧ ((sy_i F 84 = 0 ∧ (sy_i F 86).toInt + tg F0 ≤ tg F ∧ eX (kg F0) (tg F0) d 0 = .inl ((sy_i F 34).toInt, tg F)) ∨ (sy_i F 84 = 1 ∧ (sy_i F 86).toInt + 1 + tg F0 ≤ tg F ∧ eX (kg F0) (tg F0) d 0 = eX (kg F0) (tg F) d 1 ∧ ¬ E0 (kg F0 (tg F)))) ∧ (sy_i F 84 = 1 → zE 23 32 1 (sy_i F0 82).toInt d F0 F)
theorem k0pp_lz (m : Nat) (hm : m ≤ 6) (hc : k0uZ Ls xs X1 X2 m) (F0 : Nat → sy_d) (d : Nat) (hJ0 : jx_ok F0) (hcs0 : (sy_i F0 23).toInt ≤ 12 + tg F0) (cC : 0 ≤ (sy_i F0 23).toInt ∧ (sy_i F0 23).toInt ≤ 512) (ha : 0 ≤ (sy_i F0 82).toInt ∧ (sy_i F0 82).toInt ≤ 5) (hb : (sy_i F0 83).toInt = 6 - m) (hd : (d : Int) = 6 - m) : ∀ (n : Nat) (F : Nat → sy_d), k0ppJ F0 F d → 401 - (sy_i F 86).toInt < n →
    hd_W Ls xs (5 + 3 * m) jm_M39 (fun v G => ∃ (x : Int32) (F' : Nat → sy_d), v = some (.int x) ∧ G = sy_dh F' X1 X2 (iv_H 0) ∧ zR 23 32 1 k0_W E1 d (sy_i F0 82).toInt x F0 F') (23, sy_dL F [some (.inl (.ref 30)), some (.inr (.inl 82)), some (.inr (.inl 83)), some (.inr (.inl 84)), some (.inr (.inl 85)), some (.inr (.inl 86))], sy_dS F [], sy_dh F X1 X2 (iv_H 0), 0, 0)
  | 0, F, h, h3 => by
    obtain ⟨g0, -, -, -, h86, h, -⟩ := h
    have c33 := nz_bx g0.1 (k := 33) (lo := 0) (hi := 400) rfl
    have et : (tg F : Int) = (sy_i F 33).toInt := by unfold tg; omega
    rcases h with ⟨-, h, -⟩ | ⟨-, h, -⟩ <;> omega
  | n + 1, F, h, h3 => by
    obtain ⟨g0, i82, i83, i85, h86, h, hzA⟩ := h
    have hB := g0.1
    have c33 := nz_bx hB (k := 33) (lo := 0) (hi := 400) rfl
    have et : (tg F : Int) = (sy_i F 33).toInt := by unfold tg; omega
    have eK : kg F0 (tg F) = km ((sy_ai F 39).getD (sy_i F 33).toInt.toNat 0).toInt := by rw [show sy_ai F 39 = sy_ai F0 39 from nz_fa (g0.2 39 (by decide) (by decide))]; rfl
    have m2 : kg F0 (tg F) = 2 ↔ ((sy_ai F 39).getD (sy_i F 33).toInt.toNat 0).toInt = 24 := by rw [eK]; exact km_2
    have m6 : kg F0 (tg F) = 6 ↔ ((sy_ai F 39).getD (sy_i F 33).toInt.toNat 0).toInt = 40 := by rw [eK]; exact km_6
    have m7 : kg F0 (tg F) = 7 ↔ ((sy_ai F 39).getD (sy_i F 33).toInt.toNat 0).toInt = 41 := by rw [eK]; exact km_7
    have m8 : kg F0 (tg F) = 8 ↔ ((sy_ai F 39).getD (sy_i F 33).toInt.toNat 0).toInt = 43 := by rw [eK]; exact km_8
    have m9 : kg F0 (tg F) = 9 ↔ ((sy_ai F 39).getD (sy_i F 33).toInt.toNat 0).toInt = 45 := by rw [eK]; exact km_9
    have m10 : kg F0 (tg F) = 10 ↔ ((sy_ai F 39).getD (sy_i F 33).toInt.toNat 0).toInt = 42 := by rw [eK]; exact km_10
    have m15 : kg F0 (tg F) = 15 ↔ ((sy_ai F 39).getD (sy_i F 33).toInt.toNat 0).toInt = 47 := by rw [eK]; exact km_15
    have mv : (34 ≤ kg F0 (tg F) ∧ kg F0 (tg F) ≤ 42) ↔ (14 ≤ ((sy_ai F 39).getD (sy_i F 33).toInt.toNat 0).toInt ∧ ((sy_ai F 39).getD (sy_i F 33).toInt.toNat 0).toInt ≤ 22) := by rw [eK]; exact km_v
    have h400 : (sy_i F 86).toInt ≤ 400 := by rcases h with ⟨-, h, -⟩ | ⟨-, h, -⟩ <;> omega
    have hle : tg F0 ≤ tg F := by rcases h with ⟨-, h, -⟩ | ⟨-, h, -⟩ <;> omega
    have h84 : (sy_i F 84).toInt = 0 ∨ (sy_i F 84).toInt = 1 := by
      rcases h with ⟨h, -⟩ | ⟨h, -⟩
      · rw [h]; exact Or.inl (by decide)
      · rw [h]; exact Or.inr (by decide)
    have good : (sy_i F 84).toInt ≠ 0 → (sy_i F 86).toInt + 1 + tg F0 ≤ tg F ∧ eX (kg F0) (tg F0) d 0 = eX (kg F0) (tg F) d 1 ∧ ¬ E0 (kg F0 (tg F)) := fun q => by
      rcases h with ⟨h, -⟩ | ⟨-, h⟩
      · rw [h] at q
        exact absurd (by decide) q
      · exact h
    have z0 : (0 : Int32).toInt = 0 := by decide
    have h1eq : (sy_i F 84).toInt ≠ 0 → sy_i F 84 = 1 := fun q => Int32.toInt_inj.mp (by rw [show (1 : Int32).toInt = 1 by decide]; omega)
    refine k0zp_23 (by omega) F X1 X2 hB (by omega) (by omega) (by omega) ?_ ?_ ?_ ?_ ?_ ?_ ?_ ?_ ?_ ?_ ?_ ?_ ?_
    · intros; exfalso; omega
    · intro q1 q2 F1 hb1 g e33 e34 eC a39 aC
      refine ⟨_, F1, rfl, rfl, ⟨g0.trans (gc_mk (W := k0_W) hb1 g (by decide)) (fun _ q => q), by rw [tg_eq e33]; exact hle, ?_⟩, fun zz => by rw [zz] at q2; exact absurd q2 (by decide)⟩
      rcases h with ⟨h1, h2, h3⟩ | ⟨h1, -⟩
      · exact Or.inl ⟨h1, by rw [e34, tg_eq e33]; exact h3⟩
      · rw [h1] at q2
        exact absurd q2 (by decide)
    all_goals clear h
    all_goals intros
    all_goals first
      | (exfalso; omega)
      | (rename_i F1 hb1 g e33 e34 eC a39 aC
         obtain ⟨y1, y2, y3⟩ := good (by omega)
         refine ⟨_, F1, rfl, rfl, ⟨g0.trans (gc_mk (W := k0_W) hb1 g (by decide)) (fun _ q => q), by rw [tg_eq e33]; exact hle, Or.inr ⟨Int32.toInt_inj.mp (by rw [show (1 : Int32).toInt = 1 by decide]; omega), by rw [tg_eq e33]; exact y2, by rw [tg_eq e33]; omega, ?_⟩⟩, fun zz => zE_mk (hzA zz) eC aC e33⟩
         rw [tg_eq e33]
         intro z
         have z : kg F0 (tg F) = 10 ∨ kg F0 (tg F) = 15 := z
         omega)
      | (rename_i F1 hb1 g e33 e34 eC a39 aC e82 e83 e84 e85 e86
         obtain ⟨y1, y2, y3⟩ := good (by omega)
         refine k0pp_lz m hm hc F0 d hJ0 hcs0 cC ha hb hd n F1 ⟨g0.trans (gc_mk (W := k0_W) hb1 g (by decide)) (fun _ q => q), by omega, by omega, by rw [e85, a39, e33], by omega, Or.inl ⟨Int32.toInt_inj.mp (by rw [z0]; exact e84), by rw [tg_eq e33]; omega, ?_⟩, fun zz => by rw [zz] at e84; exact absurd e84 (by decide)⟩ (by omega)
         rw [e34, tg_eq e33]
         exact y2.trans (eX_b4 (by omega) (by omega)))
      | (rename_i F1 hb1 g e33 e34 eC a39 aC e82 e83 e84 e85
         obtain ⟨y1, y2, y3⟩ := good (by omega)
         have ts := tg_s c33.1 e33
         have g1 : gc k0_W F0 F1 := g0.trans (gc_mk (W := k0_W) hb1 g (by decide)) (fun _ q => q)
         have hJ1 : jx_ok F1 := jx_ok_eq (g1.2 39 (by decide) (by decide)) (g1.2 41 (by decide) (by decide)) hJ0
         refine hd_calI (R := fun x F' => zR 23 32 0 k0_W E0 (sy_i F1 83).toInt.toNat (sy_i F1 82).toInt x F1 F') (nh := 82) (nv := 86) (s := 0) (s1 := 0) (d1 := 4 + 3 * m) (M1 := jm_M40) (As := [.inl (.ref 30), .inr (.inl 82), .inr (.inl 83)]) (rest := []) jm_ok39 rfl rfl (by omega) (by decide +kernel) (hc F1 (sy_i F1 82) (sy_i F1 83) hb1 hJ1 (by have zq := (hzA (h1eq (by omega))).2.1; omega) (by omega) (by omega) (by omega)) (fun F3 F' x hR0 p1 p2 p3 => ?_)
         have hzE := fun zz => zE_dst (hR0.2 zz) p1 (by decide) (by decide)
         have hR := hR0.1
         have hzq := hzA (h1eq (by omega))
         obtain ⟨r1, rl, r2⟩ := pR_dst hR p1
         have x86 : sy_i F3 86 = x := zz_i p3
         have k82 := nz_fi (p2 82 (by decide) (by decide))
         have k83 := nz_fi (p2 83 (by decide) (by decide))
         have k84 := nz_fi (p2 84 (by decide) (by decide))
         have k85 := nz_fi (p2 85 (by decide) (by decide))
         rw [kg_eq (g1.2 39 (by decide) (by decide)), show (sy_i F1 83).toInt.toNat = d by omega] at r2
         have e0 : eX (kg F0) (tg F0) d 0 = eX (kg F0) (tg F1) d 0 := by
           rw [ts]
           exact y2.trans (eX_b (by omega) (by omega))
         have g3 : gc k0_W F0 F3 := g1.trans r1 (fun _ q => q)
         refine k0zp_64 (by omega) F3 X1 X2 r1.1 (by omega) ?_ ?_ ?_ ?_ ?_ ?_ ?_ ?_
         all_goals
           intros
           rename_i q86 q84' qC _ _ F4 hb4 g4 d33 d34 dC b39 bC d82 d83 d84 d85 d86
           refine k0pp_lz m hm hc F0 d hJ0 hcs0 cC ha hb hd n F4 ⟨g3.trans (gc_mk (W := k0_W) hb4 g4 (by decide)) (fun _ q => q), by omega, by omega, by rw [d85, b39, d33], by omega, ?_, fun zz => ?_⟩ (by omega)
           rotate_left
           · have zx : sy_i F3 86 = 1 → zE 23 32 0 (sy_i F0 82).toInt d F1 F3 := fun z6 => by
               have z2 := hzE (x86.symm.trans z6)
               rw [show (sy_i F1 83).toInt.toNat = d by omega, show (sy_i F1 82).toInt = (sy_i F0 82).toInt by omega] at z2
               exact z2
             have d84' : (sy_i F4 84).toInt = 1 := by rw [zz]; decide
             have z86 : sy_i F3 86 = 1 := by
               rcases r2 with ⟨q1, -⟩ | ⟨q1, -⟩
               · exfalso
                 rw [x86, q1] at q86
                 first
                   | exact absurd q86 (by decide)
                   | omega
               · rw [x86, q1]
             have hzB := zx z86
             have hcs3 := hzB.2.1
             have hcsA := hzq.2.1
             have et3 : (tg F3 : Int) ≤ 400 := by have := nz_bx r1.1 (k := 33) (lo := 0) (hi := 400) rfl; unfold tg; omega
             first
               | (exfalso; omega)
               | exact zE_sg cC.1 hzq (F2 := F1) eC aC (kg_eq (g1.2 39 (by decide) (by decide))) (vg_eq (g1.2 41 (by decide) (by decide))) ts hzB dC bC (tg_eq d33) (by rcases (show kg F0 (tg F) = 10 ∨ kg F0 (tg F) = 15 by omega) with z | z <;> (rw [z]; first | decide | (exfalso; omega))) (fun W O ho => zX_p (by omega) (by omega) (by have := nz_bx r1.1 (k := 33) (lo := 0) (hi := 400) rfl; unfold tg; omega) W O ho)
           rw [d34, tg_eq d33]
           rcases r2 with ⟨q1, q2⟩ | ⟨q1, q2, q3, q4⟩
           · first
               | exact Or.inl ⟨Int32.toInt_inj.mp (by rw [z0]; exact d84), by omega, e0.trans q2⟩
               | exact absurd (by rw [x86, q1]; decide) q86
           · first
               | exact Or.inr ⟨Int32.toInt_inj.mp (by rw [show (1 : Int32).toInt = 1 by decide]; exact d84), by omega, e0.trans q2, q4⟩
               | (rw [x86, q1] at q86; exact absurd q86 (by decide)))
theorem k0p_ofz (m : Nat) (hm : m ≤ 6) (hc : k0uZ Ls xs X1 X2 m) : k0pZ Ls xs X1 X2 m := by
  intro F a b hB hJ hcs a0 a5 hb
  refine nx_T (s := 0) (by decide) F X1 X2 (as := [a, b]) (A := [.inl (.ref 30), .inr (.inl 82), .inr (.inl 83)]) jm_ok39 (by decide) rfl ?_
  obtain ⟨F0, hF0⟩ : ∃ F0, F0 = nx 82 F [a, b] := ⟨_, rfl⟩
  rw [← hF0]
  have k0 : ∀ q, q < 82 → F0 q = F q := by rw [hF0]; exact nx_lt
  have i82 : sy_i F0 82 = a := by rw [hF0]; rfl
  have i83 : sy_i F0 83 = b := by rw [hF0]; rfl
  have hB0 := hd_iveq0 hB k0
  have hJ0 : jx_ok F0 := jx_ok_eq (k0 39 (by decide)) (k0 41 (by decide)) hJ
  have hcs0 : (sy_i F0 23).toInt ≤ 12 + tg F0 := by rw [nz_fi (k0 23 (by decide)), tg_eq (nz_fi (k0 33 (by decide)))]; exact hcs
  have cC := nz_bx hB0 (k := 23) (lo := 0) (hi := 512) rfl
  refine hd_W_mono (Q := fun v G => ∃ (x : Int32) (F' : Nat → sy_d), v = some (.int x) ∧ G = sy_dh F' X1 X2 (iv_H 0) ∧ zR 23 32 1 k0_W E1 b.toInt.toNat a.toInt x F0 F') ?_ (by
    rintro v G ⟨x, F', rfl, rfl, hR⟩
    exact ⟨x, F', rfl, rfl, zR_src hR k0 (by decide) (by decide)⟩)
  clear hF0
  have j82 : (sy_i F0 82).toInt = a.toInt := by rw [i82]
  have j83 : (sy_i F0 83).toInt = b.toInt := by rw [i83]
  refine k0zp_0 (by omega) F0 X1 X2 hB0 ?_
  intro F1 hb1 g e33 e34 eC a39 aC e82 e83
  have g0 : ∀ q, q < 82 → F1 q = F0 q := fun q hq => g q hq (by simp)
  have hJ1 : jx_ok F1 := jx_ok_eq (g0 39 (by decide)) (g0 41 (by decide)) hJ0
  refine hd_calI (R := fun x F' => zR 23 32 0 k0_W E0 (sy_i F1 83).toInt.toNat (sy_i F1 82).toInt x F1 F') (nh := 82) (nv := 84) (s := 0) (s1 := 0) (d1 := 4 + 3 * m) (M1 := jm_M40) (As := [.inl (.ref 30), .inr (.inl 82), .inr (.inl 83)]) (rest := []) jm_ok39 rfl rfl (by omega) (by decide +kernel) (hc F1 (sy_i F1 82) (sy_i F1 83) hb1 hJ1 (by rw [eC, tg_eq e33]; exact hcs0) (by omega) (by omega) (by omega)) (fun F3 F' x hR0 p1 p2 p3 => ?_)
  have hzE := fun zz => zE_src (zE_dst (hR0.2 zz) p1 (by decide) (by decide)) g0 (by decide) (by decide)
  have hR := hR0.1
  obtain ⟨r1, rl, r2⟩ := pR_src (pR_dst hR p1) g0
  have x84 : sy_i F3 84 = x := zz_i p3
  have k82 := nz_fi (p2 82 (by decide) (by decide))
  have k83 := nz_fi (p2 83 (by decide) (by decide))
  rw [show (sy_i F1 83).toInt.toNat = b.toInt.toNat by omega] at r2
  refine k0zp_6 (by omega) F3 X1 X2 r1.1 ?_
  intros
  rename_i F4 hb4 g4 d33 d34 dC b39 bC d82 d83 d84 d85 d86
  rw [← show (sy_i F0 82).toInt = a.toInt by omega]
  refine k0pp_lz X1 X2 m hm hc F0 b.toInt.toNat hJ0 hcs0 cC (by omega) (by omega) (by omega) 402 F4 ⟨r1.trans (gc_mk (W := k0_W) hb4 g4 (by decide)) (fun _ q => q), by omega, by omega, by rw [d85, b39, d33], by omega, ?_, fun zz => ?_⟩ (by omega)
  rotate_left
  · have z2 := hzE (x84.symm.trans ((Int32.toInt_inj.mp d84).symm.trans zz))
    rw [show (sy_i F1 83).toInt.toNat = b.toInt.toNat by omega, show (sy_i F1 82).toInt = (sy_i F0 82).toInt by omega] at z2
    exact zE_mk (zE_01 z2 1) dC bC d33
  rw [d34, tg_eq d33, d86, show sy_i F4 84 = x from (Int32.toInt_inj.mp d84).trans x84]
  rcases r2 with ⟨q1, q2⟩ | ⟨q1, q2, q3, q4⟩
  · exact Or.inl ⟨q1, by omega, q2⟩
  · exact Or.inr ⟨q1, by omega, q2, q4⟩
/-- at the loop's head -/
noncomputable def k0psJ (F0 F : Nat → sy_d) (d : Nat) : Prop := gc k0_W F0 F ∧ (sy_i F 82).toInt = (sy_i F0 82).toInt ∧ (sy_i F 83).toInt = (sy_i F0 83).toInt ∧ (sy_i F 85).toInt = ((sy_ai F 39).getD (sy_i F 33).toInt.toNat 0).toInt ∧ 0 ≤ (sy_i F 86).toInt ∧ ((sy_i F 84 = 0 ∧ (sy_i F 86).toInt + tg F0 ≤ tg F ∧ eX (kg F0) (tg F0) d 0 = .inl ((sy_i F 34).toInt, tg F)) ∨ (sy_i F 84 = 1 ∧ (sy_i F 86).toInt + 1 + tg F0 ≤ tg F ∧ eX (kg F0) (tg F0) d 0 = eX (kg F0) (tg F) d 1 ∧ ¬ E1 (kg F0 (tg F)))) ∧ (sy_i F 84 = 1 → zE 23 32 2 (sy_i F0 82).toInt d F0 F)
theorem k0ps_lz (m : Nat) (hm : m ≤ 6) (hc : k0pZ Ls xs X1 X2 m) (F0 : Nat → sy_d) (d : Nat) (hJ0 : jx_ok F0) (hcs0 : (sy_i F0 23).toInt ≤ 12 + tg F0) (cC : 0 ≤ (sy_i F0 23).toInt ∧ (sy_i F0 23).toInt ≤ 512) (ha : 0 ≤ (sy_i F0 82).toInt ∧ (sy_i F0 82).toInt ≤ 5) (hb : (sy_i F0 83).toInt = 6 - m) (hd : (d : Int) = 6 - m) : ∀ (n : Nat) (F : Nat → sy_d), k0psJ F0 F d → 401 - (sy_i F 86).toInt < n →
    hd_W Ls xs (6 + 3 * m) jm_M38 (fun v G => ∃ (x : Int32) (F' : Nat → sy_d), v = some (.int x) ∧ G = sy_dh F' X1 X2 (iv_H 0) ∧ zR 23 32 2 k0_W E2 d (sy_i F0 82).toInt x F0 F') (23, sy_dL F [some (.inl (.ref 30)), some (.inr (.inl 82)), some (.inr (.inl 83)), some (.inr (.inl 84)), some (.inr (.inl 85)), some (.inr (.inl 86))], sy_dS F [], sy_dh F X1 X2 (iv_H 0), 0, 0)
  | 0, F, h, h3 => by
    obtain ⟨g0, -, -, -, h86, h, -⟩ := h
    have c33 := nz_bx g0.1 (k := 33) (lo := 0) (hi := 400) rfl
    have et : (tg F : Int) = (sy_i F 33).toInt := by unfold tg; omega
    rcases h with ⟨-, h, -⟩ | ⟨-, h, -⟩ <;> omega
  | n + 1, F, h, h3 => by
    obtain ⟨g0, i82, i83, i85, h86, h, hzA⟩ := h
    have hB := g0.1
    have c33 := nz_bx hB (k := 33) (lo := 0) (hi := 400) rfl
    have et : (tg F : Int) = (sy_i F 33).toInt := by unfold tg; omega
    have eK : kg F0 (tg F) = km ((sy_ai F 39).getD (sy_i F 33).toInt.toNat 0).toInt := by rw [show sy_ai F 39 = sy_ai F0 39 from nz_fa (g0.2 39 (by decide) (by decide))]; rfl
    have m2 : kg F0 (tg F) = 2 ↔ ((sy_ai F 39).getD (sy_i F 33).toInt.toNat 0).toInt = 24 := by rw [eK]; exact km_2
    have m6 : kg F0 (tg F) = 6 ↔ ((sy_ai F 39).getD (sy_i F 33).toInt.toNat 0).toInt = 40 := by rw [eK]; exact km_6
    have m7 : kg F0 (tg F) = 7 ↔ ((sy_ai F 39).getD (sy_i F 33).toInt.toNat 0).toInt = 41 := by rw [eK]; exact km_7
    have m8 : kg F0 (tg F) = 8 ↔ ((sy_ai F 39).getD (sy_i F 33).toInt.toNat 0).toInt = 43 := by rw [eK]; exact km_8
    have m9 : kg F0 (tg F) = 9 ↔ ((sy_ai F 39).getD (sy_i F 33).toInt.toNat 0).toInt = 45 := by rw [eK]; exact km_9
    have m10 : kg F0 (tg F) = 10 ↔ ((sy_ai F 39).getD (sy_i F 33).toInt.toNat 0).toInt = 42 := by rw [eK]; exact km_10
    have m15 : kg F0 (tg F) = 15 ↔ ((sy_ai F 39).getD (sy_i F 33).toInt.toNat 0).toInt = 47 := by rw [eK]; exact km_15
    have mv : (34 ≤ kg F0 (tg F) ∧ kg F0 (tg F) ≤ 42) ↔ (14 ≤ ((sy_ai F 39).getD (sy_i F 33).toInt.toNat 0).toInt ∧ ((sy_ai F 39).getD (sy_i F 33).toInt.toNat 0).toInt ≤ 22) := by rw [eK]; exact km_v
    have h400 : (sy_i F 86).toInt ≤ 400 := by rcases h with ⟨-, h, -⟩ | ⟨-, h, -⟩ <;> omega
    have hle : tg F0 ≤ tg F := by rcases h with ⟨-, h, -⟩ | ⟨-, h, -⟩ <;> omega
    have h84 : (sy_i F 84).toInt = 0 ∨ (sy_i F 84).toInt = 1 := by
      rcases h with ⟨h, -⟩ | ⟨h, -⟩
      · rw [h]; exact Or.inl (by decide)
      · rw [h]; exact Or.inr (by decide)
    have good : (sy_i F 84).toInt ≠ 0 → (sy_i F 86).toInt + 1 + tg F0 ≤ tg F ∧ eX (kg F0) (tg F0) d 0 = eX (kg F0) (tg F) d 1 ∧ ¬ E1 (kg F0 (tg F)) := fun q => by
      rcases h with ⟨h, -⟩ | ⟨-, h⟩
      · rw [h] at q
        exact absurd (by decide) q
      · exact h
    have z0 : (0 : Int32).toInt = 0 := by decide
    have h1eq : (sy_i F 84).toInt ≠ 0 → sy_i F 84 = 1 := fun q => Int32.toInt_inj.mp (by rw [show (1 : Int32).toInt = 1 by decide]; omega)
    refine k0zs_23 (by omega) F X1 X2 hB (by omega) (by omega) (by omega) ?_ ?_ ?_ ?_ ?_ ?_ ?_ ?_ ?_ ?_ ?_ ?_ ?_
    · intros; exfalso; omega
    · intro q1 q2 F1 hb1 g e33 e34 eC a39 aC
      refine ⟨_, F1, rfl, rfl, ⟨g0.trans (gc_mk (W := k0_W) hb1 g (by decide)) (fun _ q => q), by rw [tg_eq e33]; exact hle, ?_⟩, fun zz => by rw [zz] at q2; exact absurd q2 (by decide)⟩
      rcases h with ⟨h1, h2, h3⟩ | ⟨h1, -⟩
      · exact Or.inl ⟨h1, by rw [e34, tg_eq e33]; exact h3⟩
      · rw [h1] at q2
        exact absurd q2 (by decide)
    all_goals clear h
    all_goals intros
    all_goals first
      | (exfalso; omega)
      | (rename_i F1 hb1 g e33 e34 eC a39 aC
         obtain ⟨y1, y2, y3⟩ := good (by omega)
         refine ⟨_, F1, rfl, rfl, ⟨g0.trans (gc_mk (W := k0_W) hb1 g (by decide)) (fun _ q => q), by rw [tg_eq e33]; exact hle, Or.inr ⟨Int32.toInt_inj.mp (by rw [show (1 : Int32).toInt = 1 by decide]; omega), by rw [tg_eq e33]; exact y2, by rw [tg_eq e33]; omega, ?_⟩⟩, fun zz => zE_mk (hzA zz) eC aC e33⟩
         rw [tg_eq e33]
         intro z
         have z : kg F0 (tg F) = 8 ∨ kg F0 (tg F) = 9 ∨ kg F0 (tg F) = 10 ∨ kg F0 (tg F) = 15 := z
         have y3 : ¬ (kg F0 (tg F) = 10 ∨ kg F0 (tg F) = 15) := y3
         omega)
      | (rename_i F1 hb1 g e33 e34 eC a39 aC e82 e83 e84 e85 e86
         obtain ⟨y1, y2, y3⟩ := good (by omega)
         refine k0ps_lz m hm hc F0 d hJ0 hcs0 cC ha hb hd n F1 ⟨g0.trans (gc_mk (W := k0_W) hb1 g (by decide)) (fun _ q => q), by omega, by omega, by rw [e85, a39, e33], by omega, Or.inl ⟨Int32.toInt_inj.mp (by rw [z0]; exact e84), by rw [tg_eq e33]; omega, ?_⟩, fun zz => by rw [zz] at e84; exact absurd e84 (by decide)⟩ (by omega)
         rw [e34, tg_eq e33]
         exact y2.trans (eX_b4 (by omega) (by omega)))
      | (rename_i F1 hb1 g e33 e34 eC a39 aC e82 e83 e84 e85
         obtain ⟨y1, y2, y3⟩ := good (by omega)
         have ts := tg_s c33.1 e33
         have g1 : gc k0_W F0 F1 := g0.trans (gc_mk (W := k0_W) hb1 g (by decide)) (fun _ q => q)
         have hJ1 : jx_ok F1 := jx_ok_eq (g1.2 39 (by decide) (by decide)) (g1.2 41 (by decide) (by decide)) hJ0
         refine hd_calI (R := fun x F' => zR 23 32 1 k0_W E1 (sy_i F1 83).toInt.toNat (sy_i F1 82).toInt x F1 F') (nh := 82) (nv := 86) (s := 0) (s1 := 0) (d1 := 5 + 3 * m) (M1 := jm_M39) (As := [.inl (.ref 30), .inr (.inl 82), .inr (.inl 83)]) (rest := []) jm_ok38 rfl rfl (by omega) (by decide +kernel) (hc F1 (sy_i F1 82) (sy_i F1 83) hb1 hJ1 (by have zq := (hzA (h1eq (by omega))).2.1; omega) (by omega) (by omega) (by omega)) (fun F3 F' x hR0 p1 p2 p3 => ?_)
         have hzE := fun zz => zE_dst (hR0.2 zz) p1 (by decide) (by decide)
         have hR := hR0.1
         have hzq := hzA (h1eq (by omega))
         obtain ⟨r1, rl, r2⟩ := pR_dst hR p1
         have x86 : sy_i F3 86 = x := zz_i p3
         have k82 := nz_fi (p2 82 (by decide) (by decide))
         have k83 := nz_fi (p2 83 (by decide) (by decide))
         have k84 := nz_fi (p2 84 (by decide) (by decide))
         have k85 := nz_fi (p2 85 (by decide) (by decide))
         rw [kg_eq (g1.2 39 (by decide) (by decide)), show (sy_i F1 83).toInt.toNat = d by omega] at r2
         have e0 : eX (kg F0) (tg F0) d 0 = eX (kg F0) (tg F1) d 0 := by
           rw [ts]
           exact y2.trans (eX_b (by omega) (by omega))
         have g3 : gc k0_W F0 F3 := g1.trans r1 (fun _ q => q)
         refine k0zs_64 (by omega) F3 X1 X2 r1.1 (by omega) ?_ ?_ ?_ ?_ ?_ ?_ ?_ ?_
         all_goals
           intros
           rename_i q86 q84' qC _ _ F4 hb4 g4 d33 d34 dC b39 bC d82 d83 d84 d85 d86
           refine k0ps_lz m hm hc F0 d hJ0 hcs0 cC ha hb hd n F4 ⟨g3.trans (gc_mk (W := k0_W) hb4 g4 (by decide)) (fun _ q => q), by omega, by omega, by rw [d85, b39, d33], by omega, ?_, fun zz => ?_⟩ (by omega)
           rotate_left
           · have zx : sy_i F3 86 = 1 → zE 23 32 1 (sy_i F0 82).toInt d F1 F3 := fun z6 => by
               have z2 := hzE (x86.symm.trans z6)
               rw [show (sy_i F1 83).toInt.toNat = d by omega, show (sy_i F1 82).toInt = (sy_i F0 82).toInt by omega] at z2
               exact z2
             have d84' : (sy_i F4 84).toInt = 1 := by rw [zz]; decide
             have z86 : sy_i F3 86 = 1 := by
               rcases r2 with ⟨q1, -⟩ | ⟨q1, -⟩
               · exfalso
                 rw [x86, q1] at q86
                 first
                   | exact absurd q86 (by decide)
                   | omega
               · rw [x86, q1]
             have hzB := zx z86
             have hE3 : ¬ (kg F0 (tg F3) = 10 ∨ kg F0 (tg F3) = 15) := by
               rcases r2 with ⟨q1, -⟩ | ⟨q1, -, -, q4⟩
               · exact absurd (q1.symm.trans (x86.symm.trans z86)) (by decide)
               · exact q4
             have hcs3 := hzB.2.1
             have hcsA := hzq.2.1
             have et3 : (tg F3 : Int) ≤ 400 := by have := nz_bx r1.1 (k := 33) (lo := 0) (hi := 400) rfl; unfold tg; omega
             first
               | (exfalso; omega)
               | exact zE_sg cC.1 hzq (F2 := F1) eC aC (kg_eq (g1.2 39 (by decide) (by decide))) (vg_eq (g1.2 41 (by decide) (by decide))) ts hzB dC bC (tg_eq d33) (by rcases (show kg F0 (tg F) = 8 ∨ kg F0 (tg F) = 9 by omega) with z | z <;> (rw [z]; first | decide | (exfalso; omega))) (fun W O ho => zX_s (by omega) (by omega) (by have := nz_bx r1.1 (k := 33) (lo := 0) (hi := 400) rfl; unfold tg; omega) (fun y => hE3 (Or.inl y)) (fun y => hE3 (Or.inr y)) W O ho)
           rw [d34, tg_eq d33]
           rcases r2 with ⟨q1, q2⟩ | ⟨q1, q2, q3, q4⟩
           · first
               | exact Or.inl ⟨Int32.toInt_inj.mp (by rw [z0]; exact d84), by omega, e0.trans q2⟩
               | exact absurd (by rw [x86, q1]; decide) q86
           · first
               | exact Or.inr ⟨Int32.toInt_inj.mp (by rw [show (1 : Int32).toInt = 1 by decide]; exact d84), by omega, e0.trans q2, q4⟩
               | (rw [x86, q1] at q86; exact absurd q86 (by decide)))
theorem k0s_ofz (m : Nat) (hm : m ≤ 6) (hc : k0pZ Ls xs X1 X2 m) : k0sZ Ls xs X1 X2 m := by
  intro F a b hB hJ hcs a0 a5 hb
  refine nx_T (s := 0) (by decide) F X1 X2 (as := [a, b]) (A := [.inl (.ref 30), .inr (.inl 82), .inr (.inl 83)]) jm_ok38 (by decide) rfl ?_
  obtain ⟨F0, hF0⟩ : ∃ F0, F0 = nx 82 F [a, b] := ⟨_, rfl⟩
  rw [← hF0]
  have k0 : ∀ q, q < 82 → F0 q = F q := by rw [hF0]; exact nx_lt
  have i82 : sy_i F0 82 = a := by rw [hF0]; rfl
  have i83 : sy_i F0 83 = b := by rw [hF0]; rfl
  have hB0 := hd_iveq0 hB k0
  have hJ0 : jx_ok F0 := jx_ok_eq (k0 39 (by decide)) (k0 41 (by decide)) hJ
  have hcs0 : (sy_i F0 23).toInt ≤ 12 + tg F0 := by rw [nz_fi (k0 23 (by decide)), tg_eq (nz_fi (k0 33 (by decide)))]; exact hcs
  have cC := nz_bx hB0 (k := 23) (lo := 0) (hi := 512) rfl
  refine hd_W_mono (Q := fun v G => ∃ (x : Int32) (F' : Nat → sy_d), v = some (.int x) ∧ G = sy_dh F' X1 X2 (iv_H 0) ∧ zR 23 32 2 k0_W E2 b.toInt.toNat a.toInt x F0 F') ?_ (by
    rintro v G ⟨x, F', rfl, rfl, hR⟩
    exact ⟨x, F', rfl, rfl, zR_src hR k0 (by decide) (by decide)⟩)
  clear hF0
  have j82 : (sy_i F0 82).toInt = a.toInt := by rw [i82]
  have j83 : (sy_i F0 83).toInt = b.toInt := by rw [i83]
  refine k0zs_0 (by omega) F0 X1 X2 hB0 ?_
  intro F1 hb1 g e33 e34 eC a39 aC e82 e83
  have g0 : ∀ q, q < 82 → F1 q = F0 q := fun q hq => g q hq (by simp)
  have hJ1 : jx_ok F1 := jx_ok_eq (g0 39 (by decide)) (g0 41 (by decide)) hJ0
  refine hd_calI (R := fun x F' => zR 23 32 1 k0_W E1 (sy_i F1 83).toInt.toNat (sy_i F1 82).toInt x F1 F') (nh := 82) (nv := 84) (s := 0) (s1 := 0) (d1 := 5 + 3 * m) (M1 := jm_M39) (As := [.inl (.ref 30), .inr (.inl 82), .inr (.inl 83)]) (rest := []) jm_ok38 rfl rfl (by omega) (by decide +kernel) (hc F1 (sy_i F1 82) (sy_i F1 83) hb1 hJ1 (by rw [eC, tg_eq e33]; exact hcs0) (by omega) (by omega) (by omega)) (fun F3 F' x hR0 p1 p2 p3 => ?_)
  have hzE := fun zz => zE_src (zE_dst (hR0.2 zz) p1 (by decide) (by decide)) g0 (by decide) (by decide)
  have hR := hR0.1
  obtain ⟨r1, rl, r2⟩ := pR_src (pR_dst hR p1) g0
  have x84 : sy_i F3 84 = x := zz_i p3
  have k82 := nz_fi (p2 82 (by decide) (by decide))
  have k83 := nz_fi (p2 83 (by decide) (by decide))
  rw [show (sy_i F1 83).toInt.toNat = b.toInt.toNat by omega] at r2
  refine k0zs_6 (by omega) F3 X1 X2 r1.1 ?_
  intros
  rename_i F4 hb4 g4 d33 d34 dC b39 bC d82 d83 d84 d85 d86
  rw [← show (sy_i F0 82).toInt = a.toInt by omega]
  refine k0ps_lz X1 X2 m hm hc F0 b.toInt.toNat hJ0 hcs0 cC (by omega) (by omega) (by omega) 402 F4 ⟨r1.trans (gc_mk (W := k0_W) hb4 g4 (by decide)) (fun _ q => q), by omega, by omega, by rw [d85, b39, d33], by omega, ?_, fun zz => ?_⟩ (by omega)
  rotate_left
  · have z2 := hzE (x84.symm.trans ((Int32.toInt_inj.mp d84).symm.trans zz))
    rw [show (sy_i F1 83).toInt.toNat = b.toInt.toNat by omega, show (sy_i F1 82).toInt = (sy_i F0 82).toInt by omega] at z2
    exact zE_mk (zE_12 z2) dC bC d33
  rw [d34, tg_eq d33, d86, show sy_i F4 84 = x from (Int32.toInt_inj.mp d84).trans x84]
  rcases r2 with ⟨q1, q2⟩ | ⟨q1, q2, q3, q4⟩
  · exact Or.inl ⟨q1, by omega, q2⟩
  · exact Or.inr ⟨q1, by omega, q2, q4⟩
theorem k0_allz : ∀ m : Nat, m ≤ 6 → k0sZ Ls xs X1 X2 m
  | 0, h => k0s_ofz X1 X2 0 h (k0p_ofz X1 X2 0 h (k0u_ofz X1 X2 0 h (fun m' q => absurd q (by omega))))
  | m + 1, h => k0s_ofz X1 X2 (m + 1) h (k0p_ofz X1 X2 (m + 1) h (k0u_ofz X1 X2 (m + 1) h (fun m' q => by
      have : m = m' := by omega
      rw [← this]
      exact k0_allz m (by omega))))
theorem k0_sumz (F : Nat → sy_d) (a : Int32) (hB : iv_in F iv_B0) (hJ : jx_ok F) (hcs : (sy_i F 23).toInt ≤ 12 + tg F) (a0 : 0 ≤ a.toInt) (a5 : a.toInt ≤ 5) : jm_T Ls xs 24 jm_M38 [.ref 30, .int a, .int 0] (sy_dh F X1 X2 (iv_H 0)) 0 0 (fun v G => ∃ (x : Int32) (F' : Nat → sy_d), v = some (.int x) ∧ G = sy_dh F' X1 X2 (iv_H 0) ∧ zR 23 32 2 k0_W E2 0 a.toInt x F F') := k0_allz X1 X2 6 (by decide) F a 0 hB hJ hcs a0 a5 (by decide)
end PZ0
section PZ3
variable {Ls : Nat} {xs : Nat → Int32} (X1 X2 : List jm_c)
noncomputable def k3uZ (Ls : Nat) (xs : Nat → Int32) (X1 X2 : List jm_c) (m : Nat) : Prop := ∀ (F : Nat → sy_d) (a b : Int32), iv_in F iv_B0 → jx_ok F → (sy_i F 8).toInt ≤ 12 + tg F → 0 ≤ a.toInt → a.toInt ≤ 5 → b.toInt = 6 - m → jm_T Ls xs (4 + 3 * m) jm_M40 [.ref 30, .int a, .int b] (sy_dh F X1 X2 (iv_H 3)) 0 0 (fun v G => ∃ (x : Int32) (F' : Nat → sy_d), v = some (.int x) ∧ G = sy_dh F' X1 X2 (iv_H 3) ∧ zR 8 17 0 k3_W E0 b.toInt.toNat a.toInt x F F')
noncomputable def k3pZ (Ls : Nat) (xs : Nat → Int32) (X1 X2 : List jm_c) (m : Nat) : Prop := ∀ (F : Nat → sy_d) (a b : Int32), iv_in F iv_B0 → jx_ok F → (sy_i F 8).toInt ≤ 12 + tg F → 0 ≤ a.toInt → a.toInt ≤ 5 → b.toInt = 6 - m → jm_T Ls xs (5 + 3 * m) jm_M39 [.ref 30, .int a, .int b] (sy_dh F X1 X2 (iv_H 3)) 0 0 (fun v G => ∃ (x : Int32) (F' : Nat → sy_d), v = some (.int x) ∧ G = sy_dh F' X1 X2 (iv_H 3) ∧ zR 8 17 1 k3_W E1 b.toInt.toNat a.toInt x F F')
noncomputable def k3sZ (Ls : Nat) (xs : Nat → Int32) (X1 X2 : List jm_c) (m : Nat) : Prop := ∀ (F : Nat → sy_d) (a b : Int32), iv_in F iv_B0 → jx_ok F → (sy_i F 8).toInt ≤ 12 + tg F → 0 ≤ a.toInt → a.toInt ≤ 5 → b.toInt = 6 - m → jm_T Ls xs (6 + 3 * m) jm_M38 [.ref 30, .int a, .int b] (sy_dh F X1 X2 (iv_H 3)) 0 0 (fun v G => ∃ (x : Int32) (F' : Nat → sy_d), v = some (.int x) ∧ G = sy_dh F' X1 X2 (iv_H 3) ∧ zR 8 17 2 k3_W E2 b.toInt.toNat a.toInt x F F')
theorem k3u_endz {dp : Nat} (F0 F1 F3 : Nat → sy_d) (d : Nat) (a : Int) (hd : 4 ≤ dp) (g1 : gc k3_W F0 F1) (g3 : gc k3_W F1 F3) (hlt : tg F0 < tg F1) (hle : tg F1 ≤ tg F3) (h : (sy_i F3 84 = 0 ∧ eX (kg F0) (tg F0) d 0 = .inl ((sy_i F3 34).toInt, tg F3)) ∨ (sy_i F3 84 = 1 ∧ eX (kg F0) (tg F0) d 0 = eX (kg F0) (tg F3) (d + 1) 1 ∧ tg F0 < tg F3 ∧ ¬ E2 (kg F0 (tg F3)))) (hz : sy_i F3 84 = 1 → zE 8 17 2 a (d + 1) F1 F3) (hcs : (sy_i F1 8).toInt = (sy_i F0 8).toInt) (hco : sy_ai F1 17 = sy_ai F0 17) (t1 : tg F1 = tg F0 + 1) (k6 : kg F0 (tg F0) = 6) (hd6 : d ≠ 6) (h1 : tg F0 < 400) :
    hd_W Ls xs dp jm_M40 (fun v G => ∃ (x : Int32) (F' : Nat → sy_d), v = some (.int x) ∧ G = sy_dh F' X1 X2 (iv_H 3) ∧ zR 8 17 0 k3_W E0 d a x F0 F') (137, sy_dL F3 [some (.inl (.ref 30)), none, none, none, none], sy_dS F3 [.inr (.inl 84)], sy_dh F3 X1 X2 (iv_H 3), 0, 0) := by
  have g03 : gc k3_W F0 F3 := g1.trans g3 (fun _ q => q)
  have hB3 := g03.1
  have c33 := nz_bx hB3 (k := 33) (lo := 0) (hi := 400) rfl
  have et : (tg F3 : Int) = (sy_i F3 33).toInt := by unfold tg; omega
  have eK : kg F0 (tg F3) = km ((sy_ai F3 39).getD (sy_i F3 33).toInt.toNat 0).toInt := by rw [show sy_ai F3 39 = sy_ai F0 39 from nz_fa (g03.2 39 (by decide) (by decide))]; rfl
  have m2 : kg F0 (tg F3) = 2 ↔ ((sy_ai F3 39).getD (sy_i F3 33).toInt.toNat 0).toInt = 24 := by rw [eK]; exact km_2
  have m6 : kg F0 (tg F3) = 6 ↔ ((sy_ai F3 39).getD (sy_i F3 33).toInt.toNat 0).toInt = 40 := by rw [eK]; exact km_6
  have m7 : kg F0 (tg F3) = 7 ↔ ((sy_ai F3 39).getD (sy_i F3 33).toInt.toNat 0).toInt = 41 := by rw [eK]; exact km_7
  have m8 : kg F0 (tg F3) = 8 ↔ ((sy_ai F3 39).getD (sy_i F3 33).toInt.toNat 0).toInt = 43 := by rw [eK]; exact km_8
  have m9 : kg F0 (tg F3) = 9 ↔ ((sy_ai F3 39).getD (sy_i F3 33).toInt.toNat 0).toInt = 45 := by rw [eK]; exact km_9
  have m10 : kg F0 (tg F3) = 10 ↔ ((sy_ai F3 39).getD (sy_i F3 33).toInt.toNat 0).toInt = 42 := by rw [eK]; exact km_10
  have m15 : kg F0 (tg F3) = 15 ↔ ((sy_ai F3 39).getD (sy_i F3 33).toInt.toNat 0).toInt = 47 := by rw [eK]; exact km_15
  have mv : (34 ≤ kg F0 (tg F3) ∧ kg F0 (tg F3) ≤ 42) ↔ (14 ≤ ((sy_ai F3 39).getD (sy_i F3 33).toInt.toNat 0).toInt ∧ ((sy_ai F3 39).getD (sy_i F3 33).toInt.toNat 0).toInt ≤ 22) := by rw [eK]; exact km_v
  refine k3zu_137 (by omega) F3 X1 X2 hB3 ?_ ?_ ?_ ?_
  · intro q F4 hb g e33 e34 eC a39 aC
    refine ⟨_, F4, rfl, rfl, ⟨g03.trans (gc_mk (W := k3_W) hb g (by decide)) (fun _ q => q), by rw [tg_eq e33]; omega, Or.inl ⟨rfl, ?_⟩⟩, fun zz => absurd zz (by decide)⟩
    rcases h with ⟨h1', h2⟩ | ⟨h1', -⟩
    · rw [e34, tg_eq e33]
      exact h2
    · rw [h1'] at q
      exact absurd q (by decide)
  · intro q84 _ _ _ _ F4 hb g e33 e34 eC a39 aC
    rcases h with ⟨h1', -⟩ | ⟨h1', h2, h3, h4⟩
    · rw [h1'] at q84
      exact absurd (by decide) q84
    have hE : ¬ (kg F0 (tg F3) = 8 ∨ kg F0 (tg F3) = 9 ∨ kg F0 (tg F3) = 10 ∨ kg F0 (tg F3) = 15) := h4
    refine ⟨_, F4, rfl, rfl, ⟨g03.trans (gc_mk (W := k3_W) hb g (by decide)) (fun _ q => q), by first | (rw [tg_eq e33]; omega) | (rw [tg_s c33.1 e33]; omega), ?_⟩, fun zz => ?_⟩
    rotate_left
    · first
      | exact absurd zz (by decide)
      | exact zE_br hcs hco (kg_eq (g1.2 39 (by decide) (by decide))) (vg_eq (g1.2 41 (by decide) (by decide))) t1 (hz h1') eC aC (tg_s c33.1 e33) k6 (by omega) hd6 h1 (by omega)
    first
      | exact Or.inr ⟨rfl, by rw [tg_s c33.1 e33]; exact h2.trans (eX_c (by omega) (by omega) (by omega)), by rw [tg_s c33.1 e33]; omega, id⟩
      | exact Or.inl ⟨rfl, by rw [e34, tg_eq e33]; exact h2.trans (eX_c4 (by omega) (by omega) (by omega))⟩
      | exact Or.inl ⟨rfl, by rw [e34, tg_eq e33]; exact h2.trans (eX_e1 (by omega) (by omega) hE (by omega))⟩
  · intro q84 _ _ _ _ F4 hb g e33 e34 eC a39 aC
    rcases h with ⟨h1', -⟩ | ⟨h1', h2, h3, h4⟩
    · rw [h1'] at q84
      exact absurd (by decide) q84
    have hE : ¬ (kg F0 (tg F3) = 8 ∨ kg F0 (tg F3) = 9 ∨ kg F0 (tg F3) = 10 ∨ kg F0 (tg F3) = 15) := h4
    refine ⟨_, F4, rfl, rfl, ⟨g03.trans (gc_mk (W := k3_W) hb g (by decide)) (fun _ q => q), by first | (rw [tg_eq e33]; omega) | (rw [tg_s c33.1 e33]; omega), ?_⟩, fun zz => ?_⟩
    rotate_left
    · first
      | exact absurd zz (by decide)
      | exact zE_br hcs hco (kg_eq (g1.2 39 (by decide) (by decide))) (vg_eq (g1.2 41 (by decide) (by decide))) t1 (hz h1') eC aC (tg_s c33.1 e33) k6 (by omega) hd6 h1 (by omega)
    first
      | exact Or.inr ⟨rfl, by rw [tg_s c33.1 e33]; exact h2.trans (eX_c (by omega) (by omega) (by omega)), by rw [tg_s c33.1 e33]; omega, id⟩
      | exact Or.inl ⟨rfl, by rw [e34, tg_eq e33]; exact h2.trans (eX_c4 (by omega) (by omega) (by omega))⟩
      | exact Or.inl ⟨rfl, by rw [e34, tg_eq e33]; exact h2.trans (eX_e1 (by omega) (by omega) hE (by omega))⟩
  · intro q84 _ _ _ F4 hb g e33 e34 eC a39 aC
    rcases h with ⟨h1', -⟩ | ⟨h1', h2, h3, h4⟩
    · rw [h1'] at q84
      exact absurd (by decide) q84
    have hE : ¬ (kg F0 (tg F3) = 8 ∨ kg F0 (tg F3) = 9 ∨ kg F0 (tg F3) = 10 ∨ kg F0 (tg F3) = 15) := h4
    refine ⟨_, F4, rfl, rfl, ⟨g03.trans (gc_mk (W := k3_W) hb g (by decide)) (fun _ q => q), by first | (rw [tg_eq e33]; omega) | (rw [tg_s c33.1 e33]; omega), ?_⟩, fun zz => ?_⟩
    rotate_left
    · first
      | exact absurd zz (by decide)
      | exact zE_br hcs hco (kg_eq (g1.2 39 (by decide) (by decide))) (vg_eq (g1.2 41 (by decide) (by decide))) t1 (hz h1') eC aC (tg_s c33.1 e33) k6 (by omega) hd6 h1 (by omega)
    first
      | exact Or.inr ⟨rfl, by rw [tg_s c33.1 e33]; exact h2.trans (eX_c (by omega) (by omega) (by omega)), by rw [tg_s c33.1 e33]; omega, id⟩
      | exact Or.inl ⟨rfl, by rw [e34, tg_eq e33]; exact h2.trans (eX_c4 (by omega) (by omega) (by omega))⟩
      | exact Or.inl ⟨rfl, by rw [e34, tg_eq e33]; exact h2.trans (eX_e1 (by omega) (by omega) hE (by omega))⟩
theorem k3u_ofz (m : Nat) (hm : m ≤ 6) (ih : ∀ m', m = m' + 1 → k3sZ Ls xs X1 X2 m') : k3uZ Ls xs X1 X2 m := by
  intro F a b hB hJ hcs a0 a5 hb
  refine nx_T (s := 3) (by decide) F X1 X2 (as := [a, b]) (A := [.inl (.ref 30), .inr (.inl 82), .inr (.inl 83)]) jm_ok40 (by decide) rfl ?_
  obtain ⟨F0, hF0⟩ : ∃ F0, F0 = nx 82 F [a, b] := ⟨_, rfl⟩
  rw [← hF0]
  have k0 : ∀ q, q < 82 → F0 q = F q := by rw [hF0]; exact nx_lt
  have i82 : sy_i F0 82 = a := by rw [hF0]; rfl
  have i83 : sy_i F0 83 = b := by rw [hF0]; rfl
  have hB0 := hd_iveq0 hB k0
  have hJ0 : jx_ok F0 := jx_ok_eq (k0 39 (by decide)) (k0 41 (by decide)) hJ
  have hcs0 : (sy_i F0 8).toInt ≤ 12 + tg F0 := by rw [nz_fi (k0 8 (by decide)), tg_eq (nz_fi (k0 33 (by decide)))]; exact hcs
  have cC := nz_bx hB0 (k := 8) (lo := 0) (hi := 512) rfl
  refine hd_W_mono (Q := fun v G => ∃ (x : Int32) (F' : Nat → sy_d), v = some (.int x) ∧ G = sy_dh F' X1 X2 (iv_H 3) ∧ zR 8 17 0 k3_W E0 b.toInt.toNat a.toInt x F0 F') ?_ (by
    rintro v G ⟨x, F', rfl, rfl, hR⟩
    exact ⟨x, F', rfl, rfl, zR_src hR k0 (by decide) (by decide)⟩)
  clear hF0
  have j82 : (sy_i F0 82).toInt = a.toInt := by rw [i82]
  have j83 : (sy_i F0 83).toInt = b.toInt := by rw [i83]
  have c33 := nz_bx hB0 (k := 33) (lo := 0) (hi := 400) rfl
  have et : (tg F0 : Int) = (sy_i F0 33).toInt := by unfold tg; omega
  have eK : kg F0 (tg F0) = km ((sy_ai F0 39).getD (sy_i F0 33).toInt.toNat 0).toInt := rfl
  have m2 : kg F0 (tg F0) = 2 ↔ ((sy_ai F0 39).getD (sy_i F0 33).toInt.toNat 0).toInt = 24 := by rw [eK]; exact km_2
  have m6 : kg F0 (tg F0) = 6 ↔ ((sy_ai F0 39).getD (sy_i F0 33).toInt.toNat 0).toInt = 40 := by rw [eK]; exact km_6
  have m7 : kg F0 (tg F0) = 7 ↔ ((sy_ai F0 39).getD (sy_i F0 33).toInt.toNat 0).toInt = 41 := by rw [eK]; exact km_7
  have m8 : kg F0 (tg F0) = 8 ↔ ((sy_ai F0 39).getD (sy_i F0 33).toInt.toNat 0).toInt = 43 := by rw [eK]; exact km_8
  have m9 : kg F0 (tg F0) = 9 ↔ ((sy_ai F0 39).getD (sy_i F0 33).toInt.toNat 0).toInt = 45 := by rw [eK]; exact km_9
  have m10 : kg F0 (tg F0) = 10 ↔ ((sy_ai F0 39).getD (sy_i F0 33).toInt.toNat 0).toInt = 42 := by rw [eK]; exact km_10
  have m15 : kg F0 (tg F0) = 15 ↔ ((sy_ai F0 39).getD (sy_i F0 33).toInt.toNat 0).toInt = 47 := by rw [eK]; exact km_15
  have mv : (34 ≤ kg F0 (tg F0) ∧ kg F0 (tg F0) ≤ 42) ↔ (14 ≤ ((sy_ai F0 39).getD (sy_i F0 33).toInt.toNat 0).toInt ∧ ((sy_ai F0 39).getD (sy_i F0 33).toInt.toNat 0).toInt ≤ 22) := by rw [eK]; exact km_v
  have hJ1 : ((sy_ai F0 39).getD (sy_i F0 33).toInt.toNat 0).toInt = 24 → 0 ≤ (((sy_al F0 41).getD (sy_i F0 33).toInt.toNat 0).toInt32).toInt ∧ (((sy_al F0 41).getD (sy_i F0 33).toInt.toNat 0).toInt32).toInt ≤ 9999 := fun h => jx_i32 hJ0 h
  have em : ∀ (F1 : Nat → sy_d) (o : rO), (∀ q, q < 82 → F1 q = F0 q) → (sy_i F1 83).toInt = cell a.toInt o → (∀ (W : List Int) (O : List rO), tg F0 < 400 → cX (kg F0) (vg F0) (tg F0) W 0 O = cX (kg F0) (vg F0) (tg F0 + 1) W 1 (O ++ [o])) → gc k3_W F0 F1 → (sy_i F1 33).toInt = (sy_i F0 33).toInt → (sy_i F1 82).toInt = ((sy_ai F0 39).getD (sy_i F0 33).toInt.toNat 0).toInt → -100 ≤ (sy_i F1 83).toInt → (sy_i F1 83).toInt ≤ 9999 → (kg F0 (tg F0) = 2 ∨ (34 ≤ kg F0 (tg F0) ∧ kg F0 (tg F0) ≤ 42)) → ∀ pc, (pc = 34 ∨ pc = 88) → hd_W Ls xs (4 + 3 * m) jm_M40 (fun v G => ∃ (x : Int32) (F' : Nat → sy_d), v = some (.int x) ∧ G = sy_dh F' X1 X2 (iv_H 3) ∧ zR 8 17 0 k3_W E0 b.toInt.toNat a.toInt x F0 F') (pc, sy_dL F1 [some (.inl (.ref 30)), none, none, some (.inr (.inl 82)), none], sy_dS F1 [.inr (.inl 83), .inl (.ref 10)], sy_dh F1 X1 X2 (iv_H 3), 0, 0) := by
    intro F1 o g1a hcell hXo g1 f33 f82 v0 v1 hk pc hpc
    have fC := nz_fi (g1a 8 (by decide))
    have fO := nz_fa (g1a 17 (by decide))
    have x39 : sy_ai F1 39 = sy_ai F0 39 := nz_fa (g1.2 39 (by decide) (by decide))
    have c82 : ((sy_ai F1 39).getD (sy_i F1 33).toInt.toNat 0).toInt = (sy_i F1 82).toInt := by rw [x39, f33, f82]
    have e0 : tg F1 = tg F0 := tg_eq f33
    clear m2 m6 m7 m8 m9 m10 m15 mv eK
    rcases hpc with rfl | rfl
    · refine k3zu_34 (by omega) F1 X1 X2 g1.1 (by omega) ?_ ?_ ?_ ?_ ?_ ?_
      all_goals intros
      all_goals first
        | (exfalso; omega)
        | (rename_i F2 hb2 g e33 e34 eC a39 aC
           exact ⟨_, F2, rfl, rfl, ⟨g1.trans (gc_mk (W := k3_W) hb2 g (by decide)) (fun _ q => q), by rw [tg_eq e33]; omega, Or.inl ⟨rfl, by rw [e34, tg_eq e33, e0]; exact eX_u4 (by omega) hk⟩⟩, fun zz => absurd zz (by decide)⟩)
        | (rename_i F2 hb2 g e33 e34 eC a39 aC
           have ts := tg_s (by omega) e33
           exact ⟨_, F2, rfl, rfl, ⟨g1.trans (gc_mk (W := k3_W) hb2 g (by decide)) (fun _ q => q), by omega, Or.inr ⟨rfl, by rw [ts, e0]; exact eX_u (by omega) hk, by omega, id⟩⟩, fun _ => zE_cell (by omega) (by rw [eC, fC]) (by rw [aC, fO, fC]) (by omega) hcell (fun W O => hXo W O (by omega))⟩)
    · refine k3zu_88 (by omega) F1 X1 X2 g1.1 (by omega) ?_ ?_ ?_ ?_ ?_ ?_
      all_goals intros
      all_goals first
        | (exfalso; omega)
        | (rename_i F2 hb2 g e33 e34 eC a39 aC
           exact ⟨_, F2, rfl, rfl, ⟨g1.trans (gc_mk (W := k3_W) hb2 g (by decide)) (fun _ q => q), by rw [tg_eq e33]; omega, Or.inl ⟨rfl, by rw [e34, tg_eq e33, e0]; exact eX_u4 (by omega) hk⟩⟩, fun zz => absurd zz (by decide)⟩)
        | (rename_i F2 hb2 g e33 e34 eC a39 aC
           have ts := tg_s (by omega) e33
           exact ⟨_, F2, rfl, rfl, ⟨g1.trans (gc_mk (W := k3_W) hb2 g (by decide)) (fun _ q => q), by omega, Or.inr ⟨rfl, by rw [ts, e0]; exact eX_u (by omega) hk, by omega, id⟩⟩, fun _ => zE_cell (by omega) (by rw [eC, fC]) (by rw [aC, fO, fC]) (by omega) hcell (fun W O => hXo W O (by omega))⟩)
  refine k3zu_0 (by omega) F0 X1 X2 hB0 (by omega) (by omega) ?_ ?_ ?_ ?_ ?_ ?_ ?_ ?_
  all_goals intros
  all_goals first
    | (exfalso; clear em hJ1; omega)
    | (rename_i F1 hb1 g e33 e34 eC a39 aC
       clear em hJ1
       exact ⟨_, F1, rfl, rfl, ⟨gc_mk hb1 g (by decide), by rw [tg_eq e33]; omega, Or.inl ⟨rfl, by rw [e34, tg_eq e33]; exact eX_u1 (by omega) (by omega) (by omega) (by omega)⟩⟩, fun zz => absurd zz (by decide)⟩)
    | (rename_i F1 hb1 g e33 e34 eC a39 aC
       clear em hJ1
       exact ⟨_, F1, rfl, rfl, ⟨gc_mk hb1 g (by decide), by rw [tg_eq e33]; omega, Or.inl ⟨rfl, by rw [e34, tg_eq e33]; exact eX_o6 (by omega) (by omega) (by omega)⟩⟩, fun zz => absurd zz (by decide)⟩)
    | (rename_i F1 hb1 g e33 e34 eC a39 aC e82 e83
       have hv := hJ1 (by omega)
       exact em F1 (0, vg F0 (tg F0)) (fun q hq => g q hq (by simp)) (by rw [e83]; rfl) (fun W O h4 => cX_i h4 (by omega)) (gc_mk hb1 g (by decide)) e33 e82 (by omega) (by omega) (by omega) 34 (Or.inl rfl))
    | (rename_i qv1 qv2 qv3 F1 hb1 g e33 e34 eC a39 aC e82 e83
       exact em F1 (1, kg F0 (tg F0) - 34) (fun q hq => g q hq (by simp)) (by rw [e83]; first | exact tv_cell1 (by omega) (by omega) qv1 qv2 (by rw [eK, km_r (by omega) (by omega)]) (by rw [← j82]; exact qv3) | exact tv_cell0 (by omega) (by omega) qv1 qv2 (by rw [eK, km_r (by omega) (by omega)]) (by rw [← j82]; exact qv3)) (fun W O h4 => cX_v h4 (by omega)) (gc_mk hb1 g (by decide)) e33 e82 (by omega) (by omega) (by omega) 88 (Or.inr rfl))
    | (rename_i F1 hb1 g e33 e34 eC a39 aC e82 e83
       clear em hJ1
       have ts := tg_s c33.1 e33
       obtain ⟨m', rfl⟩ : ∃ m', m = m' + 1 := ⟨m - 1, by omega⟩
       have hJ1 : jx_ok F1 := jx_ok_eq (g 39 (by decide) (by decide)) (g 41 (by decide) (by decide)) hJ0
       refine hd_calI (R := fun x F' => zR 8 17 2 k3_W E2 (sy_i F1 82).toInt.toNat (sy_i F1 83).toInt x F1 F') (nh := 82) (nv := 84) (s := 3) (s1 := 3) (d1 := 6 + 3 * m') (M1 := jm_M38) (As := [.inl (.ref 30), .inr (.inl 83), .inr (.inl 82)]) (rest := []) jm_ok40 rfl rfl (by omega) (by decide +kernel) (ih m' rfl F1 (sy_i F1 83) (sy_i F1 82) hb1 hJ1 (by omega) (by omega) (by omega) (by omega)) (fun F3 F' x hR0 p1 p2 p3 => ?_)
       have hzE := fun zz => zE_dst (hR0.2 zz) p1 (by decide) (by decide)
       have hR := hR0.1
       obtain ⟨r1, rl, r2⟩ := pR_dst hR p1
       have i84 : sy_i F3 84 = x := zz_i p3
       have e0 : eX (kg F0) (tg F0) b.toInt.toNat 0 = eX (kg F0) (tg F1) (sy_i F1 82).toInt.toNat 0 := by
         rw [ts, show (sy_i F1 82).toInt.toNat = b.toInt.toNat + 1 by omega]
         exact eX_o (by omega) (by omega) (by omega)
       rw [kg_eq (g 39 (by decide) (by decide))] at r2
       refine k3u_endz X1 X2 F0 F1 F3 b.toInt.toNat a.toInt (by omega) (gc_mk hb1 g (by decide)) r1 (by omega) (by omega) ?_ (fun zz => by have z2 := hzE (i84.symm.trans zz); rw [show (sy_i F1 82).toInt.toNat = b.toInt.toNat + 1 by omega, show (sy_i F1 83).toInt = a.toInt by omega] at z2; exact z2) eC aC ts (by omega) (by omega) (by omega)
       rw [i84]
       rcases r2 with ⟨q1, q2⟩ | ⟨q1, q2, q3, q4⟩
       · exact Or.inl ⟨q1, e0.trans q2⟩
       · exact Or.inr ⟨q1, by rw [show b.toInt.toNat + 1 = (sy_i F1 82).toInt.toNat by omega]; exact e0.trans q2, by omega, q4⟩)
/-- at the loop's head -/
noncomputable def k3ppJ (F0 F : Nat → sy_d) (d : Nat) : Prop := gc k3_W F0 F ∧ (sy_i F 82).toInt = (sy_i F0 82).toInt ∧ (sy_i F 83).toInt = (sy_i F0 83).toInt ∧ (sy_i F 85).toInt = ((sy_ai F 39).getD (sy_i F 33).toInt.toNat 0).toInt ∧ 0 ≤ (sy_i F 86).toInt ∧ ((sy_i F 84 = 0 ∧ (sy_i F 86).toInt + tg F0 ≤ tg F ∧ eX (kg F0) (tg F0) d 0 = .inl ((sy_i F 34).toInt, tg F)) ∨ (sy_i F 84 = 1 ∧ (sy_i F 86).toInt + 1 + tg F0 ≤ tg F ∧ eX (kg F0) (tg F0) d 0 = eX (kg F0) (tg F) d 1 ∧ ¬ E0 (kg F0 (tg F)))) ∧ (sy_i F 84 = 1 → zE 8 17 1 (sy_i F0 82).toInt d F0 F)
theorem k3pp_lz (m : Nat) (hm : m ≤ 6) (hc : k3uZ Ls xs X1 X2 m) (F0 : Nat → sy_d) (d : Nat) (hJ0 : jx_ok F0) (hcs0 : (sy_i F0 8).toInt ≤ 12 + tg F0) (cC : 0 ≤ (sy_i F0 8).toInt ∧ (sy_i F0 8).toInt ≤ 512) (ha : 0 ≤ (sy_i F0 82).toInt ∧ (sy_i F0 82).toInt ≤ 5) (hb : (sy_i F0 83).toInt = 6 - m) (hd : (d : Int) = 6 - m) : ∀ (n : Nat) (F : Nat → sy_d), k3ppJ F0 F d → 401 - (sy_i F 86).toInt < n →
    hd_W Ls xs (5 + 3 * m) jm_M39 (fun v G => ∃ (x : Int32) (F' : Nat → sy_d), v = some (.int x) ∧ G = sy_dh F' X1 X2 (iv_H 3) ∧ zR 8 17 1 k3_W E1 d (sy_i F0 82).toInt x F0 F') (23, sy_dL F [some (.inl (.ref 30)), some (.inr (.inl 82)), some (.inr (.inl 83)), some (.inr (.inl 84)), some (.inr (.inl 85)), some (.inr (.inl 86))], sy_dS F [], sy_dh F X1 X2 (iv_H 3), 0, 0)
  | 0, F, h, h3 => by
    obtain ⟨g0, -, -, -, h86, h, -⟩ := h
    have c33 := nz_bx g0.1 (k := 33) (lo := 0) (hi := 400) rfl
    have et : (tg F : Int) = (sy_i F 33).toInt := by unfold tg; omega
    rcases h with ⟨-, h, -⟩ | ⟨-, h, -⟩ <;> omega
  | n + 1, F, h, h3 => by
    obtain ⟨g0, i82, i83, i85, h86, h, hzA⟩ := h
    have hB := g0.1
    have c33 := nz_bx hB (k := 33) (lo := 0) (hi := 400) rfl
    have et : (tg F : Int) = (sy_i F 33).toInt := by unfold tg; omega
    have eK : kg F0 (tg F) = km ((sy_ai F 39).getD (sy_i F 33).toInt.toNat 0).toInt := by rw [show sy_ai F 39 = sy_ai F0 39 from nz_fa (g0.2 39 (by decide) (by decide))]; rfl
    have m2 : kg F0 (tg F) = 2 ↔ ((sy_ai F 39).getD (sy_i F 33).toInt.toNat 0).toInt = 24 := by rw [eK]; exact km_2
    have m6 : kg F0 (tg F) = 6 ↔ ((sy_ai F 39).getD (sy_i F 33).toInt.toNat 0).toInt = 40 := by rw [eK]; exact km_6
    have m7 : kg F0 (tg F) = 7 ↔ ((sy_ai F 39).getD (sy_i F 33).toInt.toNat 0).toInt = 41 := by rw [eK]; exact km_7
    have m8 : kg F0 (tg F) = 8 ↔ ((sy_ai F 39).getD (sy_i F 33).toInt.toNat 0).toInt = 43 := by rw [eK]; exact km_8
    have m9 : kg F0 (tg F) = 9 ↔ ((sy_ai F 39).getD (sy_i F 33).toInt.toNat 0).toInt = 45 := by rw [eK]; exact km_9
    have m10 : kg F0 (tg F) = 10 ↔ ((sy_ai F 39).getD (sy_i F 33).toInt.toNat 0).toInt = 42 := by rw [eK]; exact km_10
    have m15 : kg F0 (tg F) = 15 ↔ ((sy_ai F 39).getD (sy_i F 33).toInt.toNat 0).toInt = 47 := by rw [eK]; exact km_15
    have mv : (34 ≤ kg F0 (tg F) ∧ kg F0 (tg F) ≤ 42) ↔ (14 ≤ ((sy_ai F 39).getD (sy_i F 33).toInt.toNat 0).toInt ∧ ((sy_ai F 39).getD (sy_i F 33).toInt.toNat 0).toInt ≤ 22) := by rw [eK]; exact km_v
    have h400 : (sy_i F 86).toInt ≤ 400 := by rcases h with ⟨-, h, -⟩ | ⟨-, h, -⟩ <;> omega
    have hle : tg F0 ≤ tg F := by rcases h with ⟨-, h, -⟩ | ⟨-, h, -⟩ <;> omega
    have h84 : (sy_i F 84).toInt = 0 ∨ (sy_i F 84).toInt = 1 := by
      rcases h with ⟨h, -⟩ | ⟨h, -⟩
      · rw [h]; exact Or.inl (by decide)
      · rw [h]; exact Or.inr (by decide)
    have good : (sy_i F 84).toInt ≠ 0 → (sy_i F 86).toInt + 1 + tg F0 ≤ tg F ∧ eX (kg F0) (tg F0) d 0 = eX (kg F0) (tg F) d 1 ∧ ¬ E0 (kg F0 (tg F)) := fun q => by
      rcases h with ⟨h, -⟩ | ⟨-, h⟩
      · rw [h] at q
        exact absurd (by decide) q
      · exact h
    have z0 : (0 : Int32).toInt = 0 := by decide
    have h1eq : (sy_i F 84).toInt ≠ 0 → sy_i F 84 = 1 := fun q => Int32.toInt_inj.mp (by rw [show (1 : Int32).toInt = 1 by decide]; omega)
    refine k3zp_23 (by omega) F X1 X2 hB (by omega) (by omega) (by omega) ?_ ?_ ?_ ?_ ?_ ?_ ?_ ?_ ?_ ?_ ?_ ?_ ?_
    · intros; exfalso; omega
    · intro q1 q2 F1 hb1 g e33 e34 eC a39 aC
      refine ⟨_, F1, rfl, rfl, ⟨g0.trans (gc_mk (W := k3_W) hb1 g (by decide)) (fun _ q => q), by rw [tg_eq e33]; exact hle, ?_⟩, fun zz => by rw [zz] at q2; exact absurd q2 (by decide)⟩
      rcases h with ⟨h1, h2, h3⟩ | ⟨h1, -⟩
      · exact Or.inl ⟨h1, by rw [e34, tg_eq e33]; exact h3⟩
      · rw [h1] at q2
        exact absurd q2 (by decide)
    all_goals clear h
    all_goals intros
    all_goals first
      | (exfalso; omega)
      | (rename_i F1 hb1 g e33 e34 eC a39 aC
         obtain ⟨y1, y2, y3⟩ := good (by omega)
         refine ⟨_, F1, rfl, rfl, ⟨g0.trans (gc_mk (W := k3_W) hb1 g (by decide)) (fun _ q => q), by rw [tg_eq e33]; exact hle, Or.inr ⟨Int32.toInt_inj.mp (by rw [show (1 : Int32).toInt = 1 by decide]; omega), by rw [tg_eq e33]; exact y2, by rw [tg_eq e33]; omega, ?_⟩⟩, fun zz => zE_mk (hzA zz) eC aC e33⟩
         rw [tg_eq e33]
         intro z
         have z : kg F0 (tg F) = 10 ∨ kg F0 (tg F) = 15 := z
         omega)
      | (rename_i F1 hb1 g e33 e34 eC a39 aC e82 e83 e84 e85 e86
         obtain ⟨y1, y2, y3⟩ := good (by omega)
         refine k3pp_lz m hm hc F0 d hJ0 hcs0 cC ha hb hd n F1 ⟨g0.trans (gc_mk (W := k3_W) hb1 g (by decide)) (fun _ q => q), by omega, by omega, by rw [e85, a39, e33], by omega, Or.inl ⟨Int32.toInt_inj.mp (by rw [z0]; exact e84), by rw [tg_eq e33]; omega, ?_⟩, fun zz => by rw [zz] at e84; exact absurd e84 (by decide)⟩ (by omega)
         rw [e34, tg_eq e33]
         exact y2.trans (eX_b4 (by omega) (by omega)))
      | (rename_i F1 hb1 g e33 e34 eC a39 aC e82 e83 e84 e85
         obtain ⟨y1, y2, y3⟩ := good (by omega)
         have ts := tg_s c33.1 e33
         have g1 : gc k3_W F0 F1 := g0.trans (gc_mk (W := k3_W) hb1 g (by decide)) (fun _ q => q)
         have hJ1 : jx_ok F1 := jx_ok_eq (g1.2 39 (by decide) (by decide)) (g1.2 41 (by decide) (by decide)) hJ0
         refine hd_calI (R := fun x F' => zR 8 17 0 k3_W E0 (sy_i F1 83).toInt.toNat (sy_i F1 82).toInt x F1 F') (nh := 82) (nv := 86) (s := 3) (s1 := 3) (d1 := 4 + 3 * m) (M1 := jm_M40) (As := [.inl (.ref 30), .inr (.inl 82), .inr (.inl 83)]) (rest := []) jm_ok39 rfl rfl (by omega) (by decide +kernel) (hc F1 (sy_i F1 82) (sy_i F1 83) hb1 hJ1 (by have zq := (hzA (h1eq (by omega))).2.1; omega) (by omega) (by omega) (by omega)) (fun F3 F' x hR0 p1 p2 p3 => ?_)
         have hzE := fun zz => zE_dst (hR0.2 zz) p1 (by decide) (by decide)
         have hR := hR0.1
         have hzq := hzA (h1eq (by omega))
         obtain ⟨r1, rl, r2⟩ := pR_dst hR p1
         have x86 : sy_i F3 86 = x := zz_i p3
         have k82 := nz_fi (p2 82 (by decide) (by decide))
         have k83 := nz_fi (p2 83 (by decide) (by decide))
         have k84 := nz_fi (p2 84 (by decide) (by decide))
         have k85 := nz_fi (p2 85 (by decide) (by decide))
         rw [kg_eq (g1.2 39 (by decide) (by decide)), show (sy_i F1 83).toInt.toNat = d by omega] at r2
         have e0 : eX (kg F0) (tg F0) d 0 = eX (kg F0) (tg F1) d 0 := by
           rw [ts]
           exact y2.trans (eX_b (by omega) (by omega))
         have g3 : gc k3_W F0 F3 := g1.trans r1 (fun _ q => q)
         refine k3zp_64 (by omega) F3 X1 X2 r1.1 (by omega) ?_ ?_ ?_ ?_ ?_ ?_ ?_ ?_
         all_goals
           intros
           rename_i q86 q84' qC _ _ F4 hb4 g4 d33 d34 dC b39 bC d82 d83 d84 d85 d86
           refine k3pp_lz m hm hc F0 d hJ0 hcs0 cC ha hb hd n F4 ⟨g3.trans (gc_mk (W := k3_W) hb4 g4 (by decide)) (fun _ q => q), by omega, by omega, by rw [d85, b39, d33], by omega, ?_, fun zz => ?_⟩ (by omega)
           rotate_left
           · have zx : sy_i F3 86 = 1 → zE 8 17 0 (sy_i F0 82).toInt d F1 F3 := fun z6 => by
               have z2 := hzE (x86.symm.trans z6)
               rw [show (sy_i F1 83).toInt.toNat = d by omega, show (sy_i F1 82).toInt = (sy_i F0 82).toInt by omega] at z2
               exact z2
             have d84' : (sy_i F4 84).toInt = 1 := by rw [zz]; decide
             have z86 : sy_i F3 86 = 1 := by
               rcases r2 with ⟨q1, -⟩ | ⟨q1, -⟩
               · exfalso
                 rw [x86, q1] at q86
                 first
                   | exact absurd q86 (by decide)
                   | omega
               · rw [x86, q1]
             have hzB := zx z86
             have hcs3 := hzB.2.1
             have hcsA := hzq.2.1
             have et3 : (tg F3 : Int) ≤ 400 := by have := nz_bx r1.1 (k := 33) (lo := 0) (hi := 400) rfl; unfold tg; omega
             first
               | (exfalso; omega)
               | exact zE_sg cC.1 hzq (F2 := F1) eC aC (kg_eq (g1.2 39 (by decide) (by decide))) (vg_eq (g1.2 41 (by decide) (by decide))) ts hzB dC bC (tg_eq d33) (by rcases (show kg F0 (tg F) = 10 ∨ kg F0 (tg F) = 15 by omega) with z | z <;> (rw [z]; first | decide | (exfalso; omega))) (fun W O ho => zX_p (by omega) (by omega) (by have := nz_bx r1.1 (k := 33) (lo := 0) (hi := 400) rfl; unfold tg; omega) W O ho)
           rw [d34, tg_eq d33]
           rcases r2 with ⟨q1, q2⟩ | ⟨q1, q2, q3, q4⟩
           · first
               | exact Or.inl ⟨Int32.toInt_inj.mp (by rw [z0]; exact d84), by omega, e0.trans q2⟩
               | exact absurd (by rw [x86, q1]; decide) q86
           · first
               | exact Or.inr ⟨Int32.toInt_inj.mp (by rw [show (1 : Int32).toInt = 1 by decide]; exact d84), by omega, e0.trans q2, q4⟩
               | (rw [x86, q1] at q86; exact absurd q86 (by decide)))
theorem k3p_ofz (m : Nat) (hm : m ≤ 6) (hc : k3uZ Ls xs X1 X2 m) : k3pZ Ls xs X1 X2 m := by
  intro F a b hB hJ hcs a0 a5 hb
  refine nx_T (s := 3) (by decide) F X1 X2 (as := [a, b]) (A := [.inl (.ref 30), .inr (.inl 82), .inr (.inl 83)]) jm_ok39 (by decide) rfl ?_
  obtain ⟨F0, hF0⟩ : ∃ F0, F0 = nx 82 F [a, b] := ⟨_, rfl⟩
  rw [← hF0]
  have k0 : ∀ q, q < 82 → F0 q = F q := by rw [hF0]; exact nx_lt
  have i82 : sy_i F0 82 = a := by rw [hF0]; rfl
  have i83 : sy_i F0 83 = b := by rw [hF0]; rfl
  have hB0 := hd_iveq0 hB k0
  have hJ0 : jx_ok F0 := jx_ok_eq (k0 39 (by decide)) (k0 41 (by decide)) hJ
  have hcs0 : (sy_i F0 8).toInt ≤ 12 + tg F0 := by rw [nz_fi (k0 8 (by decide)), tg_eq (nz_fi (k0 33 (by decide)))]; exact hcs
  have cC := nz_bx hB0 (k := 8) (lo := 0) (hi := 512) rfl
  refine hd_W_mono (Q := fun v G => ∃ (x : Int32) (F' : Nat → sy_d), v = some (.int x) ∧ G = sy_dh F' X1 X2 (iv_H 3) ∧ zR 8 17 1 k3_W E1 b.toInt.toNat a.toInt x F0 F') ?_ (by
    rintro v G ⟨x, F', rfl, rfl, hR⟩
    exact ⟨x, F', rfl, rfl, zR_src hR k0 (by decide) (by decide)⟩)
  clear hF0
  have j82 : (sy_i F0 82).toInt = a.toInt := by rw [i82]
  have j83 : (sy_i F0 83).toInt = b.toInt := by rw [i83]
  refine k3zp_0 (by omega) F0 X1 X2 hB0 ?_
  intro F1 hb1 g e33 e34 eC a39 aC e82 e83
  have g0 : ∀ q, q < 82 → F1 q = F0 q := fun q hq => g q hq (by simp)
  have hJ1 : jx_ok F1 := jx_ok_eq (g0 39 (by decide)) (g0 41 (by decide)) hJ0
  refine hd_calI (R := fun x F' => zR 8 17 0 k3_W E0 (sy_i F1 83).toInt.toNat (sy_i F1 82).toInt x F1 F') (nh := 82) (nv := 84) (s := 3) (s1 := 3) (d1 := 4 + 3 * m) (M1 := jm_M40) (As := [.inl (.ref 30), .inr (.inl 82), .inr (.inl 83)]) (rest := []) jm_ok39 rfl rfl (by omega) (by decide +kernel) (hc F1 (sy_i F1 82) (sy_i F1 83) hb1 hJ1 (by rw [eC, tg_eq e33]; exact hcs0) (by omega) (by omega) (by omega)) (fun F3 F' x hR0 p1 p2 p3 => ?_)
  have hzE := fun zz => zE_src (zE_dst (hR0.2 zz) p1 (by decide) (by decide)) g0 (by decide) (by decide)
  have hR := hR0.1
  obtain ⟨r1, rl, r2⟩ := pR_src (pR_dst hR p1) g0
  have x84 : sy_i F3 84 = x := zz_i p3
  have k82 := nz_fi (p2 82 (by decide) (by decide))
  have k83 := nz_fi (p2 83 (by decide) (by decide))
  rw [show (sy_i F1 83).toInt.toNat = b.toInt.toNat by omega] at r2
  refine k3zp_6 (by omega) F3 X1 X2 r1.1 ?_
  intros
  rename_i F4 hb4 g4 d33 d34 dC b39 bC d82 d83 d84 d85 d86
  rw [← show (sy_i F0 82).toInt = a.toInt by omega]
  refine k3pp_lz X1 X2 m hm hc F0 b.toInt.toNat hJ0 hcs0 cC (by omega) (by omega) (by omega) 402 F4 ⟨r1.trans (gc_mk (W := k3_W) hb4 g4 (by decide)) (fun _ q => q), by omega, by omega, by rw [d85, b39, d33], by omega, ?_, fun zz => ?_⟩ (by omega)
  rotate_left
  · have z2 := hzE (x84.symm.trans ((Int32.toInt_inj.mp d84).symm.trans zz))
    rw [show (sy_i F1 83).toInt.toNat = b.toInt.toNat by omega, show (sy_i F1 82).toInt = (sy_i F0 82).toInt by omega] at z2
    exact zE_mk (zE_01 z2 1) dC bC d33
  rw [d34, tg_eq d33, d86, show sy_i F4 84 = x from (Int32.toInt_inj.mp d84).trans x84]
  rcases r2 with ⟨q1, q2⟩ | ⟨q1, q2, q3, q4⟩
  · exact Or.inl ⟨q1, by omega, q2⟩
  · exact Or.inr ⟨q1, by omega, q2, q4⟩
/-- at the loop's head -/
noncomputable def k3psJ (F0 F : Nat → sy_d) (d : Nat) : Prop := gc k3_W F0 F ∧ (sy_i F 82).toInt = (sy_i F0 82).toInt ∧ (sy_i F 83).toInt = (sy_i F0 83).toInt ∧ (sy_i F 85).toInt = ((sy_ai F 39).getD (sy_i F 33).toInt.toNat 0).toInt ∧ 0 ≤ (sy_i F 86).toInt ∧ ((sy_i F 84 = 0 ∧ (sy_i F 86).toInt + tg F0 ≤ tg F ∧ eX (kg F0) (tg F0) d 0 = .inl ((sy_i F 34).toInt, tg F)) ∨ (sy_i F 84 = 1 ∧ (sy_i F 86).toInt + 1 + tg F0 ≤ tg F ∧ eX (kg F0) (tg F0) d 0 = eX (kg F0) (tg F) d 1 ∧ ¬ E1 (kg F0 (tg F)))) ∧ (sy_i F 84 = 1 → zE 8 17 2 (sy_i F0 82).toInt d F0 F)
theorem k3ps_lz (m : Nat) (hm : m ≤ 6) (hc : k3pZ Ls xs X1 X2 m) (F0 : Nat → sy_d) (d : Nat) (hJ0 : jx_ok F0) (hcs0 : (sy_i F0 8).toInt ≤ 12 + tg F0) (cC : 0 ≤ (sy_i F0 8).toInt ∧ (sy_i F0 8).toInt ≤ 512) (ha : 0 ≤ (sy_i F0 82).toInt ∧ (sy_i F0 82).toInt ≤ 5) (hb : (sy_i F0 83).toInt = 6 - m) (hd : (d : Int) = 6 - m) : ∀ (n : Nat) (F : Nat → sy_d), k3psJ F0 F d → 401 - (sy_i F 86).toInt < n →
    hd_W Ls xs (6 + 3 * m) jm_M38 (fun v G => ∃ (x : Int32) (F' : Nat → sy_d), v = some (.int x) ∧ G = sy_dh F' X1 X2 (iv_H 3) ∧ zR 8 17 2 k3_W E2 d (sy_i F0 82).toInt x F0 F') (23, sy_dL F [some (.inl (.ref 30)), some (.inr (.inl 82)), some (.inr (.inl 83)), some (.inr (.inl 84)), some (.inr (.inl 85)), some (.inr (.inl 86))], sy_dS F [], sy_dh F X1 X2 (iv_H 3), 0, 0)
  | 0, F, h, h3 => by
    obtain ⟨g0, -, -, -, h86, h, -⟩ := h
    have c33 := nz_bx g0.1 (k := 33) (lo := 0) (hi := 400) rfl
    have et : (tg F : Int) = (sy_i F 33).toInt := by unfold tg; omega
    rcases h with ⟨-, h, -⟩ | ⟨-, h, -⟩ <;> omega
  | n + 1, F, h, h3 => by
    obtain ⟨g0, i82, i83, i85, h86, h, hzA⟩ := h
    have hB := g0.1
    have c33 := nz_bx hB (k := 33) (lo := 0) (hi := 400) rfl
    have et : (tg F : Int) = (sy_i F 33).toInt := by unfold tg; omega
    have eK : kg F0 (tg F) = km ((sy_ai F 39).getD (sy_i F 33).toInt.toNat 0).toInt := by rw [show sy_ai F 39 = sy_ai F0 39 from nz_fa (g0.2 39 (by decide) (by decide))]; rfl
    have m2 : kg F0 (tg F) = 2 ↔ ((sy_ai F 39).getD (sy_i F 33).toInt.toNat 0).toInt = 24 := by rw [eK]; exact km_2
    have m6 : kg F0 (tg F) = 6 ↔ ((sy_ai F 39).getD (sy_i F 33).toInt.toNat 0).toInt = 40 := by rw [eK]; exact km_6
    have m7 : kg F0 (tg F) = 7 ↔ ((sy_ai F 39).getD (sy_i F 33).toInt.toNat 0).toInt = 41 := by rw [eK]; exact km_7
    have m8 : kg F0 (tg F) = 8 ↔ ((sy_ai F 39).getD (sy_i F 33).toInt.toNat 0).toInt = 43 := by rw [eK]; exact km_8
    have m9 : kg F0 (tg F) = 9 ↔ ((sy_ai F 39).getD (sy_i F 33).toInt.toNat 0).toInt = 45 := by rw [eK]; exact km_9
    have m10 : kg F0 (tg F) = 10 ↔ ((sy_ai F 39).getD (sy_i F 33).toInt.toNat 0).toInt = 42 := by rw [eK]; exact km_10
    have m15 : kg F0 (tg F) = 15 ↔ ((sy_ai F 39).getD (sy_i F 33).toInt.toNat 0).toInt = 47 := by rw [eK]; exact km_15
    have mv : (34 ≤ kg F0 (tg F) ∧ kg F0 (tg F) ≤ 42) ↔ (14 ≤ ((sy_ai F 39).getD (sy_i F 33).toInt.toNat 0).toInt ∧ ((sy_ai F 39).getD (sy_i F 33).toInt.toNat 0).toInt ≤ 22) := by rw [eK]; exact km_v
    have h400 : (sy_i F 86).toInt ≤ 400 := by rcases h with ⟨-, h, -⟩ | ⟨-, h, -⟩ <;> omega
    have hle : tg F0 ≤ tg F := by rcases h with ⟨-, h, -⟩ | ⟨-, h, -⟩ <;> omega
    have h84 : (sy_i F 84).toInt = 0 ∨ (sy_i F 84).toInt = 1 := by
      rcases h with ⟨h, -⟩ | ⟨h, -⟩
      · rw [h]; exact Or.inl (by decide)
      · rw [h]; exact Or.inr (by decide)
    have good : (sy_i F 84).toInt ≠ 0 → (sy_i F 86).toInt + 1 + tg F0 ≤ tg F ∧ eX (kg F0) (tg F0) d 0 = eX (kg F0) (tg F) d 1 ∧ ¬ E1 (kg F0 (tg F)) := fun q => by
      rcases h with ⟨h, -⟩ | ⟨-, h⟩
      · rw [h] at q
        exact absurd (by decide) q
      · exact h
    have z0 : (0 : Int32).toInt = 0 := by decide
    have h1eq : (sy_i F 84).toInt ≠ 0 → sy_i F 84 = 1 := fun q => Int32.toInt_inj.mp (by rw [show (1 : Int32).toInt = 1 by decide]; omega)
    refine k3zs_23 (by omega) F X1 X2 hB (by omega) (by omega) (by omega) ?_ ?_ ?_ ?_ ?_ ?_ ?_ ?_ ?_ ?_ ?_ ?_ ?_
    · intros; exfalso; omega
    · intro q1 q2 F1 hb1 g e33 e34 eC a39 aC
      refine ⟨_, F1, rfl, rfl, ⟨g0.trans (gc_mk (W := k3_W) hb1 g (by decide)) (fun _ q => q), by rw [tg_eq e33]; exact hle, ?_⟩, fun zz => by rw [zz] at q2; exact absurd q2 (by decide)⟩
      rcases h with ⟨h1, h2, h3⟩ | ⟨h1, -⟩
      · exact Or.inl ⟨h1, by rw [e34, tg_eq e33]; exact h3⟩
      · rw [h1] at q2
        exact absurd q2 (by decide)
    all_goals clear h
    all_goals intros
    all_goals first
      | (exfalso; omega)
      | (rename_i F1 hb1 g e33 e34 eC a39 aC
         obtain ⟨y1, y2, y3⟩ := good (by omega)
         refine ⟨_, F1, rfl, rfl, ⟨g0.trans (gc_mk (W := k3_W) hb1 g (by decide)) (fun _ q => q), by rw [tg_eq e33]; exact hle, Or.inr ⟨Int32.toInt_inj.mp (by rw [show (1 : Int32).toInt = 1 by decide]; omega), by rw [tg_eq e33]; exact y2, by rw [tg_eq e33]; omega, ?_⟩⟩, fun zz => zE_mk (hzA zz) eC aC e33⟩
         rw [tg_eq e33]
         intro z
         have z : kg F0 (tg F) = 8 ∨ kg F0 (tg F) = 9 ∨ kg F0 (tg F) = 10 ∨ kg F0 (tg F) = 15 := z
         have y3 : ¬ (kg F0 (tg F) = 10 ∨ kg F0 (tg F) = 15) := y3
         omega)
      | (rename_i F1 hb1 g e33 e34 eC a39 aC e82 e83 e84 e85 e86
         obtain ⟨y1, y2, y3⟩ := good (by omega)
         refine k3ps_lz m hm hc F0 d hJ0 hcs0 cC ha hb hd n F1 ⟨g0.trans (gc_mk (W := k3_W) hb1 g (by decide)) (fun _ q => q), by omega, by omega, by rw [e85, a39, e33], by omega, Or.inl ⟨Int32.toInt_inj.mp (by rw [z0]; exact e84), by rw [tg_eq e33]; omega, ?_⟩, fun zz => by rw [zz] at e84; exact absurd e84 (by decide)⟩ (by omega)
         rw [e34, tg_eq e33]
         exact y2.trans (eX_b4 (by omega) (by omega)))
      | (rename_i F1 hb1 g e33 e34 eC a39 aC e82 e83 e84 e85
         obtain ⟨y1, y2, y3⟩ := good (by omega)
         have ts := tg_s c33.1 e33
         have g1 : gc k3_W F0 F1 := g0.trans (gc_mk (W := k3_W) hb1 g (by decide)) (fun _ q => q)
         have hJ1 : jx_ok F1 := jx_ok_eq (g1.2 39 (by decide) (by decide)) (g1.2 41 (by decide) (by decide)) hJ0
         refine hd_calI (R := fun x F' => zR 8 17 1 k3_W E1 (sy_i F1 83).toInt.toNat (sy_i F1 82).toInt x F1 F') (nh := 82) (nv := 86) (s := 3) (s1 := 3) (d1 := 5 + 3 * m) (M1 := jm_M39) (As := [.inl (.ref 30), .inr (.inl 82), .inr (.inl 83)]) (rest := []) jm_ok38 rfl rfl (by omega) (by decide +kernel) (hc F1 (sy_i F1 82) (sy_i F1 83) hb1 hJ1 (by have zq := (hzA (h1eq (by omega))).2.1; omega) (by omega) (by omega) (by omega)) (fun F3 F' x hR0 p1 p2 p3 => ?_)
         have hzE := fun zz => zE_dst (hR0.2 zz) p1 (by decide) (by decide)
         have hR := hR0.1
         have hzq := hzA (h1eq (by omega))
         obtain ⟨r1, rl, r2⟩ := pR_dst hR p1
         have x86 : sy_i F3 86 = x := zz_i p3
         have k82 := nz_fi (p2 82 (by decide) (by decide))
         have k83 := nz_fi (p2 83 (by decide) (by decide))
         have k84 := nz_fi (p2 84 (by decide) (by decide))
         have k85 := nz_fi (p2 85 (by decide) (by decide))
         rw [kg_eq (g1.2 39 (by decide) (by decide)), show (sy_i F1 83).toInt.toNat = d by omega] at r2
         have e0 : eX (kg F0) (tg F0) d 0 = eX (kg F0) (tg F1) d 0 := by
           rw [ts]
           exact y2.trans (eX_b (by omega) (by omega))
         have g3 : gc k3_W F0 F3 := g1.trans r1 (fun _ q => q)
         refine k3zs_64 (by omega) F3 X1 X2 r1.1 (by omega) ?_ ?_ ?_ ?_ ?_ ?_ ?_ ?_
         all_goals
           intros
           rename_i q86 q84' qC _ _ F4 hb4 g4 d33 d34 dC b39 bC d82 d83 d84 d85 d86
           refine k3ps_lz m hm hc F0 d hJ0 hcs0 cC ha hb hd n F4 ⟨g3.trans (gc_mk (W := k3_W) hb4 g4 (by decide)) (fun _ q => q), by omega, by omega, by rw [d85, b39, d33], by omega, ?_, fun zz => ?_⟩ (by omega)
           rotate_left
           · have zx : sy_i F3 86 = 1 → zE 8 17 1 (sy_i F0 82).toInt d F1 F3 := fun z6 => by
               have z2 := hzE (x86.symm.trans z6)
               rw [show (sy_i F1 83).toInt.toNat = d by omega, show (sy_i F1 82).toInt = (sy_i F0 82).toInt by omega] at z2
               exact z2
             have d84' : (sy_i F4 84).toInt = 1 := by rw [zz]; decide
             have z86 : sy_i F3 86 = 1 := by
               rcases r2 with ⟨q1, -⟩ | ⟨q1, -⟩
               · exfalso
                 rw [x86, q1] at q86
                 first
                   | exact absurd q86 (by decide)
                   | omega
               · rw [x86, q1]
             have hzB := zx z86
             have hE3 : ¬ (kg F0 (tg F3) = 10 ∨ kg F0 (tg F3) = 15) := by
               rcases r2 with ⟨q1, -⟩ | ⟨q1, -, -, q4⟩
               · exact absurd (q1.symm.trans (x86.symm.trans z86)) (by decide)
               · exact q4
             have hcs3 := hzB.2.1
             have hcsA := hzq.2.1
             have et3 : (tg F3 : Int) ≤ 400 := by have := nz_bx r1.1 (k := 33) (lo := 0) (hi := 400) rfl; unfold tg; omega
             first
               | (exfalso; omega)
               | exact zE_sg cC.1 hzq (F2 := F1) eC aC (kg_eq (g1.2 39 (by decide) (by decide))) (vg_eq (g1.2 41 (by decide) (by decide))) ts hzB dC bC (tg_eq d33) (by rcases (show kg F0 (tg F) = 8 ∨ kg F0 (tg F) = 9 by omega) with z | z <;> (rw [z]; first | decide | (exfalso; omega))) (fun W O ho => zX_s (by omega) (by omega) (by have := nz_bx r1.1 (k := 33) (lo := 0) (hi := 400) rfl; unfold tg; omega) (fun y => hE3 (Or.inl y)) (fun y => hE3 (Or.inr y)) W O ho)
           rw [d34, tg_eq d33]
           rcases r2 with ⟨q1, q2⟩ | ⟨q1, q2, q3, q4⟩
           · first
               | exact Or.inl ⟨Int32.toInt_inj.mp (by rw [z0]; exact d84), by omega, e0.trans q2⟩
               | exact absurd (by rw [x86, q1]; decide) q86
           · first
               | exact Or.inr ⟨Int32.toInt_inj.mp (by rw [show (1 : Int32).toInt = 1 by decide]; exact d84), by omega, e0.trans q2, q4⟩
               | (rw [x86, q1] at q86; exact absurd q86 (by decide)))
theorem k3s_ofz (m : Nat) (hm : m ≤ 6) (hc : k3pZ Ls xs X1 X2 m) : k3sZ Ls xs X1 X2 m := by
  intro F a b hB hJ hcs a0 a5 hb
  refine nx_T (s := 3) (by decide) F X1 X2 (as := [a, b]) (A := [.inl (.ref 30), .inr (.inl 82), .inr (.inl 83)]) jm_ok38 (by decide) rfl ?_
  obtain ⟨F0, hF0⟩ : ∃ F0, F0 = nx 82 F [a, b] := ⟨_, rfl⟩
  rw [← hF0]
  have k0 : ∀ q, q < 82 → F0 q = F q := by rw [hF0]; exact nx_lt
  have i82 : sy_i F0 82 = a := by rw [hF0]; rfl
  have i83 : sy_i F0 83 = b := by rw [hF0]; rfl
  have hB0 := hd_iveq0 hB k0
  have hJ0 : jx_ok F0 := jx_ok_eq (k0 39 (by decide)) (k0 41 (by decide)) hJ
  have hcs0 : (sy_i F0 8).toInt ≤ 12 + tg F0 := by rw [nz_fi (k0 8 (by decide)), tg_eq (nz_fi (k0 33 (by decide)))]; exact hcs
  have cC := nz_bx hB0 (k := 8) (lo := 0) (hi := 512) rfl
  refine hd_W_mono (Q := fun v G => ∃ (x : Int32) (F' : Nat → sy_d), v = some (.int x) ∧ G = sy_dh F' X1 X2 (iv_H 3) ∧ zR 8 17 2 k3_W E2 b.toInt.toNat a.toInt x F0 F') ?_ (by
    rintro v G ⟨x, F', rfl, rfl, hR⟩
    exact ⟨x, F', rfl, rfl, zR_src hR k0 (by decide) (by decide)⟩)
  clear hF0
  have j82 : (sy_i F0 82).toInt = a.toInt := by rw [i82]
  have j83 : (sy_i F0 83).toInt = b.toInt := by rw [i83]
  refine k3zs_0 (by omega) F0 X1 X2 hB0 ?_
  intro F1 hb1 g e33 e34 eC a39 aC e82 e83
  have g0 : ∀ q, q < 82 → F1 q = F0 q := fun q hq => g q hq (by simp)
  have hJ1 : jx_ok F1 := jx_ok_eq (g0 39 (by decide)) (g0 41 (by decide)) hJ0
  refine hd_calI (R := fun x F' => zR 8 17 1 k3_W E1 (sy_i F1 83).toInt.toNat (sy_i F1 82).toInt x F1 F') (nh := 82) (nv := 84) (s := 3) (s1 := 3) (d1 := 5 + 3 * m) (M1 := jm_M39) (As := [.inl (.ref 30), .inr (.inl 82), .inr (.inl 83)]) (rest := []) jm_ok38 rfl rfl (by omega) (by decide +kernel) (hc F1 (sy_i F1 82) (sy_i F1 83) hb1 hJ1 (by rw [eC, tg_eq e33]; exact hcs0) (by omega) (by omega) (by omega)) (fun F3 F' x hR0 p1 p2 p3 => ?_)
  have hzE := fun zz => zE_src (zE_dst (hR0.2 zz) p1 (by decide) (by decide)) g0 (by decide) (by decide)
  have hR := hR0.1
  obtain ⟨r1, rl, r2⟩ := pR_src (pR_dst hR p1) g0
  have x84 : sy_i F3 84 = x := zz_i p3
  have k82 := nz_fi (p2 82 (by decide) (by decide))
  have k83 := nz_fi (p2 83 (by decide) (by decide))
  rw [show (sy_i F1 83).toInt.toNat = b.toInt.toNat by omega] at r2
  refine k3zs_6 (by omega) F3 X1 X2 r1.1 ?_
  intros
  rename_i F4 hb4 g4 d33 d34 dC b39 bC d82 d83 d84 d85 d86
  rw [← show (sy_i F0 82).toInt = a.toInt by omega]
  refine k3ps_lz X1 X2 m hm hc F0 b.toInt.toNat hJ0 hcs0 cC (by omega) (by omega) (by omega) 402 F4 ⟨r1.trans (gc_mk (W := k3_W) hb4 g4 (by decide)) (fun _ q => q), by omega, by omega, by rw [d85, b39, d33], by omega, ?_, fun zz => ?_⟩ (by omega)
  rotate_left
  · have z2 := hzE (x84.symm.trans ((Int32.toInt_inj.mp d84).symm.trans zz))
    rw [show (sy_i F1 83).toInt.toNat = b.toInt.toNat by omega, show (sy_i F1 82).toInt = (sy_i F0 82).toInt by omega] at z2
    exact zE_mk (zE_12 z2) dC bC d33
  rw [d34, tg_eq d33, d86, show sy_i F4 84 = x from (Int32.toInt_inj.mp d84).trans x84]
  rcases r2 with ⟨q1, q2⟩ | ⟨q1, q2, q3, q4⟩
  · exact Or.inl ⟨q1, by omega, q2⟩
  · exact Or.inr ⟨q1, by omega, q2, q4⟩
theorem k3_allz : ∀ m : Nat, m ≤ 6 → k3sZ Ls xs X1 X2 m
  | 0, h => k3s_ofz X1 X2 0 h (k3p_ofz X1 X2 0 h (k3u_ofz X1 X2 0 h (fun m' q => absurd q (by omega))))
  | m + 1, h => k3s_ofz X1 X2 (m + 1) h (k3p_ofz X1 X2 (m + 1) h (k3u_ofz X1 X2 (m + 1) h (fun m' q => by
      have : m = m' := by omega
      rw [← this]
      exact k3_allz m (by omega))))
theorem k3_sumz (F : Nat → sy_d) (a : Int32) (hB : iv_in F iv_B0) (hJ : jx_ok F) (hcs : (sy_i F 8).toInt ≤ 12 + tg F) (a0 : 0 ≤ a.toInt) (a5 : a.toInt ≤ 5) : jm_T Ls xs 24 jm_M38 [.ref 30, .int a, .int 0] (sy_dh F X1 X2 (iv_H 3)) 0 0 (fun v G => ∃ (x : Int32) (F' : Nat → sy_d), v = some (.int x) ∧ G = sy_dh F' X1 X2 (iv_H 3) ∧ zR 8 17 2 k3_W E2 0 a.toInt x F F') := k3_allz X1 X2 6 (by decide) F a 0 hB hJ hcs a0 a5 (by decide)
end PZ3
end
section
/-! ===== the class parses laws, way by way, with the cells (shape 0) ===== -/
theorem k0zi_0 {Ls : Nat} {xs : Nat → Int32} {d : Nat} {Q : Option Value → jm_h → Prop} (hd : 4 ≤ d) (F : Nat → sy_d) (X1 X2 : List jm_c) (hB : iv_in F iv_B0)
    (k0 : ∀ F1 : Nat → sy_d, iv_in F1 iv_B0 → (∀ j, j < 82 → j ∉ ([] : List Nat) → F1 j = F j) → (sy_i F1 33).toInt = (sy_i F 33).toInt → (sy_i F1 34).toInt = (sy_i F 34).toInt → (sy_i F1 23).toInt = (sy_i F 23).toInt → sy_ai F1 39 = sy_ai F 39 → sy_ai F1 32 = sy_ai F 32 → (sy_i F1 82).toInt = (sy_i F 82).toInt → hd_W Ls xs d jm_M37 Q (3, sy_dL F1 [some (.inl (.ref 30)), some (.inr (.inl 82)), none, none], sy_dS F1 [.inl (.int 11), .inl (.ref 30)], sy_dh F1 X1 X2 (iv_H 0), 0, 0)) :
    hd_W Ls xs d jm_M37 Q (0, sy_dL F [some (.inl (.ref 30)), some (.inr (.inl 82)), none, none], sy_dS F [], sy_dh F X1 X2 (iv_H 0), 0, 0) := by
  exact k0pi_0_p0 hd F X1 X2 hB  (fun F1 g e82 => k0 F1 (nz_in0 hB [] (fun j hj hn => g j hj (by simp only [List.mem_cons, List.not_mem_nil, or_false, not_or] at hn; exact trivial)) (List.forall_mem_nil _)) (fun j hj hn => g j hj (by simp only [List.mem_cons, List.not_mem_nil, or_false, not_or] at hn; exact trivial)) (nz_fi (g 33 (by decide) (by decide))) (nz_fi (g 34 (by decide) (by decide))) (nz_fi (g 23 (by decide) (by decide))) (nz_fa (g 39 (by decide) (by decide))) (nz_fa (g 32 (by decide) (by decide))) ((congrArg Int32.toInt (zz_i e82)).trans (rfl : (sy_i F 82).toInt = (sy_i F 82).toInt)))
theorem k0zi_6 {Ls : Nat} {xs : Nat → Int32} {d : Nat} {Q : Option Value → jm_h → Prop} (hd : 4 ≤ d) (F : Nat → sy_d) (X1 X2 : List jm_c) (hB : iv_in F iv_B0)
    (k0 : (sy_i F 83).toInt = 0 → ∀ F1 : Nat → sy_d, iv_in F1 iv_B0 → (∀ j, j < 82 → j ∉ ([] : List Nat) → F1 j = F j) → (sy_i F1 33).toInt = (sy_i F 33).toInt → (sy_i F1 34).toInt = (sy_i F 34).toInt → (sy_i F1 23).toInt = (sy_i F 23).toInt → sy_ai F1 39 = sy_ai F 39 → sy_ai F1 32 = sy_ai F 32 → Q (some (.int ((0 : Int32)))) (sy_dh F1 X1 X2 (iv_H 0)))
    (k1 : (sy_i F 83).toInt ≠ 0 → ∀ F1 : Nat → sy_d, iv_in F1 iv_B0 → (∀ j, j < 82 → j ∉ ([] : List Nat) → F1 j = F j) → (sy_i F1 33).toInt = (sy_i F 33).toInt → (sy_i F1 34).toInt = (sy_i F 34).toInt → (sy_i F1 23).toInt = (sy_i F 23).toInt → sy_ai F1 39 = sy_ai F 39 → sy_ai F1 32 = sy_ai F 32 → (sy_i F1 82).toInt = (sy_i F 82).toInt → hd_W Ls xs d jm_M37 Q (12, sy_dL F1 [some (.inl (.ref 30)), some (.inr (.inl 82)), none, none], sy_dS F1 [.inl (.int 0), .inr (.inl 82), .inl (.ref 30)], sy_dh F1 X1 X2 (iv_H 0), 0, 0)) :
    hd_W Ls xs d jm_M37 Q (6, sy_dL F [some (.inl (.ref 30)), some (.inr (.inl 82)), none, none], sy_dS F [.inr (.inl 83)], sy_dh F X1 X2 (iv_H 0), 0, 0) := by
  by_cases g0 : (sy_i F 83).toInt = 0
  · exact k0pi_6_p0 hd F X1 X2 hB (by first | exact g0 | (simp only [nz_c]; exact g0)) (fun F1 g  => k0 g0 F1 (nz_in0 hB [] (fun j hj hn => g j hj (by simp only [List.mem_cons, List.not_mem_nil, or_false, not_or] at hn; exact trivial)) (List.forall_mem_nil _)) (fun j hj hn => g j hj (by simp only [List.mem_cons, List.not_mem_nil, or_false, not_or] at hn; exact trivial)) (nz_fi (g 33 (by decide) (by decide))) (nz_fi (g 34 (by decide) (by decide))) (nz_fi (g 23 (by decide) (by decide))) (nz_fa (g 39 (by decide) (by decide))) (nz_fa (g 32 (by decide) (by decide))))
  replace g0 : (sy_i F 83).toInt ≠ 0 := by omega
  exact k0pi_6_p1 hd F X1 X2 hB (by first | exact g0 | (simp only [nz_c]; exact g0)) (fun F1 g e82 => k1 g0 F1 (nz_in0 hB [] (fun j hj hn => g j hj (by simp only [List.mem_cons, List.not_mem_nil, or_false, not_or] at hn; exact trivial)) (List.forall_mem_nil _)) (fun j hj hn => g j hj (by simp only [List.mem_cons, List.not_mem_nil, or_false, not_or] at hn; exact trivial)) (nz_fi (g 33 (by decide) (by decide))) (nz_fi (g 34 (by decide) (by decide))) (nz_fi (g 23 (by decide) (by decide))) (nz_fa (g 39 (by decide) (by decide))) (nz_fa (g 32 (by decide) (by decide))) ((congrArg Int32.toInt (zz_i e82)).trans (rfl : (sy_i F 82).toInt = (sy_i F 82).toInt)))
theorem k0zi_15 {Ls : Nat} {xs : Nat → Int32} {d : Nat} {Q : Option Value → jm_h → Prop} (hd : 4 ≤ d) (F : Nat → sy_d) (X1 X2 : List jm_c) (hB : iv_in F iv_B0)
    (k0 : (sy_i F 83).toInt = 0 → ∀ F1 : Nat → sy_d, iv_in F1 iv_B0 → (∀ j, j < 82 → j ∉ ([] : List Nat) → F1 j = F j) → (sy_i F1 33).toInt = (sy_i F 33).toInt → (sy_i F1 34).toInt = (sy_i F 34).toInt → (sy_i F1 23).toInt = (sy_i F 23).toInt → sy_ai F1 39 = sy_ai F 39 → sy_ai F1 32 = sy_ai F 32 → Q (some (.int ((0 : Int32)))) (sy_dh F1 X1 X2 (iv_H 0)))
    (k1 : (sy_i F 83).toInt ≠ 0 → ∀ F1 : Nat → sy_d, iv_in F1 iv_B0 → (∀ j, j < 82 → j ∉ ([] : List Nat) → F1 j = F j) → (sy_i F1 33).toInt = (sy_i F 33).toInt → (sy_i F1 34).toInt = (sy_i F 34).toInt → (sy_i F1 23).toInt = (sy_i F 23).toInt → sy_ai F1 39 = sy_ai F 39 → sy_ai F1 32 = sy_ai F 32 → (sy_i F1 82).toInt = (sy_i F 82).toInt → hd_W Ls xs d jm_M37 Q (21, sy_dL F1 [some (.inl (.ref 30)), some (.inr (.inl 82)), none, none], sy_dS F1 [.inl (.int 60), .inl (.ref 30)], sy_dh F1 X1 X2 (iv_H 0), 0, 0)) :
    hd_W Ls xs d jm_M37 Q (15, sy_dL F [some (.inl (.ref 30)), some (.inr (.inl 82)), none, none], sy_dS F [.inr (.inl 83)], sy_dh F X1 X2 (iv_H 0), 0, 0) := by
  by_cases g0 : (sy_i F 83).toInt = 0
  · exact k0pi_15_p0 hd F X1 X2 hB (by first | exact g0 | (simp only [nz_c]; exact g0)) (fun F1 g  => k0 g0 F1 (nz_in0 hB [] (fun j hj hn => g j hj (by simp only [List.mem_cons, List.not_mem_nil, or_false, not_or] at hn; exact trivial)) (List.forall_mem_nil _)) (fun j hj hn => g j hj (by simp only [List.mem_cons, List.not_mem_nil, or_false, not_or] at hn; exact trivial)) (nz_fi (g 33 (by decide) (by decide))) (nz_fi (g 34 (by decide) (by decide))) (nz_fi (g 23 (by decide) (by decide))) (nz_fa (g 39 (by decide) (by decide))) (nz_fa (g 32 (by decide) (by decide))))
  replace g0 : (sy_i F 83).toInt ≠ 0 := by omega
  exact k0pi_15_p1 hd F X1 X2 hB (by first | exact g0 | (simp only [nz_c]; exact g0)) (fun F1 g e82 => k1 g0 F1 (nz_in0 hB [] (fun j hj hn => g j hj (by simp only [List.mem_cons, List.not_mem_nil, or_false, not_or] at hn; exact trivial)) (List.forall_mem_nil _)) (fun j hj hn => g j hj (by simp only [List.mem_cons, List.not_mem_nil, or_false, not_or] at hn; exact trivial)) (nz_fi (g 33 (by decide) (by decide))) (nz_fi (g 34 (by decide) (by decide))) (nz_fi (g 23 (by decide) (by decide))) (nz_fa (g 39 (by decide) (by decide))) (nz_fa (g 32 (by decide) (by decide))) ((congrArg Int32.toInt (zz_i e82)).trans (rfl : (sy_i F 82).toInt = (sy_i F 82).toInt)))
theorem k0zi_24 {Ls : Nat} {xs : Nat → Int32} {d : Nat} {Q : Option Value → jm_h → Prop} (hd : 4 ≤ d) (F : Nat → sy_d) (X1 X2 : List jm_c) (hB : iv_in F iv_B0)
    (k0 : (sy_i F 83).toInt = 0 → ∀ F1 : Nat → sy_d, iv_in F1 iv_B0 → (∀ j, j < 82 → j ∉ ([] : List Nat) → F1 j = F j) → (sy_i F1 33).toInt = (sy_i F 33).toInt → (sy_i F1 34).toInt = (sy_i F 34).toInt → (sy_i F1 23).toInt = (sy_i F 23).toInt → sy_ai F1 39 = sy_ai F 39 → sy_ai F1 32 = sy_ai F 32 → Q (some (.int ((0 : Int32)))) (sy_dh F1 X1 X2 (iv_H 0)))
    (k1 : (sy_i F 83).toInt ≠ 0 → ∀ F1 : Nat → sy_d, iv_in F1 iv_B0 → (∀ j, j < 82 → j ∉ ([] : List Nat) → F1 j = F j) → (sy_i F1 33).toInt = (sy_i F 33).toInt → (sy_i F1 34).toInt = (sy_i F 34).toInt → (sy_i F1 23).toInt = (sy_i F 23).toInt → sy_ai F1 39 = sy_ai F 39 → sy_ai F1 32 = sy_ai F 32 → (sy_i F1 82).toInt = (sy_i F 82).toInt → hd_W Ls xs d jm_M37 Q (30, sy_dL F1 [some (.inl (.ref 30)), some (.inr (.inl 82)), none, none], sy_dS F1 [.inl (.int 0), .inr (.inl 82), .inl (.ref 30)], sy_dh F1 X1 X2 (iv_H 0), 0, 0)) :
    hd_W Ls xs d jm_M37 Q (24, sy_dL F [some (.inl (.ref 30)), some (.inr (.inl 82)), none, none], sy_dS F [.inr (.inl 83)], sy_dh F X1 X2 (iv_H 0), 0, 0) := by
  by_cases g0 : (sy_i F 83).toInt = 0
  · exact k0pi_24_p0 hd F X1 X2 hB (by first | exact g0 | (simp only [nz_c]; exact g0)) (fun F1 g  => k0 g0 F1 (nz_in0 hB [] (fun j hj hn => g j hj (by simp only [List.mem_cons, List.not_mem_nil, or_false, not_or] at hn; exact trivial)) (List.forall_mem_nil _)) (fun j hj hn => g j hj (by simp only [List.mem_cons, List.not_mem_nil, or_false, not_or] at hn; exact trivial)) (nz_fi (g 33 (by decide) (by decide))) (nz_fi (g 34 (by decide) (by decide))) (nz_fi (g 23 (by decide) (by decide))) (nz_fa (g 39 (by decide) (by decide))) (nz_fa (g 32 (by decide) (by decide))))
  replace g0 : (sy_i F 83).toInt ≠ 0 := by omega
  exact k0pi_24_p1 hd F X1 X2 hB (by first | exact g0 | (simp only [nz_c]; exact g0)) (fun F1 g e82 => k1 g0 F1 (nz_in0 hB [] (fun j hj hn => g j hj (by simp only [List.mem_cons, List.not_mem_nil, or_false, not_or] at hn; exact trivial)) (List.forall_mem_nil _)) (fun j hj hn => g j hj (by simp only [List.mem_cons, List.not_mem_nil, or_false, not_or] at hn; exact trivial)) (nz_fi (g 33 (by decide) (by decide))) (nz_fi (g 34 (by decide) (by decide))) (nz_fi (g 23 (by decide) (by decide))) (nz_fa (g 39 (by decide) (by decide))) (nz_fa (g 32 (by decide) (by decide))) ((congrArg Int32.toInt (zz_i e82)).trans (rfl : (sy_i F 82).toInt = (sy_i F 82).toInt)))
theorem k0zi_33 {Ls : Nat} {xs : Nat → Int32} {d : Nat} {Q : Option Value → jm_h → Prop} (hd : 4 ≤ d) (F : Nat → sy_d) (X1 X2 : List jm_c) (hB : iv_in F iv_B0)
    (k0 : (sy_i F 83).toInt = 0 → ∀ F1 : Nat → sy_d, iv_in F1 iv_B0 → (∀ j, j < 82 → j ∉ ([] : List Nat) → F1 j = F j) → (sy_i F1 33).toInt = (sy_i F 33).toInt → (sy_i F1 34).toInt = (sy_i F 34).toInt → (sy_i F1 23).toInt = (sy_i F 23).toInt → sy_ai F1 39 = sy_ai F 39 → sy_ai F1 32 = sy_ai F 32 → Q (some (.int ((0 : Int32)))) (sy_dh F1 X1 X2 (iv_H 0)))
    (k1 : (sy_i F 83).toInt ≠ 0 → ∀ F1 : Nat → sy_d, iv_in F1 iv_B0 → (∀ j, j < 82 → j ∉ ([] : List Nat) → F1 j = F j) → (sy_i F1 33).toInt = (sy_i F 33).toInt → (sy_i F1 34).toInt = (sy_i F 34).toInt → (sy_i F1 23).toInt = (sy_i F 23).toInt → sy_ai F1 39 = sy_ai F 39 → sy_ai F1 32 = sy_ai F 32 → (sy_i F1 82).toInt = (sy_i F 82).toInt → hd_W Ls xs d jm_M37 Q (39, sy_dL F1 [some (.inl (.ref 30)), some (.inr (.inl 82)), none, none], sy_dS F1 [.inl (.int 12), .inl (.ref 30)], sy_dh F1 X1 X2 (iv_H 0), 0, 0)) :
    hd_W Ls xs d jm_M37 Q (33, sy_dL F [some (.inl (.ref 30)), some (.inr (.inl 82)), none, none], sy_dS F [.inr (.inl 83)], sy_dh F X1 X2 (iv_H 0), 0, 0) := by
  by_cases g0 : (sy_i F 83).toInt = 0
  · exact k0pi_33_p0 hd F X1 X2 hB (by first | exact g0 | (simp only [nz_c]; exact g0)) (fun F1 g  => k0 g0 F1 (nz_in0 hB [] (fun j hj hn => g j hj (by simp only [List.mem_cons, List.not_mem_nil, or_false, not_or] at hn; exact trivial)) (List.forall_mem_nil _)) (fun j hj hn => g j hj (by simp only [List.mem_cons, List.not_mem_nil, or_false, not_or] at hn; exact trivial)) (nz_fi (g 33 (by decide) (by decide))) (nz_fi (g 34 (by decide) (by decide))) (nz_fi (g 23 (by decide) (by decide))) (nz_fa (g 39 (by decide) (by decide))) (nz_fa (g 32 (by decide) (by decide))))
  replace g0 : (sy_i F 83).toInt ≠ 0 := by omega
  exact k0pi_33_p1 hd F X1 X2 hB (by first | exact g0 | (simp only [nz_c]; exact g0)) (fun F1 g e82 => k1 g0 F1 (nz_in0 hB [] (fun j hj hn => g j hj (by simp only [List.mem_cons, List.not_mem_nil, or_false, not_or] at hn; exact trivial)) (List.forall_mem_nil _)) (fun j hj hn => g j hj (by simp only [List.mem_cons, List.not_mem_nil, or_false, not_or] at hn; exact trivial)) (nz_fi (g 33 (by decide) (by decide))) (nz_fi (g 34 (by decide) (by decide))) (nz_fi (g 23 (by decide) (by decide))) (nz_fa (g 39 (by decide) (by decide))) (nz_fa (g 32 (by decide) (by decide))) ((congrArg Int32.toInt (zz_i e82)).trans (rfl : (sy_i F 82).toInt = (sy_i F 82).toInt)))
theorem k0zi_42 {Ls : Nat} {xs : Nat → Int32} {d : Nat} {Q : Option Value → jm_h → Prop} (hd : 4 ≤ d) (F : Nat → sy_d) (X1 X2 : List jm_c) (hB : iv_in F iv_B0)
    (k0 : (sy_i F 83).toInt = 0 → ∀ F1 : Nat → sy_d, iv_in F1 iv_B0 → (∀ j, j < 82 → j ∉ ([] : List Nat) → F1 j = F j) → (sy_i F1 33).toInt = (sy_i F 33).toInt → (sy_i F1 34).toInt = (sy_i F 34).toInt → (sy_i F1 23).toInt = (sy_i F 23).toInt → sy_ai F1 39 = sy_ai F 39 → sy_ai F1 32 = sy_ai F 32 → Q (some (.int ((0 : Int32)))) (sy_dh F1 X1 X2 (iv_H 0)))
    (k1 : (sy_i F 83).toInt ≠ 0 → 512 ≤ (sy_i F 23).toInt → 512 ≤ (sy_i F 23).toInt → ∀ F1 : Nat → sy_d, iv_in F1 iv_B0 → (∀ j, j < 82 → j ∉ ([] : List Nat) → F1 j = F j) → (sy_i F1 33).toInt = (sy_i F 33).toInt → (sy_i F1 34).toInt = (sy_i F 34).toInt → (sy_i F1 23).toInt = (sy_i F 23).toInt → sy_ai F1 39 = sy_ai F 39 → sy_ai F1 32 = sy_ai F 32 → (sy_i F1 82).toInt = (sy_i F 82).toInt → (sy_i F1 83).toInt = (sy_i F 23).toInt → hd_W Ls xs d jm_M37 Q (85, sy_dL F1 [some (.inl (.ref 30)), some (.inr (.inl 82)), none, some (.inr (.inl 83))], sy_dS F1 [.inl (.int 0), .inr (.inl 82), .inl (.ref 30)], sy_dh F1 X1 X2 (iv_H 0), 0, 0))
    (k2 : (sy_i F 83).toInt ≠ 0 → (sy_i F 23).toInt < 512 → 512 ≤ ((sy_i F 23).toInt + 1) → ∀ F1 : Nat → sy_d, iv_in F1 iv_B0 → (∀ j, j < 82 → j ∉ ([23, 32] : List Nat) → F1 j = F j) → (sy_i F1 33).toInt = (sy_i F 33).toInt → (sy_i F1 34).toInt = (sy_i F 34).toInt → (sy_i F1 23).toInt = ((sy_i F 23).toInt + 1) → sy_ai F1 39 = sy_ai F 39 → sy_ai F1 32 = jm_upd (sy_ai F 32) ((sy_i F 23).toInt).toNat (((-15) : Int32)) → (sy_i F1 82).toInt = (sy_i F 82).toInt → (sy_i F1 83).toInt = ((sy_i F 23).toInt + 1) → hd_W Ls xs d jm_M37 Q (85, sy_dL F1 [some (.inl (.ref 30)), some (.inr (.inl 82)), none, some (.inr (.inl 83))], sy_dS F1 [.inl (.int 0), .inr (.inl 82), .inl (.ref 30)], sy_dh F1 X1 X2 (iv_H 0), 0, 0))
    (k3 : (sy_i F 83).toInt ≠ 0 → (sy_i F 23).toInt < 512 → ((sy_i F 23).toInt + 1) < 512 → ∀ F1 : Nat → sy_d, iv_in F1 iv_B0 → (∀ j, j < 82 → j ∉ ([23, 32] : List Nat) → F1 j = F j) → (sy_i F1 33).toInt = (sy_i F 33).toInt → (sy_i F1 34).toInt = (sy_i F 34).toInt → (sy_i F1 23).toInt = (((sy_i F 23).toInt + 1) + 1) → sy_ai F1 39 = sy_ai F 39 → sy_ai F1 32 = jm_upd (jm_upd (sy_ai F 32) ((sy_i F 23).toInt).toNat (((-15) : Int32))) (((sy_i F 23).toInt + 1)).toNat ((0 : Int32)) → (sy_i F1 82).toInt = (sy_i F 82).toInt → (sy_i F1 83).toInt = ((sy_i F 23).toInt + 1) → hd_W Ls xs d jm_M37 Q (85, sy_dL F1 [some (.inl (.ref 30)), some (.inr (.inl 82)), none, some (.inr (.inl 83))], sy_dS F1 [.inl (.int 0), .inr (.inl 82), .inl (.ref 30)], sy_dh F1 X1 X2 (iv_H 0), 0, 0)) :
    hd_W Ls xs d jm_M37 Q (42, sy_dL F [some (.inl (.ref 30)), some (.inr (.inl 82)), none, none], sy_dS F [.inr (.inl 83)], sy_dh F X1 X2 (iv_H 0), 0, 0) := by
  by_cases g0 : (sy_i F 83).toInt = 0
  · exact k0pi_42_p0 hd F X1 X2 hB (by first | exact g0 | (simp only [nz_c]; exact g0)) (fun F1 g  => k0 g0 F1 (nz_in0 hB [] (fun j hj hn => g j hj (by simp only [List.mem_cons, List.not_mem_nil, or_false, not_or] at hn; exact trivial)) (List.forall_mem_nil _)) (fun j hj hn => g j hj (by simp only [List.mem_cons, List.not_mem_nil, or_false, not_or] at hn; exact trivial)) (nz_fi (g 33 (by decide) (by decide))) (nz_fi (g 34 (by decide) (by decide))) (nz_fi (g 23 (by decide) (by decide))) (nz_fa (g 39 (by decide) (by decide))) (nz_fa (g 32 (by decide) (by decide))))
  replace g0 : (sy_i F 83).toInt ≠ 0 := by omega
  by_cases g1 : 512 ≤ (sy_i F 23).toInt
  · by_cases g2 : 512 ≤ (sy_i F 23).toInt
    · have c23 := nz_bx hB (k := 23) (lo := 0) (hi := 512) rfl
      exact k0pi_42_p1 hd F X1 X2 hB (by first | exact g0 | (simp only [nz_c]; exact g0)) (by first | exact g1 | (simp only [nz_c]; exact g1)) (by first | exact g2 | (simp only [nz_c]; exact g2)) (fun F1 g e82 e83 => k1 g0 g1 g2 F1 (nz_in0 hB [] (fun j hj hn => g j hj (by simp only [List.mem_cons, List.not_mem_nil, or_false, not_or] at hn; exact trivial)) (List.forall_mem_nil _)) (fun j hj hn => g j hj (by simp only [List.mem_cons, List.not_mem_nil, or_false, not_or] at hn; exact trivial)) (nz_fi (g 33 (by decide) (by decide))) (nz_fi (g 34 (by decide) (by decide))) (nz_fi (g 23 (by decide) (by decide))) (nz_fa (g 39 (by decide) (by decide))) (nz_fa (g 32 (by decide) (by decide))) ((congrArg Int32.toInt (zz_i e82)).trans (rfl : (sy_i F 82).toInt = (sy_i F 82).toInt)) ((congrArg Int32.toInt (zz_i e83)).trans (rfl : (sy_i F 23).toInt = (sy_i F 23).toInt)))
    replace g2 : (sy_i F 23).toInt < 512 := by omega
    have c23 := nz_bx hB (k := 23) (lo := 0) (hi := 512) rfl
    exfalso
    omega
  replace g1 : (sy_i F 23).toInt < 512 := by omega
  by_cases g2 : 512 ≤ ((sy_i F 23).toInt + 1)
  · have c23 := nz_bx hB (k := 23) (lo := 0) (hi := 512) rfl
    have n85 : ((sy_i F 23) + ((1 : Int32))).toInt = ((sy_i F 23).toInt + 1) := nz_add (rfl : (sy_i F 23).toInt = (sy_i F 23).toInt) (by decide : ((1 : Int32)).toInt = 1) (by omega) (by omega)
    have w84 : jm_upd (sy_ai F 32) (sy_i F 23).toNatClampNeg (((-15) : Int32)) = jm_upd (sy_ai F 32) ((sy_i F 23).toInt).toNat (((-15) : Int32)) := by simp only [nz_c, (by decide : (((-15) : Int32)).toInt = (-15 : Int))]
    exact k0pi_42_p2 hd F X1 X2 hB (by first | exact g0 | (simp only [nz_c]; exact g0)) (by first | exact g1 | (simp only [nz_c]; exact g1)) (by first | exact ⟨by omega, by omega⟩ | (simp only [nz_c]; exact ⟨by omega, by omega⟩)) (by first | exact g2 | (simp only [nz_c, n85]; exact g2) | (rw [n85]; exact g2)) (fun F1 g e23 e32 e82 e83 => k2 g0 g1 g2 F1 (nz_in0 hB [23, 32] (fun j hj hn => g j hj (by simp only [List.mem_cons, List.not_mem_nil, or_false, not_or] at hn; omega)) (List.forall_mem_cons.mpr ⟨fun t ht => (Option.some.inj ht) ▸ (nz_hi e23 n85 (by omega) (by omega)), List.forall_mem_cons.mpr ⟨fun t ht => (Option.some.inj ht) ▸ (nz_hA e32 (nz_up (nz_ba hB (k := 32) (lo := (-2147483648)) (hi := 2147483646) rfl) (by decide : (((-15) : Int32)).toInt = (-15 : Int)) (by omega) (by omega))), List.forall_mem_nil _⟩⟩)) (fun j hj hn => g j hj (by simp only [List.mem_cons, List.not_mem_nil, or_false, not_or] at hn; omega)) (nz_fi (g 33 (by decide) (by decide))) (nz_fi (g 34 (by decide) (by decide))) ((congrArg Int32.toInt (zz_i e23)).trans n85) (nz_fa (g 39 (by decide) (by decide))) ((zz_ai e32).trans w84) ((congrArg Int32.toInt (zz_i e82)).trans (rfl : (sy_i F 82).toInt = (sy_i F 82).toInt)) ((congrArg Int32.toInt (zz_i e83)).trans n85))
  replace g2 : ((sy_i F 23).toInt + 1) < 512 := by omega
  have c23 := nz_bx hB (k := 23) (lo := 0) (hi := 512) rfl
  have n85 : ((sy_i F 23) + ((1 : Int32))).toInt = ((sy_i F 23).toInt + 1) := nz_add (rfl : (sy_i F 23).toInt = (sy_i F 23).toInt) (by decide : ((1 : Int32)).toInt = 1) (by omega) (by omega)
  have n87 : (((sy_i F 23) + ((1 : Int32))) + ((1 : Int32))).toInt = (((sy_i F 23).toInt + 1) + 1) := nz_add n85 (by decide : ((1 : Int32)).toInt = 1) (by omega) (by omega)
  have w86 : jm_upd (jm_upd (sy_ai F 32) (sy_i F 23).toNatClampNeg (((-15) : Int32))) ((sy_i F 23) + ((1 : Int32))).toNatClampNeg ((0 : Int32)) = jm_upd (jm_upd (sy_ai F 32) ((sy_i F 23).toInt).toNat (((-15) : Int32))) (((sy_i F 23).toInt + 1)).toNat ((0 : Int32)) := by simp only [nz_c, n85, (by decide : (((-15) : Int32)).toInt = (-15 : Int)), (by decide : ((0 : Int32)).toInt = 0), (by decide : ((1 : Int32)).toInt = 1)]
  exact k0pi_42_p3 hd F X1 X2 hB (by first | exact g0 | (simp only [nz_c]; exact g0)) (by first | exact g1 | (simp only [nz_c]; exact g1)) (by first | exact ⟨by omega, by omega⟩ | (simp only [nz_c]; exact ⟨by omega, by omega⟩)) (by first | exact g2 | (simp only [nz_c, n85]; exact g2) | (rw [n85]; exact g2)) (by first | exact ⟨by omega, by omega⟩ | (simp only [nz_c, n85]; exact ⟨by omega, by omega⟩) | (rw [n85]; exact ⟨by omega, by omega⟩)) (fun F1 g e23 e32 e82 e83 => k3 g0 g1 g2 F1 (nz_in0 hB [23, 32] (fun j hj hn => g j hj (by simp only [List.mem_cons, List.not_mem_nil, or_false, not_or] at hn; omega)) (List.forall_mem_cons.mpr ⟨fun t ht => (Option.some.inj ht) ▸ (nz_hi e23 n87 (by omega) (by omega)), List.forall_mem_cons.mpr ⟨fun t ht => (Option.some.inj ht) ▸ (nz_hA e32 (nz_up (nz_up (nz_ba hB (k := 32) (lo := (-2147483648)) (hi := 2147483646) rfl) (by decide : (((-15) : Int32)).toInt = (-15 : Int)) (by omega) (by omega)) (by decide : ((0 : Int32)).toInt = 0) (by omega) (by omega))), List.forall_mem_nil _⟩⟩)) (fun j hj hn => g j hj (by simp only [List.mem_cons, List.not_mem_nil, or_false, not_or] at hn; omega)) (nz_fi (g 33 (by decide) (by decide))) (nz_fi (g 34 (by decide) (by decide))) ((congrArg Int32.toInt (zz_i e23)).trans n87) (nz_fa (g 39 (by decide) (by decide))) ((zz_ai e32).trans w86) ((congrArg Int32.toInt (zz_i e82)).trans (rfl : (sy_i F 82).toInt = (sy_i F 82).toInt)) ((congrArg Int32.toInt (zz_i e83)).trans n85))
theorem k0zi_88 {Ls : Nat} {xs : Nat → Int32} {d : Nat} {Q : Option Value → jm_h → Prop} (hd : 4 ≤ d) (F : Nat → sy_d) (X1 X2 : List jm_c) (hB : iv_in F iv_B0)
    (k0 : (sy_i F 84).toInt = 0 → ∀ F1 : Nat → sy_d, iv_in F1 iv_B0 → (∀ j, j < 82 → j ∉ ([] : List Nat) → F1 j = F j) → (sy_i F1 33).toInt = (sy_i F 33).toInt → (sy_i F1 34).toInt = (sy_i F 34).toInt → (sy_i F1 23).toInt = (sy_i F 23).toInt → sy_ai F1 39 = sy_ai F 39 → sy_ai F1 32 = sy_ai F 32 → Q (some (.int ((0 : Int32)))) (sy_dh F1 X1 X2 (iv_H 0)))
    (k1 : (sy_i F 84).toInt ≠ 0 → ∀ F1 : Nat → sy_d, iv_in F1 iv_B0 → (∀ j, j < 82 → j ∉ ([] : List Nat) → F1 j = F j) → (sy_i F1 33).toInt = (sy_i F 33).toInt → (sy_i F1 34).toInt = (sy_i F 34).toInt → (sy_i F1 23).toInt = (sy_i F 23).toInt → sy_ai F1 39 = sy_ai F 39 → sy_ai F1 32 = sy_ai F 32 → (sy_i F1 82).toInt = (sy_i F 82).toInt → (sy_i F1 83).toInt = (sy_i F 83).toInt → hd_W Ls xs d jm_M37 Q (94, sy_dL F1 [some (.inl (.ref 30)), some (.inr (.inl 82)), none, some (.inr (.inl 83))], sy_dS F1 [.inl (.int 13), .inl (.ref 30)], sy_dh F1 X1 X2 (iv_H 0), 0, 0)) :
    hd_W Ls xs d jm_M37 Q (88, sy_dL F [some (.inl (.ref 30)), some (.inr (.inl 82)), none, some (.inr (.inl 83))], sy_dS F [.inr (.inl 84)], sy_dh F X1 X2 (iv_H 0), 0, 0) := by
  by_cases g0 : (sy_i F 84).toInt = 0
  · exact k0pi_88_p0 hd F X1 X2 hB (by first | exact g0 | (simp only [nz_c]; exact g0)) (fun F1 g  => k0 g0 F1 (nz_in0 hB [] (fun j hj hn => g j hj (by simp only [List.mem_cons, List.not_mem_nil, or_false, not_or] at hn; exact trivial)) (List.forall_mem_nil _)) (fun j hj hn => g j hj (by simp only [List.mem_cons, List.not_mem_nil, or_false, not_or] at hn; exact trivial)) (nz_fi (g 33 (by decide) (by decide))) (nz_fi (g 34 (by decide) (by decide))) (nz_fi (g 23 (by decide) (by decide))) (nz_fa (g 39 (by decide) (by decide))) (nz_fa (g 32 (by decide) (by decide))))
  replace g0 : (sy_i F 84).toInt ≠ 0 := by omega
  exact k0pi_88_p1 hd F X1 X2 hB (by first | exact g0 | (simp only [nz_c]; exact g0)) (fun F1 g e82 e83 => k1 g0 F1 (nz_in0 hB [] (fun j hj hn => g j hj (by simp only [List.mem_cons, List.not_mem_nil, or_false, not_or] at hn; exact trivial)) (List.forall_mem_nil _)) (fun j hj hn => g j hj (by simp only [List.mem_cons, List.not_mem_nil, or_false, not_or] at hn; exact trivial)) (nz_fi (g 33 (by decide) (by decide))) (nz_fi (g 34 (by decide) (by decide))) (nz_fi (g 23 (by decide) (by decide))) (nz_fa (g 39 (by decide) (by decide))) (nz_fa (g 32 (by decide) (by decide))) ((congrArg Int32.toInt (zz_i e82)).trans (rfl : (sy_i F 82).toInt = (sy_i F 82).toInt)) ((congrArg Int32.toInt (zz_i e83)).trans (rfl : (sy_i F 83).toInt = (sy_i F 83).toInt)))
theorem k0zi_97 {Ls : Nat} {xs : Nat → Int32} {d : Nat} {Q : Option Value → jm_h → Prop} (hd : 4 ≤ d) (F : Nat → sy_d) (X1 X2 : List jm_c) (hB : iv_in F iv_B0)
    (a83 : 0 ≤ (sy_i F 83).toInt ∧ (sy_i F 83).toInt ≤ 512)
    (k0 : (sy_i F 84).toInt ≠ 0 → 512 ≤ (sy_i F 23).toInt → 0 ≤ (sy_i F 83).toInt → 512 ≤ (sy_i F 83).toInt → ∀ F1 : Nat → sy_d, iv_in F1 iv_B0 → (∀ j, j < 82 → j ∉ ([] : List Nat) → F1 j = F j) → (sy_i F1 33).toInt = (sy_i F 33).toInt → (sy_i F1 34).toInt = (sy_i F 34).toInt → (sy_i F1 23).toInt = (sy_i F 23).toInt → sy_ai F1 39 = sy_ai F 39 → sy_ai F1 32 = sy_ai F 32 → Q (some (.int ((1 : Int32)))) (sy_dh F1 X1 X2 (iv_H 0)))
    (k1 : (sy_i F 84).toInt ≠ 0 → 512 ≤ (sy_i F 23).toInt → 0 ≤ (sy_i F 83).toInt → (sy_i F 83).toInt < 512 → ∀ F1 : Nat → sy_d, iv_in F1 iv_B0 → (∀ j, j < 82 → j ∉ ([32] : List Nat) → F1 j = F j) → (sy_i F1 33).toInt = (sy_i F 33).toInt → (sy_i F1 34).toInt = (sy_i F 34).toInt → (sy_i F1 23).toInt = (sy_i F 23).toInt → sy_ai F1 39 = sy_ai F 39 → sy_ai F1 32 = jm_upd (sy_ai F 32) ((sy_i F 83).toInt).toNat (sy_i F 23) → Q (some (.int ((1 : Int32)))) (sy_dh F1 X1 X2 (iv_H 0)))
    (k2 : (sy_i F 84).toInt ≠ 0 → (sy_i F 23).toInt < 512 → 0 ≤ (sy_i F 83).toInt → 512 ≤ (sy_i F 83).toInt → ∀ F1 : Nat → sy_d, iv_in F1 iv_B0 → (∀ j, j < 82 → j ∉ ([23, 32] : List Nat) → F1 j = F j) → (sy_i F1 33).toInt = (sy_i F 33).toInt → (sy_i F1 34).toInt = (sy_i F 34).toInt → (sy_i F1 23).toInt = ((sy_i F 23).toInt + 1) → sy_ai F1 39 = sy_ai F 39 → sy_ai F1 32 = jm_upd (sy_ai F 32) ((sy_i F 23).toInt).toNat (((-14) : Int32)) → Q (some (.int ((1 : Int32)))) (sy_dh F1 X1 X2 (iv_H 0)))
    (k3 : (sy_i F 84).toInt ≠ 0 → (sy_i F 23).toInt < 512 → 0 ≤ (sy_i F 83).toInt → (sy_i F 83).toInt < 512 → ∀ F1 : Nat → sy_d, iv_in F1 iv_B0 → (∀ j, j < 82 → j ∉ ([23, 32] : List Nat) → F1 j = F j) → (sy_i F1 33).toInt = (sy_i F 33).toInt → (sy_i F1 34).toInt = (sy_i F 34).toInt → (sy_i F1 23).toInt = ((sy_i F 23).toInt + 1) → sy_ai F1 39 = sy_ai F 39 → sy_ai F1 32 = jm_upd (jm_upd (sy_ai F 32) ((sy_i F 23).toInt).toNat (((-14) : Int32))) ((sy_i F 83).toInt).toNat ((sy_i F 23) + ((1 : Int32))) → Q (some (.int ((1 : Int32)))) (sy_dh F1 X1 X2 (iv_H 0)))
    (k4 : (sy_i F 84).toInt = 0 → ∀ F1 : Nat → sy_d, iv_in F1 iv_B0 → (∀ j, j < 82 → j ∉ ([] : List Nat) → F1 j = F j) → (sy_i F1 33).toInt = (sy_i F 33).toInt → (sy_i F1 34).toInt = (sy_i F 34).toInt → (sy_i F1 23).toInt = (sy_i F 23).toInt → sy_ai F1 39 = sy_ai F 39 → sy_ai F1 32 = sy_ai F 32 → Q (some (.int ((0 : Int32)))) (sy_dh F1 X1 X2 (iv_H 0))) :
    hd_W Ls xs d jm_M37 Q (97, sy_dL F [some (.inl (.ref 30)), some (.inr (.inl 82)), none, some (.inr (.inl 83))], sy_dS F [.inr (.inl 84)], sy_dh F X1 X2 (iv_H 0), 0, 0) := by
  by_cases g0 : (sy_i F 84).toInt ≠ 0
  · by_cases g1 : 512 ≤ (sy_i F 23).toInt
    · by_cases g2 : (sy_i F 83).toInt < 0
      · have c23 := nz_bx hB (k := 23) (lo := 0) (hi := 512) rfl
        exfalso
        omega
      replace g2 : 0 ≤ (sy_i F 83).toInt := by omega
      by_cases g3 : 512 ≤ (sy_i F 83).toInt
      · have c23 := nz_bx hB (k := 23) (lo := 0) (hi := 512) rfl
        exact k0pi_97_p0 hd F X1 X2 hB (by first | exact g0 | (simp only [nz_c]; exact g0)) (by first | exact g1 | (simp only [nz_c]; exact g1)) (by first | exact g2 | (simp only [nz_c]; exact g2)) (by first | exact g3 | (simp only [nz_c]; exact g3)) (fun F1 g  => k0 g0 g1 g2 g3 F1 (nz_in0 hB [] (fun j hj hn => g j hj (by simp only [List.mem_cons, List.not_mem_nil, or_false, not_or] at hn; exact trivial)) (List.forall_mem_nil _)) (fun j hj hn => g j hj (by simp only [List.mem_cons, List.not_mem_nil, or_false, not_or] at hn; exact trivial)) (nz_fi (g 33 (by decide) (by decide))) (nz_fi (g 34 (by decide) (by decide))) (nz_fi (g 23 (by decide) (by decide))) (nz_fa (g 39 (by decide) (by decide))) (nz_fa (g 32 (by decide) (by decide))))
      replace g3 : (sy_i F 83).toInt < 512 := by omega
      have c23 := nz_bx hB (k := 23) (lo := 0) (hi := 512) rfl
      have w85 : jm_upd (sy_ai F 32) (sy_i F 83).toNatClampNeg (sy_i F 23) = jm_upd (sy_ai F 32) ((sy_i F 83).toInt).toNat (sy_i F 23) := by simp only [nz_c]
      exact k0pi_97_p1 hd F X1 X2 hB (by first | exact g0 | (simp only [nz_c]; exact g0)) (by first | exact g1 | (simp only [nz_c]; exact g1)) (by first | exact g2 | (simp only [nz_c]; exact g2)) (by first | exact g3 | (simp only [nz_c]; exact g3)) (by first | exact ⟨by omega, by omega⟩ | (simp only [nz_c]; exact ⟨by omega, by omega⟩)) (fun F1 g e32 => k1 g0 g1 g2 g3 F1 (nz_in0 hB [32] (fun j hj hn => g j hj (by simp only [List.mem_cons, List.not_mem_nil, or_false, not_or] at hn; omega)) (List.forall_mem_cons.mpr ⟨fun t ht => (Option.some.inj ht) ▸ (nz_hA e32 (nz_up (nz_ba hB (k := 32) (lo := (-2147483648)) (hi := 2147483646) rfl) (rfl : (sy_i F 23).toInt = (sy_i F 23).toInt) (by omega) (by omega))), List.forall_mem_nil _⟩)) (fun j hj hn => g j hj (by simp only [List.mem_cons, List.not_mem_nil, or_false, not_or] at hn; omega)) (nz_fi (g 33 (by decide) (by decide))) (nz_fi (g 34 (by decide) (by decide))) (nz_fi (g 23 (by decide) (by decide))) (nz_fa (g 39 (by decide) (by decide))) ((zz_ai e32).trans w85))
    replace g1 : (sy_i F 23).toInt < 512 := by omega
    by_cases g2 : (sy_i F 83).toInt < 0
    · have c23 := nz_bx hB (k := 23) (lo := 0) (hi := 512) rfl
      exfalso
      omega
    replace g2 : 0 ≤ (sy_i F 83).toInt := by omega
    by_cases g3 : 512 ≤ (sy_i F 83).toInt
    · have c23 := nz_bx hB (k := 23) (lo := 0) (hi := 512) rfl
      have n86 : ((sy_i F 23) + ((1 : Int32))).toInt = ((sy_i F 23).toInt + 1) := nz_add (rfl : (sy_i F 23).toInt = (sy_i F 23).toInt) (by decide : ((1 : Int32)).toInt = 1) (by omega) (by omega)
      have w85 : jm_upd (sy_ai F 32) (sy_i F 23).toNatClampNeg (((-14) : Int32)) = jm_upd (sy_ai F 32) ((sy_i F 23).toInt).toNat (((-14) : Int32)) := by simp only [nz_c, (by decide : (((-14) : Int32)).toInt = (-14 : Int))]
      exact k0pi_97_p2 hd F X1 X2 hB (by first | exact g0 | (simp only [nz_c]; exact g0)) (by first | exact g1 | (simp only [nz_c]; exact g1)) (by first | exact ⟨by omega, by omega⟩ | (simp only [nz_c]; exact ⟨by omega, by omega⟩)) (by first | exact g2 | (simp only [nz_c]; exact g2)) (by first | exact g3 | (simp only [nz_c]; exact g3)) (fun F1 g e23 e32 => k2 g0 g1 g2 g3 F1 (nz_in0 hB [23, 32] (fun j hj hn => g j hj (by simp only [List.mem_cons, List.not_mem_nil, or_false, not_or] at hn; omega)) (List.forall_mem_cons.mpr ⟨fun t ht => (Option.some.inj ht) ▸ (nz_hi e23 n86 (by omega) (by omega)), List.forall_mem_cons.mpr ⟨fun t ht => (Option.some.inj ht) ▸ (nz_hA e32 (nz_up (nz_ba hB (k := 32) (lo := (-2147483648)) (hi := 2147483646) rfl) (by decide : (((-14) : Int32)).toInt = (-14 : Int)) (by omega) (by omega))), List.forall_mem_nil _⟩⟩)) (fun j hj hn => g j hj (by simp only [List.mem_cons, List.not_mem_nil, or_false, not_or] at hn; omega)) (nz_fi (g 33 (by decide) (by decide))) (nz_fi (g 34 (by decide) (by decide))) ((congrArg Int32.toInt (zz_i e23)).trans n86) (nz_fa (g 39 (by decide) (by decide))) ((zz_ai e32).trans w85))
    replace g3 : (sy_i F 83).toInt < 512 := by omega
    have c23 := nz_bx hB (k := 23) (lo := 0) (hi := 512) rfl
    have n86 : ((sy_i F 23) + ((1 : Int32))).toInt = ((sy_i F 23).toInt + 1) := nz_add (rfl : (sy_i F 23).toInt = (sy_i F 23).toInt) (by decide : ((1 : Int32)).toInt = 1) (by omega) (by omega)
    have w87 : jm_upd (jm_upd (sy_ai F 32) (sy_i F 23).toNatClampNeg (((-14) : Int32))) (sy_i F 83).toNatClampNeg ((sy_i F 23) + ((1 : Int32))) = jm_upd (jm_upd (sy_ai F 32) ((sy_i F 23).toInt).toNat (((-14) : Int32))) ((sy_i F 83).toInt).toNat ((sy_i F 23) + ((1 : Int32))) := by simp only [nz_c, n86, (by decide : (((-14) : Int32)).toInt = (-14 : Int)), (by decide : ((1 : Int32)).toInt = 1)]
    exact k0pi_97_p3 hd F X1 X2 hB (by first | exact g0 | (simp only [nz_c]; exact g0)) (by first | exact g1 | (simp only [nz_c]; exact g1)) (by first | exact ⟨by omega, by omega⟩ | (simp only [nz_c]; exact ⟨by omega, by omega⟩)) (by first | exact g2 | (simp only [nz_c]; exact g2)) (by first | exact g3 | (simp only [nz_c]; exact g3)) (by first | exact ⟨by omega, by omega⟩ | (simp only [nz_c]; exact ⟨by omega, by omega⟩)) (fun F1 g e23 e32 => k3 g0 g1 g2 g3 F1 (nz_in0 hB [23, 32] (fun j hj hn => g j hj (by simp only [List.mem_cons, List.not_mem_nil, or_false, not_or] at hn; omega)) (List.forall_mem_cons.mpr ⟨fun t ht => (Option.some.inj ht) ▸ (nz_hi e23 n86 (by omega) (by omega)), List.forall_mem_cons.mpr ⟨fun t ht => (Option.some.inj ht) ▸ (nz_hA e32 (nz_up (nz_up (nz_ba hB (k := 32) (lo := (-2147483648)) (hi := 2147483646) rfl) (by decide : (((-14) : Int32)).toInt = (-14 : Int)) (by omega) (by omega)) n86 (by omega) (by omega))), List.forall_mem_nil _⟩⟩)) (fun j hj hn => g j hj (by simp only [List.mem_cons, List.not_mem_nil, or_false, not_or] at hn; omega)) (nz_fi (g 33 (by decide) (by decide))) (nz_fi (g 34 (by decide) (by decide))) ((congrArg Int32.toInt (zz_i e23)).trans n86) (nz_fa (g 39 (by decide) (by decide))) ((zz_ai e32).trans w87))
  replace g0 : (sy_i F 84).toInt = 0 := by omega
  exact k0pi_97_p4 hd F X1 X2 hB (by first | exact g0 | (simp only [nz_c]; exact g0)) (fun F1 g  => k4 g0 F1 (nz_in0 hB [] (fun j hj hn => g j hj (by simp only [List.mem_cons, List.not_mem_nil, or_false, not_or] at hn; exact trivial)) (List.forall_mem_nil _)) (fun j hj hn => g j hj (by simp only [List.mem_cons, List.not_mem_nil, or_false, not_or] at hn; exact trivial)) (nz_fi (g 33 (by decide) (by decide))) (nz_fi (g 34 (by decide) (by decide))) (nz_fi (g 23 (by decide) (by decide))) (nz_fa (g 39 (by decide) (by decide))) (nz_fa (g 32 (by decide) (by decide))))
theorem k0zl_0 {Ls : Nat} {xs : Nat → Int32} {d : Nat} {Q : Option Value → jm_h → Prop} (hd : 4 ≤ d) (F : Nat → sy_d) (X1 X2 : List jm_c) (hB : iv_in F iv_B0)
    (k0 : ∀ F1 : Nat → sy_d, iv_in F1 iv_B0 → (∀ j, j < 82 → j ∉ ([] : List Nat) → F1 j = F j) → (sy_i F1 33).toInt = (sy_i F 33).toInt → (sy_i F1 34).toInt = (sy_i F 34).toInt → (sy_i F1 23).toInt = (sy_i F 23).toInt → sy_ai F1 39 = sy_ai F 39 → sy_ai F1 32 = sy_ai F 32 → sy_ai F1 31 = sy_ai F 31 → (sy_i F1 82).toInt = (sy_i F 82).toInt → (sy_i F1 83).toInt = (sy_i F 83).toInt → hd_W Ls xs d jm_M36 Q (2, sy_dL F1 [some (.inl (.ref 30)), some (.inr (.inl 82)), some (.inr (.inl 83)), none, none], sy_dS F1 [.inr (.inl 82), .inl (.ref 30)], sy_dh F1 X1 X2 (iv_H 0), 0, 0)) :
    hd_W Ls xs d jm_M36 Q (0, sy_dL F [some (.inl (.ref 30)), some (.inr (.inl 82)), some (.inr (.inl 83)), none, none], sy_dS F [], sy_dh F X1 X2 (iv_H 0), 0, 0) := by
  exact k0pl_0_p0 hd F X1 X2 hB  (fun F1 g e82 e83 => k0 F1 (nz_in0 hB [] (fun j hj hn => g j hj (by simp only [List.mem_cons, List.not_mem_nil, or_false, not_or] at hn; exact trivial)) (List.forall_mem_nil _)) (fun j hj hn => g j hj (by simp only [List.mem_cons, List.not_mem_nil, or_false, not_or] at hn; exact trivial)) (nz_fi (g 33 (by decide) (by decide))) (nz_fi (g 34 (by decide) (by decide))) (nz_fi (g 23 (by decide) (by decide))) (nz_fa (g 39 (by decide) (by decide))) (nz_fa (g 32 (by decide) (by decide))) (nz_fa (g 31 (by decide) (by decide))) ((congrArg Int32.toInt (zz_i e82)).trans (rfl : (sy_i F 82).toInt = (sy_i F 82).toInt)) ((congrArg Int32.toInt (zz_i e83)).trans (rfl : (sy_i F 83).toInt = (sy_i F 83).toInt)))
theorem k0zl_5 {Ls : Nat} {xs : Nat → Int32} {d : Nat} {Q : Option Value → jm_h → Prop} (hd : 4 ≤ d) (F : Nat → sy_d) (X1 X2 : List jm_c) (hB : iv_in F iv_B0)
    (k0 : (sy_i F 84).toInt = 0 → ∀ F1 : Nat → sy_d, iv_in F1 iv_B0 → (∀ j, j < 82 → j ∉ ([] : List Nat) → F1 j = F j) → (sy_i F1 33).toInt = (sy_i F 33).toInt → (sy_i F1 34).toInt = (sy_i F 34).toInt → (sy_i F1 23).toInt = (sy_i F 23).toInt → sy_ai F1 39 = sy_ai F 39 → sy_ai F1 32 = sy_ai F 32 → sy_ai F1 31 = sy_ai F 31 → Q (some (.int ((0 : Int32)))) (sy_dh F1 X1 X2 (iv_H 0)))
    (k1 : (sy_i F 84).toInt ≠ 0 → ∀ F1 : Nat → sy_d, iv_in F1 iv_B0 → (∀ j, j < 82 → j ∉ ([] : List Nat) → F1 j = F j) → (sy_i F1 33).toInt = (sy_i F 33).toInt → (sy_i F1 34).toInt = (sy_i F 34).toInt → (sy_i F1 23).toInt = (sy_i F 23).toInt → sy_ai F1 39 = sy_ai F 39 → sy_ai F1 32 = sy_ai F 32 → sy_ai F1 31 = sy_ai F 31 → (sy_i F1 82).toInt = (sy_i F 82).toInt → (sy_i F1 83).toInt = (sy_i F 83).toInt → hd_W Ls xs d jm_M36 Q (11, sy_dL F1 [some (.inl (.ref 30)), some (.inr (.inl 82)), some (.inr (.inl 83)), none, none], sy_dS F1 [.inl (.int 61), .inl (.ref 30)], sy_dh F1 X1 X2 (iv_H 0), 0, 0)) :
    hd_W Ls xs d jm_M36 Q (5, sy_dL F [some (.inl (.ref 30)), some (.inr (.inl 82)), some (.inr (.inl 83)), none, none], sy_dS F [.inr (.inl 84)], sy_dh F X1 X2 (iv_H 0), 0, 0) := by
  by_cases g0 : (sy_i F 84).toInt = 0
  · exact k0pl_5_p0 hd F X1 X2 hB (by first | exact g0 | (simp only [nz_c]; exact g0)) (fun F1 g  => k0 g0 F1 (nz_in0 hB [] (fun j hj hn => g j hj (by simp only [List.mem_cons, List.not_mem_nil, or_false, not_or] at hn; exact trivial)) (List.forall_mem_nil _)) (fun j hj hn => g j hj (by simp only [List.mem_cons, List.not_mem_nil, or_false, not_or] at hn; exact trivial)) (nz_fi (g 33 (by decide) (by decide))) (nz_fi (g 34 (by decide) (by decide))) (nz_fi (g 23 (by decide) (by decide))) (nz_fa (g 39 (by decide) (by decide))) (nz_fa (g 32 (by decide) (by decide))) (nz_fa (g 31 (by decide) (by decide))))
  replace g0 : (sy_i F 84).toInt ≠ 0 := by omega
  exact k0pl_5_p1 hd F X1 X2 hB (by first | exact g0 | (simp only [nz_c]; exact g0)) (fun F1 g e82 e83 => k1 g0 F1 (nz_in0 hB [] (fun j hj hn => g j hj (by simp only [List.mem_cons, List.not_mem_nil, or_false, not_or] at hn; exact trivial)) (List.forall_mem_nil _)) (fun j hj hn => g j hj (by simp only [List.mem_cons, List.not_mem_nil, or_false, not_or] at hn; exact trivial)) (nz_fi (g 33 (by decide) (by decide))) (nz_fi (g 34 (by decide) (by decide))) (nz_fi (g 23 (by decide) (by decide))) (nz_fa (g 39 (by decide) (by decide))) (nz_fa (g 32 (by decide) (by decide))) (nz_fa (g 31 (by decide) (by decide))) ((congrArg Int32.toInt (zz_i e82)).trans (rfl : (sy_i F 82).toInt = (sy_i F 82).toInt)) ((congrArg Int32.toInt (zz_i e83)).trans (rfl : (sy_i F 83).toInt = (sy_i F 83).toInt)))
theorem k0zl_14 {Ls : Nat} {xs : Nat → Int32} {d : Nat} {Q : Option Value → jm_h → Prop} (hd : 4 ≤ d) (F : Nat → sy_d) (X1 X2 : List jm_c) (hB : iv_in F iv_B0)
    (k0 : (sy_i F 84).toInt ≠ 0 → ∀ F1 : Nat → sy_d, iv_in F1 iv_B0 → (∀ j, j < 82 → j ∉ ([] : List Nat) → F1 j = F j) → (sy_i F1 33).toInt = (sy_i F 33).toInt → (sy_i F1 34).toInt = (sy_i F 34).toInt → (sy_i F1 23).toInt = (sy_i F 23).toInt → sy_ai F1 39 = sy_ai F 39 → sy_ai F1 32 = sy_ai F 32 → sy_ai F1 31 = sy_ai F 31 → (sy_i F1 82).toInt = (sy_i F 83).toInt → (sy_i F1 83).toInt = (sy_i F 23).toInt → (sy_i F1 84).toInt = 0 → hd_W Ls xs d jm_M36 Q (30, sy_dL F1 [some (.inl (.ref 30)), none, some (.inr (.inl 82)), some (.inr (.inl 83)), some (.inr (.inl 84))], sy_dS F1 [], sy_dh F1 X1 X2 (iv_H 0), 0, 0))
    (k1 : (sy_i F 84).toInt = 0 → ∀ F1 : Nat → sy_d, iv_in F1 iv_B0 → (∀ j, j < 82 → j ∉ ([] : List Nat) → F1 j = F j) → (sy_i F1 33).toInt = (sy_i F 33).toInt → (sy_i F1 34).toInt = (sy_i F 34).toInt → (sy_i F1 23).toInt = (sy_i F 23).toInt → sy_ai F1 39 = sy_ai F 39 → sy_ai F1 32 = sy_ai F 32 → sy_ai F1 31 = sy_ai F 31 → Q (some (.int ((0 : Int32)))) (sy_dh F1 X1 X2 (iv_H 0))) :
    hd_W Ls xs d jm_M36 Q (14, sy_dL F [some (.inl (.ref 30)), some (.inr (.inl 82)), some (.inr (.inl 83)), none, none], sy_dS F [.inr (.inl 84)], sy_dh F X1 X2 (iv_H 0), 0, 0) := by
  by_cases g0 : (sy_i F 84).toInt ≠ 0
  · have c23 := nz_bx hB (k := 23) (lo := 0) (hi := 512) rfl
    exact k0pl_14_p0 hd F X1 X2 hB (by first | exact g0 | (simp only [nz_c]; exact g0)) (fun F1 g e82 e83 e84 => k0 g0 F1 (nz_in0 hB [] (fun j hj hn => g j hj (by simp only [List.mem_cons, List.not_mem_nil, or_false, not_or] at hn; exact trivial)) (List.forall_mem_nil _)) (fun j hj hn => g j hj (by simp only [List.mem_cons, List.not_mem_nil, or_false, not_or] at hn; exact trivial)) (nz_fi (g 33 (by decide) (by decide))) (nz_fi (g 34 (by decide) (by decide))) (nz_fi (g 23 (by decide) (by decide))) (nz_fa (g 39 (by decide) (by decide))) (nz_fa (g 32 (by decide) (by decide))) (nz_fa (g 31 (by decide) (by decide))) ((congrArg Int32.toInt (zz_i e82)).trans (rfl : (sy_i F 83).toInt = (sy_i F 83).toInt)) ((congrArg Int32.toInt (zz_i e83)).trans (rfl : (sy_i F 23).toInt = (sy_i F 23).toInt)) ((congrArg Int32.toInt (zz_i e84)).trans (by decide : ((0 : Int32)).toInt = 0)))
  replace g0 : (sy_i F 84).toInt = 0 := by omega
  exact k0pl_14_p1 hd F X1 X2 hB (by first | exact g0 | (simp only [nz_c]; exact g0)) (fun F1 g  => k1 g0 F1 (nz_in0 hB [] (fun j hj hn => g j hj (by simp only [List.mem_cons, List.not_mem_nil, or_false, not_or] at hn; exact trivial)) (List.forall_mem_nil _)) (fun j hj hn => g j hj (by simp only [List.mem_cons, List.not_mem_nil, or_false, not_or] at hn; exact trivial)) (nz_fi (g 33 (by decide) (by decide))) (nz_fi (g 34 (by decide) (by decide))) (nz_fi (g 23 (by decide) (by decide))) (nz_fa (g 39 (by decide) (by decide))) (nz_fa (g 32 (by decide) (by decide))) (nz_fa (g 31 (by decide) (by decide))))
theorem k0zl_30 {Ls : Nat} {xs : Nat → Int32} {d : Nat} {Q : Option Value → jm_h → Prop} (hd : 4 ≤ d) (F : Nat → sy_d) (X1 X2 : List jm_c) (hB : iv_in F iv_B0)
    (a84 : 0 ≤ (sy_i F 84).toInt ∧ (sy_i F 84).toInt ≤ 5)
    (k0 : 4 < (sy_i F 84).toInt → ∀ F1 : Nat → sy_d, iv_in F1 iv_B0 → (∀ j, j < 82 → j ∉ ([] : List Nat) → F1 j = F j) → (sy_i F1 33).toInt = (sy_i F 33).toInt → (sy_i F1 34).toInt = (sy_i F 34).toInt → (sy_i F1 23).toInt = (sy_i F 23).toInt → sy_ai F1 39 = sy_ai F 39 → sy_ai F1 32 = sy_ai F 32 → sy_ai F1 31 = sy_ai F 31 → (sy_i F1 82).toInt = (sy_i F 82).toInt → (sy_i F1 83).toInt = (sy_i F 83).toInt → hd_W Ls xs d jm_M36 Q (83, sy_dL F1 [some (.inl (.ref 30)), none, some (.inr (.inl 82)), some (.inr (.inl 83)), none], sy_dS F1 [.inl (.int 0), .inr (.inl 82), .inl (.ref 30)], sy_dh F1 X1 X2 (iv_H 0), 0, 0))
    (k1 : (sy_i F 84).toInt ≤ 4 → 0 ≤ (sy_i F 33).toInt → (sy_i F 33).toInt ≤ 400 → ((sy_ai F 39).getD ((sy_i F 33).toInt).toNat 0).toInt ≠ 11 → ∀ F1 : Nat → sy_d, iv_in F1 iv_B0 → (∀ j, j < 82 → j ∉ ([] : List Nat) → F1 j = F j) → (sy_i F1 33).toInt = (sy_i F 33).toInt → (sy_i F1 34).toInt = (sy_i F 34).toInt → (sy_i F1 23).toInt = (sy_i F 23).toInt → sy_ai F1 39 = sy_ai F 39 → sy_ai F1 32 = sy_ai F 32 → sy_ai F1 31 = sy_ai F 31 → (sy_i F1 82).toInt = (sy_i F 82).toInt → (sy_i F1 83).toInt = (sy_i F 83).toInt → hd_W Ls xs d jm_M36 Q (83, sy_dL F1 [some (.inl (.ref 30)), none, some (.inr (.inl 82)), some (.inr (.inl 83)), none], sy_dS F1 [.inl (.int 0), .inr (.inl 82), .inl (.ref 30)], sy_dh F1 X1 X2 (iv_H 0), 0, 0))
    (k2 : (sy_i F 84).toInt ≤ 4 → 0 ≤ (sy_i F 33).toInt → (sy_i F 33).toInt ≤ 400 → ((sy_ai F 39).getD ((sy_i F 33).toInt).toNat 0).toInt = 11 → (sy_i F 84).toInt < 4 → ∀ F1 : Nat → sy_d, iv_in F1 iv_B0 → (∀ j, j < 82 → j ∉ ([] : List Nat) → F1 j = F j) → (sy_i F1 33).toInt = (sy_i F 33).toInt → (sy_i F1 34).toInt = (sy_i F 34).toInt → (sy_i F1 23).toInt = (sy_i F 23).toInt → sy_ai F1 39 = sy_ai F 39 → sy_ai F1 32 = sy_ai F 32 → sy_ai F1 31 = sy_ai F 31 → (sy_i F1 82).toInt = (sy_i F 82).toInt → (sy_i F1 83).toInt = (sy_i F 83).toInt → (sy_i F1 84).toInt = (sy_i F 84).toInt → hd_W Ls xs d jm_M36 Q (66, sy_dL F1 [some (.inl (.ref 30)), none, some (.inr (.inl 82)), some (.inr (.inl 83)), some (.inr (.inl 84))], sy_dS F1 [.inr (.inl 82), .inl (.ref 30)], sy_dh F1 X1 X2 (iv_H 0), 0, 0))
    (k3 : (sy_i F 84).toInt ≤ 4 → 0 ≤ (sy_i F 33).toInt → (sy_i F 33).toInt ≤ 400 → ((sy_ai F 39).getD ((sy_i F 33).toInt).toNat 0).toInt = 11 → 4 ≤ (sy_i F 84).toInt → ∀ F1 : Nat → sy_d, iv_in F1 iv_B0 → (∀ j, j < 82 → j ∉ ([34] : List Nat) → F1 j = F j) → (sy_i F1 33).toInt = (sy_i F 33).toInt → (sy_i F1 34).toInt = 2 → (sy_i F1 23).toInt = (sy_i F 23).toInt → sy_ai F1 39 = sy_ai F 39 → sy_ai F1 32 = sy_ai F 32 → sy_ai F1 31 = sy_ai F 31 → Q (some (.int ((0 : Int32)))) (sy_dh F1 X1 X2 (iv_H 0))) :
    hd_W Ls xs d jm_M36 Q (30, sy_dL F [some (.inl (.ref 30)), none, some (.inr (.inl 82)), some (.inr (.inl 83)), some (.inr (.inl 84))], sy_dS F [], sy_dh F X1 X2 (iv_H 0), 0, 0) := by
  by_cases g0 : 4 < (sy_i F 84).toInt
  · exact k0pl_30_p0 hd F X1 X2 hB (by first | exact g0 | (simp only [nz_c]; exact g0)) (fun F1 g e82 e83 => k0 g0 F1 (nz_in0 hB [] (fun j hj hn => g j hj (by simp only [List.mem_cons, List.not_mem_nil, or_false, not_or] at hn; exact trivial)) (List.forall_mem_nil _)) (fun j hj hn => g j hj (by simp only [List.mem_cons, List.not_mem_nil, or_false, not_or] at hn; exact trivial)) (nz_fi (g 33 (by decide) (by decide))) (nz_fi (g 34 (by decide) (by decide))) (nz_fi (g 23 (by decide) (by decide))) (nz_fa (g 39 (by decide) (by decide))) (nz_fa (g 32 (by decide) (by decide))) (nz_fa (g 31 (by decide) (by decide))) ((congrArg Int32.toInt (zz_i e82)).trans (rfl : (sy_i F 82).toInt = (sy_i F 82).toInt)) ((congrArg Int32.toInt (zz_i e83)).trans (rfl : (sy_i F 83).toInt = (sy_i F 83).toInt)))
  replace g0 : (sy_i F 84).toInt ≤ 4 := by omega
  by_cases g1 : (sy_i F 33).toInt < 0
  · have c33 := nz_bx hB (k := 33) (lo := 0) (hi := 400) rfl
    exfalso
    omega
  replace g1 : 0 ≤ (sy_i F 33).toInt := by omega
  by_cases g2 : 400 < (sy_i F 33).toInt
  · have c33 := nz_bx hB (k := 33) (lo := 0) (hi := 400) rfl
    exfalso
    omega
  replace g2 : (sy_i F 33).toInt ≤ 400 := by omega
  by_cases g3 : ((sy_ai F 39).getD ((sy_i F 33).toInt).toNat 0).toInt ≠ 11
  · have c33 := nz_bx hB (k := 33) (lo := 0) (hi := 400) rfl
    have q85 : (sy_ai F 39).getD (sy_i F 33).toNatClampNeg 0 = (sy_ai F 39).getD ((sy_i F 33).toInt).toNat 0 := by simp only [nz_c]
    have n85 : ((sy_ai F 39).getD (sy_i F 33).toNatClampNeg 0).toInt = ((sy_ai F 39).getD ((sy_i F 33).toInt).toNat 0).toInt := congrArg Int32.toInt q85
    exact k0pl_30_p1 hd F X1 X2 hB (by first | exact g0 | (simp only [nz_c]; exact g0)) (by first | exact g1 | (simp only [nz_c]; exact g1)) (by first | exact g2 | (simp only [nz_c]; exact g2)) (by first | exact ⟨by omega, by omega⟩ | (simp only [nz_c]; exact ⟨by omega, by omega⟩)) (by first | exact g3 | (simp only [nz_c]; exact g3) | (rw [n85]; exact g3)) (fun F1 g e82 e83 => k1 g0 g1 g2 g3 F1 (nz_in0 hB [] (fun j hj hn => g j hj (by simp only [List.mem_cons, List.not_mem_nil, or_false, not_or] at hn; exact trivial)) (List.forall_mem_nil _)) (fun j hj hn => g j hj (by simp only [List.mem_cons, List.not_mem_nil, or_false, not_or] at hn; exact trivial)) (nz_fi (g 33 (by decide) (by decide))) (nz_fi (g 34 (by decide) (by decide))) (nz_fi (g 23 (by decide) (by decide))) (nz_fa (g 39 (by decide) (by decide))) (nz_fa (g 32 (by decide) (by decide))) (nz_fa (g 31 (by decide) (by decide))) ((congrArg Int32.toInt (zz_i e82)).trans (rfl : (sy_i F 82).toInt = (sy_i F 82).toInt)) ((congrArg Int32.toInt (zz_i e83)).trans (rfl : (sy_i F 83).toInt = (sy_i F 83).toInt)))
  replace g3 : ((sy_ai F 39).getD ((sy_i F 33).toInt).toNat 0).toInt = 11 := by omega
  by_cases g4 : (sy_i F 84).toInt < 4
  · have c33 := nz_bx hB (k := 33) (lo := 0) (hi := 400) rfl
    have q85 : (sy_ai F 39).getD (sy_i F 33).toNatClampNeg 0 = (sy_ai F 39).getD ((sy_i F 33).toInt).toNat 0 := by simp only [nz_c]
    have n85 : ((sy_ai F 39).getD (sy_i F 33).toNatClampNeg 0).toInt = ((sy_ai F 39).getD ((sy_i F 33).toInt).toNat 0).toInt := congrArg Int32.toInt q85
    exact k0pl_30_p2 hd F X1 X2 hB (by first | exact g0 | (simp only [nz_c]; exact g0)) (by first | exact g1 | (simp only [nz_c]; exact g1)) (by first | exact g2 | (simp only [nz_c]; exact g2)) (by first | exact ⟨by omega, by omega⟩ | (simp only [nz_c]; exact ⟨by omega, by omega⟩)) (by first | exact g3 | (simp only [nz_c]; exact g3) | (rw [n85]; exact g3)) (by first | exact g4 | (simp only [nz_c]; exact g4)) (fun F1 g e82 e83 e84 => k2 g0 g1 g2 g3 g4 F1 (nz_in0 hB [] (fun j hj hn => g j hj (by simp only [List.mem_cons, List.not_mem_nil, or_false, not_or] at hn; exact trivial)) (List.forall_mem_nil _)) (fun j hj hn => g j hj (by simp only [List.mem_cons, List.not_mem_nil, or_false, not_or] at hn; exact trivial)) (nz_fi (g 33 (by decide) (by decide))) (nz_fi (g 34 (by decide) (by decide))) (nz_fi (g 23 (by decide) (by decide))) (nz_fa (g 39 (by decide) (by decide))) (nz_fa (g 32 (by decide) (by decide))) (nz_fa (g 31 (by decide) (by decide))) ((congrArg Int32.toInt (zz_i e82)).trans (rfl : (sy_i F 82).toInt = (sy_i F 82).toInt)) ((congrArg Int32.toInt (zz_i e83)).trans (rfl : (sy_i F 83).toInt = (sy_i F 83).toInt)) ((congrArg Int32.toInt (zz_i e84)).trans (rfl : (sy_i F 84).toInt = (sy_i F 84).toInt)))
  replace g4 : 4 ≤ (sy_i F 84).toInt := by omega
  have c33 := nz_bx hB (k := 33) (lo := 0) (hi := 400) rfl
  have q85 : (sy_ai F 39).getD (sy_i F 33).toNatClampNeg 0 = (sy_ai F 39).getD ((sy_i F 33).toInt).toNat 0 := by simp only [nz_c]
  have n85 : ((sy_ai F 39).getD (sy_i F 33).toNatClampNeg 0).toInt = ((sy_ai F 39).getD ((sy_i F 33).toInt).toNat 0).toInt := congrArg Int32.toInt q85
  exact k0pl_30_p3 hd F X1 X2 hB (by first | exact g0 | (simp only [nz_c]; exact g0)) (by first | exact g1 | (simp only [nz_c]; exact g1)) (by first | exact g2 | (simp only [nz_c]; exact g2)) (by first | exact ⟨by omega, by omega⟩ | (simp only [nz_c]; exact ⟨by omega, by omega⟩)) (by first | exact g3 | (simp only [nz_c]; exact g3) | (rw [n85]; exact g3)) (by first | exact g4 | (simp only [nz_c]; exact g4)) (fun F1 g e34 => k3 g0 g1 g2 g3 g4 F1 (nz_in0 hB [34] (fun j hj hn => g j hj (by simp only [List.mem_cons, List.not_mem_nil, or_false, not_or] at hn; omega)) (List.forall_mem_cons.mpr ⟨fun t ht => (Option.some.inj ht) ▸ (nz_hz e34), List.forall_mem_nil _⟩)) (fun j hj hn => g j hj (by simp only [List.mem_cons, List.not_mem_nil, or_false, not_or] at hn; omega)) (nz_fi (g 33 (by decide) (by decide))) ((congrArg Int32.toInt (zz_i e34)).trans (by decide : ((2 : Int32)).toInt = 2)) (nz_fi (g 23 (by decide) (by decide))) (nz_fa (g 39 (by decide) (by decide))) (nz_fa (g 32 (by decide) (by decide))) (nz_fa (g 31 (by decide) (by decide))))
theorem k0zl_69 {Ls : Nat} {xs : Nat → Int32} {d : Nat} {Q : Option Value → jm_h → Prop} (hd : 4 ≤ d) (F : Nat → sy_d) (X1 X2 : List jm_c) (hB : iv_in F iv_B0)
    (a84 : 0 ≤ (sy_i F 84).toInt ∧ (sy_i F 84).toInt ≤ 4)
    (k0 : (sy_i F 85).toInt ≠ 0 → ∀ F1 : Nat → sy_d, iv_in F1 iv_B0 → (∀ j, j < 82 → j ∉ ([] : List Nat) → F1 j = F j) → (sy_i F1 33).toInt = (sy_i F 33).toInt → (sy_i F1 34).toInt = (sy_i F 34).toInt → (sy_i F1 23).toInt = (sy_i F 23).toInt → sy_ai F1 39 = sy_ai F 39 → sy_ai F1 32 = sy_ai F 32 → sy_ai F1 31 = sy_ai F 31 → (sy_i F1 82).toInt = (sy_i F 82).toInt → (sy_i F1 83).toInt = (sy_i F 83).toInt → (sy_i F1 84).toInt = ((sy_i F 84).toInt + 1) → hd_W Ls xs d jm_M36 Q (30, sy_dL F1 [some (.inl (.ref 30)), none, some (.inr (.inl 82)), some (.inr (.inl 83)), some (.inr (.inl 84))], sy_dS F1 [], sy_dh F1 X1 X2 (iv_H 0), 0, 0))
    (k1 : (sy_i F 85).toInt = 0 → ∀ F1 : Nat → sy_d, iv_in F1 iv_B0 → (∀ j, j < 82 → j ∉ ([] : List Nat) → F1 j = F j) → (sy_i F1 33).toInt = (sy_i F 33).toInt → (sy_i F1 34).toInt = (sy_i F 34).toInt → (sy_i F1 23).toInt = (sy_i F 23).toInt → sy_ai F1 39 = sy_ai F 39 → sy_ai F1 32 = sy_ai F 32 → sy_ai F1 31 = sy_ai F 31 → Q (some (.int ((0 : Int32)))) (sy_dh F1 X1 X2 (iv_H 0))) :
    hd_W Ls xs d jm_M36 Q (69, sy_dL F [some (.inl (.ref 30)), none, some (.inr (.inl 82)), some (.inr (.inl 83)), some (.inr (.inl 84))], sy_dS F [.inr (.inl 85)], sy_dh F X1 X2 (iv_H 0), 0, 0) := by
  by_cases g0 : (sy_i F 85).toInt ≠ 0
  · have n86 : ((sy_i F 84) + ((1 : Int32))).toInt = ((sy_i F 84).toInt + 1) := nz_add (rfl : (sy_i F 84).toInt = (sy_i F 84).toInt) (by decide : ((1 : Int32)).toInt = 1) (by omega) (by omega)
    exact k0pl_69_p0 hd F X1 X2 hB (by first | exact g0 | (simp only [nz_c]; exact g0)) (fun F1 g e82 e83 e84 => k0 g0 F1 (nz_in0 hB [] (fun j hj hn => g j hj (by simp only [List.mem_cons, List.not_mem_nil, or_false, not_or] at hn; exact trivial)) (List.forall_mem_nil _)) (fun j hj hn => g j hj (by simp only [List.mem_cons, List.not_mem_nil, or_false, not_or] at hn; exact trivial)) (nz_fi (g 33 (by decide) (by decide))) (nz_fi (g 34 (by decide) (by decide))) (nz_fi (g 23 (by decide) (by decide))) (nz_fa (g 39 (by decide) (by decide))) (nz_fa (g 32 (by decide) (by decide))) (nz_fa (g 31 (by decide) (by decide))) ((congrArg Int32.toInt (zz_i e82)).trans (rfl : (sy_i F 82).toInt = (sy_i F 82).toInt)) ((congrArg Int32.toInt (zz_i e83)).trans (rfl : (sy_i F 83).toInt = (sy_i F 83).toInt)) ((congrArg Int32.toInt (zz_i e84)).trans n86))
  replace g0 : (sy_i F 85).toInt = 0 := by omega
  exact k0pl_69_p1 hd F X1 X2 hB (by first | exact g0 | (simp only [nz_c]; exact g0)) (fun F1 g  => k1 g0 F1 (nz_in0 hB [] (fun j hj hn => g j hj (by simp only [List.mem_cons, List.not_mem_nil, or_false, not_or] at hn; exact trivial)) (List.forall_mem_nil _)) (fun j hj hn => g j hj (by simp only [List.mem_cons, List.not_mem_nil, or_false, not_or] at hn; exact trivial)) (nz_fi (g 33 (by decide) (by decide))) (nz_fi (g 34 (by decide) (by decide))) (nz_fi (g 23 (by decide) (by decide))) (nz_fa (g 39 (by decide) (by decide))) (nz_fa (g 32 (by decide) (by decide))) (nz_fa (g 31 (by decide) (by decide))))
theorem k0zl_86 {Ls : Nat} {xs : Nat → Int32} {d : Nat} {Q : Option Value → jm_h → Prop} (hd : 4 ≤ d) (F : Nat → sy_d) (X1 X2 : List jm_c) (hB : iv_in F iv_B0)
    (k0 : (sy_i F 84).toInt = 0 → ∀ F1 : Nat → sy_d, iv_in F1 iv_B0 → (∀ j, j < 82 → j ∉ ([] : List Nat) → F1 j = F j) → (sy_i F1 33).toInt = (sy_i F 33).toInt → (sy_i F1 34).toInt = (sy_i F 34).toInt → (sy_i F1 23).toInt = (sy_i F 23).toInt → sy_ai F1 39 = sy_ai F 39 → sy_ai F1 32 = sy_ai F 32 → sy_ai F1 31 = sy_ai F 31 → Q (some (.int ((0 : Int32)))) (sy_dh F1 X1 X2 (iv_H 0)))
    (k1 : (sy_i F 84).toInt ≠ 0 → ∀ F1 : Nat → sy_d, iv_in F1 iv_B0 → (∀ j, j < 82 → j ∉ ([] : List Nat) → F1 j = F j) → (sy_i F1 33).toInt = (sy_i F 33).toInt → (sy_i F1 34).toInt = (sy_i F 34).toInt → (sy_i F1 23).toInt = (sy_i F 23).toInt → sy_ai F1 39 = sy_ai F 39 → sy_ai F1 32 = sy_ai F 32 → sy_ai F1 31 = sy_ai F 31 → (sy_i F1 82).toInt = (sy_i F 82).toInt → (sy_i F1 83).toInt = (sy_i F 83).toInt → hd_W Ls xs d jm_M36 Q (92, sy_dL F1 [some (.inl (.ref 30)), none, some (.inr (.inl 82)), some (.inr (.inl 83)), none], sy_dS F1 [.inl (.int 59), .inl (.ref 30)], sy_dh F1 X1 X2 (iv_H 0), 0, 0)) :
    hd_W Ls xs d jm_M36 Q (86, sy_dL F [some (.inl (.ref 30)), none, some (.inr (.inl 82)), some (.inr (.inl 83)), none], sy_dS F [.inr (.inl 84)], sy_dh F X1 X2 (iv_H 0), 0, 0) := by
  by_cases g0 : (sy_i F 84).toInt = 0
  · exact k0pl_86_p0 hd F X1 X2 hB (by first | exact g0 | (simp only [nz_c]; exact g0)) (fun F1 g  => k0 g0 F1 (nz_in0 hB [] (fun j hj hn => g j hj (by simp only [List.mem_cons, List.not_mem_nil, or_false, not_or] at hn; exact trivial)) (List.forall_mem_nil _)) (fun j hj hn => g j hj (by simp only [List.mem_cons, List.not_mem_nil, or_false, not_or] at hn; exact trivial)) (nz_fi (g 33 (by decide) (by decide))) (nz_fi (g 34 (by decide) (by decide))) (nz_fi (g 23 (by decide) (by decide))) (nz_fa (g 39 (by decide) (by decide))) (nz_fa (g 32 (by decide) (by decide))) (nz_fa (g 31 (by decide) (by decide))))
  replace g0 : (sy_i F 84).toInt ≠ 0 := by omega
  exact k0pl_86_p1 hd F X1 X2 hB (by first | exact g0 | (simp only [nz_c]; exact g0)) (fun F1 g e82 e83 => k1 g0 F1 (nz_in0 hB [] (fun j hj hn => g j hj (by simp only [List.mem_cons, List.not_mem_nil, or_false, not_or] at hn; exact trivial)) (List.forall_mem_nil _)) (fun j hj hn => g j hj (by simp only [List.mem_cons, List.not_mem_nil, or_false, not_or] at hn; exact trivial)) (nz_fi (g 33 (by decide) (by decide))) (nz_fi (g 34 (by decide) (by decide))) (nz_fi (g 23 (by decide) (by decide))) (nz_fa (g 39 (by decide) (by decide))) (nz_fa (g 32 (by decide) (by decide))) (nz_fa (g 31 (by decide) (by decide))) ((congrArg Int32.toInt (zz_i e82)).trans (rfl : (sy_i F 82).toInt = (sy_i F 82).toInt)) ((congrArg Int32.toInt (zz_i e83)).trans (rfl : (sy_i F 83).toInt = (sy_i F 83).toInt)))
theorem k0zl_95 {Ls : Nat} {xs : Nat → Int32} {d : Nat} {Q : Option Value → jm_h → Prop} (hd : 4 ≤ d) (F : Nat → sy_d) (X1 X2 : List jm_c) (hB : iv_in F iv_B0)
    (a82 : 0 ≤ (sy_i F 82).toInt ∧ (sy_i F 82).toInt ≤ 5)
    (a83 : 0 ≤ (sy_i F 83).toInt ∧ (sy_i F 83).toInt ≤ 512)
    (k0 : (sy_i F 84).toInt ≠ 0 → 512 ≤ (sy_i F 23).toInt → ∀ F1 : Nat → sy_d, iv_in F1 iv_B0 → (∀ j, j < 82 → j ∉ ([31] : List Nat) → F1 j = F j) → (sy_i F1 33).toInt = (sy_i F 33).toInt → (sy_i F1 34).toInt = (sy_i F 34).toInt → (sy_i F1 23).toInt = (sy_i F 23).toInt → sy_ai F1 39 = sy_ai F 39 → sy_ai F1 32 = sy_ai F 32 → sy_ai F1 31 = jm_upd (sy_ai F 31) ((sy_i F 82).toInt).toNat (sy_i F 83) → Q (some (.int ((1 : Int32)))) (sy_dh F1 X1 X2 (iv_H 0)))
    (k1 : (sy_i F 84).toInt ≠ 0 → (sy_i F 23).toInt < 512 → ∀ F1 : Nat → sy_d, iv_in F1 iv_B0 → (∀ j, j < 82 → j ∉ ([23, 31, 32] : List Nat) → F1 j = F j) → (sy_i F1 33).toInt = (sy_i F 33).toInt → (sy_i F1 34).toInt = (sy_i F 34).toInt → (sy_i F1 23).toInt = ((sy_i F 23).toInt + 1) → sy_ai F1 39 = sy_ai F 39 → sy_ai F1 32 = jm_upd (sy_ai F 32) ((sy_i F 23).toInt).toNat (((-14) : Int32)) → sy_ai F1 31 = jm_upd (sy_ai F 31) ((sy_i F 82).toInt).toNat (sy_i F 83) → Q (some (.int ((1 : Int32)))) (sy_dh F1 X1 X2 (iv_H 0)))
    (k2 : (sy_i F 84).toInt = 0 → ∀ F1 : Nat → sy_d, iv_in F1 iv_B0 → (∀ j, j < 82 → j ∉ ([] : List Nat) → F1 j = F j) → (sy_i F1 33).toInt = (sy_i F 33).toInt → (sy_i F1 34).toInt = (sy_i F 34).toInt → (sy_i F1 23).toInt = (sy_i F 23).toInt → sy_ai F1 39 = sy_ai F 39 → sy_ai F1 32 = sy_ai F 32 → sy_ai F1 31 = sy_ai F 31 → Q (some (.int ((0 : Int32)))) (sy_dh F1 X1 X2 (iv_H 0))) :
    hd_W Ls xs d jm_M36 Q (95, sy_dL F [some (.inl (.ref 30)), none, some (.inr (.inl 82)), some (.inr (.inl 83)), none], sy_dS F [.inr (.inl 84)], sy_dh F X1 X2 (iv_H 0), 0, 0) := by
  by_cases g0 : (sy_i F 84).toInt ≠ 0
  · by_cases g1 : 512 ≤ (sy_i F 23).toInt
    · have c23 := nz_bx hB (k := 23) (lo := 0) (hi := 512) rfl
      have w85 : jm_upd (sy_ai F 31) (sy_i F 82).toNatClampNeg (sy_i F 83) = jm_upd (sy_ai F 31) ((sy_i F 82).toInt).toNat (sy_i F 83) := by simp only [nz_c]
      exact k0pl_95_p0 hd F X1 X2 hB (by first | exact g0 | (simp only [nz_c]; exact g0)) (by first | exact g1 | (simp only [nz_c]; exact g1)) (by first | exact ⟨by omega, by omega⟩ | (simp only [nz_c]; exact ⟨by omega, by omega⟩)) (fun F1 g e31 => k0 g0 g1 F1 (nz_in0 hB [31] (fun j hj hn => g j hj (by simp only [List.mem_cons, List.not_mem_nil, or_false, not_or] at hn; omega)) (List.forall_mem_cons.mpr ⟨fun t ht => (Option.some.inj ht) ▸ (nz_hA e31 (nz_up (nz_ba hB (k := 31) (lo := 0) (hi := 512) rfl) (rfl : (sy_i F 83).toInt = (sy_i F 83).toInt) (by omega) (by omega))), List.forall_mem_nil _⟩)) (fun j hj hn => g j hj (by simp only [List.mem_cons, List.not_mem_nil, or_false, not_or] at hn; omega)) (nz_fi (g 33 (by decide) (by decide))) (nz_fi (g 34 (by decide) (by decide))) (nz_fi (g 23 (by decide) (by decide))) (nz_fa (g 39 (by decide) (by decide))) (nz_fa (g 32 (by decide) (by decide))) ((zz_ai e31).trans w85))
    replace g1 : (sy_i F 23).toInt < 512 := by omega
    have c23 := nz_bx hB (k := 23) (lo := 0) (hi := 512) rfl
    have n86 : ((sy_i F 23) + ((1 : Int32))).toInt = ((sy_i F 23).toInt + 1) := nz_add (rfl : (sy_i F 23).toInt = (sy_i F 23).toInt) (by decide : ((1 : Int32)).toInt = 1) (by omega) (by omega)
    have w85 : jm_upd (sy_ai F 32) (sy_i F 23).toNatClampNeg (((-14) : Int32)) = jm_upd (sy_ai F 32) ((sy_i F 23).toInt).toNat (((-14) : Int32)) := by simp only [nz_c, (by decide : (((-14) : Int32)).toInt = (-14 : Int))]
    have w87 : jm_upd (sy_ai F 31) (sy_i F 82).toNatClampNeg (sy_i F 83) = jm_upd (sy_ai F 31) ((sy_i F 82).toInt).toNat (sy_i F 83) := by simp only [nz_c]
    exact k0pl_95_p1 hd F X1 X2 hB (by first | exact g0 | (simp only [nz_c]; exact g0)) (by first | exact g1 | (simp only [nz_c]; exact g1)) (by first | exact ⟨by omega, by omega⟩ | (simp only [nz_c]; exact ⟨by omega, by omega⟩)) (by first | exact ⟨by omega, by omega⟩ | (simp only [nz_c]; exact ⟨by omega, by omega⟩)) (fun F1 g e23 e31 e32 => k1 g0 g1 F1 (nz_in0 hB [23, 31, 32] (fun j hj hn => g j hj (by simp only [List.mem_cons, List.not_mem_nil, or_false, not_or] at hn; omega)) (List.forall_mem_cons.mpr ⟨fun t ht => (Option.some.inj ht) ▸ (nz_hi e23 n86 (by omega) (by omega)), List.forall_mem_cons.mpr ⟨fun t ht => (Option.some.inj ht) ▸ (nz_hA e31 (nz_up (nz_ba hB (k := 31) (lo := 0) (hi := 512) rfl) (rfl : (sy_i F 83).toInt = (sy_i F 83).toInt) (by omega) (by omega))), List.forall_mem_cons.mpr ⟨fun t ht => (Option.some.inj ht) ▸ (nz_hA e32 (nz_up (nz_ba hB (k := 32) (lo := (-2147483648)) (hi := 2147483646) rfl) (by decide : (((-14) : Int32)).toInt = (-14 : Int)) (by omega) (by omega))), List.forall_mem_nil _⟩⟩⟩)) (fun j hj hn => g j hj (by simp only [List.mem_cons, List.not_mem_nil, or_false, not_or] at hn; omega)) (nz_fi (g 33 (by decide) (by decide))) (nz_fi (g 34 (by decide) (by decide))) ((congrArg Int32.toInt (zz_i e23)).trans n86) (nz_fa (g 39 (by decide) (by decide))) ((zz_ai e32).trans w85) ((zz_ai e31).trans w87))
  replace g0 : (sy_i F 84).toInt = 0 := by omega
  exact k0pl_95_p2 hd F X1 X2 hB (by first | exact g0 | (simp only [nz_c]; exact g0)) (fun F1 g  => k2 g0 F1 (nz_in0 hB [] (fun j hj hn => g j hj (by simp only [List.mem_cons, List.not_mem_nil, or_false, not_or] at hn; exact trivial)) (List.forall_mem_nil _)) (fun j hj hn => g j hj (by simp only [List.mem_cons, List.not_mem_nil, or_false, not_or] at hn; exact trivial)) (nz_fi (g 33 (by decide) (by decide))) (nz_fi (g 34 (by decide) (by decide))) (nz_fi (g 23 (by decide) (by decide))) (nz_fa (g 39 (by decide) (by decide))) (nz_fa (g 32 (by decide) (by decide))) (nz_fa (g 31 (by decide) (by decide))))
end
section
/-! ===== the class parses laws, way by way, with the cells (shape 3) ===== -/
theorem k3zi_0 {Ls : Nat} {xs : Nat → Int32} {d : Nat} {Q : Option Value → jm_h → Prop} (hd : 4 ≤ d) (F : Nat → sy_d) (X1 X2 : List jm_c) (hB : iv_in F iv_B0)
    (k0 : ∀ F1 : Nat → sy_d, iv_in F1 iv_B0 → (∀ j, j < 82 → j ∉ ([] : List Nat) → F1 j = F j) → (sy_i F1 33).toInt = (sy_i F 33).toInt → (sy_i F1 34).toInt = (sy_i F 34).toInt → (sy_i F1 8).toInt = (sy_i F 8).toInt → sy_ai F1 39 = sy_ai F 39 → sy_ai F1 17 = sy_ai F 17 → (sy_i F1 82).toInt = (sy_i F 82).toInt → hd_W Ls xs d jm_M37 Q (3, sy_dL F1 [some (.inl (.ref 30)), some (.inr (.inl 82)), none, none], sy_dS F1 [.inl (.int 11), .inl (.ref 30)], sy_dh F1 X1 X2 (iv_H 3), 0, 0)) :
    hd_W Ls xs d jm_M37 Q (0, sy_dL F [some (.inl (.ref 30)), some (.inr (.inl 82)), none, none], sy_dS F [], sy_dh F X1 X2 (iv_H 3), 0, 0) := by
  exact k3pi_0_p0 hd F X1 X2 hB  (fun F1 g e82 => k0 F1 (nz_in0 hB [] (fun j hj hn => g j hj (by simp only [List.mem_cons, List.not_mem_nil, or_false, not_or] at hn; exact trivial)) (List.forall_mem_nil _)) (fun j hj hn => g j hj (by simp only [List.mem_cons, List.not_mem_nil, or_false, not_or] at hn; exact trivial)) (nz_fi (g 33 (by decide) (by decide))) (nz_fi (g 34 (by decide) (by decide))) (nz_fi (g 8 (by decide) (by decide))) (nz_fa (g 39 (by decide) (by decide))) (nz_fa (g 17 (by decide) (by decide))) ((congrArg Int32.toInt (zz_i e82)).trans (rfl : (sy_i F 82).toInt = (sy_i F 82).toInt)))
theorem k3zi_6 {Ls : Nat} {xs : Nat → Int32} {d : Nat} {Q : Option Value → jm_h → Prop} (hd : 4 ≤ d) (F : Nat → sy_d) (X1 X2 : List jm_c) (hB : iv_in F iv_B0)
    (k0 : (sy_i F 83).toInt = 0 → ∀ F1 : Nat → sy_d, iv_in F1 iv_B0 → (∀ j, j < 82 → j ∉ ([] : List Nat) → F1 j = F j) → (sy_i F1 33).toInt = (sy_i F 33).toInt → (sy_i F1 34).toInt = (sy_i F 34).toInt → (sy_i F1 8).toInt = (sy_i F 8).toInt → sy_ai F1 39 = sy_ai F 39 → sy_ai F1 17 = sy_ai F 17 → Q (some (.int ((0 : Int32)))) (sy_dh F1 X1 X2 (iv_H 3)))
    (k1 : (sy_i F 83).toInt ≠ 0 → ∀ F1 : Nat → sy_d, iv_in F1 iv_B0 → (∀ j, j < 82 → j ∉ ([] : List Nat) → F1 j = F j) → (sy_i F1 33).toInt = (sy_i F 33).toInt → (sy_i F1 34).toInt = (sy_i F 34).toInt → (sy_i F1 8).toInt = (sy_i F 8).toInt → sy_ai F1 39 = sy_ai F 39 → sy_ai F1 17 = sy_ai F 17 → (sy_i F1 82).toInt = (sy_i F 82).toInt → hd_W Ls xs d jm_M37 Q (12, sy_dL F1 [some (.inl (.ref 30)), some (.inr (.inl 82)), none, none], sy_dS F1 [.inl (.int 0), .inr (.inl 82), .inl (.ref 30)], sy_dh F1 X1 X2 (iv_H 3), 0, 0)) :
    hd_W Ls xs d jm_M37 Q (6, sy_dL F [some (.inl (.ref 30)), some (.inr (.inl 82)), none, none], sy_dS F [.inr (.inl 83)], sy_dh F X1 X2 (iv_H 3), 0, 0) := by
  by_cases g0 : (sy_i F 83).toInt = 0
  · exact k3pi_6_p0 hd F X1 X2 hB (by first | exact g0 | (simp only [nz_c]; exact g0)) (fun F1 g  => k0 g0 F1 (nz_in0 hB [] (fun j hj hn => g j hj (by simp only [List.mem_cons, List.not_mem_nil, or_false, not_or] at hn; exact trivial)) (List.forall_mem_nil _)) (fun j hj hn => g j hj (by simp only [List.mem_cons, List.not_mem_nil, or_false, not_or] at hn; exact trivial)) (nz_fi (g 33 (by decide) (by decide))) (nz_fi (g 34 (by decide) (by decide))) (nz_fi (g 8 (by decide) (by decide))) (nz_fa (g 39 (by decide) (by decide))) (nz_fa (g 17 (by decide) (by decide))))
  replace g0 : (sy_i F 83).toInt ≠ 0 := by omega
  exact k3pi_6_p1 hd F X1 X2 hB (by first | exact g0 | (simp only [nz_c]; exact g0)) (fun F1 g e82 => k1 g0 F1 (nz_in0 hB [] (fun j hj hn => g j hj (by simp only [List.mem_cons, List.not_mem_nil, or_false, not_or] at hn; exact trivial)) (List.forall_mem_nil _)) (fun j hj hn => g j hj (by simp only [List.mem_cons, List.not_mem_nil, or_false, not_or] at hn; exact trivial)) (nz_fi (g 33 (by decide) (by decide))) (nz_fi (g 34 (by decide) (by decide))) (nz_fi (g 8 (by decide) (by decide))) (nz_fa (g 39 (by decide) (by decide))) (nz_fa (g 17 (by decide) (by decide))) ((congrArg Int32.toInt (zz_i e82)).trans (rfl : (sy_i F 82).toInt = (sy_i F 82).toInt)))
theorem k3zi_15 {Ls : Nat} {xs : Nat → Int32} {d : Nat} {Q : Option Value → jm_h → Prop} (hd : 4 ≤ d) (F : Nat → sy_d) (X1 X2 : List jm_c) (hB : iv_in F iv_B0)
    (k0 : (sy_i F 83).toInt = 0 → ∀ F1 : Nat → sy_d, iv_in F1 iv_B0 → (∀ j, j < 82 → j ∉ ([] : List Nat) → F1 j = F j) → (sy_i F1 33).toInt = (sy_i F 33).toInt → (sy_i F1 34).toInt = (sy_i F 34).toInt → (sy_i F1 8).toInt = (sy_i F 8).toInt → sy_ai F1 39 = sy_ai F 39 → sy_ai F1 17 = sy_ai F 17 → Q (some (.int ((0 : Int32)))) (sy_dh F1 X1 X2 (iv_H 3)))
    (k1 : (sy_i F 83).toInt ≠ 0 → ∀ F1 : Nat → sy_d, iv_in F1 iv_B0 → (∀ j, j < 82 → j ∉ ([] : List Nat) → F1 j = F j) → (sy_i F1 33).toInt = (sy_i F 33).toInt → (sy_i F1 34).toInt = (sy_i F 34).toInt → (sy_i F1 8).toInt = (sy_i F 8).toInt → sy_ai F1 39 = sy_ai F 39 → sy_ai F1 17 = sy_ai F 17 → (sy_i F1 82).toInt = (sy_i F 82).toInt → hd_W Ls xs d jm_M37 Q (21, sy_dL F1 [some (.inl (.ref 30)), some (.inr (.inl 82)), none, none], sy_dS F1 [.inl (.int 60), .inl (.ref 30)], sy_dh F1 X1 X2 (iv_H 3), 0, 0)) :
    hd_W Ls xs d jm_M37 Q (15, sy_dL F [some (.inl (.ref 30)), some (.inr (.inl 82)), none, none], sy_dS F [.inr (.inl 83)], sy_dh F X1 X2 (iv_H 3), 0, 0) := by
  by_cases g0 : (sy_i F 83).toInt = 0
  · exact k3pi_15_p0 hd F X1 X2 hB (by first | exact g0 | (simp only [nz_c]; exact g0)) (fun F1 g  => k0 g0 F1 (nz_in0 hB [] (fun j hj hn => g j hj (by simp only [List.mem_cons, List.not_mem_nil, or_false, not_or] at hn; exact trivial)) (List.forall_mem_nil _)) (fun j hj hn => g j hj (by simp only [List.mem_cons, List.not_mem_nil, or_false, not_or] at hn; exact trivial)) (nz_fi (g 33 (by decide) (by decide))) (nz_fi (g 34 (by decide) (by decide))) (nz_fi (g 8 (by decide) (by decide))) (nz_fa (g 39 (by decide) (by decide))) (nz_fa (g 17 (by decide) (by decide))))
  replace g0 : (sy_i F 83).toInt ≠ 0 := by omega
  exact k3pi_15_p1 hd F X1 X2 hB (by first | exact g0 | (simp only [nz_c]; exact g0)) (fun F1 g e82 => k1 g0 F1 (nz_in0 hB [] (fun j hj hn => g j hj (by simp only [List.mem_cons, List.not_mem_nil, or_false, not_or] at hn; exact trivial)) (List.forall_mem_nil _)) (fun j hj hn => g j hj (by simp only [List.mem_cons, List.not_mem_nil, or_false, not_or] at hn; exact trivial)) (nz_fi (g 33 (by decide) (by decide))) (nz_fi (g 34 (by decide) (by decide))) (nz_fi (g 8 (by decide) (by decide))) (nz_fa (g 39 (by decide) (by decide))) (nz_fa (g 17 (by decide) (by decide))) ((congrArg Int32.toInt (zz_i e82)).trans (rfl : (sy_i F 82).toInt = (sy_i F 82).toInt)))
theorem k3zi_24 {Ls : Nat} {xs : Nat → Int32} {d : Nat} {Q : Option Value → jm_h → Prop} (hd : 4 ≤ d) (F : Nat → sy_d) (X1 X2 : List jm_c) (hB : iv_in F iv_B0)
    (k0 : (sy_i F 83).toInt = 0 → ∀ F1 : Nat → sy_d, iv_in F1 iv_B0 → (∀ j, j < 82 → j ∉ ([] : List Nat) → F1 j = F j) → (sy_i F1 33).toInt = (sy_i F 33).toInt → (sy_i F1 34).toInt = (sy_i F 34).toInt → (sy_i F1 8).toInt = (sy_i F 8).toInt → sy_ai F1 39 = sy_ai F 39 → sy_ai F1 17 = sy_ai F 17 → Q (some (.int ((0 : Int32)))) (sy_dh F1 X1 X2 (iv_H 3)))
    (k1 : (sy_i F 83).toInt ≠ 0 → ∀ F1 : Nat → sy_d, iv_in F1 iv_B0 → (∀ j, j < 82 → j ∉ ([] : List Nat) → F1 j = F j) → (sy_i F1 33).toInt = (sy_i F 33).toInt → (sy_i F1 34).toInt = (sy_i F 34).toInt → (sy_i F1 8).toInt = (sy_i F 8).toInt → sy_ai F1 39 = sy_ai F 39 → sy_ai F1 17 = sy_ai F 17 → (sy_i F1 82).toInt = (sy_i F 82).toInt → hd_W Ls xs d jm_M37 Q (30, sy_dL F1 [some (.inl (.ref 30)), some (.inr (.inl 82)), none, none], sy_dS F1 [.inl (.int 0), .inr (.inl 82), .inl (.ref 30)], sy_dh F1 X1 X2 (iv_H 3), 0, 0)) :
    hd_W Ls xs d jm_M37 Q (24, sy_dL F [some (.inl (.ref 30)), some (.inr (.inl 82)), none, none], sy_dS F [.inr (.inl 83)], sy_dh F X1 X2 (iv_H 3), 0, 0) := by
  by_cases g0 : (sy_i F 83).toInt = 0
  · exact k3pi_24_p0 hd F X1 X2 hB (by first | exact g0 | (simp only [nz_c]; exact g0)) (fun F1 g  => k0 g0 F1 (nz_in0 hB [] (fun j hj hn => g j hj (by simp only [List.mem_cons, List.not_mem_nil, or_false, not_or] at hn; exact trivial)) (List.forall_mem_nil _)) (fun j hj hn => g j hj (by simp only [List.mem_cons, List.not_mem_nil, or_false, not_or] at hn; exact trivial)) (nz_fi (g 33 (by decide) (by decide))) (nz_fi (g 34 (by decide) (by decide))) (nz_fi (g 8 (by decide) (by decide))) (nz_fa (g 39 (by decide) (by decide))) (nz_fa (g 17 (by decide) (by decide))))
  replace g0 : (sy_i F 83).toInt ≠ 0 := by omega
  exact k3pi_24_p1 hd F X1 X2 hB (by first | exact g0 | (simp only [nz_c]; exact g0)) (fun F1 g e82 => k1 g0 F1 (nz_in0 hB [] (fun j hj hn => g j hj (by simp only [List.mem_cons, List.not_mem_nil, or_false, not_or] at hn; exact trivial)) (List.forall_mem_nil _)) (fun j hj hn => g j hj (by simp only [List.mem_cons, List.not_mem_nil, or_false, not_or] at hn; exact trivial)) (nz_fi (g 33 (by decide) (by decide))) (nz_fi (g 34 (by decide) (by decide))) (nz_fi (g 8 (by decide) (by decide))) (nz_fa (g 39 (by decide) (by decide))) (nz_fa (g 17 (by decide) (by decide))) ((congrArg Int32.toInt (zz_i e82)).trans (rfl : (sy_i F 82).toInt = (sy_i F 82).toInt)))
theorem k3zi_33 {Ls : Nat} {xs : Nat → Int32} {d : Nat} {Q : Option Value → jm_h → Prop} (hd : 4 ≤ d) (F : Nat → sy_d) (X1 X2 : List jm_c) (hB : iv_in F iv_B0)
    (k0 : (sy_i F 83).toInt = 0 → ∀ F1 : Nat → sy_d, iv_in F1 iv_B0 → (∀ j, j < 82 → j ∉ ([] : List Nat) → F1 j = F j) → (sy_i F1 33).toInt = (sy_i F 33).toInt → (sy_i F1 34).toInt = (sy_i F 34).toInt → (sy_i F1 8).toInt = (sy_i F 8).toInt → sy_ai F1 39 = sy_ai F 39 → sy_ai F1 17 = sy_ai F 17 → Q (some (.int ((0 : Int32)))) (sy_dh F1 X1 X2 (iv_H 3)))
    (k1 : (sy_i F 83).toInt ≠ 0 → ∀ F1 : Nat → sy_d, iv_in F1 iv_B0 → (∀ j, j < 82 → j ∉ ([] : List Nat) → F1 j = F j) → (sy_i F1 33).toInt = (sy_i F 33).toInt → (sy_i F1 34).toInt = (sy_i F 34).toInt → (sy_i F1 8).toInt = (sy_i F 8).toInt → sy_ai F1 39 = sy_ai F 39 → sy_ai F1 17 = sy_ai F 17 → (sy_i F1 82).toInt = (sy_i F 82).toInt → hd_W Ls xs d jm_M37 Q (39, sy_dL F1 [some (.inl (.ref 30)), some (.inr (.inl 82)), none, none], sy_dS F1 [.inl (.int 12), .inl (.ref 30)], sy_dh F1 X1 X2 (iv_H 3), 0, 0)) :
    hd_W Ls xs d jm_M37 Q (33, sy_dL F [some (.inl (.ref 30)), some (.inr (.inl 82)), none, none], sy_dS F [.inr (.inl 83)], sy_dh F X1 X2 (iv_H 3), 0, 0) := by
  by_cases g0 : (sy_i F 83).toInt = 0
  · exact k3pi_33_p0 hd F X1 X2 hB (by first | exact g0 | (simp only [nz_c]; exact g0)) (fun F1 g  => k0 g0 F1 (nz_in0 hB [] (fun j hj hn => g j hj (by simp only [List.mem_cons, List.not_mem_nil, or_false, not_or] at hn; exact trivial)) (List.forall_mem_nil _)) (fun j hj hn => g j hj (by simp only [List.mem_cons, List.not_mem_nil, or_false, not_or] at hn; exact trivial)) (nz_fi (g 33 (by decide) (by decide))) (nz_fi (g 34 (by decide) (by decide))) (nz_fi (g 8 (by decide) (by decide))) (nz_fa (g 39 (by decide) (by decide))) (nz_fa (g 17 (by decide) (by decide))))
  replace g0 : (sy_i F 83).toInt ≠ 0 := by omega
  exact k3pi_33_p1 hd F X1 X2 hB (by first | exact g0 | (simp only [nz_c]; exact g0)) (fun F1 g e82 => k1 g0 F1 (nz_in0 hB [] (fun j hj hn => g j hj (by simp only [List.mem_cons, List.not_mem_nil, or_false, not_or] at hn; exact trivial)) (List.forall_mem_nil _)) (fun j hj hn => g j hj (by simp only [List.mem_cons, List.not_mem_nil, or_false, not_or] at hn; exact trivial)) (nz_fi (g 33 (by decide) (by decide))) (nz_fi (g 34 (by decide) (by decide))) (nz_fi (g 8 (by decide) (by decide))) (nz_fa (g 39 (by decide) (by decide))) (nz_fa (g 17 (by decide) (by decide))) ((congrArg Int32.toInt (zz_i e82)).trans (rfl : (sy_i F 82).toInt = (sy_i F 82).toInt)))
theorem k3zi_42 {Ls : Nat} {xs : Nat → Int32} {d : Nat} {Q : Option Value → jm_h → Prop} (hd : 4 ≤ d) (F : Nat → sy_d) (X1 X2 : List jm_c) (hB : iv_in F iv_B0)
    (k0 : (sy_i F 83).toInt = 0 → ∀ F1 : Nat → sy_d, iv_in F1 iv_B0 → (∀ j, j < 82 → j ∉ ([] : List Nat) → F1 j = F j) → (sy_i F1 33).toInt = (sy_i F 33).toInt → (sy_i F1 34).toInt = (sy_i F 34).toInt → (sy_i F1 8).toInt = (sy_i F 8).toInt → sy_ai F1 39 = sy_ai F 39 → sy_ai F1 17 = sy_ai F 17 → Q (some (.int ((0 : Int32)))) (sy_dh F1 X1 X2 (iv_H 3)))
    (k1 : (sy_i F 83).toInt ≠ 0 → 512 ≤ (sy_i F 8).toInt → 512 ≤ (sy_i F 8).toInt → ∀ F1 : Nat → sy_d, iv_in F1 iv_B0 → (∀ j, j < 82 → j ∉ ([] : List Nat) → F1 j = F j) → (sy_i F1 33).toInt = (sy_i F 33).toInt → (sy_i F1 34).toInt = (sy_i F 34).toInt → (sy_i F1 8).toInt = (sy_i F 8).toInt → sy_ai F1 39 = sy_ai F 39 → sy_ai F1 17 = sy_ai F 17 → (sy_i F1 82).toInt = (sy_i F 82).toInt → (sy_i F1 83).toInt = (sy_i F 8).toInt → hd_W Ls xs d jm_M37 Q (85, sy_dL F1 [some (.inl (.ref 30)), some (.inr (.inl 82)), none, some (.inr (.inl 83))], sy_dS F1 [.inl (.int 0), .inr (.inl 82), .inl (.ref 30)], sy_dh F1 X1 X2 (iv_H 3), 0, 0))
    (k2 : (sy_i F 83).toInt ≠ 0 → (sy_i F 8).toInt < 512 → 512 ≤ ((sy_i F 8).toInt + 1) → ∀ F1 : Nat → sy_d, iv_in F1 iv_B0 → (∀ j, j < 82 → j ∉ ([8, 17] : List Nat) → F1 j = F j) → (sy_i F1 33).toInt = (sy_i F 33).toInt → (sy_i F1 34).toInt = (sy_i F 34).toInt → (sy_i F1 8).toInt = ((sy_i F 8).toInt + 1) → sy_ai F1 39 = sy_ai F 39 → sy_ai F1 17 = jm_upd (sy_ai F 17) ((sy_i F 8).toInt).toNat (((-15) : Int32)) → (sy_i F1 82).toInt = (sy_i F 82).toInt → (sy_i F1 83).toInt = ((sy_i F 8).toInt + 1) → hd_W Ls xs d jm_M37 Q (85, sy_dL F1 [some (.inl (.ref 30)), some (.inr (.inl 82)), none, some (.inr (.inl 83))], sy_dS F1 [.inl (.int 0), .inr (.inl 82), .inl (.ref 30)], sy_dh F1 X1 X2 (iv_H 3), 0, 0))
    (k3 : (sy_i F 83).toInt ≠ 0 → (sy_i F 8).toInt < 512 → ((sy_i F 8).toInt + 1) < 512 → ∀ F1 : Nat → sy_d, iv_in F1 iv_B0 → (∀ j, j < 82 → j ∉ ([8, 17] : List Nat) → F1 j = F j) → (sy_i F1 33).toInt = (sy_i F 33).toInt → (sy_i F1 34).toInt = (sy_i F 34).toInt → (sy_i F1 8).toInt = (((sy_i F 8).toInt + 1) + 1) → sy_ai F1 39 = sy_ai F 39 → sy_ai F1 17 = jm_upd (jm_upd (sy_ai F 17) ((sy_i F 8).toInt).toNat (((-15) : Int32))) (((sy_i F 8).toInt + 1)).toNat ((0 : Int32)) → (sy_i F1 82).toInt = (sy_i F 82).toInt → (sy_i F1 83).toInt = ((sy_i F 8).toInt + 1) → hd_W Ls xs d jm_M37 Q (85, sy_dL F1 [some (.inl (.ref 30)), some (.inr (.inl 82)), none, some (.inr (.inl 83))], sy_dS F1 [.inl (.int 0), .inr (.inl 82), .inl (.ref 30)], sy_dh F1 X1 X2 (iv_H 3), 0, 0)) :
    hd_W Ls xs d jm_M37 Q (42, sy_dL F [some (.inl (.ref 30)), some (.inr (.inl 82)), none, none], sy_dS F [.inr (.inl 83)], sy_dh F X1 X2 (iv_H 3), 0, 0) := by
  by_cases g0 : (sy_i F 83).toInt = 0
  · exact k3pi_42_p0 hd F X1 X2 hB (by first | exact g0 | (simp only [nz_c]; exact g0)) (fun F1 g  => k0 g0 F1 (nz_in0 hB [] (fun j hj hn => g j hj (by simp only [List.mem_cons, List.not_mem_nil, or_false, not_or] at hn; exact trivial)) (List.forall_mem_nil _)) (fun j hj hn => g j hj (by simp only [List.mem_cons, List.not_mem_nil, or_false, not_or] at hn; exact trivial)) (nz_fi (g 33 (by decide) (by decide))) (nz_fi (g 34 (by decide) (by decide))) (nz_fi (g 8 (by decide) (by decide))) (nz_fa (g 39 (by decide) (by decide))) (nz_fa (g 17 (by decide) (by decide))))
  replace g0 : (sy_i F 83).toInt ≠ 0 := by omega
  by_cases g1 : 512 ≤ (sy_i F 8).toInt
  · by_cases g2 : 512 ≤ (sy_i F 8).toInt
    · have c8 := nz_bx hB (k := 8) (lo := 0) (hi := 512) rfl
      exact k3pi_42_p1 hd F X1 X2 hB (by first | exact g0 | (simp only [nz_c]; exact g0)) (by first | exact g1 | (simp only [nz_c]; exact g1)) (by first | exact g2 | (simp only [nz_c]; exact g2)) (fun F1 g e82 e83 => k1 g0 g1 g2 F1 (nz_in0 hB [] (fun j hj hn => g j hj (by simp only [List.mem_cons, List.not_mem_nil, or_false, not_or] at hn; exact trivial)) (List.forall_mem_nil _)) (fun j hj hn => g j hj (by simp only [List.mem_cons, List.not_mem_nil, or_false, not_or] at hn; exact trivial)) (nz_fi (g 33 (by decide) (by decide))) (nz_fi (g 34 (by decide) (by decide))) (nz_fi (g 8 (by decide) (by decide))) (nz_fa (g 39 (by decide) (by decide))) (nz_fa (g 17 (by decide) (by decide))) ((congrArg Int32.toInt (zz_i e82)).trans (rfl : (sy_i F 82).toInt = (sy_i F 82).toInt)) ((congrArg Int32.toInt (zz_i e83)).trans (rfl : (sy_i F 8).toInt = (sy_i F 8).toInt)))
    replace g2 : (sy_i F 8).toInt < 512 := by omega
    have c8 := nz_bx hB (k := 8) (lo := 0) (hi := 512) rfl
    exfalso
    omega
  replace g1 : (sy_i F 8).toInt < 512 := by omega
  by_cases g2 : 512 ≤ ((sy_i F 8).toInt + 1)
  · have c8 := nz_bx hB (k := 8) (lo := 0) (hi := 512) rfl
    have n85 : ((sy_i F 8) + ((1 : Int32))).toInt = ((sy_i F 8).toInt + 1) := nz_add (rfl : (sy_i F 8).toInt = (sy_i F 8).toInt) (by decide : ((1 : Int32)).toInt = 1) (by omega) (by omega)
    have w84 : jm_upd (sy_ai F 17) (sy_i F 8).toNatClampNeg (((-15) : Int32)) = jm_upd (sy_ai F 17) ((sy_i F 8).toInt).toNat (((-15) : Int32)) := by simp only [nz_c, (by decide : (((-15) : Int32)).toInt = (-15 : Int))]
    exact k3pi_42_p2 hd F X1 X2 hB (by first | exact g0 | (simp only [nz_c]; exact g0)) (by first | exact g1 | (simp only [nz_c]; exact g1)) (by first | exact ⟨by omega, by omega⟩ | (simp only [nz_c]; exact ⟨by omega, by omega⟩)) (by first | exact g2 | (simp only [nz_c, n85]; exact g2) | (rw [n85]; exact g2)) (fun F1 g e8 e17 e82 e83 => k2 g0 g1 g2 F1 (nz_in0 hB [8, 17] (fun j hj hn => g j hj (by simp only [List.mem_cons, List.not_mem_nil, or_false, not_or] at hn; omega)) (List.forall_mem_cons.mpr ⟨fun t ht => (Option.some.inj ht) ▸ (nz_hi e8 n85 (by omega) (by omega)), List.forall_mem_cons.mpr ⟨fun t ht => (Option.some.inj ht) ▸ (nz_hA e17 (nz_up (nz_ba hB (k := 17) (lo := (-2147483648)) (hi := 2147483646) rfl) (by decide : (((-15) : Int32)).toInt = (-15 : Int)) (by omega) (by omega))), List.forall_mem_nil _⟩⟩)) (fun j hj hn => g j hj (by simp only [List.mem_cons, List.not_mem_nil, or_false, not_or] at hn; omega)) (nz_fi (g 33 (by decide) (by decide))) (nz_fi (g 34 (by decide) (by decide))) ((congrArg Int32.toInt (zz_i e8)).trans n85) (nz_fa (g 39 (by decide) (by decide))) ((zz_ai e17).trans w84) ((congrArg Int32.toInt (zz_i e82)).trans (rfl : (sy_i F 82).toInt = (sy_i F 82).toInt)) ((congrArg Int32.toInt (zz_i e83)).trans n85))
  replace g2 : ((sy_i F 8).toInt + 1) < 512 := by omega
  have c8 := nz_bx hB (k := 8) (lo := 0) (hi := 512) rfl
  have n85 : ((sy_i F 8) + ((1 : Int32))).toInt = ((sy_i F 8).toInt + 1) := nz_add (rfl : (sy_i F 8).toInt = (sy_i F 8).toInt) (by decide : ((1 : Int32)).toInt = 1) (by omega) (by omega)
  have n87 : (((sy_i F 8) + ((1 : Int32))) + ((1 : Int32))).toInt = (((sy_i F 8).toInt + 1) + 1) := nz_add n85 (by decide : ((1 : Int32)).toInt = 1) (by omega) (by omega)
  have w86 : jm_upd (jm_upd (sy_ai F 17) (sy_i F 8).toNatClampNeg (((-15) : Int32))) ((sy_i F 8) + ((1 : Int32))).toNatClampNeg ((0 : Int32)) = jm_upd (jm_upd (sy_ai F 17) ((sy_i F 8).toInt).toNat (((-15) : Int32))) (((sy_i F 8).toInt + 1)).toNat ((0 : Int32)) := by simp only [nz_c, n85, (by decide : (((-15) : Int32)).toInt = (-15 : Int)), (by decide : ((0 : Int32)).toInt = 0), (by decide : ((1 : Int32)).toInt = 1)]
  exact k3pi_42_p3 hd F X1 X2 hB (by first | exact g0 | (simp only [nz_c]; exact g0)) (by first | exact g1 | (simp only [nz_c]; exact g1)) (by first | exact ⟨by omega, by omega⟩ | (simp only [nz_c]; exact ⟨by omega, by omega⟩)) (by first | exact g2 | (simp only [nz_c, n85]; exact g2) | (rw [n85]; exact g2)) (by first | exact ⟨by omega, by omega⟩ | (simp only [nz_c, n85]; exact ⟨by omega, by omega⟩) | (rw [n85]; exact ⟨by omega, by omega⟩)) (fun F1 g e8 e17 e82 e83 => k3 g0 g1 g2 F1 (nz_in0 hB [8, 17] (fun j hj hn => g j hj (by simp only [List.mem_cons, List.not_mem_nil, or_false, not_or] at hn; omega)) (List.forall_mem_cons.mpr ⟨fun t ht => (Option.some.inj ht) ▸ (nz_hi e8 n87 (by omega) (by omega)), List.forall_mem_cons.mpr ⟨fun t ht => (Option.some.inj ht) ▸ (nz_hA e17 (nz_up (nz_up (nz_ba hB (k := 17) (lo := (-2147483648)) (hi := 2147483646) rfl) (by decide : (((-15) : Int32)).toInt = (-15 : Int)) (by omega) (by omega)) (by decide : ((0 : Int32)).toInt = 0) (by omega) (by omega))), List.forall_mem_nil _⟩⟩)) (fun j hj hn => g j hj (by simp only [List.mem_cons, List.not_mem_nil, or_false, not_or] at hn; omega)) (nz_fi (g 33 (by decide) (by decide))) (nz_fi (g 34 (by decide) (by decide))) ((congrArg Int32.toInt (zz_i e8)).trans n87) (nz_fa (g 39 (by decide) (by decide))) ((zz_ai e17).trans w86) ((congrArg Int32.toInt (zz_i e82)).trans (rfl : (sy_i F 82).toInt = (sy_i F 82).toInt)) ((congrArg Int32.toInt (zz_i e83)).trans n85))
theorem k3zi_88 {Ls : Nat} {xs : Nat → Int32} {d : Nat} {Q : Option Value → jm_h → Prop} (hd : 4 ≤ d) (F : Nat → sy_d) (X1 X2 : List jm_c) (hB : iv_in F iv_B0)
    (k0 : (sy_i F 84).toInt = 0 → ∀ F1 : Nat → sy_d, iv_in F1 iv_B0 → (∀ j, j < 82 → j ∉ ([] : List Nat) → F1 j = F j) → (sy_i F1 33).toInt = (sy_i F 33).toInt → (sy_i F1 34).toInt = (sy_i F 34).toInt → (sy_i F1 8).toInt = (sy_i F 8).toInt → sy_ai F1 39 = sy_ai F 39 → sy_ai F1 17 = sy_ai F 17 → Q (some (.int ((0 : Int32)))) (sy_dh F1 X1 X2 (iv_H 3)))
    (k1 : (sy_i F 84).toInt ≠ 0 → ∀ F1 : Nat → sy_d, iv_in F1 iv_B0 → (∀ j, j < 82 → j ∉ ([] : List Nat) → F1 j = F j) → (sy_i F1 33).toInt = (sy_i F 33).toInt → (sy_i F1 34).toInt = (sy_i F 34).toInt → (sy_i F1 8).toInt = (sy_i F 8).toInt → sy_ai F1 39 = sy_ai F 39 → sy_ai F1 17 = sy_ai F 17 → (sy_i F1 82).toInt = (sy_i F 82).toInt → (sy_i F1 83).toInt = (sy_i F 83).toInt → hd_W Ls xs d jm_M37 Q (94, sy_dL F1 [some (.inl (.ref 30)), some (.inr (.inl 82)), none, some (.inr (.inl 83))], sy_dS F1 [.inl (.int 13), .inl (.ref 30)], sy_dh F1 X1 X2 (iv_H 3), 0, 0)) :
    hd_W Ls xs d jm_M37 Q (88, sy_dL F [some (.inl (.ref 30)), some (.inr (.inl 82)), none, some (.inr (.inl 83))], sy_dS F [.inr (.inl 84)], sy_dh F X1 X2 (iv_H 3), 0, 0) := by
  by_cases g0 : (sy_i F 84).toInt = 0
  · exact k3pi_88_p0 hd F X1 X2 hB (by first | exact g0 | (simp only [nz_c]; exact g0)) (fun F1 g  => k0 g0 F1 (nz_in0 hB [] (fun j hj hn => g j hj (by simp only [List.mem_cons, List.not_mem_nil, or_false, not_or] at hn; exact trivial)) (List.forall_mem_nil _)) (fun j hj hn => g j hj (by simp only [List.mem_cons, List.not_mem_nil, or_false, not_or] at hn; exact trivial)) (nz_fi (g 33 (by decide) (by decide))) (nz_fi (g 34 (by decide) (by decide))) (nz_fi (g 8 (by decide) (by decide))) (nz_fa (g 39 (by decide) (by decide))) (nz_fa (g 17 (by decide) (by decide))))
  replace g0 : (sy_i F 84).toInt ≠ 0 := by omega
  exact k3pi_88_p1 hd F X1 X2 hB (by first | exact g0 | (simp only [nz_c]; exact g0)) (fun F1 g e82 e83 => k1 g0 F1 (nz_in0 hB [] (fun j hj hn => g j hj (by simp only [List.mem_cons, List.not_mem_nil, or_false, not_or] at hn; exact trivial)) (List.forall_mem_nil _)) (fun j hj hn => g j hj (by simp only [List.mem_cons, List.not_mem_nil, or_false, not_or] at hn; exact trivial)) (nz_fi (g 33 (by decide) (by decide))) (nz_fi (g 34 (by decide) (by decide))) (nz_fi (g 8 (by decide) (by decide))) (nz_fa (g 39 (by decide) (by decide))) (nz_fa (g 17 (by decide) (by decide))) ((congrArg Int32.toInt (zz_i e82)).trans (rfl : (sy_i F 82).toInt = (sy_i F 82).toInt)) ((congrArg Int32.toInt (zz_i e83)).trans (rfl : (sy_i F 83).toInt = (sy_i F 83).toInt)))
theorem k3zi_97 {Ls : Nat} {xs : Nat → Int32} {d : Nat} {Q : Option Value → jm_h → Prop} (hd : 4 ≤ d) (F : Nat → sy_d) (X1 X2 : List jm_c) (hB : iv_in F iv_B0)
    (a83 : 0 ≤ (sy_i F 83).toInt ∧ (sy_i F 83).toInt ≤ 512)
    (k0 : (sy_i F 84).toInt ≠ 0 → 512 ≤ (sy_i F 8).toInt → 0 ≤ (sy_i F 83).toInt → 512 ≤ (sy_i F 83).toInt → ∀ F1 : Nat → sy_d, iv_in F1 iv_B0 → (∀ j, j < 82 → j ∉ ([] : List Nat) → F1 j = F j) → (sy_i F1 33).toInt = (sy_i F 33).toInt → (sy_i F1 34).toInt = (sy_i F 34).toInt → (sy_i F1 8).toInt = (sy_i F 8).toInt → sy_ai F1 39 = sy_ai F 39 → sy_ai F1 17 = sy_ai F 17 → Q (some (.int ((1 : Int32)))) (sy_dh F1 X1 X2 (iv_H 3)))
    (k1 : (sy_i F 84).toInt ≠ 0 → 512 ≤ (sy_i F 8).toInt → 0 ≤ (sy_i F 83).toInt → (sy_i F 83).toInt < 512 → ∀ F1 : Nat → sy_d, iv_in F1 iv_B0 → (∀ j, j < 82 → j ∉ ([17] : List Nat) → F1 j = F j) → (sy_i F1 33).toInt = (sy_i F 33).toInt → (sy_i F1 34).toInt = (sy_i F 34).toInt → (sy_i F1 8).toInt = (sy_i F 8).toInt → sy_ai F1 39 = sy_ai F 39 → sy_ai F1 17 = jm_upd (sy_ai F 17) ((sy_i F 83).toInt).toNat (sy_i F 8) → Q (some (.int ((1 : Int32)))) (sy_dh F1 X1 X2 (iv_H 3)))
    (k2 : (sy_i F 84).toInt ≠ 0 → (sy_i F 8).toInt < 512 → 0 ≤ (sy_i F 83).toInt → 512 ≤ (sy_i F 83).toInt → ∀ F1 : Nat → sy_d, iv_in F1 iv_B0 → (∀ j, j < 82 → j ∉ ([8, 17] : List Nat) → F1 j = F j) → (sy_i F1 33).toInt = (sy_i F 33).toInt → (sy_i F1 34).toInt = (sy_i F 34).toInt → (sy_i F1 8).toInt = ((sy_i F 8).toInt + 1) → sy_ai F1 39 = sy_ai F 39 → sy_ai F1 17 = jm_upd (sy_ai F 17) ((sy_i F 8).toInt).toNat (((-14) : Int32)) → Q (some (.int ((1 : Int32)))) (sy_dh F1 X1 X2 (iv_H 3)))
    (k3 : (sy_i F 84).toInt ≠ 0 → (sy_i F 8).toInt < 512 → 0 ≤ (sy_i F 83).toInt → (sy_i F 83).toInt < 512 → ∀ F1 : Nat → sy_d, iv_in F1 iv_B0 → (∀ j, j < 82 → j ∉ ([8, 17] : List Nat) → F1 j = F j) → (sy_i F1 33).toInt = (sy_i F 33).toInt → (sy_i F1 34).toInt = (sy_i F 34).toInt → (sy_i F1 8).toInt = ((sy_i F 8).toInt + 1) → sy_ai F1 39 = sy_ai F 39 → sy_ai F1 17 = jm_upd (jm_upd (sy_ai F 17) ((sy_i F 8).toInt).toNat (((-14) : Int32))) ((sy_i F 83).toInt).toNat ((sy_i F 8) + ((1 : Int32))) → Q (some (.int ((1 : Int32)))) (sy_dh F1 X1 X2 (iv_H 3)))
    (k4 : (sy_i F 84).toInt = 0 → ∀ F1 : Nat → sy_d, iv_in F1 iv_B0 → (∀ j, j < 82 → j ∉ ([] : List Nat) → F1 j = F j) → (sy_i F1 33).toInt = (sy_i F 33).toInt → (sy_i F1 34).toInt = (sy_i F 34).toInt → (sy_i F1 8).toInt = (sy_i F 8).toInt → sy_ai F1 39 = sy_ai F 39 → sy_ai F1 17 = sy_ai F 17 → Q (some (.int ((0 : Int32)))) (sy_dh F1 X1 X2 (iv_H 3))) :
    hd_W Ls xs d jm_M37 Q (97, sy_dL F [some (.inl (.ref 30)), some (.inr (.inl 82)), none, some (.inr (.inl 83))], sy_dS F [.inr (.inl 84)], sy_dh F X1 X2 (iv_H 3), 0, 0) := by
  by_cases g0 : (sy_i F 84).toInt ≠ 0
  · by_cases g1 : 512 ≤ (sy_i F 8).toInt
    · by_cases g2 : (sy_i F 83).toInt < 0
      · have c8 := nz_bx hB (k := 8) (lo := 0) (hi := 512) rfl
        exfalso
        omega
      replace g2 : 0 ≤ (sy_i F 83).toInt := by omega
      by_cases g3 : 512 ≤ (sy_i F 83).toInt
      · have c8 := nz_bx hB (k := 8) (lo := 0) (hi := 512) rfl
        exact k3pi_97_p0 hd F X1 X2 hB (by first | exact g0 | (simp only [nz_c]; exact g0)) (by first | exact g1 | (simp only [nz_c]; exact g1)) (by first | exact g2 | (simp only [nz_c]; exact g2)) (by first | exact g3 | (simp only [nz_c]; exact g3)) (fun F1 g  => k0 g0 g1 g2 g3 F1 (nz_in0 hB [] (fun j hj hn => g j hj (by simp only [List.mem_cons, List.not_mem_nil, or_false, not_or] at hn; exact trivial)) (List.forall_mem_nil _)) (fun j hj hn => g j hj (by simp only [List.mem_cons, List.not_mem_nil, or_false, not_or] at hn; exact trivial)) (nz_fi (g 33 (by decide) (by decide))) (nz_fi (g 34 (by decide) (by decide))) (nz_fi (g 8 (by decide) (by decide))) (nz_fa (g 39 (by decide) (by decide))) (nz_fa (g 17 (by decide) (by decide))))
      replace g3 : (sy_i F 83).toInt < 512 := by omega
      have c8 := nz_bx hB (k := 8) (lo := 0) (hi := 512) rfl
      have w85 : jm_upd (sy_ai F 17) (sy_i F 83).toNatClampNeg (sy_i F 8) = jm_upd (sy_ai F 17) ((sy_i F 83).toInt).toNat (sy_i F 8) := by simp only [nz_c]
      exact k3pi_97_p1 hd F X1 X2 hB (by first | exact g0 | (simp only [nz_c]; exact g0)) (by first | exact g1 | (simp only [nz_c]; exact g1)) (by first | exact g2 | (simp only [nz_c]; exact g2)) (by first | exact g3 | (simp only [nz_c]; exact g3)) (by first | exact ⟨by omega, by omega⟩ | (simp only [nz_c]; exact ⟨by omega, by omega⟩)) (fun F1 g e17 => k1 g0 g1 g2 g3 F1 (nz_in0 hB [17] (fun j hj hn => g j hj (by simp only [List.mem_cons, List.not_mem_nil, or_false, not_or] at hn; omega)) (List.forall_mem_cons.mpr ⟨fun t ht => (Option.some.inj ht) ▸ (nz_hA e17 (nz_up (nz_ba hB (k := 17) (lo := (-2147483648)) (hi := 2147483646) rfl) (rfl : (sy_i F 8).toInt = (sy_i F 8).toInt) (by omega) (by omega))), List.forall_mem_nil _⟩)) (fun j hj hn => g j hj (by simp only [List.mem_cons, List.not_mem_nil, or_false, not_or] at hn; omega)) (nz_fi (g 33 (by decide) (by decide))) (nz_fi (g 34 (by decide) (by decide))) (nz_fi (g 8 (by decide) (by decide))) (nz_fa (g 39 (by decide) (by decide))) ((zz_ai e17).trans w85))
    replace g1 : (sy_i F 8).toInt < 512 := by omega
    by_cases g2 : (sy_i F 83).toInt < 0
    · have c8 := nz_bx hB (k := 8) (lo := 0) (hi := 512) rfl
      exfalso
      omega
    replace g2 : 0 ≤ (sy_i F 83).toInt := by omega
    by_cases g3 : 512 ≤ (sy_i F 83).toInt
    · have c8 := nz_bx hB (k := 8) (lo := 0) (hi := 512) rfl
      have n86 : ((sy_i F 8) + ((1 : Int32))).toInt = ((sy_i F 8).toInt + 1) := nz_add (rfl : (sy_i F 8).toInt = (sy_i F 8).toInt) (by decide : ((1 : Int32)).toInt = 1) (by omega) (by omega)
      have w85 : jm_upd (sy_ai F 17) (sy_i F 8).toNatClampNeg (((-14) : Int32)) = jm_upd (sy_ai F 17) ((sy_i F 8).toInt).toNat (((-14) : Int32)) := by simp only [nz_c, (by decide : (((-14) : Int32)).toInt = (-14 : Int))]
      exact k3pi_97_p2 hd F X1 X2 hB (by first | exact g0 | (simp only [nz_c]; exact g0)) (by first | exact g1 | (simp only [nz_c]; exact g1)) (by first | exact ⟨by omega, by omega⟩ | (simp only [nz_c]; exact ⟨by omega, by omega⟩)) (by first | exact g2 | (simp only [nz_c]; exact g2)) (by first | exact g3 | (simp only [nz_c]; exact g3)) (fun F1 g e8 e17 => k2 g0 g1 g2 g3 F1 (nz_in0 hB [8, 17] (fun j hj hn => g j hj (by simp only [List.mem_cons, List.not_mem_nil, or_false, not_or] at hn; omega)) (List.forall_mem_cons.mpr ⟨fun t ht => (Option.some.inj ht) ▸ (nz_hi e8 n86 (by omega) (by omega)), List.forall_mem_cons.mpr ⟨fun t ht => (Option.some.inj ht) ▸ (nz_hA e17 (nz_up (nz_ba hB (k := 17) (lo := (-2147483648)) (hi := 2147483646) rfl) (by decide : (((-14) : Int32)).toInt = (-14 : Int)) (by omega) (by omega))), List.forall_mem_nil _⟩⟩)) (fun j hj hn => g j hj (by simp only [List.mem_cons, List.not_mem_nil, or_false, not_or] at hn; omega)) (nz_fi (g 33 (by decide) (by decide))) (nz_fi (g 34 (by decide) (by decide))) ((congrArg Int32.toInt (zz_i e8)).trans n86) (nz_fa (g 39 (by decide) (by decide))) ((zz_ai e17).trans w85))
    replace g3 : (sy_i F 83).toInt < 512 := by omega
    have c8 := nz_bx hB (k := 8) (lo := 0) (hi := 512) rfl
    have n86 : ((sy_i F 8) + ((1 : Int32))).toInt = ((sy_i F 8).toInt + 1) := nz_add (rfl : (sy_i F 8).toInt = (sy_i F 8).toInt) (by decide : ((1 : Int32)).toInt = 1) (by omega) (by omega)
    have w87 : jm_upd (jm_upd (sy_ai F 17) (sy_i F 8).toNatClampNeg (((-14) : Int32))) (sy_i F 83).toNatClampNeg ((sy_i F 8) + ((1 : Int32))) = jm_upd (jm_upd (sy_ai F 17) ((sy_i F 8).toInt).toNat (((-14) : Int32))) ((sy_i F 83).toInt).toNat ((sy_i F 8) + ((1 : Int32))) := by simp only [nz_c, n86, (by decide : (((-14) : Int32)).toInt = (-14 : Int)), (by decide : ((1 : Int32)).toInt = 1)]
    exact k3pi_97_p3 hd F X1 X2 hB (by first | exact g0 | (simp only [nz_c]; exact g0)) (by first | exact g1 | (simp only [nz_c]; exact g1)) (by first | exact ⟨by omega, by omega⟩ | (simp only [nz_c]; exact ⟨by omega, by omega⟩)) (by first | exact g2 | (simp only [nz_c]; exact g2)) (by first | exact g3 | (simp only [nz_c]; exact g3)) (by first | exact ⟨by omega, by omega⟩ | (simp only [nz_c]; exact ⟨by omega, by omega⟩)) (fun F1 g e8 e17 => k3 g0 g1 g2 g3 F1 (nz_in0 hB [8, 17] (fun j hj hn => g j hj (by simp only [List.mem_cons, List.not_mem_nil, or_false, not_or] at hn; omega)) (List.forall_mem_cons.mpr ⟨fun t ht => (Option.some.inj ht) ▸ (nz_hi e8 n86 (by omega) (by omega)), List.forall_mem_cons.mpr ⟨fun t ht => (Option.some.inj ht) ▸ (nz_hA e17 (nz_up (nz_up (nz_ba hB (k := 17) (lo := (-2147483648)) (hi := 2147483646) rfl) (by decide : (((-14) : Int32)).toInt = (-14 : Int)) (by omega) (by omega)) n86 (by omega) (by omega))), List.forall_mem_nil _⟩⟩)) (fun j hj hn => g j hj (by simp only [List.mem_cons, List.not_mem_nil, or_false, not_or] at hn; omega)) (nz_fi (g 33 (by decide) (by decide))) (nz_fi (g 34 (by decide) (by decide))) ((congrArg Int32.toInt (zz_i e8)).trans n86) (nz_fa (g 39 (by decide) (by decide))) ((zz_ai e17).trans w87))
  replace g0 : (sy_i F 84).toInt = 0 := by omega
  exact k3pi_97_p4 hd F X1 X2 hB (by first | exact g0 | (simp only [nz_c]; exact g0)) (fun F1 g  => k4 g0 F1 (nz_in0 hB [] (fun j hj hn => g j hj (by simp only [List.mem_cons, List.not_mem_nil, or_false, not_or] at hn; exact trivial)) (List.forall_mem_nil _)) (fun j hj hn => g j hj (by simp only [List.mem_cons, List.not_mem_nil, or_false, not_or] at hn; exact trivial)) (nz_fi (g 33 (by decide) (by decide))) (nz_fi (g 34 (by decide) (by decide))) (nz_fi (g 8 (by decide) (by decide))) (nz_fa (g 39 (by decide) (by decide))) (nz_fa (g 17 (by decide) (by decide))))
theorem k3zl_0 {Ls : Nat} {xs : Nat → Int32} {d : Nat} {Q : Option Value → jm_h → Prop} (hd : 4 ≤ d) (F : Nat → sy_d) (X1 X2 : List jm_c) (hB : iv_in F iv_B0)
    (k0 : ∀ F1 : Nat → sy_d, iv_in F1 iv_B0 → (∀ j, j < 82 → j ∉ ([] : List Nat) → F1 j = F j) → (sy_i F1 33).toInt = (sy_i F 33).toInt → (sy_i F1 34).toInt = (sy_i F 34).toInt → (sy_i F1 8).toInt = (sy_i F 8).toInt → sy_ai F1 39 = sy_ai F 39 → sy_ai F1 17 = sy_ai F 17 → sy_ai F1 16 = sy_ai F 16 → (sy_i F1 82).toInt = (sy_i F 82).toInt → (sy_i F1 83).toInt = (sy_i F 83).toInt → hd_W Ls xs d jm_M36 Q (2, sy_dL F1 [some (.inl (.ref 30)), some (.inr (.inl 82)), some (.inr (.inl 83)), none, none], sy_dS F1 [.inr (.inl 82), .inl (.ref 30)], sy_dh F1 X1 X2 (iv_H 3), 0, 0)) :
    hd_W Ls xs d jm_M36 Q (0, sy_dL F [some (.inl (.ref 30)), some (.inr (.inl 82)), some (.inr (.inl 83)), none, none], sy_dS F [], sy_dh F X1 X2 (iv_H 3), 0, 0) := by
  exact k3pl_0_p0 hd F X1 X2 hB  (fun F1 g e82 e83 => k0 F1 (nz_in0 hB [] (fun j hj hn => g j hj (by simp only [List.mem_cons, List.not_mem_nil, or_false, not_or] at hn; exact trivial)) (List.forall_mem_nil _)) (fun j hj hn => g j hj (by simp only [List.mem_cons, List.not_mem_nil, or_false, not_or] at hn; exact trivial)) (nz_fi (g 33 (by decide) (by decide))) (nz_fi (g 34 (by decide) (by decide))) (nz_fi (g 8 (by decide) (by decide))) (nz_fa (g 39 (by decide) (by decide))) (nz_fa (g 17 (by decide) (by decide))) (nz_fa (g 16 (by decide) (by decide))) ((congrArg Int32.toInt (zz_i e82)).trans (rfl : (sy_i F 82).toInt = (sy_i F 82).toInt)) ((congrArg Int32.toInt (zz_i e83)).trans (rfl : (sy_i F 83).toInt = (sy_i F 83).toInt)))
theorem k3zl_5 {Ls : Nat} {xs : Nat → Int32} {d : Nat} {Q : Option Value → jm_h → Prop} (hd : 4 ≤ d) (F : Nat → sy_d) (X1 X2 : List jm_c) (hB : iv_in F iv_B0)
    (k0 : (sy_i F 84).toInt = 0 → ∀ F1 : Nat → sy_d, iv_in F1 iv_B0 → (∀ j, j < 82 → j ∉ ([] : List Nat) → F1 j = F j) → (sy_i F1 33).toInt = (sy_i F 33).toInt → (sy_i F1 34).toInt = (sy_i F 34).toInt → (sy_i F1 8).toInt = (sy_i F 8).toInt → sy_ai F1 39 = sy_ai F 39 → sy_ai F1 17 = sy_ai F 17 → sy_ai F1 16 = sy_ai F 16 → Q (some (.int ((0 : Int32)))) (sy_dh F1 X1 X2 (iv_H 3)))
    (k1 : (sy_i F 84).toInt ≠ 0 → ∀ F1 : Nat → sy_d, iv_in F1 iv_B0 → (∀ j, j < 82 → j ∉ ([] : List Nat) → F1 j = F j) → (sy_i F1 33).toInt = (sy_i F 33).toInt → (sy_i F1 34).toInt = (sy_i F 34).toInt → (sy_i F1 8).toInt = (sy_i F 8).toInt → sy_ai F1 39 = sy_ai F 39 → sy_ai F1 17 = sy_ai F 17 → sy_ai F1 16 = sy_ai F 16 → (sy_i F1 82).toInt = (sy_i F 82).toInt → (sy_i F1 83).toInt = (sy_i F 83).toInt → hd_W Ls xs d jm_M36 Q (11, sy_dL F1 [some (.inl (.ref 30)), some (.inr (.inl 82)), some (.inr (.inl 83)), none, none], sy_dS F1 [.inl (.int 61), .inl (.ref 30)], sy_dh F1 X1 X2 (iv_H 3), 0, 0)) :
    hd_W Ls xs d jm_M36 Q (5, sy_dL F [some (.inl (.ref 30)), some (.inr (.inl 82)), some (.inr (.inl 83)), none, none], sy_dS F [.inr (.inl 84)], sy_dh F X1 X2 (iv_H 3), 0, 0) := by
  by_cases g0 : (sy_i F 84).toInt = 0
  · exact k3pl_5_p0 hd F X1 X2 hB (by first | exact g0 | (simp only [nz_c]; exact g0)) (fun F1 g  => k0 g0 F1 (nz_in0 hB [] (fun j hj hn => g j hj (by simp only [List.mem_cons, List.not_mem_nil, or_false, not_or] at hn; exact trivial)) (List.forall_mem_nil _)) (fun j hj hn => g j hj (by simp only [List.mem_cons, List.not_mem_nil, or_false, not_or] at hn; exact trivial)) (nz_fi (g 33 (by decide) (by decide))) (nz_fi (g 34 (by decide) (by decide))) (nz_fi (g 8 (by decide) (by decide))) (nz_fa (g 39 (by decide) (by decide))) (nz_fa (g 17 (by decide) (by decide))) (nz_fa (g 16 (by decide) (by decide))))
  replace g0 : (sy_i F 84).toInt ≠ 0 := by omega
  exact k3pl_5_p1 hd F X1 X2 hB (by first | exact g0 | (simp only [nz_c]; exact g0)) (fun F1 g e82 e83 => k1 g0 F1 (nz_in0 hB [] (fun j hj hn => g j hj (by simp only [List.mem_cons, List.not_mem_nil, or_false, not_or] at hn; exact trivial)) (List.forall_mem_nil _)) (fun j hj hn => g j hj (by simp only [List.mem_cons, List.not_mem_nil, or_false, not_or] at hn; exact trivial)) (nz_fi (g 33 (by decide) (by decide))) (nz_fi (g 34 (by decide) (by decide))) (nz_fi (g 8 (by decide) (by decide))) (nz_fa (g 39 (by decide) (by decide))) (nz_fa (g 17 (by decide) (by decide))) (nz_fa (g 16 (by decide) (by decide))) ((congrArg Int32.toInt (zz_i e82)).trans (rfl : (sy_i F 82).toInt = (sy_i F 82).toInt)) ((congrArg Int32.toInt (zz_i e83)).trans (rfl : (sy_i F 83).toInt = (sy_i F 83).toInt)))
theorem k3zl_14 {Ls : Nat} {xs : Nat → Int32} {d : Nat} {Q : Option Value → jm_h → Prop} (hd : 4 ≤ d) (F : Nat → sy_d) (X1 X2 : List jm_c) (hB : iv_in F iv_B0)
    (k0 : (sy_i F 84).toInt ≠ 0 → ∀ F1 : Nat → sy_d, iv_in F1 iv_B0 → (∀ j, j < 82 → j ∉ ([] : List Nat) → F1 j = F j) → (sy_i F1 33).toInt = (sy_i F 33).toInt → (sy_i F1 34).toInt = (sy_i F 34).toInt → (sy_i F1 8).toInt = (sy_i F 8).toInt → sy_ai F1 39 = sy_ai F 39 → sy_ai F1 17 = sy_ai F 17 → sy_ai F1 16 = sy_ai F 16 → (sy_i F1 82).toInt = (sy_i F 83).toInt → (sy_i F1 83).toInt = (sy_i F 8).toInt → (sy_i F1 84).toInt = 0 → hd_W Ls xs d jm_M36 Q (30, sy_dL F1 [some (.inl (.ref 30)), none, some (.inr (.inl 82)), some (.inr (.inl 83)), some (.inr (.inl 84))], sy_dS F1 [], sy_dh F1 X1 X2 (iv_H 3), 0, 0))
    (k1 : (sy_i F 84).toInt = 0 → ∀ F1 : Nat → sy_d, iv_in F1 iv_B0 → (∀ j, j < 82 → j ∉ ([] : List Nat) → F1 j = F j) → (sy_i F1 33).toInt = (sy_i F 33).toInt → (sy_i F1 34).toInt = (sy_i F 34).toInt → (sy_i F1 8).toInt = (sy_i F 8).toInt → sy_ai F1 39 = sy_ai F 39 → sy_ai F1 17 = sy_ai F 17 → sy_ai F1 16 = sy_ai F 16 → Q (some (.int ((0 : Int32)))) (sy_dh F1 X1 X2 (iv_H 3))) :
    hd_W Ls xs d jm_M36 Q (14, sy_dL F [some (.inl (.ref 30)), some (.inr (.inl 82)), some (.inr (.inl 83)), none, none], sy_dS F [.inr (.inl 84)], sy_dh F X1 X2 (iv_H 3), 0, 0) := by
  by_cases g0 : (sy_i F 84).toInt ≠ 0
  · have c8 := nz_bx hB (k := 8) (lo := 0) (hi := 512) rfl
    exact k3pl_14_p0 hd F X1 X2 hB (by first | exact g0 | (simp only [nz_c]; exact g0)) (fun F1 g e82 e83 e84 => k0 g0 F1 (nz_in0 hB [] (fun j hj hn => g j hj (by simp only [List.mem_cons, List.not_mem_nil, or_false, not_or] at hn; exact trivial)) (List.forall_mem_nil _)) (fun j hj hn => g j hj (by simp only [List.mem_cons, List.not_mem_nil, or_false, not_or] at hn; exact trivial)) (nz_fi (g 33 (by decide) (by decide))) (nz_fi (g 34 (by decide) (by decide))) (nz_fi (g 8 (by decide) (by decide))) (nz_fa (g 39 (by decide) (by decide))) (nz_fa (g 17 (by decide) (by decide))) (nz_fa (g 16 (by decide) (by decide))) ((congrArg Int32.toInt (zz_i e82)).trans (rfl : (sy_i F 83).toInt = (sy_i F 83).toInt)) ((congrArg Int32.toInt (zz_i e83)).trans (rfl : (sy_i F 8).toInt = (sy_i F 8).toInt)) ((congrArg Int32.toInt (zz_i e84)).trans (by decide : ((0 : Int32)).toInt = 0)))
  replace g0 : (sy_i F 84).toInt = 0 := by omega
  exact k3pl_14_p1 hd F X1 X2 hB (by first | exact g0 | (simp only [nz_c]; exact g0)) (fun F1 g  => k1 g0 F1 (nz_in0 hB [] (fun j hj hn => g j hj (by simp only [List.mem_cons, List.not_mem_nil, or_false, not_or] at hn; exact trivial)) (List.forall_mem_nil _)) (fun j hj hn => g j hj (by simp only [List.mem_cons, List.not_mem_nil, or_false, not_or] at hn; exact trivial)) (nz_fi (g 33 (by decide) (by decide))) (nz_fi (g 34 (by decide) (by decide))) (nz_fi (g 8 (by decide) (by decide))) (nz_fa (g 39 (by decide) (by decide))) (nz_fa (g 17 (by decide) (by decide))) (nz_fa (g 16 (by decide) (by decide))))
theorem k3zl_30 {Ls : Nat} {xs : Nat → Int32} {d : Nat} {Q : Option Value → jm_h → Prop} (hd : 4 ≤ d) (F : Nat → sy_d) (X1 X2 : List jm_c) (hB : iv_in F iv_B0)
    (a84 : 0 ≤ (sy_i F 84).toInt ∧ (sy_i F 84).toInt ≤ 5)
    (k0 : 4 < (sy_i F 84).toInt → ∀ F1 : Nat → sy_d, iv_in F1 iv_B0 → (∀ j, j < 82 → j ∉ ([] : List Nat) → F1 j = F j) → (sy_i F1 33).toInt = (sy_i F 33).toInt → (sy_i F1 34).toInt = (sy_i F 34).toInt → (sy_i F1 8).toInt = (sy_i F 8).toInt → sy_ai F1 39 = sy_ai F 39 → sy_ai F1 17 = sy_ai F 17 → sy_ai F1 16 = sy_ai F 16 → (sy_i F1 82).toInt = (sy_i F 82).toInt → (sy_i F1 83).toInt = (sy_i F 83).toInt → hd_W Ls xs d jm_M36 Q (83, sy_dL F1 [some (.inl (.ref 30)), none, some (.inr (.inl 82)), some (.inr (.inl 83)), none], sy_dS F1 [.inl (.int 0), .inr (.inl 82), .inl (.ref 30)], sy_dh F1 X1 X2 (iv_H 3), 0, 0))
    (k1 : (sy_i F 84).toInt ≤ 4 → 0 ≤ (sy_i F 33).toInt → (sy_i F 33).toInt ≤ 400 → ((sy_ai F 39).getD ((sy_i F 33).toInt).toNat 0).toInt ≠ 11 → ∀ F1 : Nat → sy_d, iv_in F1 iv_B0 → (∀ j, j < 82 → j ∉ ([] : List Nat) → F1 j = F j) → (sy_i F1 33).toInt = (sy_i F 33).toInt → (sy_i F1 34).toInt = (sy_i F 34).toInt → (sy_i F1 8).toInt = (sy_i F 8).toInt → sy_ai F1 39 = sy_ai F 39 → sy_ai F1 17 = sy_ai F 17 → sy_ai F1 16 = sy_ai F 16 → (sy_i F1 82).toInt = (sy_i F 82).toInt → (sy_i F1 83).toInt = (sy_i F 83).toInt → hd_W Ls xs d jm_M36 Q (83, sy_dL F1 [some (.inl (.ref 30)), none, some (.inr (.inl 82)), some (.inr (.inl 83)), none], sy_dS F1 [.inl (.int 0), .inr (.inl 82), .inl (.ref 30)], sy_dh F1 X1 X2 (iv_H 3), 0, 0))
    (k2 : (sy_i F 84).toInt ≤ 4 → 0 ≤ (sy_i F 33).toInt → (sy_i F 33).toInt ≤ 400 → ((sy_ai F 39).getD ((sy_i F 33).toInt).toNat 0).toInt = 11 → (sy_i F 84).toInt < 4 → ∀ F1 : Nat → sy_d, iv_in F1 iv_B0 → (∀ j, j < 82 → j ∉ ([] : List Nat) → F1 j = F j) → (sy_i F1 33).toInt = (sy_i F 33).toInt → (sy_i F1 34).toInt = (sy_i F 34).toInt → (sy_i F1 8).toInt = (sy_i F 8).toInt → sy_ai F1 39 = sy_ai F 39 → sy_ai F1 17 = sy_ai F 17 → sy_ai F1 16 = sy_ai F 16 → (sy_i F1 82).toInt = (sy_i F 82).toInt → (sy_i F1 83).toInt = (sy_i F 83).toInt → (sy_i F1 84).toInt = (sy_i F 84).toInt → hd_W Ls xs d jm_M36 Q (66, sy_dL F1 [some (.inl (.ref 30)), none, some (.inr (.inl 82)), some (.inr (.inl 83)), some (.inr (.inl 84))], sy_dS F1 [.inr (.inl 82), .inl (.ref 30)], sy_dh F1 X1 X2 (iv_H 3), 0, 0))
    (k3 : (sy_i F 84).toInt ≤ 4 → 0 ≤ (sy_i F 33).toInt → (sy_i F 33).toInt ≤ 400 → ((sy_ai F 39).getD ((sy_i F 33).toInt).toNat 0).toInt = 11 → 4 ≤ (sy_i F 84).toInt → ∀ F1 : Nat → sy_d, iv_in F1 iv_B0 → (∀ j, j < 82 → j ∉ ([34] : List Nat) → F1 j = F j) → (sy_i F1 33).toInt = (sy_i F 33).toInt → (sy_i F1 34).toInt = 2 → (sy_i F1 8).toInt = (sy_i F 8).toInt → sy_ai F1 39 = sy_ai F 39 → sy_ai F1 17 = sy_ai F 17 → sy_ai F1 16 = sy_ai F 16 → Q (some (.int ((0 : Int32)))) (sy_dh F1 X1 X2 (iv_H 3))) :
    hd_W Ls xs d jm_M36 Q (30, sy_dL F [some (.inl (.ref 30)), none, some (.inr (.inl 82)), some (.inr (.inl 83)), some (.inr (.inl 84))], sy_dS F [], sy_dh F X1 X2 (iv_H 3), 0, 0) := by
  by_cases g0 : 4 < (sy_i F 84).toInt
  · exact k3pl_30_p0 hd F X1 X2 hB (by first | exact g0 | (simp only [nz_c]; exact g0)) (fun F1 g e82 e83 => k0 g0 F1 (nz_in0 hB [] (fun j hj hn => g j hj (by simp only [List.mem_cons, List.not_mem_nil, or_false, not_or] at hn; exact trivial)) (List.forall_mem_nil _)) (fun j hj hn => g j hj (by simp only [List.mem_cons, List.not_mem_nil, or_false, not_or] at hn; exact trivial)) (nz_fi (g 33 (by decide) (by decide))) (nz_fi (g 34 (by decide) (by decide))) (nz_fi (g 8 (by decide) (by decide))) (nz_fa (g 39 (by decide) (by decide))) (nz_fa (g 17 (by decide) (by decide))) (nz_fa (g 16 (by decide) (by decide))) ((congrArg Int32.toInt (zz_i e82)).trans (rfl : (sy_i F 82).toInt = (sy_i F 82).toInt)) ((congrArg Int32.toInt (zz_i e83)).trans (rfl : (sy_i F 83).toInt = (sy_i F 83).toInt)))
  replace g0 : (sy_i F 84).toInt ≤ 4 := by omega
  by_cases g1 : (sy_i F 33).toInt < 0
  · have c33 := nz_bx hB (k := 33) (lo := 0) (hi := 400) rfl
    exfalso
    omega
  replace g1 : 0 ≤ (sy_i F 33).toInt := by omega
  by_cases g2 : 400 < (sy_i F 33).toInt
  · have c33 := nz_bx hB (k := 33) (lo := 0) (hi := 400) rfl
    exfalso
    omega
  replace g2 : (sy_i F 33).toInt ≤ 400 := by omega
  by_cases g3 : ((sy_ai F 39).getD ((sy_i F 33).toInt).toNat 0).toInt ≠ 11
  · have c33 := nz_bx hB (k := 33) (lo := 0) (hi := 400) rfl
    have q85 : (sy_ai F 39).getD (sy_i F 33).toNatClampNeg 0 = (sy_ai F 39).getD ((sy_i F 33).toInt).toNat 0 := by simp only [nz_c]
    have n85 : ((sy_ai F 39).getD (sy_i F 33).toNatClampNeg 0).toInt = ((sy_ai F 39).getD ((sy_i F 33).toInt).toNat 0).toInt := congrArg Int32.toInt q85
    exact k3pl_30_p1 hd F X1 X2 hB (by first | exact g0 | (simp only [nz_c]; exact g0)) (by first | exact g1 | (simp only [nz_c]; exact g1)) (by first | exact g2 | (simp only [nz_c]; exact g2)) (by first | exact ⟨by omega, by omega⟩ | (simp only [nz_c]; exact ⟨by omega, by omega⟩)) (by first | exact g3 | (simp only [nz_c]; exact g3) | (rw [n85]; exact g3)) (fun F1 g e82 e83 => k1 g0 g1 g2 g3 F1 (nz_in0 hB [] (fun j hj hn => g j hj (by simp only [List.mem_cons, List.not_mem_nil, or_false, not_or] at hn; exact trivial)) (List.forall_mem_nil _)) (fun j hj hn => g j hj (by simp only [List.mem_cons, List.not_mem_nil, or_false, not_or] at hn; exact trivial)) (nz_fi (g 33 (by decide) (by decide))) (nz_fi (g 34 (by decide) (by decide))) (nz_fi (g 8 (by decide) (by decide))) (nz_fa (g 39 (by decide) (by decide))) (nz_fa (g 17 (by decide) (by decide))) (nz_fa (g 16 (by decide) (by decide))) ((congrArg Int32.toInt (zz_i e82)).trans (rfl : (sy_i F 82).toInt = (sy_i F 82).toInt)) ((congrArg Int32.toInt (zz_i e83)).trans (rfl : (sy_i F 83).toInt = (sy_i F 83).toInt)))
  replace g3 : ((sy_ai F 39).getD ((sy_i F 33).toInt).toNat 0).toInt = 11 := by omega
  by_cases g4 : (sy_i F 84).toInt < 4
  · have c33 := nz_bx hB (k := 33) (lo := 0) (hi := 400) rfl
    have q85 : (sy_ai F 39).getD (sy_i F 33).toNatClampNeg 0 = (sy_ai F 39).getD ((sy_i F 33).toInt).toNat 0 := by simp only [nz_c]
    have n85 : ((sy_ai F 39).getD (sy_i F 33).toNatClampNeg 0).toInt = ((sy_ai F 39).getD ((sy_i F 33).toInt).toNat 0).toInt := congrArg Int32.toInt q85
    exact k3pl_30_p2 hd F X1 X2 hB (by first | exact g0 | (simp only [nz_c]; exact g0)) (by first | exact g1 | (simp only [nz_c]; exact g1)) (by first | exact g2 | (simp only [nz_c]; exact g2)) (by first | exact ⟨by omega, by omega⟩ | (simp only [nz_c]; exact ⟨by omega, by omega⟩)) (by first | exact g3 | (simp only [nz_c]; exact g3) | (rw [n85]; exact g3)) (by first | exact g4 | (simp only [nz_c]; exact g4)) (fun F1 g e82 e83 e84 => k2 g0 g1 g2 g3 g4 F1 (nz_in0 hB [] (fun j hj hn => g j hj (by simp only [List.mem_cons, List.not_mem_nil, or_false, not_or] at hn; exact trivial)) (List.forall_mem_nil _)) (fun j hj hn => g j hj (by simp only [List.mem_cons, List.not_mem_nil, or_false, not_or] at hn; exact trivial)) (nz_fi (g 33 (by decide) (by decide))) (nz_fi (g 34 (by decide) (by decide))) (nz_fi (g 8 (by decide) (by decide))) (nz_fa (g 39 (by decide) (by decide))) (nz_fa (g 17 (by decide) (by decide))) (nz_fa (g 16 (by decide) (by decide))) ((congrArg Int32.toInt (zz_i e82)).trans (rfl : (sy_i F 82).toInt = (sy_i F 82).toInt)) ((congrArg Int32.toInt (zz_i e83)).trans (rfl : (sy_i F 83).toInt = (sy_i F 83).toInt)) ((congrArg Int32.toInt (zz_i e84)).trans (rfl : (sy_i F 84).toInt = (sy_i F 84).toInt)))
  replace g4 : 4 ≤ (sy_i F 84).toInt := by omega
  have c33 := nz_bx hB (k := 33) (lo := 0) (hi := 400) rfl
  have q85 : (sy_ai F 39).getD (sy_i F 33).toNatClampNeg 0 = (sy_ai F 39).getD ((sy_i F 33).toInt).toNat 0 := by simp only [nz_c]
  have n85 : ((sy_ai F 39).getD (sy_i F 33).toNatClampNeg 0).toInt = ((sy_ai F 39).getD ((sy_i F 33).toInt).toNat 0).toInt := congrArg Int32.toInt q85
  exact k3pl_30_p3 hd F X1 X2 hB (by first | exact g0 | (simp only [nz_c]; exact g0)) (by first | exact g1 | (simp only [nz_c]; exact g1)) (by first | exact g2 | (simp only [nz_c]; exact g2)) (by first | exact ⟨by omega, by omega⟩ | (simp only [nz_c]; exact ⟨by omega, by omega⟩)) (by first | exact g3 | (simp only [nz_c]; exact g3) | (rw [n85]; exact g3)) (by first | exact g4 | (simp only [nz_c]; exact g4)) (fun F1 g e34 => k3 g0 g1 g2 g3 g4 F1 (nz_in0 hB [34] (fun j hj hn => g j hj (by simp only [List.mem_cons, List.not_mem_nil, or_false, not_or] at hn; omega)) (List.forall_mem_cons.mpr ⟨fun t ht => (Option.some.inj ht) ▸ (nz_hz e34), List.forall_mem_nil _⟩)) (fun j hj hn => g j hj (by simp only [List.mem_cons, List.not_mem_nil, or_false, not_or] at hn; omega)) (nz_fi (g 33 (by decide) (by decide))) ((congrArg Int32.toInt (zz_i e34)).trans (by decide : ((2 : Int32)).toInt = 2)) (nz_fi (g 8 (by decide) (by decide))) (nz_fa (g 39 (by decide) (by decide))) (nz_fa (g 17 (by decide) (by decide))) (nz_fa (g 16 (by decide) (by decide))))
theorem k3zl_69 {Ls : Nat} {xs : Nat → Int32} {d : Nat} {Q : Option Value → jm_h → Prop} (hd : 4 ≤ d) (F : Nat → sy_d) (X1 X2 : List jm_c) (hB : iv_in F iv_B0)
    (a84 : 0 ≤ (sy_i F 84).toInt ∧ (sy_i F 84).toInt ≤ 4)
    (k0 : (sy_i F 85).toInt ≠ 0 → ∀ F1 : Nat → sy_d, iv_in F1 iv_B0 → (∀ j, j < 82 → j ∉ ([] : List Nat) → F1 j = F j) → (sy_i F1 33).toInt = (sy_i F 33).toInt → (sy_i F1 34).toInt = (sy_i F 34).toInt → (sy_i F1 8).toInt = (sy_i F 8).toInt → sy_ai F1 39 = sy_ai F 39 → sy_ai F1 17 = sy_ai F 17 → sy_ai F1 16 = sy_ai F 16 → (sy_i F1 82).toInt = (sy_i F 82).toInt → (sy_i F1 83).toInt = (sy_i F 83).toInt → (sy_i F1 84).toInt = ((sy_i F 84).toInt + 1) → hd_W Ls xs d jm_M36 Q (30, sy_dL F1 [some (.inl (.ref 30)), none, some (.inr (.inl 82)), some (.inr (.inl 83)), some (.inr (.inl 84))], sy_dS F1 [], sy_dh F1 X1 X2 (iv_H 3), 0, 0))
    (k1 : (sy_i F 85).toInt = 0 → ∀ F1 : Nat → sy_d, iv_in F1 iv_B0 → (∀ j, j < 82 → j ∉ ([] : List Nat) → F1 j = F j) → (sy_i F1 33).toInt = (sy_i F 33).toInt → (sy_i F1 34).toInt = (sy_i F 34).toInt → (sy_i F1 8).toInt = (sy_i F 8).toInt → sy_ai F1 39 = sy_ai F 39 → sy_ai F1 17 = sy_ai F 17 → sy_ai F1 16 = sy_ai F 16 → Q (some (.int ((0 : Int32)))) (sy_dh F1 X1 X2 (iv_H 3))) :
    hd_W Ls xs d jm_M36 Q (69, sy_dL F [some (.inl (.ref 30)), none, some (.inr (.inl 82)), some (.inr (.inl 83)), some (.inr (.inl 84))], sy_dS F [.inr (.inl 85)], sy_dh F X1 X2 (iv_H 3), 0, 0) := by
  by_cases g0 : (sy_i F 85).toInt ≠ 0
  · have n86 : ((sy_i F 84) + ((1 : Int32))).toInt = ((sy_i F 84).toInt + 1) := nz_add (rfl : (sy_i F 84).toInt = (sy_i F 84).toInt) (by decide : ((1 : Int32)).toInt = 1) (by omega) (by omega)
    exact k3pl_69_p0 hd F X1 X2 hB (by first | exact g0 | (simp only [nz_c]; exact g0)) (fun F1 g e82 e83 e84 => k0 g0 F1 (nz_in0 hB [] (fun j hj hn => g j hj (by simp only [List.mem_cons, List.not_mem_nil, or_false, not_or] at hn; exact trivial)) (List.forall_mem_nil _)) (fun j hj hn => g j hj (by simp only [List.mem_cons, List.not_mem_nil, or_false, not_or] at hn; exact trivial)) (nz_fi (g 33 (by decide) (by decide))) (nz_fi (g 34 (by decide) (by decide))) (nz_fi (g 8 (by decide) (by decide))) (nz_fa (g 39 (by decide) (by decide))) (nz_fa (g 17 (by decide) (by decide))) (nz_fa (g 16 (by decide) (by decide))) ((congrArg Int32.toInt (zz_i e82)).trans (rfl : (sy_i F 82).toInt = (sy_i F 82).toInt)) ((congrArg Int32.toInt (zz_i e83)).trans (rfl : (sy_i F 83).toInt = (sy_i F 83).toInt)) ((congrArg Int32.toInt (zz_i e84)).trans n86))
  replace g0 : (sy_i F 85).toInt = 0 := by omega
  exact k3pl_69_p1 hd F X1 X2 hB (by first | exact g0 | (simp only [nz_c]; exact g0)) (fun F1 g  => k1 g0 F1 (nz_in0 hB [] (fun j hj hn => g j hj (by simp only [List.mem_cons, List.not_mem_nil, or_false, not_or] at hn; exact trivial)) (List.forall_mem_nil _)) (fun j hj hn => g j hj (by simp only [List.mem_cons, List.not_mem_nil, or_false, not_or] at hn; exact trivial)) (nz_fi (g 33 (by decide) (by decide))) (nz_fi (g 34 (by decide) (by decide))) (nz_fi (g 8 (by decide) (by decide))) (nz_fa (g 39 (by decide) (by decide))) (nz_fa (g 17 (by decide) (by decide))) (nz_fa (g 16 (by decide) (by decide))))
theorem k3zl_86 {Ls : Nat} {xs : Nat → Int32} {d : Nat} {Q : Option Value → jm_h → Prop} (hd : 4 ≤ d) (F : Nat → sy_d) (X1 X2 : List jm_c) (hB : iv_in F iv_B0)
    (k0 : (sy_i F 84).toInt = 0 → ∀ F1 : Nat → sy_d, iv_in F1 iv_B0 → (∀ j, j < 82 → j ∉ ([] : List Nat) → F1 j = F j) → (sy_i F1 33).toInt = (sy_i F 33).toInt → (sy_i F1 34).toInt = (sy_i F 34).toInt → (sy_i F1 8).toInt = (sy_i F 8).toInt → sy_ai F1 39 = sy_ai F 39 → sy_ai F1 17 = sy_ai F 17 → sy_ai F1 16 = sy_ai F 16 → Q (some (.int ((0 : Int32)))) (sy_dh F1 X1 X2 (iv_H 3)))
    (k1 : (sy_i F 84).toInt ≠ 0 → ∀ F1 : Nat → sy_d, iv_in F1 iv_B0 → (∀ j, j < 82 → j ∉ ([] : List Nat) → F1 j = F j) → (sy_i F1 33).toInt = (sy_i F 33).toInt → (sy_i F1 34).toInt = (sy_i F 34).toInt → (sy_i F1 8).toInt = (sy_i F 8).toInt → sy_ai F1 39 = sy_ai F 39 → sy_ai F1 17 = sy_ai F 17 → sy_ai F1 16 = sy_ai F 16 → (sy_i F1 82).toInt = (sy_i F 82).toInt → (sy_i F1 83).toInt = (sy_i F 83).toInt → hd_W Ls xs d jm_M36 Q (92, sy_dL F1 [some (.inl (.ref 30)), none, some (.inr (.inl 82)), some (.inr (.inl 83)), none], sy_dS F1 [.inl (.int 59), .inl (.ref 30)], sy_dh F1 X1 X2 (iv_H 3), 0, 0)) :
    hd_W Ls xs d jm_M36 Q (86, sy_dL F [some (.inl (.ref 30)), none, some (.inr (.inl 82)), some (.inr (.inl 83)), none], sy_dS F [.inr (.inl 84)], sy_dh F X1 X2 (iv_H 3), 0, 0) := by
  by_cases g0 : (sy_i F 84).toInt = 0
  · exact k3pl_86_p0 hd F X1 X2 hB (by first | exact g0 | (simp only [nz_c]; exact g0)) (fun F1 g  => k0 g0 F1 (nz_in0 hB [] (fun j hj hn => g j hj (by simp only [List.mem_cons, List.not_mem_nil, or_false, not_or] at hn; exact trivial)) (List.forall_mem_nil _)) (fun j hj hn => g j hj (by simp only [List.mem_cons, List.not_mem_nil, or_false, not_or] at hn; exact trivial)) (nz_fi (g 33 (by decide) (by decide))) (nz_fi (g 34 (by decide) (by decide))) (nz_fi (g 8 (by decide) (by decide))) (nz_fa (g 39 (by decide) (by decide))) (nz_fa (g 17 (by decide) (by decide))) (nz_fa (g 16 (by decide) (by decide))))
  replace g0 : (sy_i F 84).toInt ≠ 0 := by omega
  exact k3pl_86_p1 hd F X1 X2 hB (by first | exact g0 | (simp only [nz_c]; exact g0)) (fun F1 g e82 e83 => k1 g0 F1 (nz_in0 hB [] (fun j hj hn => g j hj (by simp only [List.mem_cons, List.not_mem_nil, or_false, not_or] at hn; exact trivial)) (List.forall_mem_nil _)) (fun j hj hn => g j hj (by simp only [List.mem_cons, List.not_mem_nil, or_false, not_or] at hn; exact trivial)) (nz_fi (g 33 (by decide) (by decide))) (nz_fi (g 34 (by decide) (by decide))) (nz_fi (g 8 (by decide) (by decide))) (nz_fa (g 39 (by decide) (by decide))) (nz_fa (g 17 (by decide) (by decide))) (nz_fa (g 16 (by decide) (by decide))) ((congrArg Int32.toInt (zz_i e82)).trans (rfl : (sy_i F 82).toInt = (sy_i F 82).toInt)) ((congrArg Int32.toInt (zz_i e83)).trans (rfl : (sy_i F 83).toInt = (sy_i F 83).toInt)))
theorem k3zl_95 {Ls : Nat} {xs : Nat → Int32} {d : Nat} {Q : Option Value → jm_h → Prop} (hd : 4 ≤ d) (F : Nat → sy_d) (X1 X2 : List jm_c) (hB : iv_in F iv_B0)
    (a82 : 0 ≤ (sy_i F 82).toInt ∧ (sy_i F 82).toInt ≤ 5)
    (a83 : 0 ≤ (sy_i F 83).toInt ∧ (sy_i F 83).toInt ≤ 512)
    (k0 : (sy_i F 84).toInt ≠ 0 → 512 ≤ (sy_i F 8).toInt → ∀ F1 : Nat → sy_d, iv_in F1 iv_B0 → (∀ j, j < 82 → j ∉ ([16] : List Nat) → F1 j = F j) → (sy_i F1 33).toInt = (sy_i F 33).toInt → (sy_i F1 34).toInt = (sy_i F 34).toInt → (sy_i F1 8).toInt = (sy_i F 8).toInt → sy_ai F1 39 = sy_ai F 39 → sy_ai F1 17 = sy_ai F 17 → sy_ai F1 16 = jm_upd (sy_ai F 16) ((sy_i F 82).toInt).toNat (sy_i F 83) → Q (some (.int ((1 : Int32)))) (sy_dh F1 X1 X2 (iv_H 3)))
    (k1 : (sy_i F 84).toInt ≠ 0 → (sy_i F 8).toInt < 512 → ∀ F1 : Nat → sy_d, iv_in F1 iv_B0 → (∀ j, j < 82 → j ∉ ([8, 16, 17] : List Nat) → F1 j = F j) → (sy_i F1 33).toInt = (sy_i F 33).toInt → (sy_i F1 34).toInt = (sy_i F 34).toInt → (sy_i F1 8).toInt = ((sy_i F 8).toInt + 1) → sy_ai F1 39 = sy_ai F 39 → sy_ai F1 17 = jm_upd (sy_ai F 17) ((sy_i F 8).toInt).toNat (((-14) : Int32)) → sy_ai F1 16 = jm_upd (sy_ai F 16) ((sy_i F 82).toInt).toNat (sy_i F 83) → Q (some (.int ((1 : Int32)))) (sy_dh F1 X1 X2 (iv_H 3)))
    (k2 : (sy_i F 84).toInt = 0 → ∀ F1 : Nat → sy_d, iv_in F1 iv_B0 → (∀ j, j < 82 → j ∉ ([] : List Nat) → F1 j = F j) → (sy_i F1 33).toInt = (sy_i F 33).toInt → (sy_i F1 34).toInt = (sy_i F 34).toInt → (sy_i F1 8).toInt = (sy_i F 8).toInt → sy_ai F1 39 = sy_ai F 39 → sy_ai F1 17 = sy_ai F 17 → sy_ai F1 16 = sy_ai F 16 → Q (some (.int ((0 : Int32)))) (sy_dh F1 X1 X2 (iv_H 3))) :
    hd_W Ls xs d jm_M36 Q (95, sy_dL F [some (.inl (.ref 30)), none, some (.inr (.inl 82)), some (.inr (.inl 83)), none], sy_dS F [.inr (.inl 84)], sy_dh F X1 X2 (iv_H 3), 0, 0) := by
  by_cases g0 : (sy_i F 84).toInt ≠ 0
  · by_cases g1 : 512 ≤ (sy_i F 8).toInt
    · have c8 := nz_bx hB (k := 8) (lo := 0) (hi := 512) rfl
      have w85 : jm_upd (sy_ai F 16) (sy_i F 82).toNatClampNeg (sy_i F 83) = jm_upd (sy_ai F 16) ((sy_i F 82).toInt).toNat (sy_i F 83) := by simp only [nz_c]
      exact k3pl_95_p0 hd F X1 X2 hB (by first | exact g0 | (simp only [nz_c]; exact g0)) (by first | exact g1 | (simp only [nz_c]; exact g1)) (by first | exact ⟨by omega, by omega⟩ | (simp only [nz_c]; exact ⟨by omega, by omega⟩)) (fun F1 g e16 => k0 g0 g1 F1 (nz_in0 hB [16] (fun j hj hn => g j hj (by simp only [List.mem_cons, List.not_mem_nil, or_false, not_or] at hn; omega)) (List.forall_mem_cons.mpr ⟨fun t ht => (Option.some.inj ht) ▸ (nz_hA e16 (nz_up (nz_ba hB (k := 16) (lo := 0) (hi := 512) rfl) (rfl : (sy_i F 83).toInt = (sy_i F 83).toInt) (by omega) (by omega))), List.forall_mem_nil _⟩)) (fun j hj hn => g j hj (by simp only [List.mem_cons, List.not_mem_nil, or_false, not_or] at hn; omega)) (nz_fi (g 33 (by decide) (by decide))) (nz_fi (g 34 (by decide) (by decide))) (nz_fi (g 8 (by decide) (by decide))) (nz_fa (g 39 (by decide) (by decide))) (nz_fa (g 17 (by decide) (by decide))) ((zz_ai e16).trans w85))
    replace g1 : (sy_i F 8).toInt < 512 := by omega
    have c8 := nz_bx hB (k := 8) (lo := 0) (hi := 512) rfl
    have n86 : ((sy_i F 8) + ((1 : Int32))).toInt = ((sy_i F 8).toInt + 1) := nz_add (rfl : (sy_i F 8).toInt = (sy_i F 8).toInt) (by decide : ((1 : Int32)).toInt = 1) (by omega) (by omega)
    have w85 : jm_upd (sy_ai F 17) (sy_i F 8).toNatClampNeg (((-14) : Int32)) = jm_upd (sy_ai F 17) ((sy_i F 8).toInt).toNat (((-14) : Int32)) := by simp only [nz_c, (by decide : (((-14) : Int32)).toInt = (-14 : Int))]
    have w87 : jm_upd (sy_ai F 16) (sy_i F 82).toNatClampNeg (sy_i F 83) = jm_upd (sy_ai F 16) ((sy_i F 82).toInt).toNat (sy_i F 83) := by simp only [nz_c]
    exact k3pl_95_p1 hd F X1 X2 hB (by first | exact g0 | (simp only [nz_c]; exact g0)) (by first | exact g1 | (simp only [nz_c]; exact g1)) (by first | exact ⟨by omega, by omega⟩ | (simp only [nz_c]; exact ⟨by omega, by omega⟩)) (by first | exact ⟨by omega, by omega⟩ | (simp only [nz_c]; exact ⟨by omega, by omega⟩)) (fun F1 g e8 e16 e17 => k1 g0 g1 F1 (nz_in0 hB [8, 16, 17] (fun j hj hn => g j hj (by simp only [List.mem_cons, List.not_mem_nil, or_false, not_or] at hn; omega)) (List.forall_mem_cons.mpr ⟨fun t ht => (Option.some.inj ht) ▸ (nz_hi e8 n86 (by omega) (by omega)), List.forall_mem_cons.mpr ⟨fun t ht => (Option.some.inj ht) ▸ (nz_hA e16 (nz_up (nz_ba hB (k := 16) (lo := 0) (hi := 512) rfl) (rfl : (sy_i F 83).toInt = (sy_i F 83).toInt) (by omega) (by omega))), List.forall_mem_cons.mpr ⟨fun t ht => (Option.some.inj ht) ▸ (nz_hA e17 (nz_up (nz_ba hB (k := 17) (lo := (-2147483648)) (hi := 2147483646) rfl) (by decide : (((-14) : Int32)).toInt = (-14 : Int)) (by omega) (by omega))), List.forall_mem_nil _⟩⟩⟩)) (fun j hj hn => g j hj (by simp only [List.mem_cons, List.not_mem_nil, or_false, not_or] at hn; omega)) (nz_fi (g 33 (by decide) (by decide))) (nz_fi (g 34 (by decide) (by decide))) ((congrArg Int32.toInt (zz_i e8)).trans n86) (nz_fa (g 39 (by decide) (by decide))) ((zz_ai e17).trans w85) ((zz_ai e16).trans w87))
  replace g0 : (sy_i F 84).toInt = 0 := by omega
  exact k3pl_95_p2 hd F X1 X2 hB (by first | exact g0 | (simp only [nz_c]; exact g0)) (fun F1 g  => k2 g0 F1 (nz_in0 hB [] (fun j hj hn => g j hj (by simp only [List.mem_cons, List.not_mem_nil, or_false, not_or] at hn; exact trivial)) (List.forall_mem_nil _)) (fun j hj hn => g j hj (by simp only [List.mem_cons, List.not_mem_nil, or_false, not_or] at hn; exact trivial)) (nz_fi (g 33 (by decide) (by decide))) (nz_fi (g 34 (by decide) (by decide))) (nz_fi (g 8 (by decide) (by decide))) (nz_fa (g 39 (by decide) (by decide))) (nz_fa (g 17 (by decide) (by decide))) (nz_fa (g 16 (by decide) (by decide))))
end
section
/-! ===== a law's cells, from the place s on ===== -/
def lcs (a : Int) : Nat → List bRT → List Int
  | _, [] => []
  | s, (some (u, v), w) :: r => (u.map (cell a) ++ v.map (cell a) ++ [-15, ((s + u.length + v.length + w.length + 3 : Nat) : Int)] ++ w.map (cell a) ++ [-14]) ++ lcs a (s + u.length + v.length + w.length + 3) r
  | s, (none, w) :: r => (w.map (cell a) ++ [-14]) ++ lcs a (s + w.length + 1) r
theorem lcs_app (a : Int) : ∀ (l : List bRT) (s : Nat) (r : List bRT), lcs a s (l ++ r) = lcs a s l ++ lcs a (s + (lcs a s l).length) r
  | [], s, r => by
    show lcs a s r = [] ++ lcs a (s + 0) r
    rw [List.nil_append, Nat.add_zero]
  | (some (u, v), w) :: l, s, r => by
    show _ ++ lcs a _ (l ++ r) = (_ ++ lcs a _ l) ++ lcs a (s + (_ ++ lcs a _ l).length) r
    rw [lcs_app a l]
    refine (List.append_assoc _ _ _).symm.trans (congrArg _ (congrArg (fun x => lcs a x r) ?_))
    simp only [List.length_append, List.length_map, List.length_cons, List.length_nil]
    omega
  | (none, w) :: l, s, r => by
    show _ ++ lcs a _ (l ++ r) = (_ ++ lcs a _ l) ++ lcs a (s + (_ ++ lcs a _ l).length) r
    rw [lcs_app a l]
    refine (List.append_assoc _ _ _).symm.trans (congrArg _ (congrArg (fun x => lcs a x r) ?_))
    simp only [List.length_append, List.length_map, List.length_cons, List.length_nil]
    omega
theorem clc_len {code : List Int32} {c : Nat} : ∀ n : Nat, (clc code c n).length = n
  | 0 => rfl
  | n + 1 => by
    show (clc code c n ++ [_]).length = n + 1
    rw [List.length_append, clc_len n]
    rfl
/-- the cells L stand behind those of F0 -/
noncomputable def Cl (cs co : Nat) (F0 F : Nat → sy_d) (L : List Int) : Prop := (sy_i F cs).toInt = (sy_i F0 cs).toInt + L.length ∧ (sy_i F cs).toInt + tg F0 ≤ (sy_i F0 cs).toInt + tg F ∧ (∀ i : Nat, (i : Int) < (sy_i F0 cs).toInt → (sy_ai F co).getD i 0 = (sy_ai F0 co).getD i 0) ∧ clc (sy_ai F co) (sy_i F0 cs).toInt.toNat L.length = L
section CL
variable {cs co : Nat} {F0 F F1 : Nat → sy_d} {L : List Int}
theorem Cl_nil : Cl cs co F F [] := ⟨by simp, by omega, fun _ _ => rfl, rfl⟩
theorem Cl_dst (h : Cl cs co F0 F L) (e1 : (sy_i F1 cs).toInt = (sy_i F cs).toInt) (e2 : sy_ai F1 co = sy_ai F co) (e3 : tg F ≤ tg F1) : Cl cs co F0 F1 L := by
  unfold Cl at h ⊢
  rw [e1, e2]
  exact ⟨h.1, by have := h.2.1; omega, h.2.2⟩
theorem Cl_q {F2 : Nat → sy_d} (h : Cl cs co F0 F L) (e : ∀ q, q < 82 → F2 q = F q) (h1 : cs < 82) (h2 : co < 82) : Cl cs co F0 F2 L := Cl_dst h (nz_fi (e cs h1)) (nz_fa (e co h2)) (Nat.le_of_eq (tg_eq (nz_fi (e 33 (by decide)))).symm)
theorem Cl_src {F2 : Nat → sy_d} (h : Cl cs co F2 F L) (e : ∀ q, q < 82 → F2 q = F0 q) (h1 : cs < 82) (h2 : co < 82) : Cl cs co F0 F L := by
  unfold Cl at h ⊢
  rw [nz_fi (e cs h1), nz_fa (e co h2), tg_eq (nz_fi (e 33 (by decide)))] at h
  exact h
theorem Cl_app {L2 : List Int} (h0 : 0 ≤ (sy_i F0 cs).toInt) (h : Cl cs co F0 F L) (h2 : Cl cs co F F1 L2) : Cl cs co F0 F1 (L ++ L2) := by
  obtain ⟨a1, a2, a3, a4⟩ := h
  obtain ⟨b1, b2, b3, b4⟩ := h2
  refine ⟨by rw [List.length_append]; omega, by omega, fun i hi => by rw [b3 i (by omega), a3 i hi], ?_⟩
  rw [List.length_append, clc_add, clc_eq (a := sy_ai F co) _ (fun i _ h2 => b3 i (by omega)), a4, show (sy_i F0 cs).toInt.toNat + L.length = (sy_i F cs).toInt.toNat by omega, b4]
/-- one cell more; the tokens' count is told by itself -/
theorem Cl_push {v : Int32} (hp : 0 ≤ (sy_i F0 cs).toInt) (h : Cl cs co F0 F L) (e1 : (sy_i F1 cs).toInt = (sy_i F cs).toInt + 1) (e2 : sy_ai F1 co = jm_upd (sy_ai F co) ((sy_i F cs).toInt).toNat v) (e3 : (sy_i F1 cs).toInt + tg F0 ≤ (sy_i F0 cs).toInt + tg F1) : Cl cs co F0 F1 (L ++ [v.toInt]) := by
  obtain ⟨a1, a2, a3, a4⟩ := h
  refine ⟨by rw [List.length_append, e1, a1]; simp; omega, e3, fun i hi => by rw [e2, jm_upd_at, if_neg (by omega), a3 i hi], ?_⟩
  rw [List.length_append]
  show clc _ _ L.length ++ [((sy_ai F1 co).getD ((sy_i F0 cs).toInt.toNat + L.length) 0).toInt] = _
  rw [clc_eq (a := sy_ai F co) _ (fun i _ h2 => by rw [e2, jm_upd_at, if_neg (by omega)]), a4, e2, jm_upd_at, if_pos (by omega)]
theorem Cl_push2 {v w : Int32} (hp : 0 ≤ (sy_i F0 cs).toInt) (h : Cl cs co F0 F L) (e1 : (sy_i F1 cs).toInt = ((sy_i F cs).toInt + 1) + 1) (e2 : sy_ai F1 co = jm_upd (jm_upd (sy_ai F co) ((sy_i F cs).toInt).toNat v) (((sy_i F cs).toInt + 1)).toNat w) (e3 : (sy_i F1 cs).toInt + tg F0 ≤ (sy_i F0 cs).toInt + tg F1) : Cl cs co F0 F1 (L ++ [v.toInt, w.toInt]) := by
  obtain ⟨a1, a2, a3, a4⟩ := h
  refine ⟨by rw [List.length_append, e1, a1]; simp; omega, e3, fun i hi => by rw [e2, jm_upd_at, if_neg (by omega), jm_upd_at, if_neg (by omega), a3 i hi], ?_⟩
  rw [List.length_append]
  show (clc _ _ L.length ++ [((sy_ai F1 co).getD ((sy_i F0 cs).toInt.toNat + L.length) 0).toInt]) ++ [((sy_ai F1 co).getD ((sy_i F0 cs).toInt.toNat + (L.length + 1)) 0).toInt] = _
  rw [clc_eq (a := sy_ai F co) _ (fun i _ h2 => by rw [e2, jm_upd_at, if_neg (by omega), jm_upd_at, if_neg (by omega)]), a4, e2, jm_upd_at, if_neg (by omega), jm_upd_at, if_pos (by omega), jm_upd_at, if_pos (by omega), List.append_assoc]
  rfl
/-- a cell among them is put anew -/
theorem clc_put {code : List Int32} {c : Nat} {v : Int32} : ∀ (M : List Int) (x : Int) (L : List Int), clc code c (L ++ x :: M).length = L ++ x :: M → clc (jm_upd code (c + L.length) v) c (L ++ x :: M).length = L ++ v.toInt :: M := by
  intro M x L h
  have e : (L ++ x :: M).length = L.length + (1 + M.length) := by rw [List.length_append, List.length_cons]; omega
  rw [e, clc_add, clc_add] at h ⊢
  have h1 := List.append_inj h (clc_len _)
  have h2 := List.append_inj (s₁ := clc code (c + L.length) 1) (s₂ := [x]) h1.2 rfl
  rw [clc_eq (a := code) L.length (fun i _ h3 => by rw [jm_upd_at, if_neg (by omega)]), h1.1, clc_eq (a := code) (c := c + L.length + 1) M.length (fun i h3 _ => by rw [jm_upd_at, if_neg (by omega)]), h2.2]
  show L ++ ([((jm_upd code (c + L.length) v).getD (c + L.length + 0) 0).toInt] ++ M) = _
  rw [jm_upd_at, if_pos (by omega)]
  rfl
end CL
/-- an expression, by itself -/
theorem zE_run {cs co : Nat} {a : Int} {F F' : Nat → sy_d} (h : zE cs co 2 a 0 F F') (ht : tg F' ≤ 400) (hE : ¬ (kg F (tg F') = 8 ∨ kg F (tg F') = 9 ∨ kg F (tg F') = 10 ∨ kg F (tg F') = 15)) : ∃ ops : List rO, cX (kg F) (vg F) (tg F) [] 0 [] = .inr (tg F', ops) ∧ Cl cs co F F' (ops.map (cell a)) := by
  obtain ⟨h1, h2, h3, ops, h4, h5⟩ := h
  have n : (((sy_i F' cs).toInt - (sy_i F cs).toInt).toNat) = (ops.map (cell a)).length := by rw [← h4, clc_len]
  refine ⟨ops, ?_, by omega, h2, h3, by rw [← n]; exact h4⟩
  rw [h5 [] [] rfl ⟨fun z => absurd z (by decide), fun _ => rfl⟩, cX_e0 ht hE rfl]
  simp [coS]
end
