/-! ===== the class parses expressions, way by way, with the cells (shape 0) ===== -/
theorem k0zu_0 {Ls : Nat} {xs : Nat → Int32} {d : Nat} {Q : Option Value → jm_h → Prop} (hd : 4 ≤ d) (F : Nat → sy_d) (X1 X2 : List jm_c) (hB : iv_in F iv_B0)
    (a82 : 0 ≤ (sy_i F 82).toInt ∧ (sy_i F 82).toInt ≤ 5)
    (a83 : 0 ≤ (sy_i F 83).toInt ∧ (sy_i F 83).toInt ≤ 6)
    (k0 : 0 ≤ (sy_i F 33).toInt → (sy_i F 33).toInt ≤ 400 → ((sy_ai F 39).getD ((sy_i F 33).toInt).toNat 0).toInt ≠ 24 → ((sy_ai F 39).getD ((sy_i F 33).toInt).toNat 0).toInt < 14 → ((sy_ai F 39).getD ((sy_i F 33).toInt).toNat 0).toInt ≠ 40 → ∀ F1 : Nat → sy_d, iv_in F1 iv_B0 → (∀ j, j < 82 → j ∉ ([34] : List Nat) → F1 j = F j) → (sy_i F1 33).toInt = (sy_i F 33).toInt → (sy_i F1 34).toInt = 1 → (sy_i F1 23).toInt = (sy_i F 23).toInt → sy_ai F1 39 = sy_ai F 39 → sy_ai F1 32 = sy_ai F 32 → Q (some (.int ((0 : Int32)))) (sy_dh F1 X1 X2 (iv_H 0)))
    (k1 : 0 ≤ (sy_i F 33).toInt → (sy_i F 33).toInt ≤ 400 → ((sy_ai F 39).getD ((sy_i F 33).toInt).toNat 0).toInt ≠ 24 → 14 ≤ ((sy_ai F 39).getD ((sy_i F 33).toInt).toNat 0).toInt → 22 < ((sy_ai F 39).getD ((sy_i F 33).toInt).toNat 0).toInt → ((sy_ai F 39).getD ((sy_i F 33).toInt).toNat 0).toInt = 40 → (sy_i F 83).toInt < 6 → 0 ≤ (sy_i F 33).toInt → (sy_i F 33).toInt ≤ 400 → ((sy_ai F 39).getD ((sy_i F 33).toInt).toNat 0).toInt = ((sy_ai F 39).getD ((sy_i F 33).toInt).toNat 0).toInt → (sy_i F 33).toInt < 400 → ∀ F1 : Nat → sy_d, iv_in F1 iv_B0 → (∀ j, j < 82 → j ∉ ([33] : List Nat) → F1 j = F j) → (sy_i F1 33).toInt = ((sy_i F 33).toInt + 1) → (sy_i F1 34).toInt = (sy_i F 34).toInt → (sy_i F1 23).toInt = (sy_i F 23).toInt → sy_ai F1 39 = sy_ai F 39 → sy_ai F1 32 = sy_ai F 32 → (sy_i F1 82).toInt = ((sy_i F 83).toInt + 1) → (sy_i F1 83).toInt = (sy_i F 82).toInt → hd_W Ls xs d jm_M40 Q (134, sy_dL F1 [some (.inl (.ref 30)), none, none, none, none], sy_dS F1 [.inr (.inl 82), .inr (.inl 83), .inl (.ref 30)], sy_dh F1 X1 X2 (iv_H 0), 0, 0))
    (k2 : 0 ≤ (sy_i F 33).toInt → (sy_i F 33).toInt ≤ 400 → ((sy_ai F 39).getD ((sy_i F 33).toInt).toNat 0).toInt ≠ 24 → 14 ≤ ((sy_ai F 39).getD ((sy_i F 33).toInt).toNat 0).toInt → 22 < ((sy_ai F 39).getD ((sy_i F 33).toInt).toNat 0).toInt → ((sy_ai F 39).getD ((sy_i F 33).toInt).toNat 0).toInt = 40 → (sy_i F 83).toInt < 6 → 0 ≤ (sy_i F 33).toInt → (sy_i F 33).toInt ≤ 400 → ((sy_ai F 39).getD ((sy_i F 33).toInt).toNat 0).toInt = ((sy_ai F 39).getD ((sy_i F 33).toInt).toNat 0).toInt → 400 ≤ (sy_i F 33).toInt → ∀ F1 : Nat → sy_d, iv_in F1 iv_B0 → (∀ j, j < 82 → j ∉ ([34] : List Nat) → F1 j = F j) → (sy_i F1 33).toInt = (sy_i F 33).toInt → (sy_i F1 34).toInt = 2 → (sy_i F1 23).toInt = (sy_i F 23).toInt → sy_ai F1 39 = sy_ai F 39 → sy_ai F1 32 = sy_ai F 32 → Q (some (.int ((0 : Int32)))) (sy_dh F1 X1 X2 (iv_H 0)))
    (k3 : 0 ≤ (sy_i F 33).toInt → (sy_i F 33).toInt ≤ 400 → ((sy_ai F 39).getD ((sy_i F 33).toInt).toNat 0).toInt ≠ 24 → 14 ≤ ((sy_ai F 39).getD ((sy_i F 33).toInt).toNat 0).toInt → 22 < ((sy_ai F 39).getD ((sy_i F 33).toInt).toNat 0).toInt → ((sy_ai F 39).getD ((sy_i F 33).toInt).toNat 0).toInt = 40 → 6 ≤ (sy_i F 83).toInt → ∀ F1 : Nat → sy_d, iv_in F1 iv_B0 → (∀ j, j < 82 → j ∉ ([34] : List Nat) → F1 j = F j) → (sy_i F1 33).toInt = (sy_i F 33).toInt → (sy_i F1 34).toInt = 2 → (sy_i F1 23).toInt = (sy_i F 23).toInt → sy_ai F1 39 = sy_ai F 39 → sy_ai F1 32 = sy_ai F 32 → Q (some (.int ((0 : Int32)))) (sy_dh F1 X1 X2 (iv_H 0)))
    (k4 : 0 ≤ (sy_i F 33).toInt → (sy_i F 33).toInt ≤ 400 → ((sy_ai F 39).getD ((sy_i F 33).toInt).toNat 0).toInt ≠ 24 → 14 ≤ ((sy_ai F 39).getD ((sy_i F 33).toInt).toNat 0).toInt → 22 < ((sy_ai F 39).getD ((sy_i F 33).toInt).toNat 0).toInt → ((sy_ai F 39).getD ((sy_i F 33).toInt).toNat 0).toInt ≠ 40 → ∀ F1 : Nat → sy_d, iv_in F1 iv_B0 → (∀ j, j < 82 → j ∉ ([34] : List Nat) → F1 j = F j) → (sy_i F1 33).toInt = (sy_i F 33).toInt → (sy_i F1 34).toInt = 1 → (sy_i F1 23).toInt = (sy_i F 23).toInt → sy_ai F1 39 = sy_ai F 39 → sy_ai F1 32 = sy_ai F 32 → Q (some (.int ((0 : Int32)))) (sy_dh F1 X1 X2 (iv_H 0)))
    (k5 : 0 ≤ (sy_i F 33).toInt → (sy_i F 33).toInt ≤ 400 → ((sy_ai F 39).getD ((sy_i F 33).toInt).toNat 0).toInt ≠ 24 → 14 ≤ ((sy_ai F 39).getD ((sy_i F 33).toInt).toNat 0).toInt → ((sy_ai F 39).getD ((sy_i F 33).toInt).toNat 0).toInt ≤ 22 → ¬ oq ((((([260, 383, 383, 407, 279, 300]).getD ((sy_i F 82).toInt).toNat 0) >>> ((((sy_ai F 39).getD ((sy_i F 33).toInt).toNat 0) - ((14 : Int32))) &&& 31)) &&& ((1 : Int32))).toInt) (1) → ∀ F1 : Nat → sy_d, iv_in F1 iv_B0 → (∀ j, j < 82 → j ∉ ([] : List Nat) → F1 j = F j) → (sy_i F1 33).toInt = (sy_i F 33).toInt → (sy_i F1 34).toInt = (sy_i F 34).toInt → (sy_i F1 23).toInt = (sy_i F 23).toInt → sy_ai F1 39 = sy_ai F 39 → sy_ai F1 32 = sy_ai F 32 → (sy_i F1 82).toInt = ((sy_ai F 39).getD ((sy_i F 33).toInt).toNat 0).toInt → (sy_i F1 83).toInt = 0 → hd_W Ls xs d jm_M40 Q (88, sy_dL F1 [some (.inl (.ref 30)), none, none, some (.inr (.inl 82)), none], sy_dS F1 [.inr (.inl 83), .inl (.ref 20)], sy_dh F1 X1 X2 (iv_H 0), 0, 0))
    (k6 : 0 ≤ (sy_i F 33).toInt → (sy_i F 33).toInt ≤ 400 → ((sy_ai F 39).getD ((sy_i F 33).toInt).toNat 0).toInt ≠ 24 → 14 ≤ ((sy_ai F 39).getD ((sy_i F 33).toInt).toNat 0).toInt → ((sy_ai F 39).getD ((sy_i F 33).toInt).toNat 0).toInt ≤ 22 → oq ((((([260, 383, 383, 407, 279, 300]).getD ((sy_i F 82).toInt).toNat 0) >>> ((((sy_ai F 39).getD ((sy_i F 33).toInt).toNat 0) - ((14 : Int32))) &&& 31)) &&& ((1 : Int32))).toInt) (1) → ∀ F1 : Nat → sy_d, iv_in F1 iv_B0 → (∀ j, j < 82 → j ∉ ([] : List Nat) → F1 j = F j) → (sy_i F1 33).toInt = (sy_i F 33).toInt → (sy_i F1 34).toInt = (sy_i F 34).toInt → (sy_i F1 23).toInt = (sy_i F 23).toInt → sy_ai F1 39 = sy_ai F 39 → sy_ai F1 32 = sy_ai F 32 → (sy_i F1 82).toInt = ((sy_ai F 39).getD ((sy_i F 33).toInt).toNat 0).toInt → (sy_i F1 83).toInt = ((-1 : Int) - (((sy_ai F 39).getD ((sy_i F 33).toInt).toNat 0).toInt - 14)) → hd_W Ls xs d jm_M40 Q (88, sy_dL F1 [some (.inl (.ref 30)), none, none, some (.inr (.inl 82)), none], sy_dS F1 [.inr (.inl 83), .inl (.ref 20)], sy_dh F1 X1 X2 (iv_H 0), 0, 0))
    (k7 : 0 ≤ (sy_i F 33).toInt → (sy_i F 33).toInt ≤ 400 → ((sy_ai F 39).getD ((sy_i F 33).toInt).toNat 0).toInt = 24 → 0 ≤ (sy_i F 33).toInt → (sy_i F 33).toInt ≤ 400 → ∀ F1 : Nat → sy_d, iv_in F1 iv_B0 → (∀ j, j < 82 → j ∉ ([] : List Nat) → F1 j = F j) → (sy_i F1 33).toInt = (sy_i F 33).toInt → (sy_i F1 34).toInt = (sy_i F 34).toInt → (sy_i F1 23).toInt = (sy_i F 23).toInt → sy_ai F1 39 = sy_ai F 39 → sy_ai F1 32 = sy_ai F 32 → (sy_i F1 82).toInt = ((sy_ai F 39).getD ((sy_i F 33).toInt).toNat 0).toInt → (sy_i F1 83).toInt = (((sy_al F 41).getD ((sy_i F 33).toInt).toNat 0).toInt32).toInt → hd_W Ls xs d jm_M40 Q (34, sy_dL F1 [some (.inl (.ref 30)), none, none, some (.inr (.inl 82)), none], sy_dS F1 [.inr (.inl 83), .inl (.ref 20)], sy_dh F1 X1 X2 (iv_H 0), 0, 0)) :
    hd_W Ls xs d jm_M40 Q (0, sy_dL F [some (.inl (.ref 30)), some (.inr (.inl 82)), some (.inr (.inl 83)), none, none], sy_dS F [], sy_dh F X1 X2 (iv_H 0), 0, 0) := by
  by_cases g0 : (sy_i F 33).toInt < 0
  · have c33 := nz_bx hB (k := 33) (lo := 0) (hi := 400) rfl
    exfalso
    omega
  replace g0 : 0 ≤ (sy_i F 33).toInt := by omega
  by_cases g1 : 400 < (sy_i F 33).toInt
  · have c33 := nz_bx hB (k := 33) (lo := 0) (hi := 400) rfl
    exfalso
    omega
  replace g1 : (sy_i F 33).toInt ≤ 400 := by omega
  by_cases g2 : ((sy_ai F 39).getD ((sy_i F 33).toInt).toNat 0).toInt ≠ 24
  · by_cases g3 : ((sy_ai F 39).getD ((sy_i F 33).toInt).toNat 0).toInt < 14
    · by_cases g4 : ((sy_ai F 39).getD ((sy_i F 33).toInt).toNat 0).toInt = 40
      · have c33 := nz_bx hB (k := 33) (lo := 0) (hi := 400) rfl
        have q84 : (sy_ai F 39).getD (sy_i F 33).toNatClampNeg 0 = (sy_ai F 39).getD ((sy_i F 33).toInt).toNat 0 := by simp only [nz_c]
        have n84 : ((sy_ai F 39).getD (sy_i F 33).toNatClampNeg 0).toInt = ((sy_ai F 39).getD ((sy_i F 33).toInt).toNat 0).toInt := congrArg Int32.toInt q84
        exfalso
        omega
      replace g4 : ((sy_ai F 39).getD ((sy_i F 33).toInt).toNat 0).toInt ≠ 40 := by omega
      have c33 := nz_bx hB (k := 33) (lo := 0) (hi := 400) rfl
      have q84 : (sy_ai F 39).getD (sy_i F 33).toNatClampNeg 0 = (sy_ai F 39).getD ((sy_i F 33).toInt).toNat 0 := by simp only [nz_c]
      have n84 : ((sy_ai F 39).getD (sy_i F 33).toNatClampNeg 0).toInt = ((sy_ai F 39).getD ((sy_i F 33).toInt).toNat 0).toInt := congrArg Int32.toInt q84
      exact k0pu_0_p0 hd F X1 X2 hB (by first | exact g0 | (simp only [nz_c]; exact g0)) (by first | exact g1 | (simp only [nz_c]; exact g1)) (by first | exact ⟨by omega, by omega⟩ | (simp only [nz_c]; exact ⟨by omega, by omega⟩)) (by first | exact g2 | (simp only [nz_c]; exact g2) | (rw [n84]; exact g2)) (by first | exact g3 | (simp only [nz_c]; exact g3) | (rw [n84]; exact g3)) (by first | exact g4 | (simp only [nz_c]; exact g4) | (rw [n84]; exact g4)) (fun F1 g e34 => k0 g0 g1 g2 g3 g4 F1 (nz_in0 hB [34] (fun j hj hn => g j hj (by simp only [List.mem_cons, List.not_mem_nil, or_false, not_or] at hn; omega)) (List.forall_mem_cons.mpr ⟨fun t ht => (Option.some.inj ht) ▸ (nz_hz e34), List.forall_mem_nil _⟩)) (fun j hj hn => g j hj (by simp only [List.mem_cons, List.not_mem_nil, or_false, not_or] at hn; omega)) (nz_fi (g 33 (by decide) (by decide))) ((congrArg Int32.toInt (zz_i e34)).trans (by decide : ((1 : Int32)).toInt = 1)) (nz_fi (g 23 (by decide) (by decide))) (nz_fa (g 39 (by decide) (by decide))) (nz_fa (g 32 (by decide) (by decide))))
    replace g3 : 14 ≤ ((sy_ai F 39).getD ((sy_i F 33).toInt).toNat 0).toInt := by omega
    by_cases g4 : 22 < ((sy_ai F 39).getD ((sy_i F 33).toInt).toNat 0).toInt
    · by_cases g5 : ((sy_ai F 39).getD ((sy_i F 33).toInt).toNat 0).toInt = 40
      · by_cases g6 : (sy_i F 83).toInt < 6
        · by_cases g7 : (sy_i F 33).toInt < 0
          · have c33 := nz_bx hB (k := 33) (lo := 0) (hi := 400) rfl
            have q84 : (sy_ai F 39).getD (sy_i F 33).toNatClampNeg 0 = (sy_ai F 39).getD ((sy_i F 33).toInt).toNat 0 := by simp only [nz_c]
            have n84 : ((sy_ai F 39).getD (sy_i F 33).toNatClampNeg 0).toInt = ((sy_ai F 39).getD ((sy_i F 33).toInt).toNat 0).toInt := congrArg Int32.toInt q84
            exfalso
            omega
          replace g7 : 0 ≤ (sy_i F 33).toInt := by omega
          by_cases g8 : 400 < (sy_i F 33).toInt
          · have c33 := nz_bx hB (k := 33) (lo := 0) (hi := 400) rfl
            have q84 : (sy_ai F 39).getD (sy_i F 33).toNatClampNeg 0 = (sy_ai F 39).getD ((sy_i F 33).toInt).toNat 0 := by simp only [nz_c]
            have n84 : ((sy_ai F 39).getD (sy_i F 33).toNatClampNeg 0).toInt = ((sy_ai F 39).getD ((sy_i F 33).toInt).toNat 0).toInt := congrArg Int32.toInt q84
            exfalso
            omega
          replace g8 : (sy_i F 33).toInt ≤ 400 := by omega
          by_cases g9 : ((sy_ai F 39).getD ((sy_i F 33).toInt).toNat 0).toInt = ((sy_ai F 39).getD ((sy_i F 33).toInt).toNat 0).toInt
          · by_cases g10 : (sy_i F 33).toInt < 400
            · have c33 := nz_bx hB (k := 33) (lo := 0) (hi := 400) rfl
              have q84 : (sy_ai F 39).getD (sy_i F 33).toNatClampNeg 0 = (sy_ai F 39).getD ((sy_i F 33).toInt).toNat 0 := by simp only [nz_c]
              have n84 : ((sy_ai F 39).getD (sy_i F 33).toNatClampNeg 0).toInt = ((sy_ai F 39).getD ((sy_i F 33).toInt).toNat 0).toInt := congrArg Int32.toInt q84
              have q85 : (sy_ai F 39).getD (sy_i F 33).toNatClampNeg 0 = (sy_ai F 39).getD ((sy_i F 33).toInt).toNat 0 := by simp only [nz_c]
              have n85 : ((sy_ai F 39).getD (sy_i F 33).toNatClampNeg 0).toInt = ((sy_ai F 39).getD ((sy_i F 33).toInt).toNat 0).toInt := congrArg Int32.toInt q85
              have n86 : ((sy_i F 33) + ((1 : Int32))).toInt = ((sy_i F 33).toInt + 1) := nz_add (rfl : (sy_i F 33).toInt = (sy_i F 33).toInt) (by decide : ((1 : Int32)).toInt = 1) (by omega) (by omega)
              have n87 : ((sy_i F 83) + ((1 : Int32))).toInt = ((sy_i F 83).toInt + 1) := nz_add (rfl : (sy_i F 83).toInt = (sy_i F 83).toInt) (by decide : ((1 : Int32)).toInt = 1) (by omega) (by omega)
              exact k0pu_0_p1 hd F X1 X2 hB (by first | exact g0 | (simp only [nz_c]; exact g0)) (by first | exact g1 | (simp only [nz_c]; exact g1)) (by first | exact ⟨by omega, by omega⟩ | (simp only [nz_c]; exact ⟨by omega, by omega⟩)) (by first | exact g2 | (simp only [nz_c]; exact g2) | (rw [n84]; exact g2)) (by first | exact g3 | (simp only [nz_c]; exact g3) | (rw [n84]; exact g3)) (by first | exact g4 | (simp only [nz_c]; exact g4) | (rw [n84]; exact g4)) (by first | exact g5 | (simp only [nz_c]; exact g5) | (rw [n84]; exact g5)) (by first | exact g6 | (simp only [nz_c]; exact g6)) (by first | exact g7 | (simp only [nz_c]; exact g7)) (by first | exact g8 | (simp only [nz_c]; exact g8)) (by first | exact ⟨by omega, by omega⟩ | (simp only [nz_c]; exact ⟨by omega, by omega⟩)) (by first | exact g9 | (simp only [nz_c]; exact g9) | (rw [n85]; exact g9) | (rw [n84]; exact g9) | (rw [n85, n84]; exact g9)) (by first | exact g10 | (simp only [nz_c]; exact g10)) (fun F1 g e33 e82 e83 => k1 g0 g1 g2 g3 g4 g5 g6 g7 g8 g9 g10 F1 (nz_in0 hB [33] (fun j hj hn => g j hj (by simp only [List.mem_cons, List.not_mem_nil, or_false, not_or] at hn; omega)) (List.forall_mem_cons.mpr ⟨fun t ht => (Option.some.inj ht) ▸ (nz_hi e33 n86 (by omega) (by omega)), List.forall_mem_nil _⟩)) (fun j hj hn => g j hj (by simp only [List.mem_cons, List.not_mem_nil, or_false, not_or] at hn; omega)) ((congrArg Int32.toInt (zz_i e33)).trans n86) (nz_fi (g 34 (by decide) (by decide))) (nz_fi (g 23 (by decide) (by decide))) (nz_fa (g 39 (by decide) (by decide))) (nz_fa (g 32 (by decide) (by decide))) ((congrArg Int32.toInt (zz_i e82)).trans n87) ((congrArg Int32.toInt (zz_i e83)).trans (rfl : (sy_i F 82).toInt = (sy_i F 82).toInt)))
            replace g10 : 400 ≤ (sy_i F 33).toInt := by omega
            have c33 := nz_bx hB (k := 33) (lo := 0) (hi := 400) rfl
            have q84 : (sy_ai F 39).getD (sy_i F 33).toNatClampNeg 0 = (sy_ai F 39).getD ((sy_i F 33).toInt).toNat 0 := by simp only [nz_c]
            have n84 : ((sy_ai F 39).getD (sy_i F 33).toNatClampNeg 0).toInt = ((sy_ai F 39).getD ((sy_i F 33).toInt).toNat 0).toInt := congrArg Int32.toInt q84
            have q85 : (sy_ai F 39).getD (sy_i F 33).toNatClampNeg 0 = (sy_ai F 39).getD ((sy_i F 33).toInt).toNat 0 := by simp only [nz_c]
            have n85 : ((sy_ai F 39).getD (sy_i F 33).toNatClampNeg 0).toInt = ((sy_ai F 39).getD ((sy_i F 33).toInt).toNat 0).toInt := congrArg Int32.toInt q85
            exact k0pu_0_p2 hd F X1 X2 hB (by first | exact g0 | (simp only [nz_c]; exact g0)) (by first | exact g1 | (simp only [nz_c]; exact g1)) (by first | exact ⟨by omega, by omega⟩ | (simp only [nz_c]; exact ⟨by omega, by omega⟩)) (by first | exact g2 | (simp only [nz_c]; exact g2) | (rw [n84]; exact g2)) (by first | exact g3 | (simp only [nz_c]; exact g3) | (rw [n84]; exact g3)) (by first | exact g4 | (simp only [nz_c]; exact g4) | (rw [n84]; exact g4)) (by first | exact g5 | (simp only [nz_c]; exact g5) | (rw [n84]; exact g5)) (by first | exact g6 | (simp only [nz_c]; exact g6)) (by first | exact g7 | (simp only [nz_c]; exact g7)) (by first | exact g8 | (simp only [nz_c]; exact g8)) (by first | exact ⟨by omega, by omega⟩ | (simp only [nz_c]; exact ⟨by omega, by omega⟩)) (by first | exact g9 | (simp only [nz_c]; exact g9) | (rw [n85]; exact g9) | (rw [n84]; exact g9) | (rw [n85, n84]; exact g9)) (by first | exact g10 | (simp only [nz_c]; exact g10)) (fun F1 g e34 => k2 g0 g1 g2 g3 g4 g5 g6 g7 g8 g9 g10 F1 (nz_in0 hB [34] (fun j hj hn => g j hj (by simp only [List.mem_cons, List.not_mem_nil, or_false, not_or] at hn; omega)) (List.forall_mem_cons.mpr ⟨fun t ht => (Option.some.inj ht) ▸ (nz_hz e34), List.forall_mem_nil _⟩)) (fun j hj hn => g j hj (by simp only [List.mem_cons, List.not_mem_nil, or_false, not_or] at hn; omega)) (nz_fi (g 33 (by decide) (by decide))) ((congrArg Int32.toInt (zz_i e34)).trans (by decide : ((2 : Int32)).toInt = 2)) (nz_fi (g 23 (by decide) (by decide))) (nz_fa (g 39 (by decide) (by decide))) (nz_fa (g 32 (by decide) (by decide))))
          replace g9 : ((sy_ai F 39).getD ((sy_i F 33).toInt).toNat 0).toInt ≠ ((sy_ai F 39).getD ((sy_i F 33).toInt).toNat 0).toInt := by omega
          have c33 := nz_bx hB (k := 33) (lo := 0) (hi := 400) rfl
          have q84 : (sy_ai F 39).getD (sy_i F 33).toNatClampNeg 0 = (sy_ai F 39).getD ((sy_i F 33).toInt).toNat 0 := by simp only [nz_c]
          have n84 : ((sy_ai F 39).getD (sy_i F 33).toNatClampNeg 0).toInt = ((sy_ai F 39).getD ((sy_i F 33).toInt).toNat 0).toInt := congrArg Int32.toInt q84
          have q85 : (sy_ai F 39).getD (sy_i F 33).toNatClampNeg 0 = (sy_ai F 39).getD ((sy_i F 33).toInt).toNat 0 := by simp only [nz_c]
          have n85 : ((sy_ai F 39).getD (sy_i F 33).toNatClampNeg 0).toInt = ((sy_ai F 39).getD ((sy_i F 33).toInt).toNat 0).toInt := congrArg Int32.toInt q85
          exfalso
          omega
        replace g6 : 6 ≤ (sy_i F 83).toInt := by omega
        have c33 := nz_bx hB (k := 33) (lo := 0) (hi := 400) rfl
        have q84 : (sy_ai F 39).getD (sy_i F 33).toNatClampNeg 0 = (sy_ai F 39).getD ((sy_i F 33).toInt).toNat 0 := by simp only [nz_c]
        have n84 : ((sy_ai F 39).getD (sy_i F 33).toNatClampNeg 0).toInt = ((sy_ai F 39).getD ((sy_i F 33).toInt).toNat 0).toInt := congrArg Int32.toInt q84
        exact k0pu_0_p3 hd F X1 X2 hB (by first | exact g0 | (simp only [nz_c]; exact g0)) (by first | exact g1 | (simp only [nz_c]; exact g1)) (by first | exact ⟨by omega, by omega⟩ | (simp only [nz_c]; exact ⟨by omega, by omega⟩)) (by first | exact g2 | (simp only [nz_c]; exact g2) | (rw [n84]; exact g2)) (by first | exact g3 | (simp only [nz_c]; exact g3) | (rw [n84]; exact g3)) (by first | exact g4 | (simp only [nz_c]; exact g4) | (rw [n84]; exact g4)) (by first | exact g5 | (simp only [nz_c]; exact g5) | (rw [n84]; exact g5)) (by first | exact g6 | (simp only [nz_c]; exact g6)) (fun F1 g e34 => k3 g0 g1 g2 g3 g4 g5 g6 F1 (nz_in0 hB [34] (fun j hj hn => g j hj (by simp only [List.mem_cons, List.not_mem_nil, or_false, not_or] at hn; omega)) (List.forall_mem_cons.mpr ⟨fun t ht => (Option.some.inj ht) ▸ (nz_hz e34), List.forall_mem_nil _⟩)) (fun j hj hn => g j hj (by simp only [List.mem_cons, List.not_mem_nil, or_false, not_or] at hn; omega)) (nz_fi (g 33 (by decide) (by decide))) ((congrArg Int32.toInt (zz_i e34)).trans (by decide : ((2 : Int32)).toInt = 2)) (nz_fi (g 23 (by decide) (by decide))) (nz_fa (g 39 (by decide) (by decide))) (nz_fa (g 32 (by decide) (by decide))))
      replace g5 : ((sy_ai F 39).getD ((sy_i F 33).toInt).toNat 0).toInt ≠ 40 := by omega
      have c33 := nz_bx hB (k := 33) (lo := 0) (hi := 400) rfl
      have q84 : (sy_ai F 39).getD (sy_i F 33).toNatClampNeg 0 = (sy_ai F 39).getD ((sy_i F 33).toInt).toNat 0 := by simp only [nz_c]
      have n84 : ((sy_ai F 39).getD (sy_i F 33).toNatClampNeg 0).toInt = ((sy_ai F 39).getD ((sy_i F 33).toInt).toNat 0).toInt := congrArg Int32.toInt q84
      exact k0pu_0_p4 hd F X1 X2 hB (by first | exact g0 | (simp only [nz_c]; exact g0)) (by first | exact g1 | (simp only [nz_c]; exact g1)) (by first | exact ⟨by omega, by omega⟩ | (simp only [nz_c]; exact ⟨by omega, by omega⟩)) (by first | exact g2 | (simp only [nz_c]; exact g2) | (rw [n84]; exact g2)) (by first | exact g3 | (simp only [nz_c]; exact g3) | (rw [n84]; exact g3)) (by first | exact g4 | (simp only [nz_c]; exact g4) | (rw [n84]; exact g4)) (by first | exact g5 | (simp only [nz_c]; exact g5) | (rw [n84]; exact g5)) (fun F1 g e34 => k4 g0 g1 g2 g3 g4 g5 F1 (nz_in0 hB [34] (fun j hj hn => g j hj (by simp only [List.mem_cons, List.not_mem_nil, or_false, not_or] at hn; omega)) (List.forall_mem_cons.mpr ⟨fun t ht => (Option.some.inj ht) ▸ (nz_hz e34), List.forall_mem_nil _⟩)) (fun j hj hn => g j hj (by simp only [List.mem_cons, List.not_mem_nil, or_false, not_or] at hn; omega)) (nz_fi (g 33 (by decide) (by decide))) ((congrArg Int32.toInt (zz_i e34)).trans (by decide : ((1 : Int32)).toInt = 1)) (nz_fi (g 23 (by decide) (by decide))) (nz_fa (g 39 (by decide) (by decide))) (nz_fa (g 32 (by decide) (by decide))))
    replace g4 : ((sy_ai F 39).getD ((sy_i F 33).toInt).toNat 0).toInt ≤ 22 := by omega
    by_cases g5 : ¬ oq ((((([260, 383, 383, 407, 279, 300]).getD ((sy_i F 82).toInt).toNat 0) >>> ((((sy_ai F 39).getD ((sy_i F 33).toInt).toNat 0) - ((14 : Int32))) &&& 31)) &&& ((1 : Int32))).toInt) (1)
    · have c33 := nz_bx hB (k := 33) (lo := 0) (hi := 400) rfl
      have q84 : (sy_ai F 39).getD (sy_i F 33).toNatClampNeg 0 = (sy_ai F 39).getD ((sy_i F 33).toInt).toNat 0 := by simp only [nz_c]
      have n84 : ((sy_ai F 39).getD (sy_i F 33).toNatClampNeg 0).toInt = ((sy_ai F 39).getD ((sy_i F 33).toInt).toNat 0).toInt := congrArg Int32.toInt q84
      have n85 : (((sy_ai F 39).getD (sy_i F 33).toNatClampNeg 0) - ((14 : Int32))).toInt = (((sy_ai F 39).getD ((sy_i F 33).toInt).toNat 0).toInt - 14) := nz_sub n84 (by decide : ((14 : Int32)).toInt = 14) (by omega) (by omega)
      have q88 : ((([260, 383, 383, 407, 279, 300]).getD (sy_i F 82).toNatClampNeg 0) >>> ((((sy_ai F 39).getD (sy_i F 33).toNatClampNeg 0) - ((14 : Int32))) &&& 31)) &&& ((1 : Int32)) = ((([260, 383, 383, 407, 279, 300]).getD ((sy_i F 82).toInt).toNat 0) >>> ((((sy_ai F 39).getD ((sy_i F 33).toInt).toNat 0) - ((14 : Int32))) &&& 31)) &&& ((1 : Int32)) := by simp only [nz_c, n85, (by decide : ((1 : Int32)).toInt = 1), (by decide : ((14 : Int32)).toInt = 14)]
      have n88 : (((([260, 383, 383, 407, 279, 300]).getD (sy_i F 82).toNatClampNeg 0) >>> ((((sy_ai F 39).getD (sy_i F 33).toNatClampNeg 0) - ((14 : Int32))) &&& 31)) &&& ((1 : Int32))).toInt = (((([260, 383, 383, 407, 279, 300]).getD ((sy_i F 82).toInt).toNat 0) >>> ((((sy_ai F 39).getD ((sy_i F 33).toInt).toNat 0) - ((14 : Int32))) &&& 31)) &&& ((1 : Int32))).toInt := congrArg Int32.toInt q88
      exact k0pu_0_p5 hd F X1 X2 hB (by first | exact g0 | (simp only [nz_c]; exact g0)) (by first | exact g1 | (simp only [nz_c]; exact g1)) (by first | exact ⟨by omega, by omega⟩ | (simp only [nz_c]; exact ⟨by omega, by omega⟩)) (by first | exact g2 | (simp only [nz_c]; exact g2) | (rw [n84]; exact g2)) (by first | exact g3 | (simp only [nz_c]; exact g3) | (rw [n84]; exact g3)) (by first | exact g4 | (simp only [nz_c]; exact g4) | (rw [n84]; exact g4)) (by first | exact ⟨by omega, by omega⟩ | (simp only [nz_c]; exact ⟨by omega, by omega⟩)) (by first | exact g5 | (simp only [nz_c, n85]; exact g5) | (rw [n88]; exact g5)) (fun F1 g e82 e83 => k5 g0 g1 g2 g3 g4 g5 F1 (nz_in0 hB [] (fun j hj hn => g j hj (by simp only [List.mem_cons, List.not_mem_nil, or_false, not_or] at hn; exact trivial)) (List.forall_mem_nil _)) (fun j hj hn => g j hj (by simp only [List.mem_cons, List.not_mem_nil, or_false, not_or] at hn; exact trivial)) (nz_fi (g 33 (by decide) (by decide))) (nz_fi (g 34 (by decide) (by decide))) (nz_fi (g 23 (by decide) (by decide))) (nz_fa (g 39 (by decide) (by decide))) (nz_fa (g 32 (by decide) (by decide))) ((congrArg Int32.toInt (zz_i e82)).trans n84) ((congrArg Int32.toInt (zz_i e83)).trans (by decide : ((0 : Int32)).toInt = 0)))
    replace g5 : oq ((((([260, 383, 383, 407, 279, 300]).getD ((sy_i F 82).toInt).toNat 0) >>> ((((sy_ai F 39).getD ((sy_i F 33).toInt).toNat 0) - ((14 : Int32))) &&& 31)) &&& ((1 : Int32))).toInt) (1) := by first | exact Classical.not_not.mp g5 | exact g5 | omega
    have c33 := nz_bx hB (k := 33) (lo := 0) (hi := 400) rfl
    have q84 : (sy_ai F 39).getD (sy_i F 33).toNatClampNeg 0 = (sy_ai F 39).getD ((sy_i F 33).toInt).toNat 0 := by simp only [nz_c]
    have n84 : ((sy_ai F 39).getD (sy_i F 33).toNatClampNeg 0).toInt = ((sy_ai F 39).getD ((sy_i F 33).toInt).toNat 0).toInt := congrArg Int32.toInt q84
    have n85 : (((sy_ai F 39).getD (sy_i F 33).toNatClampNeg 0) - ((14 : Int32))).toInt = (((sy_ai F 39).getD ((sy_i F 33).toInt).toNat 0).toInt - 14) := nz_sub n84 (by decide : ((14 : Int32)).toInt = 14) (by omega) (by omega)
    have q88 : ((([260, 383, 383, 407, 279, 300]).getD (sy_i F 82).toNatClampNeg 0) >>> ((((sy_ai F 39).getD (sy_i F 33).toNatClampNeg 0) - ((14 : Int32))) &&& 31)) &&& ((1 : Int32)) = ((([260, 383, 383, 407, 279, 300]).getD ((sy_i F 82).toInt).toNat 0) >>> ((((sy_ai F 39).getD ((sy_i F 33).toInt).toNat 0) - ((14 : Int32))) &&& 31)) &&& ((1 : Int32)) := by simp only [nz_c, n85, (by decide : ((1 : Int32)).toInt = 1), (by decide : ((14 : Int32)).toInt = 14)]
    have n88 : (((([260, 383, 383, 407, 279, 300]).getD (sy_i F 82).toNatClampNeg 0) >>> ((((sy_ai F 39).getD (sy_i F 33).toNatClampNeg 0) - ((14 : Int32))) &&& 31)) &&& ((1 : Int32))).toInt = (((([260, 383, 383, 407, 279, 300]).getD ((sy_i F 82).toInt).toNat 0) >>> ((((sy_ai F 39).getD ((sy_i F 33).toInt).toNat 0) - ((14 : Int32))) &&& 31)) &&& ((1 : Int32))).toInt := congrArg Int32.toInt q88
    have n89 : ((((-1) : Int32)) - (((sy_ai F 39).getD (sy_i F 33).toNatClampNeg 0) - ((14 : Int32)))).toInt = ((-1 : Int) - (((sy_ai F 39).getD ((sy_i F 33).toInt).toNat 0).toInt - 14)) := nz_sub (by decide : (((-1) : Int32)).toInt = (-1 : Int)) n85 (by omega) (by omega)
    exact k0pu_0_p6 hd F X1 X2 hB (by first | exact g0 | (simp only [nz_c]; exact g0)) (by first | exact g1 | (simp only [nz_c]; exact g1)) (by first | exact ⟨by omega, by omega⟩ | (simp only [nz_c]; exact ⟨by omega, by omega⟩)) (by first | exact g2 | (simp only [nz_c]; exact g2) | (rw [n84]; exact g2)) (by first | exact g3 | (simp only [nz_c]; exact g3) | (rw [n84]; exact g3)) (by first | exact g4 | (simp only [nz_c]; exact g4) | (rw [n84]; exact g4)) (by first | exact ⟨by omega, by omega⟩ | (simp only [nz_c]; exact ⟨by omega, by omega⟩)) (by first | exact g5 | (simp only [nz_c, n85]; exact g5) | (rw [n88]; exact g5)) (fun F1 g e82 e83 => k6 g0 g1 g2 g3 g4 g5 F1 (nz_in0 hB [] (fun j hj hn => g j hj (by simp only [List.mem_cons, List.not_mem_nil, or_false, not_or] at hn; exact trivial)) (List.forall_mem_nil _)) (fun j hj hn => g j hj (by simp only [List.mem_cons, List.not_mem_nil, or_false, not_or] at hn; exact trivial)) (nz_fi (g 33 (by decide) (by decide))) (nz_fi (g 34 (by decide) (by decide))) (nz_fi (g 23 (by decide) (by decide))) (nz_fa (g 39 (by decide) (by decide))) (nz_fa (g 32 (by decide) (by decide))) ((congrArg Int32.toInt (zz_i e82)).trans n84) ((congrArg Int32.toInt (zz_i e83)).trans n89))
  replace g2 : ((sy_ai F 39).getD ((sy_i F 33).toInt).toNat 0).toInt = 24 := by omega
  by_cases g3 : (sy_i F 33).toInt < 0
  · have c33 := nz_bx hB (k := 33) (lo := 0) (hi := 400) rfl
    have q84 : (sy_ai F 39).getD (sy_i F 33).toNatClampNeg 0 = (sy_ai F 39).getD ((sy_i F 33).toInt).toNat 0 := by simp only [nz_c]
    have n84 : ((sy_ai F 39).getD (sy_i F 33).toNatClampNeg 0).toInt = ((sy_ai F 39).getD ((sy_i F 33).toInt).toNat 0).toInt := congrArg Int32.toInt q84
    exfalso
    omega
  replace g3 : 0 ≤ (sy_i F 33).toInt := by omega
  by_cases g4 : 400 < (sy_i F 33).toInt
  · have c33 := nz_bx hB (k := 33) (lo := 0) (hi := 400) rfl
    have q84 : (sy_ai F 39).getD (sy_i F 33).toNatClampNeg 0 = (sy_ai F 39).getD ((sy_i F 33).toInt).toNat 0 := by simp only [nz_c]
    have n84 : ((sy_ai F 39).getD (sy_i F 33).toNatClampNeg 0).toInt = ((sy_ai F 39).getD ((sy_i F 33).toInt).toNat 0).toInt := congrArg Int32.toInt q84
    exfalso
    omega
  replace g4 : (sy_i F 33).toInt ≤ 400 := by omega
  have c33 := nz_bx hB (k := 33) (lo := 0) (hi := 400) rfl
  have q84 : (sy_ai F 39).getD (sy_i F 33).toNatClampNeg 0 = (sy_ai F 39).getD ((sy_i F 33).toInt).toNat 0 := by simp only [nz_c]
  have n84 : ((sy_ai F 39).getD (sy_i F 33).toNatClampNeg 0).toInt = ((sy_ai F 39).getD ((sy_i F 33).toInt).toNat 0).toInt := congrArg Int32.toInt q84
  have q86 : ((sy_al F 41).getD (sy_i F 33).toNatClampNeg 0).toInt32 = ((sy_al F 41).getD ((sy_i F 33).toInt).toNat 0).toInt32 := by simp only [nz_c]
  have n86 : (((sy_al F 41).getD (sy_i F 33).toNatClampNeg 0).toInt32).toInt = (((sy_al F 41).getD ((sy_i F 33).toInt).toNat 0).toInt32).toInt := congrArg Int32.toInt q86
  exact k0pu_0_p7 hd F X1 X2 hB (by first | exact g0 | (simp only [nz_c]; exact g0)) (by first | exact g1 | (simp only [nz_c]; exact g1)) (by first | exact ⟨by omega, by omega⟩ | (simp only [nz_c]; exact ⟨by omega, by omega⟩)) (by first | exact g2 | (simp only [nz_c]; exact g2) | (rw [n84]; exact g2)) (by first | exact g3 | (simp only [nz_c]; exact g3)) (by first | exact g4 | (simp only [nz_c]; exact g4)) (by first | exact ⟨by omega, by omega⟩ | (simp only [nz_c]; exact ⟨by omega, by omega⟩)) (fun F1 g e82 e83 => k7 g0 g1 g2 g3 g4 F1 (nz_in0 hB [] (fun j hj hn => g j hj (by simp only [List.mem_cons, List.not_mem_nil, or_false, not_or] at hn; exact trivial)) (List.forall_mem_nil _)) (fun j hj hn => g j hj (by simp only [List.mem_cons, List.not_mem_nil, or_false, not_or] at hn; exact trivial)) (nz_fi (g 33 (by decide) (by decide))) (nz_fi (g 34 (by decide) (by decide))) (nz_fi (g 23 (by decide) (by decide))) (nz_fa (g 39 (by decide) (by decide))) (nz_fa (g 32 (by decide) (by decide))) ((congrArg Int32.toInt (zz_i e82)).trans n84) ((congrArg Int32.toInt (zz_i e83)).trans n86))
theorem k0zu_137 {Ls : Nat} {xs : Nat → Int32} {d : Nat} {Q : Option Value → jm_h → Prop} (hd : 4 ≤ d) (F : Nat → sy_d) (X1 X2 : List jm_c) (hB : iv_in F iv_B0)
    (k0 : (sy_i F 84).toInt = 0 → ∀ F1 : Nat → sy_d, iv_in F1 iv_B0 → (∀ j, j < 82 → j ∉ ([] : List Nat) → F1 j = F j) → (sy_i F1 33).toInt = (sy_i F 33).toInt → (sy_i F1 34).toInt = (sy_i F 34).toInt → (sy_i F1 23).toInt = (sy_i F 23).toInt → sy_ai F1 39 = sy_ai F 39 → sy_ai F1 32 = sy_ai F 32 → Q (some (.int ((0 : Int32)))) (sy_dh F1 X1 X2 (iv_H 0)))
    (k1 : (sy_i F 84).toInt ≠ 0 → 0 ≤ (sy_i F 33).toInt → (sy_i F 33).toInt ≤ 400 → ((sy_ai F 39).getD ((sy_i F 33).toInt).toNat 0).toInt = 41 → (sy_i F 33).toInt < 400 → ∀ F1 : Nat → sy_d, iv_in F1 iv_B0 → (∀ j, j < 82 → j ∉ ([33] : List Nat) → F1 j = F j) → (sy_i F1 33).toInt = ((sy_i F 33).toInt + 1) → (sy_i F1 34).toInt = (sy_i F 34).toInt → (sy_i F1 23).toInt = (sy_i F 23).toInt → sy_ai F1 39 = sy_ai F 39 → sy_ai F1 32 = sy_ai F 32 → Q (some (.int ((1 : Int32)))) (sy_dh F1 X1 X2 (iv_H 0)))
    (k2 : (sy_i F 84).toInt ≠ 0 → 0 ≤ (sy_i F 33).toInt → (sy_i F 33).toInt ≤ 400 → ((sy_ai F 39).getD ((sy_i F 33).toInt).toNat 0).toInt = 41 → 400 ≤ (sy_i F 33).toInt → ∀ F1 : Nat → sy_d, iv_in F1 iv_B0 → (∀ j, j < 82 → j ∉ ([34] : List Nat) → F1 j = F j) → (sy_i F1 33).toInt = (sy_i F 33).toInt → (sy_i F1 34).toInt = 2 → (sy_i F1 23).toInt = (sy_i F 23).toInt → sy_ai F1 39 = sy_ai F 39 → sy_ai F1 32 = sy_ai F 32 → Q (some (.int ((0 : Int32)))) (sy_dh F1 X1 X2 (iv_H 0)))
    (k3 : (sy_i F 84).toInt ≠ 0 → 0 ≤ (sy_i F 33).toInt → (sy_i F 33).toInt ≤ 400 → ((sy_ai F 39).getD ((sy_i F 33).toInt).toNat 0).toInt ≠ 41 → ∀ F1 : Nat → sy_d, iv_in F1 iv_B0 → (∀ j, j < 82 → j ∉ ([34] : List Nat) → F1 j = F j) → (sy_i F1 33).toInt = (sy_i F 33).toInt → (sy_i F1 34).toInt = 1 → (sy_i F1 23).toInt = (sy_i F 23).toInt → sy_ai F1 39 = sy_ai F 39 → sy_ai F1 32 = sy_ai F 32 → Q (some (.int ((0 : Int32)))) (sy_dh F1 X1 X2 (iv_H 0))) :
    hd_W Ls xs d jm_M40 Q (137, sy_dL F [some (.inl (.ref 30)), none, none, none, none], sy_dS F [.inr (.inl 84)], sy_dh F X1 X2 (iv_H 0), 0, 0) := by
  by_cases g0 : (sy_i F 84).toInt = 0
  · exact k0pu_137_p0 hd F X1 X2 hB (by first | exact g0 | (simp only [nz_c]; exact g0)) (fun F1 g  => k0 g0 F1 (nz_in0 hB [] (fun j hj hn => g j hj (by simp only [List.mem_cons, List.not_mem_nil, or_false, not_or] at hn; exact trivial)) (List.forall_mem_nil _)) (fun j hj hn => g j hj (by simp only [List.mem_cons, List.not_mem_nil, or_false, not_or] at hn; exact trivial)) (nz_fi (g 33 (by decide) (by decide))) (nz_fi (g 34 (by decide) (by decide))) (nz_fi (g 23 (by decide) (by decide))) (nz_fa (g 39 (by decide) (by decide))) (nz_fa (g 32 (by decide) (by decide))))
  replace g0 : (sy_i F 84).toInt ≠ 0 := by omega
  by_cases g1 : (sy_i F 33).toInt < 0
  · have c33 := nz_bx hB (k := 33) (lo := 0) (hi := 400) rfl
    exfalso
    omega
  replace g1 : 0 ≤ (sy_i F 33).toInt := by omega
  by_cases g2 : 400 < (sy_i F 33).toInt
  · have c33 := nz_bx hB (k := 33) (lo := 0) (hi := 400) rfl
    exfalso
    omega
  replace g2 : (sy_i F 33).toInt ≤ 400 := by omega
  by_cases g3 : ((sy_ai F 39).getD ((sy_i F 33).toInt).toNat 0).toInt = 41
  · by_cases g4 : (sy_i F 33).toInt < 400
    · have c33 := nz_bx hB (k := 33) (lo := 0) (hi := 400) rfl
      have q85 : (sy_ai F 39).getD (sy_i F 33).toNatClampNeg 0 = (sy_ai F 39).getD ((sy_i F 33).toInt).toNat 0 := by simp only [nz_c]
      have n85 : ((sy_ai F 39).getD (sy_i F 33).toNatClampNeg 0).toInt = ((sy_ai F 39).getD ((sy_i F 33).toInt).toNat 0).toInt := congrArg Int32.toInt q85
      have n86 : ((sy_i F 33) + ((1 : Int32))).toInt = ((sy_i F 33).toInt + 1) := nz_add (rfl : (sy_i F 33).toInt = (sy_i F 33).toInt) (by decide : ((1 : Int32)).toInt = 1) (by omega) (by omega)
      exact k0pu_137_p1 hd F X1 X2 hB (by first | exact g0 | (simp only [nz_c]; exact g0)) (by first | exact g1 | (simp only [nz_c]; exact g1)) (by first | exact g2 | (simp only [nz_c]; exact g2)) (by first | exact ⟨by omega, by omega⟩ | (simp only [nz_c]; exact ⟨by omega, by omega⟩)) (by first | exact g3 | (simp only [nz_c]; exact g3) | (rw [n85]; exact g3)) (by first | exact g4 | (simp only [nz_c]; exact g4)) (fun F1 g e33 => k1 g0 g1 g2 g3 g4 F1 (nz_in0 hB [33] (fun j hj hn => g j hj (by simp only [List.mem_cons, List.not_mem_nil, or_false, not_or] at hn; omega)) (List.forall_mem_cons.mpr ⟨fun t ht => (Option.some.inj ht) ▸ (nz_hi e33 n86 (by omega) (by omega)), List.forall_mem_nil _⟩)) (fun j hj hn => g j hj (by simp only [List.mem_cons, List.not_mem_nil, or_false, not_or] at hn; omega)) ((congrArg Int32.toInt (zz_i e33)).trans n86) (nz_fi (g 34 (by decide) (by decide))) (nz_fi (g 23 (by decide) (by decide))) (nz_fa (g 39 (by decide) (by decide))) (nz_fa (g 32 (by decide) (by decide))))
    replace g4 : 400 ≤ (sy_i F 33).toInt := by omega
    have c33 := nz_bx hB (k := 33) (lo := 0) (hi := 400) rfl
    have q85 : (sy_ai F 39).getD (sy_i F 33).toNatClampNeg 0 = (sy_ai F 39).getD ((sy_i F 33).toInt).toNat 0 := by simp only [nz_c]
    have n85 : ((sy_ai F 39).getD (sy_i F 33).toNatClampNeg 0).toInt = ((sy_ai F 39).getD ((sy_i F 33).toInt).toNat 0).toInt := congrArg Int32.toInt q85
    exact k0pu_137_p2 hd F X1 X2 hB (by first | exact g0 | (simp only [nz_c]; exact g0)) (by first | exact g1 | (simp only [nz_c]; exact g1)) (by first | exact g2 | (simp only [nz_c]; exact g2)) (by first | exact ⟨by omega, by omega⟩ | (simp only [nz_c]; exact ⟨by omega, by omega⟩)) (by first | exact g3 | (simp only [nz_c]; exact g3) | (rw [n85]; exact g3)) (by first | exact g4 | (simp only [nz_c]; exact g4)) (fun F1 g e34 => k2 g0 g1 g2 g3 g4 F1 (nz_in0 hB [34] (fun j hj hn => g j hj (by simp only [List.mem_cons, List.not_mem_nil, or_false, not_or] at hn; omega)) (List.forall_mem_cons.mpr ⟨fun t ht => (Option.some.inj ht) ▸ (nz_hz e34), List.forall_mem_nil _⟩)) (fun j hj hn => g j hj (by simp only [List.mem_cons, List.not_mem_nil, or_false, not_or] at hn; omega)) (nz_fi (g 33 (by decide) (by decide))) ((congrArg Int32.toInt (zz_i e34)).trans (by decide : ((2 : Int32)).toInt = 2)) (nz_fi (g 23 (by decide) (by decide))) (nz_fa (g 39 (by decide) (by decide))) (nz_fa (g 32 (by decide) (by decide))))
  replace g3 : ((sy_ai F 39).getD ((sy_i F 33).toInt).toNat 0).toInt ≠ 41 := by omega
  have c33 := nz_bx hB (k := 33) (lo := 0) (hi := 400) rfl
  have q85 : (sy_ai F 39).getD (sy_i F 33).toNatClampNeg 0 = (sy_ai F 39).getD ((sy_i F 33).toInt).toNat 0 := by simp only [nz_c]
  have n85 : ((sy_ai F 39).getD (sy_i F 33).toNatClampNeg 0).toInt = ((sy_ai F 39).getD ((sy_i F 33).toInt).toNat 0).toInt := congrArg Int32.toInt q85
  exact k0pu_137_p3 hd F X1 X2 hB (by first | exact g0 | (simp only [nz_c]; exact g0)) (by first | exact g1 | (simp only [nz_c]; exact g1)) (by first | exact g2 | (simp only [nz_c]; exact g2)) (by first | exact ⟨by omega, by omega⟩ | (simp only [nz_c]; exact ⟨by omega, by omega⟩)) (by first | exact g3 | (simp only [nz_c]; exact g3) | (rw [n85]; exact g3)) (fun F1 g e34 => k3 g0 g1 g2 g3 F1 (nz_in0 hB [34] (fun j hj hn => g j hj (by simp only [List.mem_cons, List.not_mem_nil, or_false, not_or] at hn; omega)) (List.forall_mem_cons.mpr ⟨fun t ht => (Option.some.inj ht) ▸ (nz_hz e34), List.forall_mem_nil _⟩)) (fun j hj hn => g j hj (by simp only [List.mem_cons, List.not_mem_nil, or_false, not_or] at hn; omega)) (nz_fi (g 33 (by decide) (by decide))) ((congrArg Int32.toInt (zz_i e34)).trans (by decide : ((1 : Int32)).toInt = 1)) (nz_fi (g 23 (by decide) (by decide))) (nz_fa (g 39 (by decide) (by decide))) (nz_fa (g 32 (by decide) (by decide))))
theorem k0zu_34 {Ls : Nat} {xs : Nat → Int32} {d : Nat} {Q : Option Value → jm_h → Prop} (hd : 4 ≤ d) (F : Nat → sy_d) (X1 X2 : List jm_c) (hB : iv_in F iv_B0)
    (a83 : (-100) ≤ (sy_i F 83).toInt ∧ (sy_i F 83).toInt ≤ 9999)
    (k0 : 512 ≤ (sy_i F 23).toInt → 0 ≤ (sy_i F 33).toInt → (sy_i F 33).toInt ≤ 400 → ((sy_ai F 39).getD ((sy_i F 33).toInt).toNat 0).toInt = (sy_i F 82).toInt → (sy_i F 33).toInt < 400 → ∀ F1 : Nat → sy_d, iv_in F1 iv_B0 → (∀ j, j < 82 → j ∉ ([33] : List Nat) → F1 j = F j) → (sy_i F1 33).toInt = ((sy_i F 33).toInt + 1) → (sy_i F1 34).toInt = (sy_i F 34).toInt → (sy_i F1 23).toInt = (sy_i F 23).toInt → sy_ai F1 39 = sy_ai F 39 → sy_ai F1 32 = sy_ai F 32 → Q (some (.int ((1 : Int32)))) (sy_dh F1 X1 X2 (iv_H 0)))
    (k1 : 512 ≤ (sy_i F 23).toInt → 0 ≤ (sy_i F 33).toInt → (sy_i F 33).toInt ≤ 400 → ((sy_ai F 39).getD ((sy_i F 33).toInt).toNat 0).toInt = (sy_i F 82).toInt → 400 ≤ (sy_i F 33).toInt → ∀ F1 : Nat → sy_d, iv_in F1 iv_B0 → (∀ j, j < 82 → j ∉ ([34] : List Nat) → F1 j = F j) → (sy_i F1 33).toInt = (sy_i F 33).toInt → (sy_i F1 34).toInt = 2 → (sy_i F1 23).toInt = (sy_i F 23).toInt → sy_ai F1 39 = sy_ai F 39 → sy_ai F1 32 = sy_ai F 32 → Q (some (.int ((0 : Int32)))) (sy_dh F1 X1 X2 (iv_H 0)))
    (k2 : 512 ≤ (sy_i F 23).toInt → 0 ≤ (sy_i F 33).toInt → (sy_i F 33).toInt ≤ 400 → ((sy_ai F 39).getD ((sy_i F 33).toInt).toNat 0).toInt ≠ (sy_i F 82).toInt → ∀ F1 : Nat → sy_d, iv_in F1 iv_B0 → (∀ j, j < 82 → j ∉ ([34] : List Nat) → F1 j = F j) → (sy_i F1 33).toInt = (sy_i F 33).toInt → (sy_i F1 34).toInt = 1 → (sy_i F1 23).toInt = (sy_i F 23).toInt → sy_ai F1 39 = sy_ai F 39 → sy_ai F1 32 = sy_ai F 32 → Q (some (.int ((0 : Int32)))) (sy_dh F1 X1 X2 (iv_H 0)))
    (k3 : (sy_i F 23).toInt < 512 → 0 ≤ (sy_i F 33).toInt → (sy_i F 33).toInt ≤ 400 → ((sy_ai F 39).getD ((sy_i F 33).toInt).toNat 0).toInt = (sy_i F 82).toInt → (sy_i F 33).toInt < 400 → ∀ F1 : Nat → sy_d, iv_in F1 iv_B0 → (∀ j, j < 82 → j ∉ ([23, 32, 33] : List Nat) → F1 j = F j) → (sy_i F1 33).toInt = ((sy_i F 33).toInt + 1) → (sy_i F1 34).toInt = (sy_i F 34).toInt → (sy_i F1 23).toInt = ((sy_i F 23).toInt + 1) → sy_ai F1 39 = sy_ai F 39 → sy_ai F1 32 = jm_upd (sy_ai F 32) ((sy_i F 23).toInt).toNat (sy_i F 83) → Q (some (.int ((1 : Int32)))) (sy_dh F1 X1 X2 (iv_H 0)))
    (k4 : (sy_i F 23).toInt < 512 → 0 ≤ (sy_i F 33).toInt → (sy_i F 33).toInt ≤ 400 → ((sy_ai F 39).getD ((sy_i F 33).toInt).toNat 0).toInt = (sy_i F 82).toInt → 400 ≤ (sy_i F 33).toInt → ∀ F1 : Nat → sy_d, iv_in F1 iv_B0 → (∀ j, j < 82 → j ∉ ([23, 32, 34] : List Nat) → F1 j = F j) → (sy_i F1 33).toInt = (sy_i F 33).toInt → (sy_i F1 34).toInt = 2 → (sy_i F1 23).toInt = ((sy_i F 23).toInt + 1) → sy_ai F1 39 = sy_ai F 39 → sy_ai F1 32 = jm_upd (sy_ai F 32) ((sy_i F 23).toInt).toNat (sy_i F 83) → Q (some (.int ((0 : Int32)))) (sy_dh F1 X1 X2 (iv_H 0)))
    (k5 : (sy_i F 23).toInt < 512 → 0 ≤ (sy_i F 33).toInt → (sy_i F 33).toInt ≤ 400 → ((sy_ai F 39).getD ((sy_i F 33).toInt).toNat 0).toInt ≠ (sy_i F 82).toInt → ∀ F1 : Nat → sy_d, iv_in F1 iv_B0 → (∀ j, j < 82 → j ∉ ([23, 32, 34] : List Nat) → F1 j = F j) → (sy_i F1 33).toInt = (sy_i F 33).toInt → (sy_i F1 34).toInt = 1 → (sy_i F1 23).toInt = ((sy_i F 23).toInt + 1) → sy_ai F1 39 = sy_ai F 39 → sy_ai F1 32 = jm_upd (sy_ai F 32) ((sy_i F 23).toInt).toNat (sy_i F 83) → Q (some (.int ((0 : Int32)))) (sy_dh F1 X1 X2 (iv_H 0))) :
    hd_W Ls xs d jm_M40 Q (34, sy_dL F [some (.inl (.ref 30)), none, none, some (.inr (.inl 82)), none], sy_dS F [.inr (.inl 83), .inl (.ref 20)], sy_dh F X1 X2 (iv_H 0), 0, 0) := by
  by_cases g0 : 512 ≤ (sy_i F 23).toInt
  · by_cases g1 : (sy_i F 33).toInt < 0
    · have c23 := nz_bx hB (k := 23) (lo := 0) (hi := 512) rfl
      have c33 := nz_bx hB (k := 33) (lo := 0) (hi := 400) rfl
      exfalso
      omega
    replace g1 : 0 ≤ (sy_i F 33).toInt := by omega
    by_cases g2 : 400 < (sy_i F 33).toInt
    · have c23 := nz_bx hB (k := 23) (lo := 0) (hi := 512) rfl
      have c33 := nz_bx hB (k := 33) (lo := 0) (hi := 400) rfl
      exfalso
      omega
    replace g2 : (sy_i F 33).toInt ≤ 400 := by omega
    by_cases g3 : ((sy_ai F 39).getD ((sy_i F 33).toInt).toNat 0).toInt = (sy_i F 82).toInt
    · by_cases g4 : (sy_i F 33).toInt < 400
      · have c23 := nz_bx hB (k := 23) (lo := 0) (hi := 512) rfl
        have c33 := nz_bx hB (k := 33) (lo := 0) (hi := 400) rfl
        have q84 : (sy_ai F 39).getD (sy_i F 33).toNatClampNeg 0 = (sy_ai F 39).getD ((sy_i F 33).toInt).toNat 0 := by simp only [nz_c]
        have n84 : ((sy_ai F 39).getD (sy_i F 33).toNatClampNeg 0).toInt = ((sy_ai F 39).getD ((sy_i F 33).toInt).toNat 0).toInt := congrArg Int32.toInt q84
        have n85 : ((sy_i F 33) + ((1 : Int32))).toInt = ((sy_i F 33).toInt + 1) := nz_add (rfl : (sy_i F 33).toInt = (sy_i F 33).toInt) (by decide : ((1 : Int32)).toInt = 1) (by omega) (by omega)
        exact k0pu_34_p0 hd F X1 X2 hB (by first | exact g0 | (simp only [nz_c]; exact g0)) (by first | exact g1 | (simp only [nz_c]; exact g1)) (by first | exact g2 | (simp only [nz_c]; exact g2)) (by first | exact ⟨by omega, by omega⟩ | (simp only [nz_c]; exact ⟨by omega, by omega⟩)) (by first | exact g3 | (simp only [nz_c]; exact g3) | (rw [n84]; exact g3)) (by first | exact g4 | (simp only [nz_c]; exact g4)) (fun F1 g e33 => k0 g0 g1 g2 g3 g4 F1 (nz_in0 hB [33] (fun j hj hn => g j hj (by simp only [List.mem_cons, List.not_mem_nil, or_false, not_or] at hn; omega)) (List.forall_mem_cons.mpr ⟨fun t ht => (Option.some.inj ht) ▸ (nz_hi e33 n85 (by omega) (by omega)), List.forall_mem_nil _⟩)) (fun j hj hn => g j hj (by simp only [List.mem_cons, List.not_mem_nil, or_false, not_or] at hn; omega)) ((congrArg Int32.toInt (zz_i e33)).trans n85) (nz_fi (g 34 (by decide) (by decide))) (nz_fi (g 23 (by decide) (by decide))) (nz_fa (g 39 (by decide) (by decide))) (nz_fa (g 32 (by decide) (by decide))))
      replace g4 : 400 ≤ (sy_i F 33).toInt := by omega
      have c23 := nz_bx hB (k := 23) (lo := 0) (hi := 512) rfl
      have c33 := nz_bx hB (k := 33) (lo := 0) (hi := 400) rfl
      have q84 : (sy_ai F 39).getD (sy_i F 33).toNatClampNeg 0 = (sy_ai F 39).getD ((sy_i F 33).toInt).toNat 0 := by simp only [nz_c]
      have n84 : ((sy_ai F 39).getD (sy_i F 33).toNatClampNeg 0).toInt = ((sy_ai F 39).getD ((sy_i F 33).toInt).toNat 0).toInt := congrArg Int32.toInt q84
      exact k0pu_34_p1 hd F X1 X2 hB (by first | exact g0 | (simp only [nz_c]; exact g0)) (by first | exact g1 | (simp only [nz_c]; exact g1)) (by first | exact g2 | (simp only [nz_c]; exact g2)) (by first | exact ⟨by omega, by omega⟩ | (simp only [nz_c]; exact ⟨by omega, by omega⟩)) (by first | exact g3 | (simp only [nz_c]; exact g3) | (rw [n84]; exact g3)) (by first | exact g4 | (simp only [nz_c]; exact g4)) (fun F1 g e34 => k1 g0 g1 g2 g3 g4 F1 (nz_in0 hB [34] (fun j hj hn => g j hj (by simp only [List.mem_cons, List.not_mem_nil, or_false, not_or] at hn; omega)) (List.forall_mem_cons.mpr ⟨fun t ht => (Option.some.inj ht) ▸ (nz_hz e34), List.forall_mem_nil _⟩)) (fun j hj hn => g j hj (by simp only [List.mem_cons, List.not_mem_nil, or_false, not_or] at hn; omega)) (nz_fi (g 33 (by decide) (by decide))) ((congrArg Int32.toInt (zz_i e34)).trans (by decide : ((2 : Int32)).toInt = 2)) (nz_fi (g 23 (by decide) (by decide))) (nz_fa (g 39 (by decide) (by decide))) (nz_fa (g 32 (by decide) (by decide))))
    replace g3 : ((sy_ai F 39).getD ((sy_i F 33).toInt).toNat 0).toInt ≠ (sy_i F 82).toInt := by omega
    have c23 := nz_bx hB (k := 23) (lo := 0) (hi := 512) rfl
    have c33 := nz_bx hB (k := 33) (lo := 0) (hi := 400) rfl
    have q84 : (sy_ai F 39).getD (sy_i F 33).toNatClampNeg 0 = (sy_ai F 39).getD ((sy_i F 33).toInt).toNat 0 := by simp only [nz_c]
    have n84 : ((sy_ai F 39).getD (sy_i F 33).toNatClampNeg 0).toInt = ((sy_ai F 39).getD ((sy_i F 33).toInt).toNat 0).toInt := congrArg Int32.toInt q84
    exact k0pu_34_p2 hd F X1 X2 hB (by first | exact g0 | (simp only [nz_c]; exact g0)) (by first | exact g1 | (simp only [nz_c]; exact g1)) (by first | exact g2 | (simp only [nz_c]; exact g2)) (by first | exact ⟨by omega, by omega⟩ | (simp only [nz_c]; exact ⟨by omega, by omega⟩)) (by first | exact g3 | (simp only [nz_c]; exact g3) | (rw [n84]; exact g3)) (fun F1 g e34 => k2 g0 g1 g2 g3 F1 (nz_in0 hB [34] (fun j hj hn => g j hj (by simp only [List.mem_cons, List.not_mem_nil, or_false, not_or] at hn; omega)) (List.forall_mem_cons.mpr ⟨fun t ht => (Option.some.inj ht) ▸ (nz_hz e34), List.forall_mem_nil _⟩)) (fun j hj hn => g j hj (by simp only [List.mem_cons, List.not_mem_nil, or_false, not_or] at hn; omega)) (nz_fi (g 33 (by decide) (by decide))) ((congrArg Int32.toInt (zz_i e34)).trans (by decide : ((1 : Int32)).toInt = 1)) (nz_fi (g 23 (by decide) (by decide))) (nz_fa (g 39 (by decide) (by decide))) (nz_fa (g 32 (by decide) (by decide))))
  replace g0 : (sy_i F 23).toInt < 512 := by omega
  by_cases g1 : (sy_i F 33).toInt < 0
  · have c23 := nz_bx hB (k := 23) (lo := 0) (hi := 512) rfl
    have c33 := nz_bx hB (k := 33) (lo := 0) (hi := 400) rfl
    exfalso
    omega
  replace g1 : 0 ≤ (sy_i F 33).toInt := by omega
  by_cases g2 : 400 < (sy_i F 33).toInt
  · have c23 := nz_bx hB (k := 23) (lo := 0) (hi := 512) rfl
    have c33 := nz_bx hB (k := 33) (lo := 0) (hi := 400) rfl
    exfalso
    omega
  replace g2 : (sy_i F 33).toInt ≤ 400 := by omega
  by_cases g3 : ((sy_ai F 39).getD ((sy_i F 33).toInt).toNat 0).toInt = (sy_i F 82).toInt
  · by_cases g4 : (sy_i F 33).toInt < 400
    · have c23 := nz_bx hB (k := 23) (lo := 0) (hi := 512) rfl
      have c33 := nz_bx hB (k := 33) (lo := 0) (hi := 400) rfl
      have q86 : (sy_ai F 39).getD (sy_i F 33).toNatClampNeg 0 = (sy_ai F 39).getD ((sy_i F 33).toInt).toNat 0 := by simp only [nz_c]
      have n86 : ((sy_ai F 39).getD (sy_i F 33).toNatClampNeg 0).toInt = ((sy_ai F 39).getD ((sy_i F 33).toInt).toNat 0).toInt := congrArg Int32.toInt q86
      have n85 : ((sy_i F 23) + ((1 : Int32))).toInt = ((sy_i F 23).toInt + 1) := nz_add (rfl : (sy_i F 23).toInt = (sy_i F 23).toInt) (by decide : ((1 : Int32)).toInt = 1) (by omega) (by omega)
      have n87 : ((sy_i F 33) + ((1 : Int32))).toInt = ((sy_i F 33).toInt + 1) := nz_add (rfl : (sy_i F 33).toInt = (sy_i F 33).toInt) (by decide : ((1 : Int32)).toInt = 1) (by omega) (by omega)
      have w84 : jm_upd (sy_ai F 32) (sy_i F 23).toNatClampNeg (sy_i F 83) = jm_upd (sy_ai F 32) ((sy_i F 23).toInt).toNat (sy_i F 83) := by simp only [nz_c]
      exact k0pu_34_p3 hd F X1 X2 hB (by first | exact g0 | (simp only [nz_c]; exact g0)) (by first | exact ⟨by omega, by omega⟩ | (simp only [nz_c]; exact ⟨by omega, by omega⟩)) (by first | exact g1 | (simp only [nz_c]; exact g1)) (by first | exact g2 | (simp only [nz_c]; exact g2)) (by first | exact ⟨by omega, by omega⟩ | (simp only [nz_c]; exact ⟨by omega, by omega⟩)) (by first | exact g3 | (simp only [nz_c]; exact g3) | (rw [n86]; exact g3)) (by first | exact g4 | (simp only [nz_c]; exact g4)) (fun F1 g e23 e32 e33 => k3 g0 g1 g2 g3 g4 F1 (nz_in0 hB [23, 32, 33] (fun j hj hn => g j hj (by simp only [List.mem_cons, List.not_mem_nil, or_false, not_or] at hn; omega)) (List.forall_mem_cons.mpr ⟨fun t ht => (Option.some.inj ht) ▸ (nz_hi e23 n85 (by omega) (by omega)), List.forall_mem_cons.mpr ⟨fun t ht => (Option.some.inj ht) ▸ (nz_hA e32 (nz_up (nz_ba hB (k := 32) (lo := (-2147483648)) (hi := 2147483646) rfl) (rfl : (sy_i F 83).toInt = (sy_i F 83).toInt) (by omega) (by omega))), List.forall_mem_cons.mpr ⟨fun t ht => (Option.some.inj ht) ▸ (nz_hi e33 n87 (by omega) (by omega)), List.forall_mem_nil _⟩⟩⟩)) (fun j hj hn => g j hj (by simp only [List.mem_cons, List.not_mem_nil, or_false, not_or] at hn; omega)) ((congrArg Int32.toInt (zz_i e33)).trans n87) (nz_fi (g 34 (by decide) (by decide))) ((congrArg Int32.toInt (zz_i e23)).trans n85) (nz_fa (g 39 (by decide) (by decide))) ((zz_ai e32).trans w84))
    replace g4 : 400 ≤ (sy_i F 33).toInt := by omega
    have c23 := nz_bx hB (k := 23) (lo := 0) (hi := 512) rfl
    have c33 := nz_bx hB (k := 33) (lo := 0) (hi := 400) rfl
    have q86 : (sy_ai F 39).getD (sy_i F 33).toNatClampNeg 0 = (sy_ai F 39).getD ((sy_i F 33).toInt).toNat 0 := by simp only [nz_c]
    have n86 : ((sy_ai F 39).getD (sy_i F 33).toNatClampNeg 0).toInt = ((sy_ai F 39).getD ((sy_i F 33).toInt).toNat 0).toInt := congrArg Int32.toInt q86
    have n85 : ((sy_i F 23) + ((1 : Int32))).toInt = ((sy_i F 23).toInt + 1) := nz_add (rfl : (sy_i F 23).toInt = (sy_i F 23).toInt) (by decide : ((1 : Int32)).toInt = 1) (by omega) (by omega)
    have w84 : jm_upd (sy_ai F 32) (sy_i F 23).toNatClampNeg (sy_i F 83) = jm_upd (sy_ai F 32) ((sy_i F 23).toInt).toNat (sy_i F 83) := by simp only [nz_c]
    exact k0pu_34_p4 hd F X1 X2 hB (by first | exact g0 | (simp only [nz_c]; exact g0)) (by first | exact ⟨by omega, by omega⟩ | (simp only [nz_c]; exact ⟨by omega, by omega⟩)) (by first | exact g1 | (simp only [nz_c]; exact g1)) (by first | exact g2 | (simp only [nz_c]; exact g2)) (by first | exact ⟨by omega, by omega⟩ | (simp only [nz_c]; exact ⟨by omega, by omega⟩)) (by first | exact g3 | (simp only [nz_c]; exact g3) | (rw [n86]; exact g3)) (by first | exact g4 | (simp only [nz_c]; exact g4)) (fun F1 g e23 e32 e34 => k4 g0 g1 g2 g3 g4 F1 (nz_in0 hB [23, 32, 34] (fun j hj hn => g j hj (by simp only [List.mem_cons, List.not_mem_nil, or_false, not_or] at hn; omega)) (List.forall_mem_cons.mpr ⟨fun t ht => (Option.some.inj ht) ▸ (nz_hi e23 n85 (by omega) (by omega)), List.forall_mem_cons.mpr ⟨fun t ht => (Option.some.inj ht) ▸ (nz_hA e32 (nz_up (nz_ba hB (k := 32) (lo := (-2147483648)) (hi := 2147483646) rfl) (rfl : (sy_i F 83).toInt = (sy_i F 83).toInt) (by omega) (by omega))), List.forall_mem_cons.mpr ⟨fun t ht => (Option.some.inj ht) ▸ (nz_hz e34), List.forall_mem_nil _⟩⟩⟩)) (fun j hj hn => g j hj (by simp only [List.mem_cons, List.not_mem_nil, or_false, not_or] at hn; omega)) (nz_fi (g 33 (by decide) (by decide))) ((congrArg Int32.toInt (zz_i e34)).trans (by decide : ((2 : Int32)).toInt = 2)) ((congrArg Int32.toInt (zz_i e23)).trans n85) (nz_fa (g 39 (by decide) (by decide))) ((zz_ai e32).trans w84))
  replace g3 : ((sy_ai F 39).getD ((sy_i F 33).toInt).toNat 0).toInt ≠ (sy_i F 82).toInt := by omega
  have c23 := nz_bx hB (k := 23) (lo := 0) (hi := 512) rfl
  have c33 := nz_bx hB (k := 33) (lo := 0) (hi := 400) rfl
  have q86 : (sy_ai F 39).getD (sy_i F 33).toNatClampNeg 0 = (sy_ai F 39).getD ((sy_i F 33).toInt).toNat 0 := by simp only [nz_c]
  have n86 : ((sy_ai F 39).getD (sy_i F 33).toNatClampNeg 0).toInt = ((sy_ai F 39).getD ((sy_i F 33).toInt).toNat 0).toInt := congrArg Int32.toInt q86
  have n85 : ((sy_i F 23) + ((1 : Int32))).toInt = ((sy_i F 23).toInt + 1) := nz_add (rfl : (sy_i F 23).toInt = (sy_i F 23).toInt) (by decide : ((1 : Int32)).toInt = 1) (by omega) (by omega)
  have w84 : jm_upd (sy_ai F 32) (sy_i F 23).toNatClampNeg (sy_i F 83) = jm_upd (sy_ai F 32) ((sy_i F 23).toInt).toNat (sy_i F 83) := by simp only [nz_c]
  exact k0pu_34_p5 hd F X1 X2 hB (by first | exact g0 | (simp only [nz_c]; exact g0)) (by first | exact ⟨by omega, by omega⟩ | (simp only [nz_c]; exact ⟨by omega, by omega⟩)) (by first | exact g1 | (simp only [nz_c]; exact g1)) (by first | exact g2 | (simp only [nz_c]; exact g2)) (by first | exact ⟨by omega, by omega⟩ | (simp only [nz_c]; exact ⟨by omega, by omega⟩)) (by first | exact g3 | (simp only [nz_c]; exact g3) | (rw [n86]; exact g3)) (fun F1 g e23 e32 e34 => k5 g0 g1 g2 g3 F1 (nz_in0 hB [23, 32, 34] (fun j hj hn => g j hj (by simp only [List.mem_cons, List.not_mem_nil, or_false, not_or] at hn; omega)) (List.forall_mem_cons.mpr ⟨fun t ht => (Option.some.inj ht) ▸ (nz_hi e23 n85 (by omega) (by omega)), List.forall_mem_cons.mpr ⟨fun t ht => (Option.some.inj ht) ▸ (nz_hA e32 (nz_up (nz_ba hB (k := 32) (lo := (-2147483648)) (hi := 2147483646) rfl) (rfl : (sy_i F 83).toInt = (sy_i F 83).toInt) (by omega) (by omega))), List.forall_mem_cons.mpr ⟨fun t ht => (Option.some.inj ht) ▸ (nz_hz e34), List.forall_mem_nil _⟩⟩⟩)) (fun j hj hn => g j hj (by simp only [List.mem_cons, List.not_mem_nil, or_false, not_or] at hn; omega)) (nz_fi (g 33 (by decide) (by decide))) ((congrArg Int32.toInt (zz_i e34)).trans (by decide : ((1 : Int32)).toInt = 1)) ((congrArg Int32.toInt (zz_i e23)).trans n85) (nz_fa (g 39 (by decide) (by decide))) ((zz_ai e32).trans w84))
theorem k0zu_88 {Ls : Nat} {xs : Nat → Int32} {d : Nat} {Q : Option Value → jm_h → Prop} (hd : 4 ≤ d) (F : Nat → sy_d) (X1 X2 : List jm_c) (hB : iv_in F iv_B0)
    (a83 : (-100) ≤ (sy_i F 83).toInt ∧ (sy_i F 83).toInt ≤ 9999)
    (k0 : 512 ≤ (sy_i F 23).toInt → 0 ≤ (sy_i F 33).toInt → (sy_i F 33).toInt ≤ 400 → ((sy_ai F 39).getD ((sy_i F 33).toInt).toNat 0).toInt = (sy_i F 82).toInt → (sy_i F 33).toInt < 400 → ∀ F1 : Nat → sy_d, iv_in F1 iv_B0 → (∀ j, j < 82 → j ∉ ([33] : List Nat) → F1 j = F j) → (sy_i F1 33).toInt = ((sy_i F 33).toInt + 1) → (sy_i F1 34).toInt = (sy_i F 34).toInt → (sy_i F1 23).toInt = (sy_i F 23).toInt → sy_ai F1 39 = sy_ai F 39 → sy_ai F1 32 = sy_ai F 32 → Q (some (.int ((1 : Int32)))) (sy_dh F1 X1 X2 (iv_H 0)))
    (k1 : 512 ≤ (sy_i F 23).toInt → 0 ≤ (sy_i F 33).toInt → (sy_i F 33).toInt ≤ 400 → ((sy_ai F 39).getD ((sy_i F 33).toInt).toNat 0).toInt = (sy_i F 82).toInt → 400 ≤ (sy_i F 33).toInt → ∀ F1 : Nat → sy_d, iv_in F1 iv_B0 → (∀ j, j < 82 → j ∉ ([34] : List Nat) → F1 j = F j) → (sy_i F1 33).toInt = (sy_i F 33).toInt → (sy_i F1 34).toInt = 2 → (sy_i F1 23).toInt = (sy_i F 23).toInt → sy_ai F1 39 = sy_ai F 39 → sy_ai F1 32 = sy_ai F 32 → Q (some (.int ((0 : Int32)))) (sy_dh F1 X1 X2 (iv_H 0)))
    (k2 : 512 ≤ (sy_i F 23).toInt → 0 ≤ (sy_i F 33).toInt → (sy_i F 33).toInt ≤ 400 → ((sy_ai F 39).getD ((sy_i F 33).toInt).toNat 0).toInt ≠ (sy_i F 82).toInt → ∀ F1 : Nat → sy_d, iv_in F1 iv_B0 → (∀ j, j < 82 → j ∉ ([34] : List Nat) → F1 j = F j) → (sy_i F1 33).toInt = (sy_i F 33).toInt → (sy_i F1 34).toInt = 1 → (sy_i F1 23).toInt = (sy_i F 23).toInt → sy_ai F1 39 = sy_ai F 39 → sy_ai F1 32 = sy_ai F 32 → Q (some (.int ((0 : Int32)))) (sy_dh F1 X1 X2 (iv_H 0)))
    (k3 : (sy_i F 23).toInt < 512 → 0 ≤ (sy_i F 33).toInt → (sy_i F 33).toInt ≤ 400 → ((sy_ai F 39).getD ((sy_i F 33).toInt).toNat 0).toInt = (sy_i F 82).toInt → (sy_i F 33).toInt < 400 → ∀ F1 : Nat → sy_d, iv_in F1 iv_B0 → (∀ j, j < 82 → j ∉ ([23, 32, 33] : List Nat) → F1 j = F j) → (sy_i F1 33).toInt = ((sy_i F 33).toInt + 1) → (sy_i F1 34).toInt = (sy_i F 34).toInt → (sy_i F1 23).toInt = ((sy_i F 23).toInt + 1) → sy_ai F1 39 = sy_ai F 39 → sy_ai F1 32 = jm_upd (sy_ai F 32) ((sy_i F 23).toInt).toNat (sy_i F 83) → Q (some (.int ((1 : Int32)))) (sy_dh F1 X1 X2 (iv_H 0)))
    (k4 : (sy_i F 23).toInt < 512 → 0 ≤ (sy_i F 33).toInt → (sy_i F 33).toInt ≤ 400 → ((sy_ai F 39).getD ((sy_i F 33).toInt).toNat 0).toInt = (sy_i F 82).toInt → 400 ≤ (sy_i F 33).toInt → ∀ F1 : Nat → sy_d, iv_in F1 iv_B0 → (∀ j, j < 82 → j ∉ ([23, 32, 34] : List Nat) → F1 j = F j) → (sy_i F1 33).toInt = (sy_i F 33).toInt → (sy_i F1 34).toInt = 2 → (sy_i F1 23).toInt = ((sy_i F 23).toInt + 1) → sy_ai F1 39 = sy_ai F 39 → sy_ai F1 32 = jm_upd (sy_ai F 32) ((sy_i F 23).toInt).toNat (sy_i F 83) → Q (some (.int ((0 : Int32)))) (sy_dh F1 X1 X2 (iv_H 0)))
    (k5 : (sy_i F 23).toInt < 512 → 0 ≤ (sy_i F 33).toInt → (sy_i F 33).toInt ≤ 400 → ((sy_ai F 39).getD ((sy_i F 33).toInt).toNat 0).toInt ≠ (sy_i F 82).toInt → ∀ F1 : Nat → sy_d, iv_in F1 iv_B0 → (∀ j, j < 82 → j ∉ ([23, 32, 34] : List Nat) → F1 j = F j) → (sy_i F1 33).toInt = (sy_i F 33).toInt → (sy_i F1 34).toInt = 1 → (sy_i F1 23).toInt = ((sy_i F 23).toInt + 1) → sy_ai F1 39 = sy_ai F 39 → sy_ai F1 32 = jm_upd (sy_ai F 32) ((sy_i F 23).toInt).toNat (sy_i F 83) → Q (some (.int ((0 : Int32)))) (sy_dh F1 X1 X2 (iv_H 0))) :
    hd_W Ls xs d jm_M40 Q (88, sy_dL F [some (.inl (.ref 30)), none, none, some (.inr (.inl 82)), none], sy_dS F [.inr (.inl 83), .inl (.ref 20)], sy_dh F X1 X2 (iv_H 0), 0, 0) := by
  by_cases g0 : 512 ≤ (sy_i F 23).toInt
  · by_cases g1 : (sy_i F 33).toInt < 0
    · have c23 := nz_bx hB (k := 23) (lo := 0) (hi := 512) rfl
      have c33 := nz_bx hB (k := 33) (lo := 0) (hi := 400) rfl
      exfalso
      omega
    replace g1 : 0 ≤ (sy_i F 33).toInt := by omega
    by_cases g2 : 400 < (sy_i F 33).toInt
    · have c23 := nz_bx hB (k := 23) (lo := 0) (hi := 512) rfl
      have c33 := nz_bx hB (k := 33) (lo := 0) (hi := 400) rfl
      exfalso
      omega
    replace g2 : (sy_i F 33).toInt ≤ 400 := by omega
    by_cases g3 : ((sy_ai F 39).getD ((sy_i F 33).toInt).toNat 0).toInt = (sy_i F 82).toInt
    · by_cases g4 : (sy_i F 33).toInt < 400
      · have c23 := nz_bx hB (k := 23) (lo := 0) (hi := 512) rfl
        have c33 := nz_bx hB (k := 33) (lo := 0) (hi := 400) rfl
        have q84 : (sy_ai F 39).getD (sy_i F 33).toNatClampNeg 0 = (sy_ai F 39).getD ((sy_i F 33).toInt).toNat 0 := by simp only [nz_c]
        have n84 : ((sy_ai F 39).getD (sy_i F 33).toNatClampNeg 0).toInt = ((sy_ai F 39).getD ((sy_i F 33).toInt).toNat 0).toInt := congrArg Int32.toInt q84
        have n85 : ((sy_i F 33) + ((1 : Int32))).toInt = ((sy_i F 33).toInt + 1) := nz_add (rfl : (sy_i F 33).toInt = (sy_i F 33).toInt) (by decide : ((1 : Int32)).toInt = 1) (by omega) (by omega)
        exact k0pu_88_p0 hd F X1 X2 hB (by first | exact g0 | (simp only [nz_c]; exact g0)) (by first | exact g1 | (simp only [nz_c]; exact g1)) (by first | exact g2 | (simp only [nz_c]; exact g2)) (by first | exact ⟨by omega, by omega⟩ | (simp only [nz_c]; exact ⟨by omega, by omega⟩)) (by first | exact g3 | (simp only [nz_c]; exact g3) | (rw [n84]; exact g3)) (by first | exact g4 | (simp only [nz_c]; exact g4)) (fun F1 g e33 => k0 g0 g1 g2 g3 g4 F1 (nz_in0 hB [33] (fun j hj hn => g j hj (by simp only [List.mem_cons, List.not_mem_nil, or_false, not_or] at hn; omega)) (List.forall_mem_cons.mpr ⟨fun t ht => (Option.some.inj ht) ▸ (nz_hi e33 n85 (by omega) (by omega)), List.forall_mem_nil _⟩)) (fun j hj hn => g j hj (by simp only [List.mem_cons, List.not_mem_nil, or_false, not_or] at hn; omega)) ((congrArg Int32.toInt (zz_i e33)).trans n85) (nz_fi (g 34 (by decide) (by decide))) (nz_fi (g 23 (by decide) (by decide))) (nz_fa (g 39 (by decide) (by decide))) (nz_fa (g 32 (by decide) (by decide))))
      replace g4 : 400 ≤ (sy_i F 33).toInt := by omega
      have c23 := nz_bx hB (k := 23) (lo := 0) (hi := 512) rfl
      have c33 := nz_bx hB (k := 33) (lo := 0) (hi := 400) rfl
      have q84 : (sy_ai F 39).getD (sy_i F 33).toNatClampNeg 0 = (sy_ai F 39).getD ((sy_i F 33).toInt).toNat 0 := by simp only [nz_c]
      have n84 : ((sy_ai F 39).getD (sy_i F 33).toNatClampNeg 0).toInt = ((sy_ai F 39).getD ((sy_i F 33).toInt).toNat 0).toInt := congrArg Int32.toInt q84
      exact k0pu_88_p1 hd F X1 X2 hB (by first | exact g0 | (simp only [nz_c]; exact g0)) (by first | exact g1 | (simp only [nz_c]; exact g1)) (by first | exact g2 | (simp only [nz_c]; exact g2)) (by first | exact ⟨by omega, by omega⟩ | (simp only [nz_c]; exact ⟨by omega, by omega⟩)) (by first | exact g3 | (simp only [nz_c]; exact g3) | (rw [n84]; exact g3)) (by first | exact g4 | (simp only [nz_c]; exact g4)) (fun F1 g e34 => k1 g0 g1 g2 g3 g4 F1 (nz_in0 hB [34] (fun j hj hn => g j hj (by simp only [List.mem_cons, List.not_mem_nil, or_false, not_or] at hn; omega)) (List.forall_mem_cons.mpr ⟨fun t ht => (Option.some.inj ht) ▸ (nz_hz e34), List.forall_mem_nil _⟩)) (fun j hj hn => g j hj (by simp only [List.mem_cons, List.not_mem_nil, or_false, not_or] at hn; omega)) (nz_fi (g 33 (by decide) (by decide))) ((congrArg Int32.toInt (zz_i e34)).trans (by decide : ((2 : Int32)).toInt = 2)) (nz_fi (g 23 (by decide) (by decide))) (nz_fa (g 39 (by decide) (by decide))) (nz_fa (g 32 (by decide) (by decide))))
    replace g3 : ((sy_ai F 39).getD ((sy_i F 33).toInt).toNat 0).toInt ≠ (sy_i F 82).toInt := by omega
    have c23 := nz_bx hB (k := 23) (lo := 0) (hi := 512) rfl
    have c33 := nz_bx hB (k := 33) (lo := 0) (hi := 400) rfl
    have q84 : (sy_ai F 39).getD (sy_i F 33).toNatClampNeg 0 = (sy_ai F 39).getD ((sy_i F 33).toInt).toNat 0 := by simp only [nz_c]
    have n84 : ((sy_ai F 39).getD (sy_i F 33).toNatClampNeg 0).toInt = ((sy_ai F 39).getD ((sy_i F 33).toInt).toNat 0).toInt := congrArg Int32.toInt q84
    exact k0pu_88_p2 hd F X1 X2 hB (by first | exact g0 | (simp only [nz_c]; exact g0)) (by first | exact g1 | (simp only [nz_c]; exact g1)) (by first | exact g2 | (simp only [nz_c]; exact g2)) (by first | exact ⟨by omega, by omega⟩ | (simp only [nz_c]; exact ⟨by omega, by omega⟩)) (by first | exact g3 | (simp only [nz_c]; exact g3) | (rw [n84]; exact g3)) (fun F1 g e34 => k2 g0 g1 g2 g3 F1 (nz_in0 hB [34] (fun j hj hn => g j hj (by simp only [List.mem_cons, List.not_mem_nil, or_false, not_or] at hn; omega)) (List.forall_mem_cons.mpr ⟨fun t ht => (Option.some.inj ht) ▸ (nz_hz e34), List.forall_mem_nil _⟩)) (fun j hj hn => g j hj (by simp only [List.mem_cons, List.not_mem_nil, or_false, not_or] at hn; omega)) (nz_fi (g 33 (by decide) (by decide))) ((congrArg Int32.toInt (zz_i e34)).trans (by decide : ((1 : Int32)).toInt = 1)) (nz_fi (g 23 (by decide) (by decide))) (nz_fa (g 39 (by decide) (by decide))) (nz_fa (g 32 (by decide) (by decide))))
  replace g0 : (sy_i F 23).toInt < 512 := by omega
  by_cases g1 : (sy_i F 33).toInt < 0
  · have c23 := nz_bx hB (k := 23) (lo := 0) (hi := 512) rfl
    have c33 := nz_bx hB (k := 33) (lo := 0) (hi := 400) rfl
    exfalso
    omega
  replace g1 : 0 ≤ (sy_i F 33).toInt := by omega
  by_cases g2 : 400 < (sy_i F 33).toInt
  · have c23 := nz_bx hB (k := 23) (lo := 0) (hi := 512) rfl
    have c33 := nz_bx hB (k := 33) (lo := 0) (hi := 400) rfl
    exfalso
    omega
  replace g2 : (sy_i F 33).toInt ≤ 400 := by omega
  by_cases g3 : ((sy_ai F 39).getD ((sy_i F 33).toInt).toNat 0).toInt = (sy_i F 82).toInt
  · by_cases g4 : (sy_i F 33).toInt < 400
    · have c23 := nz_bx hB (k := 23) (lo := 0) (hi := 512) rfl
      have c33 := nz_bx hB (k := 33) (lo := 0) (hi := 400) rfl
      have q86 : (sy_ai F 39).getD (sy_i F 33).toNatClampNeg 0 = (sy_ai F 39).getD ((sy_i F 33).toInt).toNat 0 := by simp only [nz_c]
      have n86 : ((sy_ai F 39).getD (sy_i F 33).toNatClampNeg 0).toInt = ((sy_ai F 39).getD ((sy_i F 33).toInt).toNat 0).toInt := congrArg Int32.toInt q86
      have n85 : ((sy_i F 23) + ((1 : Int32))).toInt = ((sy_i F 23).toInt + 1) := nz_add (rfl : (sy_i F 23).toInt = (sy_i F 23).toInt) (by decide : ((1 : Int32)).toInt = 1) (by omega) (by omega)
      have n87 : ((sy_i F 33) + ((1 : Int32))).toInt = ((sy_i F 33).toInt + 1) := nz_add (rfl : (sy_i F 33).toInt = (sy_i F 33).toInt) (by decide : ((1 : Int32)).toInt = 1) (by omega) (by omega)
      have w84 : jm_upd (sy_ai F 32) (sy_i F 23).toNatClampNeg (sy_i F 83) = jm_upd (sy_ai F 32) ((sy_i F 23).toInt).toNat (sy_i F 83) := by simp only [nz_c]
      exact k0pu_88_p3 hd F X1 X2 hB (by first | exact g0 | (simp only [nz_c]; exact g0)) (by first | exact ⟨by omega, by omega⟩ | (simp only [nz_c]; exact ⟨by omega, by omega⟩)) (by first | exact g1 | (simp only [nz_c]; exact g1)) (by first | exact g2 | (simp only [nz_c]; exact g2)) (by first | exact ⟨by omega, by omega⟩ | (simp only [nz_c]; exact ⟨by omega, by omega⟩)) (by first | exact g3 | (simp only [nz_c]; exact g3) | (rw [n86]; exact g3)) (by first | exact g4 | (simp only [nz_c]; exact g4)) (fun F1 g e23 e32 e33 => k3 g0 g1 g2 g3 g4 F1 (nz_in0 hB [23, 32, 33] (fun j hj hn => g j hj (by simp only [List.mem_cons, List.not_mem_nil, or_false, not_or] at hn; omega)) (List.forall_mem_cons.mpr ⟨fun t ht => (Option.some.inj ht) ▸ (nz_hi e23 n85 (by omega) (by omega)), List.forall_mem_cons.mpr ⟨fun t ht => (Option.some.inj ht) ▸ (nz_hA e32 (nz_up (nz_ba hB (k := 32) (lo := (-2147483648)) (hi := 2147483646) rfl) (rfl : (sy_i F 83).toInt = (sy_i F 83).toInt) (by omega) (by omega))), List.forall_mem_cons.mpr ⟨fun t ht => (Option.some.inj ht) ▸ (nz_hi e33 n87 (by omega) (by omega)), List.forall_mem_nil _⟩⟩⟩)) (fun j hj hn => g j hj (by simp only [List.mem_cons, List.not_mem_nil, or_false, not_or] at hn; omega)) ((congrArg Int32.toInt (zz_i e33)).trans n87) (nz_fi (g 34 (by decide) (by decide))) ((congrArg Int32.toInt (zz_i e23)).trans n85) (nz_fa (g 39 (by decide) (by decide))) ((zz_ai e32).trans w84))
    replace g4 : 400 ≤ (sy_i F 33).toInt := by omega
    have c23 := nz_bx hB (k := 23) (lo := 0) (hi := 512) rfl
    have c33 := nz_bx hB (k := 33) (lo := 0) (hi := 400) rfl
    have q86 : (sy_ai F 39).getD (sy_i F 33).toNatClampNeg 0 = (sy_ai F 39).getD ((sy_i F 33).toInt).toNat 0 := by simp only [nz_c]
    have n86 : ((sy_ai F 39).getD (sy_i F 33).toNatClampNeg 0).toInt = ((sy_ai F 39).getD ((sy_i F 33).toInt).toNat 0).toInt := congrArg Int32.toInt q86
    have n85 : ((sy_i F 23) + ((1 : Int32))).toInt = ((sy_i F 23).toInt + 1) := nz_add (rfl : (sy_i F 23).toInt = (sy_i F 23).toInt) (by decide : ((1 : Int32)).toInt = 1) (by omega) (by omega)
    have w84 : jm_upd (sy_ai F 32) (sy_i F 23).toNatClampNeg (sy_i F 83) = jm_upd (sy_ai F 32) ((sy_i F 23).toInt).toNat (sy_i F 83) := by simp only [nz_c]
    exact k0pu_88_p4 hd F X1 X2 hB (by first | exact g0 | (simp only [nz_c]; exact g0)) (by first | exact ⟨by omega, by omega⟩ | (simp only [nz_c]; exact ⟨by omega, by omega⟩)) (by first | exact g1 | (simp only [nz_c]; exact g1)) (by first | exact g2 | (simp only [nz_c]; exact g2)) (by first | exact ⟨by omega, by omega⟩ | (simp only [nz_c]; exact ⟨by omega, by omega⟩)) (by first | exact g3 | (simp only [nz_c]; exact g3) | (rw [n86]; exact g3)) (by first | exact g4 | (simp only [nz_c]; exact g4)) (fun F1 g e23 e32 e34 => k4 g0 g1 g2 g3 g4 F1 (nz_in0 hB [23, 32, 34] (fun j hj hn => g j hj (by simp only [List.mem_cons, List.not_mem_nil, or_false, not_or] at hn; omega)) (List.forall_mem_cons.mpr ⟨fun t ht => (Option.some.inj ht) ▸ (nz_hi e23 n85 (by omega) (by omega)), List.forall_mem_cons.mpr ⟨fun t ht => (Option.some.inj ht) ▸ (nz_hA e32 (nz_up (nz_ba hB (k := 32) (lo := (-2147483648)) (hi := 2147483646) rfl) (rfl : (sy_i F 83).toInt = (sy_i F 83).toInt) (by omega) (by omega))), List.forall_mem_cons.mpr ⟨fun t ht => (Option.some.inj ht) ▸ (nz_hz e34), List.forall_mem_nil _⟩⟩⟩)) (fun j hj hn => g j hj (by simp only [List.mem_cons, List.not_mem_nil, or_false, not_or] at hn; omega)) (nz_fi (g 33 (by decide) (by decide))) ((congrArg Int32.toInt (zz_i e34)).trans (by decide : ((2 : Int32)).toInt = 2)) ((congrArg Int32.toInt (zz_i e23)).trans n85) (nz_fa (g 39 (by decide) (by decide))) ((zz_ai e32).trans w84))
  replace g3 : ((sy_ai F 39).getD ((sy_i F 33).toInt).toNat 0).toInt ≠ (sy_i F 82).toInt := by omega
  have c23 := nz_bx hB (k := 23) (lo := 0) (hi := 512) rfl
  have c33 := nz_bx hB (k := 33) (lo := 0) (hi := 400) rfl
  have q86 : (sy_ai F 39).getD (sy_i F 33).toNatClampNeg 0 = (sy_ai F 39).getD ((sy_i F 33).toInt).toNat 0 := by simp only [nz_c]
  have n86 : ((sy_ai F 39).getD (sy_i F 33).toNatClampNeg 0).toInt = ((sy_ai F 39).getD ((sy_i F 33).toInt).toNat 0).toInt := congrArg Int32.toInt q86
  have n85 : ((sy_i F 23) + ((1 : Int32))).toInt = ((sy_i F 23).toInt + 1) := nz_add (rfl : (sy_i F 23).toInt = (sy_i F 23).toInt) (by decide : ((1 : Int32)).toInt = 1) (by omega) (by omega)
  have w84 : jm_upd (sy_ai F 32) (sy_i F 23).toNatClampNeg (sy_i F 83) = jm_upd (sy_ai F 32) ((sy_i F 23).toInt).toNat (sy_i F 83) := by simp only [nz_c]
  exact k0pu_88_p5 hd F X1 X2 hB (by first | exact g0 | (simp only [nz_c]; exact g0)) (by first | exact ⟨by omega, by omega⟩ | (simp only [nz_c]; exact ⟨by omega, by omega⟩)) (by first | exact g1 | (simp only [nz_c]; exact g1)) (by first | exact g2 | (simp only [nz_c]; exact g2)) (by first | exact ⟨by omega, by omega⟩ | (simp only [nz_c]; exact ⟨by omega, by omega⟩)) (by first | exact g3 | (simp only [nz_c]; exact g3) | (rw [n86]; exact g3)) (fun F1 g e23 e32 e34 => k5 g0 g1 g2 g3 F1 (nz_in0 hB [23, 32, 34] (fun j hj hn => g j hj (by simp only [List.mem_cons, List.not_mem_nil, or_false, not_or] at hn; omega)) (List.forall_mem_cons.mpr ⟨fun t ht => (Option.some.inj ht) ▸ (nz_hi e23 n85 (by omega) (by omega)), List.forall_mem_cons.mpr ⟨fun t ht => (Option.some.inj ht) ▸ (nz_hA e32 (nz_up (nz_ba hB (k := 32) (lo := (-2147483648)) (hi := 2147483646) rfl) (rfl : (sy_i F 83).toInt = (sy_i F 83).toInt) (by omega) (by omega))), List.forall_mem_cons.mpr ⟨fun t ht => (Option.some.inj ht) ▸ (nz_hz e34), List.forall_mem_nil _⟩⟩⟩)) (fun j hj hn => g j hj (by simp only [List.mem_cons, List.not_mem_nil, or_false, not_or] at hn; omega)) (nz_fi (g 33 (by decide) (by decide))) ((congrArg Int32.toInt (zz_i e34)).trans (by decide : ((1 : Int32)).toInt = 1)) ((congrArg Int32.toInt (zz_i e23)).trans n85) (nz_fa (g 39 (by decide) (by decide))) ((zz_ai e32).trans w84))
theorem k0zp_0 {Ls : Nat} {xs : Nat → Int32} {d : Nat} {Q : Option Value → jm_h → Prop} (hd : 4 ≤ d) (F : Nat → sy_d) (X1 X2 : List jm_c) (hB : iv_in F iv_B0)
    (k0 : ∀ F1 : Nat → sy_d, iv_in F1 iv_B0 → (∀ j, j < 82 → j ∉ ([] : List Nat) → F1 j = F j) → (sy_i F1 33).toInt = (sy_i F 33).toInt → (sy_i F1 34).toInt = (sy_i F 34).toInt → (sy_i F1 23).toInt = (sy_i F 23).toInt → sy_ai F1 39 = sy_ai F 39 → sy_ai F1 32 = sy_ai F 32 → (sy_i F1 82).toInt = (sy_i F 82).toInt → (sy_i F1 83).toInt = (sy_i F 83).toInt → hd_W Ls xs d jm_M39 Q (3, sy_dL F1 [some (.inl (.ref 30)), some (.inr (.inl 82)), some (.inr (.inl 83)), none, none, none], sy_dS F1 [.inr (.inl 83), .inr (.inl 82), .inl (.ref 30)], sy_dh F1 X1 X2 (iv_H 0), 0, 0)) :
    hd_W Ls xs d jm_M39 Q (0, sy_dL F [some (.inl (.ref 30)), some (.inr (.inl 82)), some (.inr (.inl 83)), none, none, none], sy_dS F [], sy_dh F X1 X2 (iv_H 0), 0, 0) := by
  exact k0pp_0_p0 hd F X1 X2 hB  (fun F1 g e82 e83 => k0 F1 (nz_in0 hB [] (fun j hj hn => g j hj (by simp only [List.mem_cons, List.not_mem_nil, or_false, not_or] at hn; exact trivial)) (List.forall_mem_nil _)) (fun j hj hn => g j hj (by simp only [List.mem_cons, List.not_mem_nil, or_false, not_or] at hn; exact trivial)) (nz_fi (g 33 (by decide) (by decide))) (nz_fi (g 34 (by decide) (by decide))) (nz_fi (g 23 (by decide) (by decide))) (nz_fa (g 39 (by decide) (by decide))) (nz_fa (g 32 (by decide) (by decide))) ((congrArg Int32.toInt (zz_i e82)).trans (rfl : (sy_i F 82).toInt = (sy_i F 82).toInt)) ((congrArg Int32.toInt (zz_i e83)).trans (rfl : (sy_i F 83).toInt = (sy_i F 83).toInt)))
theorem k0zp_6 {Ls : Nat} {xs : Nat → Int32} {d : Nat} {Q : Option Value → jm_h → Prop} (hd : 4 ≤ d) (F : Nat → sy_d) (X1 X2 : List jm_c) (hB : iv_in F iv_B0)
    (k0 : 0 ≤ (sy_i F 33).toInt → (sy_i F 33).toInt ≤ 400 → ∀ F1 : Nat → sy_d, iv_in F1 iv_B0 → (∀ j, j < 82 → j ∉ ([] : List Nat) → F1 j = F j) → (sy_i F1 33).toInt = (sy_i F 33).toInt → (sy_i F1 34).toInt = (sy_i F 34).toInt → (sy_i F1 23).toInt = (sy_i F 23).toInt → sy_ai F1 39 = sy_ai F 39 → sy_ai F1 32 = sy_ai F 32 → (sy_i F1 82).toInt = (sy_i F 82).toInt → (sy_i F1 83).toInt = (sy_i F 83).toInt → (sy_i F1 84).toInt = (sy_i F 84).toInt → (sy_i F1 85).toInt = ((sy_ai F 39).getD ((sy_i F 33).toInt).toNat 0).toInt → (sy_i F1 86).toInt = 0 → hd_W Ls xs d jm_M39 Q (23, sy_dL F1 [some (.inl (.ref 30)), some (.inr (.inl 82)), some (.inr (.inl 83)), some (.inr (.inl 84)), some (.inr (.inl 85)), some (.inr (.inl 86))], sy_dS F1 [], sy_dh F1 X1 X2 (iv_H 0), 0, 0)) :
    hd_W Ls xs d jm_M39 Q (6, sy_dL F [some (.inl (.ref 30)), some (.inr (.inl 82)), some (.inr (.inl 83)), none, none, none], sy_dS F [.inr (.inl 84)], sy_dh F X1 X2 (iv_H 0), 0, 0) := by
  by_cases g0 : (sy_i F 33).toInt < 0
  · have c33 := nz_bx hB (k := 33) (lo := 0) (hi := 400) rfl
    exfalso
    omega
  replace g0 : 0 ≤ (sy_i F 33).toInt := by omega
  by_cases g1 : 400 < (sy_i F 33).toInt
  · have c33 := nz_bx hB (k := 33) (lo := 0) (hi := 400) rfl
    exfalso
    omega
  replace g1 : (sy_i F 33).toInt ≤ 400 := by omega
  have c33 := nz_bx hB (k := 33) (lo := 0) (hi := 400) rfl
  have q85 : (sy_ai F 39).getD (sy_i F 33).toNatClampNeg 0 = (sy_ai F 39).getD ((sy_i F 33).toInt).toNat 0 := by simp only [nz_c]
  have n85 : ((sy_ai F 39).getD (sy_i F 33).toNatClampNeg 0).toInt = ((sy_ai F 39).getD ((sy_i F 33).toInt).toNat 0).toInt := congrArg Int32.toInt q85
  exact k0pp_6_p0 hd F X1 X2 hB (by first | exact g0 | (simp only [nz_c]; exact g0)) (by first | exact g1 | (simp only [nz_c]; exact g1)) (by first | exact ⟨by omega, by omega⟩ | (simp only [nz_c]; exact ⟨by omega, by omega⟩)) (fun F1 g e82 e83 e84 e85 e86 => k0 g0 g1 F1 (nz_in0 hB [] (fun j hj hn => g j hj (by simp only [List.mem_cons, List.not_mem_nil, or_false, not_or] at hn; exact trivial)) (List.forall_mem_nil _)) (fun j hj hn => g j hj (by simp only [List.mem_cons, List.not_mem_nil, or_false, not_or] at hn; exact trivial)) (nz_fi (g 33 (by decide) (by decide))) (nz_fi (g 34 (by decide) (by decide))) (nz_fi (g 23 (by decide) (by decide))) (nz_fa (g 39 (by decide) (by decide))) (nz_fa (g 32 (by decide) (by decide))) ((congrArg Int32.toInt (zz_i e82)).trans (rfl : (sy_i F 82).toInt = (sy_i F 82).toInt)) ((congrArg Int32.toInt (zz_i e83)).trans (rfl : (sy_i F 83).toInt = (sy_i F 83).toInt)) ((congrArg Int32.toInt (zz_i e84)).trans (rfl : (sy_i F 84).toInt = (sy_i F 84).toInt)) ((congrArg Int32.toInt (zz_i e85)).trans n85) ((congrArg Int32.toInt (zz_i e86)).trans (by decide : ((0 : Int32)).toInt = 0)))
theorem k0zp_23 {Ls : Nat} {xs : Nat → Int32} {d : Nat} {Q : Option Value → jm_h → Prop} (hd : 4 ≤ d) (F : Nat → sy_d) (X1 X2 : List jm_c) (hB : iv_in F iv_B0)
    (a86 : 0 ≤ (sy_i F 86).toInt ∧ (sy_i F 86).toInt ≤ 401)
    (o0 : 400 < (sy_i F 86).toInt → ((sy_i F 84).toInt = 0 ∨ (sy_i F 84).toInt = 1))
    (o1 : (sy_i F 86).toInt ≤ 400 → (sy_i F 84).toInt ≠ 0 → (sy_i F 85).toInt ≠ 42 → (sy_i F 85).toInt ≠ 47 → ((sy_i F 84).toInt = 0 ∨ (sy_i F 84).toInt = 1))
    (k0 : 400 < (sy_i F 86).toInt → ∀ F1 : Nat → sy_d, iv_in F1 iv_B0 → (∀ j, j < 82 → j ∉ ([] : List Nat) → F1 j = F j) → (sy_i F1 33).toInt = (sy_i F 33).toInt → (sy_i F1 34).toInt = (sy_i F 34).toInt → (sy_i F1 23).toInt = (sy_i F 23).toInt → sy_ai F1 39 = sy_ai F 39 → sy_ai F1 32 = sy_ai F 32 → Q (some (.int (sy_i F 84))) (sy_dh F1 X1 X2 (iv_H 0)))
    (k1 : (sy_i F 86).toInt ≤ 400 → (sy_i F 84).toInt = 0 → ∀ F1 : Nat → sy_d, iv_in F1 iv_B0 → (∀ j, j < 82 → j ∉ ([] : List Nat) → F1 j = F j) → (sy_i F1 33).toInt = (sy_i F 33).toInt → (sy_i F1 34).toInt = (sy_i F 34).toInt → (sy_i F1 23).toInt = (sy_i F 23).toInt → sy_ai F1 39 = sy_ai F 39 → sy_ai F1 32 = sy_ai F 32 → Q (some (.int (sy_i F 84))) (sy_dh F1 X1 X2 (iv_H 0)))
    (k2 : (sy_i F 86).toInt ≤ 400 → (sy_i F 84).toInt ≠ 0 → (sy_i F 85).toInt = 42 → 0 ≤ (sy_i F 33).toInt → (sy_i F 33).toInt ≤ 400 → ((sy_ai F 39).getD ((sy_i F 33).toInt).toNat 0).toInt = (sy_i F 85).toInt → (sy_i F 33).toInt < 400 → ∀ F1 : Nat → sy_d, iv_in F1 iv_B0 → (∀ j, j < 82 → j ∉ ([33] : List Nat) → F1 j = F j) → (sy_i F1 33).toInt = ((sy_i F 33).toInt + 1) → (sy_i F1 34).toInt = (sy_i F 34).toInt → (sy_i F1 23).toInt = (sy_i F 23).toInt → sy_ai F1 39 = sy_ai F 39 → sy_ai F1 32 = sy_ai F 32 → (sy_i F1 82).toInt = (sy_i F 82).toInt → (sy_i F1 83).toInt = (sy_i F 83).toInt → (sy_i F1 84).toInt = (sy_i F 85).toInt → (sy_i F1 85).toInt = (sy_i F 86).toInt → hd_W Ls xs d jm_M39 Q (61, sy_dL F1 [some (.inl (.ref 30)), some (.inr (.inl 82)), some (.inr (.inl 83)), none, some (.inr (.inl 84)), some (.inr (.inl 85))], sy_dS F1 [.inr (.inl 83), .inr (.inl 82), .inl (.ref 30)], sy_dh F1 X1 X2 (iv_H 0), 0, 0))
    (k3 : (sy_i F 86).toInt ≤ 400 → (sy_i F 84).toInt ≠ 0 → (sy_i F 85).toInt = 42 → 0 ≤ (sy_i F 33).toInt → (sy_i F 33).toInt ≤ 400 → ((sy_ai F 39).getD ((sy_i F 33).toInt).toNat 0).toInt = (sy_i F 85).toInt → 400 ≤ (sy_i F 33).toInt → (sy_i F 85).toInt = 42 → 512 ≤ (sy_i F 23).toInt → 0 ≤ (sy_i F 33).toInt → (sy_i F 33).toInt ≤ 400 → ∀ F1 : Nat → sy_d, iv_in F1 iv_B0 → (∀ j, j < 82 → j ∉ ([34] : List Nat) → F1 j = F j) → (sy_i F1 33).toInt = (sy_i F 33).toInt → (sy_i F1 34).toInt = 2 → (sy_i F1 23).toInt = (sy_i F 23).toInt → sy_ai F1 39 = sy_ai F 39 → sy_ai F1 32 = sy_ai F 32 → (sy_i F1 82).toInt = (sy_i F 82).toInt → (sy_i F1 83).toInt = (sy_i F 83).toInt → (sy_i F1 84).toInt = 0 → (sy_i F1 85).toInt = ((sy_ai F 39).getD ((sy_i F 33).toInt).toNat 0).toInt → (sy_i F1 86).toInt = ((sy_i F 86).toInt + 1) → hd_W Ls xs d jm_M39 Q (23, sy_dL F1 [some (.inl (.ref 30)), some (.inr (.inl 82)), some (.inr (.inl 83)), some (.inr (.inl 84)), some (.inr (.inl 85)), some (.inr (.inl 86))], sy_dS F1 [], sy_dh F1 X1 X2 (iv_H 0), 0, 0))
    (k4 : (sy_i F 86).toInt ≤ 400 → (sy_i F 84).toInt ≠ 0 → (sy_i F 85).toInt = 42 → 0 ≤ (sy_i F 33).toInt → (sy_i F 33).toInt ≤ 400 → ((sy_ai F 39).getD ((sy_i F 33).toInt).toNat 0).toInt = (sy_i F 85).toInt → 400 ≤ (sy_i F 33).toInt → (sy_i F 85).toInt = 42 → (sy_i F 23).toInt < 512 → 0 ≤ (sy_i F 33).toInt → (sy_i F 33).toInt ≤ 400 → ∀ F1 : Nat → sy_d, iv_in F1 iv_B0 → (∀ j, j < 82 → j ∉ ([23, 32, 34] : List Nat) → F1 j = F j) → (sy_i F1 33).toInt = (sy_i F 33).toInt → (sy_i F1 34).toInt = 2 → (sy_i F1 23).toInt = ((sy_i F 23).toInt + 1) → sy_ai F1 39 = sy_ai F 39 → sy_ai F1 32 = jm_upd (sy_ai F 32) ((sy_i F 23).toInt).toNat (((-12) : Int32)) → (sy_i F1 82).toInt = (sy_i F 82).toInt → (sy_i F1 83).toInt = (sy_i F 83).toInt → (sy_i F1 84).toInt = 0 → (sy_i F1 85).toInt = ((sy_ai F 39).getD ((sy_i F 33).toInt).toNat 0).toInt → (sy_i F1 86).toInt = ((sy_i F 86).toInt + 1) → hd_W Ls xs d jm_M39 Q (23, sy_dL F1 [some (.inl (.ref 30)), some (.inr (.inl 82)), some (.inr (.inl 83)), some (.inr (.inl 84)), some (.inr (.inl 85)), some (.inr (.inl 86))], sy_dS F1 [], sy_dh F1 X1 X2 (iv_H 0), 0, 0))
    (k5 : (sy_i F 86).toInt ≤ 400 → (sy_i F 84).toInt ≠ 0 → (sy_i F 85).toInt = 42 → 0 ≤ (sy_i F 33).toInt → (sy_i F 33).toInt ≤ 400 → ((sy_ai F 39).getD ((sy_i F 33).toInt).toNat 0).toInt ≠ (sy_i F 85).toInt → (sy_i F 85).toInt = 42 → 512 ≤ (sy_i F 23).toInt → 0 ≤ (sy_i F 33).toInt → (sy_i F 33).toInt ≤ 400 → ∀ F1 : Nat → sy_d, iv_in F1 iv_B0 → (∀ j, j < 82 → j ∉ ([34] : List Nat) → F1 j = F j) → (sy_i F1 33).toInt = (sy_i F 33).toInt → (sy_i F1 34).toInt = 1 → (sy_i F1 23).toInt = (sy_i F 23).toInt → sy_ai F1 39 = sy_ai F 39 → sy_ai F1 32 = sy_ai F 32 → (sy_i F1 82).toInt = (sy_i F 82).toInt → (sy_i F1 83).toInt = (sy_i F 83).toInt → (sy_i F1 84).toInt = 0 → (sy_i F1 85).toInt = ((sy_ai F 39).getD ((sy_i F 33).toInt).toNat 0).toInt → (sy_i F1 86).toInt = ((sy_i F 86).toInt + 1) → hd_W Ls xs d jm_M39 Q (23, sy_dL F1 [some (.inl (.ref 30)), some (.inr (.inl 82)), some (.inr (.inl 83)), some (.inr (.inl 84)), some (.inr (.inl 85)), some (.inr (.inl 86))], sy_dS F1 [], sy_dh F1 X1 X2 (iv_H 0), 0, 0))
    (k6 : (sy_i F 86).toInt ≤ 400 → (sy_i F 84).toInt ≠ 0 → (sy_i F 85).toInt = 42 → 0 ≤ (sy_i F 33).toInt → (sy_i F 33).toInt ≤ 400 → ((sy_ai F 39).getD ((sy_i F 33).toInt).toNat 0).toInt ≠ (sy_i F 85).toInt → (sy_i F 85).toInt = 42 → (sy_i F 23).toInt < 512 → 0 ≤ (sy_i F 33).toInt → (sy_i F 33).toInt ≤ 400 → ∀ F1 : Nat → sy_d, iv_in F1 iv_B0 → (∀ j, j < 82 → j ∉ ([23, 32, 34] : List Nat) → F1 j = F j) → (sy_i F1 33).toInt = (sy_i F 33).toInt → (sy_i F1 34).toInt = 1 → (sy_i F1 23).toInt = ((sy_i F 23).toInt + 1) → sy_ai F1 39 = sy_ai F 39 → sy_ai F1 32 = jm_upd (sy_ai F 32) ((sy_i F 23).toInt).toNat (((-12) : Int32)) → (sy_i F1 82).toInt = (sy_i F 82).toInt → (sy_i F1 83).toInt = (sy_i F 83).toInt → (sy_i F1 84).toInt = 0 → (sy_i F1 85).toInt = ((sy_ai F 39).getD ((sy_i F 33).toInt).toNat 0).toInt → (sy_i F1 86).toInt = ((sy_i F 86).toInt + 1) → hd_W Ls xs d jm_M39 Q (23, sy_dL F1 [some (.inl (.ref 30)), some (.inr (.inl 82)), some (.inr (.inl 83)), some (.inr (.inl 84)), some (.inr (.inl 85)), some (.inr (.inl 86))], sy_dS F1 [], sy_dh F1 X1 X2 (iv_H 0), 0, 0))
    (k7 : (sy_i F 86).toInt ≤ 400 → (sy_i F 84).toInt ≠ 0 → (sy_i F 85).toInt ≠ 42 → (sy_i F 85).toInt ≠ 47 → ∀ F1 : Nat → sy_d, iv_in F1 iv_B0 → (∀ j, j < 82 → j ∉ ([] : List Nat) → F1 j = F j) → (sy_i F1 33).toInt = (sy_i F 33).toInt → (sy_i F1 34).toInt = (sy_i F 34).toInt → (sy_i F1 23).toInt = (sy_i F 23).toInt → sy_ai F1 39 = sy_ai F 39 → sy_ai F1 32 = sy_ai F 32 → Q (some (.int (sy_i F 84))) (sy_dh F1 X1 X2 (iv_H 0)))
    (k8 : (sy_i F 86).toInt ≤ 400 → (sy_i F 84).toInt ≠ 0 → (sy_i F 85).toInt ≠ 42 → (sy_i F 85).toInt = 47 → 0 ≤ (sy_i F 33).toInt → (sy_i F 33).toInt ≤ 400 → ((sy_ai F 39).getD ((sy_i F 33).toInt).toNat 0).toInt = (sy_i F 85).toInt → (sy_i F 33).toInt < 400 → ∀ F1 : Nat → sy_d, iv_in F1 iv_B0 → (∀ j, j < 82 → j ∉ ([33] : List Nat) → F1 j = F j) → (sy_i F1 33).toInt = ((sy_i F 33).toInt + 1) → (sy_i F1 34).toInt = (sy_i F 34).toInt → (sy_i F1 23).toInt = (sy_i F 23).toInt → sy_ai F1 39 = sy_ai F 39 → sy_ai F1 32 = sy_ai F 32 → (sy_i F1 82).toInt = (sy_i F 82).toInt → (sy_i F1 83).toInt = (sy_i F 83).toInt → (sy_i F1 84).toInt = (sy_i F 85).toInt → (sy_i F1 85).toInt = (sy_i F 86).toInt → hd_W Ls xs d jm_M39 Q (61, sy_dL F1 [some (.inl (.ref 30)), some (.inr (.inl 82)), some (.inr (.inl 83)), none, some (.inr (.inl 84)), some (.inr (.inl 85))], sy_dS F1 [.inr (.inl 83), .inr (.inl 82), .inl (.ref 30)], sy_dh F1 X1 X2 (iv_H 0), 0, 0))
    (k9 : (sy_i F 86).toInt ≤ 400 → (sy_i F 84).toInt ≠ 0 → (sy_i F 85).toInt ≠ 42 → (sy_i F 85).toInt = 47 → 0 ≤ (sy_i F 33).toInt → (sy_i F 33).toInt ≤ 400 → ((sy_ai F 39).getD ((sy_i F 33).toInt).toNat 0).toInt = (sy_i F 85).toInt → 400 ≤ (sy_i F 33).toInt → (sy_i F 85).toInt ≠ 42 → 512 ≤ (sy_i F 23).toInt → 0 ≤ (sy_i F 33).toInt → (sy_i F 33).toInt ≤ 400 → ∀ F1 : Nat → sy_d, iv_in F1 iv_B0 → (∀ j, j < 82 → j ∉ ([34] : List Nat) → F1 j = F j) → (sy_i F1 33).toInt = (sy_i F 33).toInt → (sy_i F1 34).toInt = 2 → (sy_i F1 23).toInt = (sy_i F 23).toInt → sy_ai F1 39 = sy_ai F 39 → sy_ai F1 32 = sy_ai F 32 → (sy_i F1 82).toInt = (sy_i F 82).toInt → (sy_i F1 83).toInt = (sy_i F 83).toInt → (sy_i F1 84).toInt = 0 → (sy_i F1 85).toInt = ((sy_ai F 39).getD ((sy_i F 33).toInt).toNat 0).toInt → (sy_i F1 86).toInt = ((sy_i F 86).toInt + 1) → hd_W Ls xs d jm_M39 Q (23, sy_dL F1 [some (.inl (.ref 30)), some (.inr (.inl 82)), some (.inr (.inl 83)), some (.inr (.inl 84)), some (.inr (.inl 85)), some (.inr (.inl 86))], sy_dS F1 [], sy_dh F1 X1 X2 (iv_H 0), 0, 0))
    (k10 : (sy_i F 86).toInt ≤ 400 → (sy_i F 84).toInt ≠ 0 → (sy_i F 85).toInt ≠ 42 → (sy_i F 85).toInt = 47 → 0 ≤ (sy_i F 33).toInt → (sy_i F 33).toInt ≤ 400 → ((sy_ai F 39).getD ((sy_i F 33).toInt).toNat 0).toInt = (sy_i F 85).toInt → 400 ≤ (sy_i F 33).toInt → (sy_i F 85).toInt ≠ 42 → (sy_i F 23).toInt < 512 → 0 ≤ (sy_i F 33).toInt → (sy_i F 33).toInt ≤ 400 → ∀ F1 : Nat → sy_d, iv_in F1 iv_B0 → (∀ j, j < 82 → j ∉ ([23, 32, 34] : List Nat) → F1 j = F j) → (sy_i F1 33).toInt = (sy_i F 33).toInt → (sy_i F1 34).toInt = 2 → (sy_i F1 23).toInt = ((sy_i F 23).toInt + 1) → sy_ai F1 39 = sy_ai F 39 → sy_ai F1 32 = jm_upd (sy_ai F 32) ((sy_i F 23).toInt).toNat (((-13) : Int32)) → (sy_i F1 82).toInt = (sy_i F 82).toInt → (sy_i F1 83).toInt = (sy_i F 83).toInt → (sy_i F1 84).toInt = 0 → (sy_i F1 85).toInt = ((sy_ai F 39).getD ((sy_i F 33).toInt).toNat 0).toInt → (sy_i F1 86).toInt = ((sy_i F 86).toInt + 1) → hd_W Ls xs d jm_M39 Q (23, sy_dL F1 [some (.inl (.ref 30)), some (.inr (.inl 82)), some (.inr (.inl 83)), some (.inr (.inl 84)), some (.inr (.inl 85)), some (.inr (.inl 86))], sy_dS F1 [], sy_dh F1 X1 X2 (iv_H 0), 0, 0))
    (k11 : (sy_i F 86).toInt ≤ 400 → (sy_i F 84).toInt ≠ 0 → (sy_i F 85).toInt ≠ 42 → (sy_i F 85).toInt = 47 → 0 ≤ (sy_i F 33).toInt → (sy_i F 33).toInt ≤ 400 → ((sy_ai F 39).getD ((sy_i F 33).toInt).toNat 0).toInt ≠ (sy_i F 85).toInt → (sy_i F 85).toInt ≠ 42 → 512 ≤ (sy_i F 23).toInt → 0 ≤ (sy_i F 33).toInt → (sy_i F 33).toInt ≤ 400 → ∀ F1 : Nat → sy_d, iv_in F1 iv_B0 → (∀ j, j < 82 → j ∉ ([34] : List Nat) → F1 j = F j) → (sy_i F1 33).toInt = (sy_i F 33).toInt → (sy_i F1 34).toInt = 1 → (sy_i F1 23).toInt = (sy_i F 23).toInt → sy_ai F1 39 = sy_ai F 39 → sy_ai F1 32 = sy_ai F 32 → (sy_i F1 82).toInt = (sy_i F 82).toInt → (sy_i F1 83).toInt = (sy_i F 83).toInt → (sy_i F1 84).toInt = 0 → (sy_i F1 85).toInt = ((sy_ai F 39).getD ((sy_i F 33).toInt).toNat 0).toInt → (sy_i F1 86).toInt = ((sy_i F 86).toInt + 1) → hd_W Ls xs d jm_M39 Q (23, sy_dL F1 [some (.inl (.ref 30)), some (.inr (.inl 82)), some (.inr (.inl 83)), some (.inr (.inl 84)), some (.inr (.inl 85)), some (.inr (.inl 86))], sy_dS F1 [], sy_dh F1 X1 X2 (iv_H 0), 0, 0))
    (k12 : (sy_i F 86).toInt ≤ 400 → (sy_i F 84).toInt ≠ 0 → (sy_i F 85).toInt ≠ 42 → (sy_i F 85).toInt = 47 → 0 ≤ (sy_i F 33).toInt → (sy_i F 33).toInt ≤ 400 → ((sy_ai F 39).getD ((sy_i F 33).toInt).toNat 0).toInt ≠ (sy_i F 85).toInt → (sy_i F 85).toInt ≠ 42 → (sy_i F 23).toInt < 512 → 0 ≤ (sy_i F 33).toInt → (sy_i F 33).toInt ≤ 400 → ∀ F1 : Nat → sy_d, iv_in F1 iv_B0 → (∀ j, j < 82 → j ∉ ([23, 32, 34] : List Nat) → F1 j = F j) → (sy_i F1 33).toInt = (sy_i F 33).toInt → (sy_i F1 34).toInt = 1 → (sy_i F1 23).toInt = ((sy_i F 23).toInt + 1) → sy_ai F1 39 = sy_ai F 39 → sy_ai F1 32 = jm_upd (sy_ai F 32) ((sy_i F 23).toInt).toNat (((-13) : Int32)) → (sy_i F1 82).toInt = (sy_i F 82).toInt → (sy_i F1 83).toInt = (sy_i F 83).toInt → (sy_i F1 84).toInt = 0 → (sy_i F1 85).toInt = ((sy_ai F 39).getD ((sy_i F 33).toInt).toNat 0).toInt → (sy_i F1 86).toInt = ((sy_i F 86).toInt + 1) → hd_W Ls xs d jm_M39 Q (23, sy_dL F1 [some (.inl (.ref 30)), some (.inr (.inl 82)), some (.inr (.inl 83)), some (.inr (.inl 84)), some (.inr (.inl 85)), some (.inr (.inl 86))], sy_dS F1 [], sy_dh F1 X1 X2 (iv_H 0), 0, 0)) :
    hd_W Ls xs d jm_M39 Q (23, sy_dL F [some (.inl (.ref 30)), some (.inr (.inl 82)), some (.inr (.inl 83)), some (.inr (.inl 84)), some (.inr (.inl 85)), some (.inr (.inl 86))], sy_dS F [], sy_dh F X1 X2 (iv_H 0), 0, 0) := by
  by_cases g0 : 400 < (sy_i F 86).toInt
  · exact k0pp_23_p0 hd F X1 X2 hB (by first | exact g0 | (simp only [nz_c]; exact g0)) (by first | exact (o0 g0) | (simp only [nz_c]; exact (o0 g0))) (fun F1 g  => by rw [(rfl : sy_i F 84 = sy_i F 84)]; exact k0 g0 F1 (nz_in0 hB [] (fun j hj hn => g j hj (by simp only [List.mem_cons, List.not_mem_nil, or_false, not_or] at hn; exact trivial)) (List.forall_mem_nil _)) (fun j hj hn => g j hj (by simp only [List.mem_cons, List.not_mem_nil, or_false, not_or] at hn; exact trivial)) (nz_fi (g 33 (by decide) (by decide))) (nz_fi (g 34 (by decide) (by decide))) (nz_fi (g 23 (by decide) (by decide))) (nz_fa (g 39 (by decide) (by decide))) (nz_fa (g 32 (by decide) (by decide))))
  replace g0 : (sy_i F 86).toInt ≤ 400 := by omega
  by_cases g1 : (sy_i F 84).toInt = 0
  · exact k0pp_23_p1 hd F X1 X2 hB (by first | exact g0 | (simp only [nz_c]; exact g0)) (by first | exact g1 | (simp only [nz_c]; exact g1)) (by first | exact (by omega) | (simp only [nz_c]; exact (by omega))) (fun F1 g  => by rw [(rfl : sy_i F 84 = sy_i F 84)]; exact k1 g0 g1 F1 (nz_in0 hB [] (fun j hj hn => g j hj (by simp only [List.mem_cons, List.not_mem_nil, or_false, not_or] at hn; exact trivial)) (List.forall_mem_nil _)) (fun j hj hn => g j hj (by simp only [List.mem_cons, List.not_mem_nil, or_false, not_or] at hn; exact trivial)) (nz_fi (g 33 (by decide) (by decide))) (nz_fi (g 34 (by decide) (by decide))) (nz_fi (g 23 (by decide) (by decide))) (nz_fa (g 39 (by decide) (by decide))) (nz_fa (g 32 (by decide) (by decide))))
  replace g1 : (sy_i F 84).toInt ≠ 0 := by omega
  by_cases g2 : (sy_i F 85).toInt = 42
  · by_cases g3 : (sy_i F 33).toInt < 0
    · have c33 := nz_bx hB (k := 33) (lo := 0) (hi := 400) rfl
      exfalso
      omega
    replace g3 : 0 ≤ (sy_i F 33).toInt := by omega
    by_cases g4 : 400 < (sy_i F 33).toInt
    · have c33 := nz_bx hB (k := 33) (lo := 0) (hi := 400) rfl
      exfalso
      omega
    replace g4 : (sy_i F 33).toInt ≤ 400 := by omega
    by_cases g5 : ((sy_ai F 39).getD ((sy_i F 33).toInt).toNat 0).toInt = (sy_i F 85).toInt
    · by_cases g6 : (sy_i F 33).toInt < 400
      · have c33 := nz_bx hB (k := 33) (lo := 0) (hi := 400) rfl
        have q87 : (sy_ai F 39).getD (sy_i F 33).toNatClampNeg 0 = (sy_ai F 39).getD ((sy_i F 33).toInt).toNat 0 := by simp only [nz_c]
        have n87 : ((sy_ai F 39).getD (sy_i F 33).toNatClampNeg 0).toInt = ((sy_ai F 39).getD ((sy_i F 33).toInt).toNat 0).toInt := congrArg Int32.toInt q87
        have n88 : ((sy_i F 33) + ((1 : Int32))).toInt = ((sy_i F 33).toInt + 1) := nz_add (rfl : (sy_i F 33).toInt = (sy_i F 33).toInt) (by decide : ((1 : Int32)).toInt = 1) (by omega) (by omega)
        exact k0pp_23_p2 hd F X1 X2 hB (by first | exact g0 | (simp only [nz_c]; exact g0)) (by first | exact g1 | (simp only [nz_c]; exact g1)) (by first | exact g2 | (simp only [nz_c]; exact g2)) (by first | exact g3 | (simp only [nz_c]; exact g3)) (by first | exact g4 | (simp only [nz_c]; exact g4)) (by first | exact ⟨by omega, by omega⟩ | (simp only [nz_c]; exact ⟨by omega, by omega⟩)) (by first | exact g5 | (simp only [nz_c]; exact g5) | (rw [n87]; exact g5)) (by first | exact g6 | (simp only [nz_c]; exact g6)) (fun F1 g e33 e82 e83 e84 e85 => k2 g0 g1 g2 g3 g4 g5 g6 F1 (nz_in0 hB [33] (fun j hj hn => g j hj (by simp only [List.mem_cons, List.not_mem_nil, or_false, not_or] at hn; omega)) (List.forall_mem_cons.mpr ⟨fun t ht => (Option.some.inj ht) ▸ (nz_hi e33 n88 (by omega) (by omega)), List.forall_mem_nil _⟩)) (fun j hj hn => g j hj (by simp only [List.mem_cons, List.not_mem_nil, or_false, not_or] at hn; omega)) ((congrArg Int32.toInt (zz_i e33)).trans n88) (nz_fi (g 34 (by decide) (by decide))) (nz_fi (g 23 (by decide) (by decide))) (nz_fa (g 39 (by decide) (by decide))) (nz_fa (g 32 (by decide) (by decide))) ((congrArg Int32.toInt (zz_i e82)).trans (rfl : (sy_i F 82).toInt = (sy_i F 82).toInt)) ((congrArg Int32.toInt (zz_i e83)).trans (rfl : (sy_i F 83).toInt = (sy_i F 83).toInt)) ((congrArg Int32.toInt (zz_i e84)).trans (rfl : (sy_i F 85).toInt = (sy_i F 85).toInt)) ((congrArg Int32.toInt (zz_i e85)).trans (rfl : (sy_i F 86).toInt = (sy_i F 86).toInt)))
      replace g6 : 400 ≤ (sy_i F 33).toInt := by omega
      by_cases g7 : (sy_i F 85).toInt ≠ 42
      · have c33 := nz_bx hB (k := 33) (lo := 0) (hi := 400) rfl
        have q87 : (sy_ai F 39).getD (sy_i F 33).toNatClampNeg 0 = (sy_ai F 39).getD ((sy_i F 33).toInt).toNat 0 := by simp only [nz_c]
        have n87 : ((sy_ai F 39).getD (sy_i F 33).toNatClampNeg 0).toInt = ((sy_ai F 39).getD ((sy_i F 33).toInt).toNat 0).toInt := congrArg Int32.toInt q87
        exfalso
        omega
      replace g7 : (sy_i F 85).toInt = 42 := by omega
      by_cases g8 : 512 ≤ (sy_i F 23).toInt
      · by_cases g9 : (sy_i F 33).toInt < 0
        · have c33 := nz_bx hB (k := 33) (lo := 0) (hi := 400) rfl
          have q87 : (sy_ai F 39).getD (sy_i F 33).toNatClampNeg 0 = (sy_ai F 39).getD ((sy_i F 33).toInt).toNat 0 := by simp only [nz_c]
          have n87 : ((sy_ai F 39).getD (sy_i F 33).toNatClampNeg 0).toInt = ((sy_ai F 39).getD ((sy_i F 33).toInt).toNat 0).toInt := congrArg Int32.toInt q87
          have c23 := nz_bx hB (k := 23) (lo := 0) (hi := 512) rfl
          exfalso
          omega
        replace g9 : 0 ≤ (sy_i F 33).toInt := by omega
        by_cases g10 : 400 < (sy_i F 33).toInt
        · have c33 := nz_bx hB (k := 33) (lo := 0) (hi := 400) rfl
          have q87 : (sy_ai F 39).getD (sy_i F 33).toNatClampNeg 0 = (sy_ai F 39).getD ((sy_i F 33).toInt).toNat 0 := by simp only [nz_c]
          have n87 : ((sy_ai F 39).getD (sy_i F 33).toNatClampNeg 0).toInt = ((sy_ai F 39).getD ((sy_i F 33).toInt).toNat 0).toInt := congrArg Int32.toInt q87
          have c23 := nz_bx hB (k := 23) (lo := 0) (hi := 512) rfl
          exfalso
          omega
        replace g10 : (sy_i F 33).toInt ≤ 400 := by omega
        have c33 := nz_bx hB (k := 33) (lo := 0) (hi := 400) rfl
        have q87 : (sy_ai F 39).getD (sy_i F 33).toNatClampNeg 0 = (sy_ai F 39).getD ((sy_i F 33).toInt).toNat 0 := by simp only [nz_c]
        have n87 : ((sy_ai F 39).getD (sy_i F 33).toNatClampNeg 0).toInt = ((sy_ai F 39).getD ((sy_i F 33).toInt).toNat 0).toInt := congrArg Int32.toInt q87
        have c23 := nz_bx hB (k := 23) (lo := 0) (hi := 512) rfl
        have q88 : (sy_ai F 39).getD (sy_i F 33).toNatClampNeg 0 = (sy_ai F 39).getD ((sy_i F 33).toInt).toNat 0 := by simp only [nz_c]
        have n88 : ((sy_ai F 39).getD (sy_i F 33).toNatClampNeg 0).toInt = ((sy_ai F 39).getD ((sy_i F 33).toInt).toNat 0).toInt := congrArg Int32.toInt q88
        have n89 : ((sy_i F 86) + ((1 : Int32))).toInt = ((sy_i F 86).toInt + 1) := nz_add (rfl : (sy_i F 86).toInt = (sy_i F 86).toInt) (by decide : ((1 : Int32)).toInt = 1) (by omega) (by omega)
        exact k0pp_23_p3 hd F X1 X2 hB (by first | exact g0 | (simp only [nz_c]; exact g0)) (by first | exact g1 | (simp only [nz_c]; exact g1)) (by first | exact g2 | (simp only [nz_c]; exact g2)) (by first | exact g3 | (simp only [nz_c]; exact g3)) (by first | exact g4 | (simp only [nz_c]; exact g4)) (by first | exact ⟨by omega, by omega⟩ | (simp only [nz_c]; exact ⟨by omega, by omega⟩)) (by first | exact g5 | (simp only [nz_c]; exact g5) | (rw [n87]; exact g5)) (by first | exact g6 | (simp only [nz_c]; exact g6)) (by first | exact g7 | (simp only [nz_c]; exact g7)) (by first | exact g8 | (simp only [nz_c]; exact g8)) (by first | exact g9 | (simp only [nz_c]; exact g9)) (by first | exact g10 | (simp only [nz_c]; exact g10)) (by first | exact ⟨by omega, by omega⟩ | (simp only [nz_c]; exact ⟨by omega, by omega⟩)) (fun F1 g e34 e82 e83 e84 e85 e86 => k3 g0 g1 g2 g3 g4 g5 g6 g7 g8 g9 g10 F1 (nz_in0 hB [34] (fun j hj hn => g j hj (by simp only [List.mem_cons, List.not_mem_nil, or_false, not_or] at hn; omega)) (List.forall_mem_cons.mpr ⟨fun t ht => (Option.some.inj ht) ▸ (nz_hz e34), List.forall_mem_nil _⟩)) (fun j hj hn => g j hj (by simp only [List.mem_cons, List.not_mem_nil, or_false, not_or] at hn; omega)) (nz_fi (g 33 (by decide) (by decide))) ((congrArg Int32.toInt (zz_i e34)).trans (by decide : ((2 : Int32)).toInt = 2)) (nz_fi (g 23 (by decide) (by decide))) (nz_fa (g 39 (by decide) (by decide))) (nz_fa (g 32 (by decide) (by decide))) ((congrArg Int32.toInt (zz_i e82)).trans (rfl : (sy_i F 82).toInt = (sy_i F 82).toInt)) ((congrArg Int32.toInt (zz_i e83)).trans (rfl : (sy_i F 83).toInt = (sy_i F 83).toInt)) ((congrArg Int32.toInt (zz_i e84)).trans (by decide : ((0 : Int32)).toInt = 0)) ((congrArg Int32.toInt (zz_i e85)).trans n88) ((congrArg Int32.toInt (zz_i e86)).trans n89))
      replace g8 : (sy_i F 23).toInt < 512 := by omega
      by_cases g9 : (sy_i F 33).toInt < 0
      · have c33 := nz_bx hB (k := 33) (lo := 0) (hi := 400) rfl
        have q87 : (sy_ai F 39).getD (sy_i F 33).toNatClampNeg 0 = (sy_ai F 39).getD ((sy_i F 33).toInt).toNat 0 := by simp only [nz_c]
        have n87 : ((sy_ai F 39).getD (sy_i F 33).toNatClampNeg 0).toInt = ((sy_ai F 39).getD ((sy_i F 33).toInt).toNat 0).toInt := congrArg Int32.toInt q87
        have c23 := nz_bx hB (k := 23) (lo := 0) (hi := 512) rfl
        exfalso
        omega
      replace g9 : 0 ≤ (sy_i F 33).toInt := by omega
      by_cases g10 : 400 < (sy_i F 33).toInt
      · have c33 := nz_bx hB (k := 33) (lo := 0) (hi := 400) rfl
        have q87 : (sy_ai F 39).getD (sy_i F 33).toNatClampNeg 0 = (sy_ai F 39).getD ((sy_i F 33).toInt).toNat 0 := by simp only [nz_c]
        have n87 : ((sy_ai F 39).getD (sy_i F 33).toNatClampNeg 0).toInt = ((sy_ai F 39).getD ((sy_i F 33).toInt).toNat 0).toInt := congrArg Int32.toInt q87
        have c23 := nz_bx hB (k := 23) (lo := 0) (hi := 512) rfl
        exfalso
        omega
      replace g10 : (sy_i F 33).toInt ≤ 400 := by omega
      have c33 := nz_bx hB (k := 33) (lo := 0) (hi := 400) rfl
      have q87 : (sy_ai F 39).getD (sy_i F 33).toNatClampNeg 0 = (sy_ai F 39).getD ((sy_i F 33).toInt).toNat 0 := by simp only [nz_c]
      have n87 : ((sy_ai F 39).getD (sy_i F 33).toNatClampNeg 0).toInt = ((sy_ai F 39).getD ((sy_i F 33).toInt).toNat 0).toInt := congrArg Int32.toInt q87
      have c23 := nz_bx hB (k := 23) (lo := 0) (hi := 512) rfl
      have n89 : ((sy_i F 23) + ((1 : Int32))).toInt = ((sy_i F 23).toInt + 1) := nz_add (rfl : (sy_i F 23).toInt = (sy_i F 23).toInt) (by decide : ((1 : Int32)).toInt = 1) (by omega) (by omega)
      have w88 : jm_upd (sy_ai F 32) (sy_i F 23).toNatClampNeg (((-12) : Int32)) = jm_upd (sy_ai F 32) ((sy_i F 23).toInt).toNat (((-12) : Int32)) := by simp only [nz_c, (by decide : (((-12) : Int32)).toInt = (-12 : Int))]
      have q90 : (sy_ai F 39).getD (sy_i F 33).toNatClampNeg 0 = (sy_ai F 39).getD ((sy_i F 33).toInt).toNat 0 := by simp only [nz_c]
      have n90 : ((sy_ai F 39).getD (sy_i F 33).toNatClampNeg 0).toInt = ((sy_ai F 39).getD ((sy_i F 33).toInt).toNat 0).toInt := congrArg Int32.toInt q90
      have n91 : ((sy_i F 86) + ((1 : Int32))).toInt = ((sy_i F 86).toInt + 1) := nz_add (rfl : (sy_i F 86).toInt = (sy_i F 86).toInt) (by decide : ((1 : Int32)).toInt = 1) (by omega) (by omega)
      exact k0pp_23_p4 hd F X1 X2 hB (by first | exact g0 | (simp only [nz_c]; exact g0)) (by first | exact g1 | (simp only [nz_c]; exact g1)) (by first | exact g2 | (simp only [nz_c]; exact g2)) (by first | exact g3 | (simp only [nz_c]; exact g3)) (by first | exact g4 | (simp only [nz_c]; exact g4)) (by first | exact ⟨by omega, by omega⟩ | (simp only [nz_c]; exact ⟨by omega, by omega⟩)) (by first | exact g5 | (simp only [nz_c]; exact g5) | (rw [n87]; exact g5)) (by first | exact g6 | (simp only [nz_c]; exact g6)) (by first | exact g7 | (simp only [nz_c]; exact g7)) (by first | exact g8 | (simp only [nz_c]; exact g8)) (by first | exact ⟨by omega, by omega⟩ | (simp only [nz_c]; exact ⟨by omega, by omega⟩)) (by first | exact g9 | (simp only [nz_c]; exact g9)) (by first | exact g10 | (simp only [nz_c]; exact g10)) (by first | exact ⟨by omega, by omega⟩ | (simp only [nz_c]; exact ⟨by omega, by omega⟩)) (fun F1 g e23 e32 e34 e82 e83 e84 e85 e86 => k4 g0 g1 g2 g3 g4 g5 g6 g7 g8 g9 g10 F1 (nz_in0 hB [23, 32, 34] (fun j hj hn => g j hj (by simp only [List.mem_cons, List.not_mem_nil, or_false, not_or] at hn; omega)) (List.forall_mem_cons.mpr ⟨fun t ht => (Option.some.inj ht) ▸ (nz_hi e23 n89 (by omega) (by omega)), List.forall_mem_cons.mpr ⟨fun t ht => (Option.some.inj ht) ▸ (nz_hA e32 (nz_up (nz_ba hB (k := 32) (lo := (-2147483648)) (hi := 2147483646) rfl) (by decide : (((-12) : Int32)).toInt = (-12 : Int)) (by omega) (by omega))), List.forall_mem_cons.mpr ⟨fun t ht => (Option.some.inj ht) ▸ (nz_hz e34), List.forall_mem_nil _⟩⟩⟩)) (fun j hj hn => g j hj (by simp only [List.mem_cons, List.not_mem_nil, or_false, not_or] at hn; omega)) (nz_fi (g 33 (by decide) (by decide))) ((congrArg Int32.toInt (zz_i e34)).trans (by decide : ((2 : Int32)).toInt = 2)) ((congrArg Int32.toInt (zz_i e23)).trans n89) (nz_fa (g 39 (by decide) (by decide))) ((zz_ai e32).trans w88) ((congrArg Int32.toInt (zz_i e82)).trans (rfl : (sy_i F 82).toInt = (sy_i F 82).toInt)) ((congrArg Int32.toInt (zz_i e83)).trans (rfl : (sy_i F 83).toInt = (sy_i F 83).toInt)) ((congrArg Int32.toInt (zz_i e84)).trans (by decide : ((0 : Int32)).toInt = 0)) ((congrArg Int32.toInt (zz_i e85)).trans n90) ((congrArg Int32.toInt (zz_i e86)).trans n91))
    replace g5 : ((sy_ai F 39).getD ((sy_i F 33).toInt).toNat 0).toInt ≠ (sy_i F 85).toInt := by omega
    by_cases g6 : (sy_i F 85).toInt ≠ 42
    · have c33 := nz_bx hB (k := 33) (lo := 0) (hi := 400) rfl
      have q87 : (sy_ai F 39).getD (sy_i F 33).toNatClampNeg 0 = (sy_ai F 39).getD ((sy_i F 33).toInt).toNat 0 := by simp only [nz_c]
      have n87 : ((sy_ai F 39).getD (sy_i F 33).toNatClampNeg 0).toInt = ((sy_ai F 39).getD ((sy_i F 33).toInt).toNat 0).toInt := congrArg Int32.toInt q87
      exfalso
      omega
    replace g6 : (sy_i F 85).toInt = 42 := by omega
    by_cases g7 : 512 ≤ (sy_i F 23).toInt
    · by_cases g8 : (sy_i F 33).toInt < 0
      · have c33 := nz_bx hB (k := 33) (lo := 0) (hi := 400) rfl
        have q87 : (sy_ai F 39).getD (sy_i F 33).toNatClampNeg 0 = (sy_ai F 39).getD ((sy_i F 33).toInt).toNat 0 := by simp only [nz_c]
        have n87 : ((sy_ai F 39).getD (sy_i F 33).toNatClampNeg 0).toInt = ((sy_ai F 39).getD ((sy_i F 33).toInt).toNat 0).toInt := congrArg Int32.toInt q87
        have c23 := nz_bx hB (k := 23) (lo := 0) (hi := 512) rfl
        exfalso
        omega
      replace g8 : 0 ≤ (sy_i F 33).toInt := by omega
      by_cases g9 : 400 < (sy_i F 33).toInt
      · have c33 := nz_bx hB (k := 33) (lo := 0) (hi := 400) rfl
        have q87 : (sy_ai F 39).getD (sy_i F 33).toNatClampNeg 0 = (sy_ai F 39).getD ((sy_i F 33).toInt).toNat 0 := by simp only [nz_c]
        have n87 : ((sy_ai F 39).getD (sy_i F 33).toNatClampNeg 0).toInt = ((sy_ai F 39).getD ((sy_i F 33).toInt).toNat 0).toInt := congrArg Int32.toInt q87
        have c23 := nz_bx hB (k := 23) (lo := 0) (hi := 512) rfl
        exfalso
        omega
      replace g9 : (sy_i F 33).toInt ≤ 400 := by omega
      have c33 := nz_bx hB (k := 33) (lo := 0) (hi := 400) rfl
      have q87 : (sy_ai F 39).getD (sy_i F 33).toNatClampNeg 0 = (sy_ai F 39).getD ((sy_i F 33).toInt).toNat 0 := by simp only [nz_c]
      have n87 : ((sy_ai F 39).getD (sy_i F 33).toNatClampNeg 0).toInt = ((sy_ai F 39).getD ((sy_i F 33).toInt).toNat 0).toInt := congrArg Int32.toInt q87
      have c23 := nz_bx hB (k := 23) (lo := 0) (hi := 512) rfl
      have q88 : (sy_ai F 39).getD (sy_i F 33).toNatClampNeg 0 = (sy_ai F 39).getD ((sy_i F 33).toInt).toNat 0 := by simp only [nz_c]
      have n88 : ((sy_ai F 39).getD (sy_i F 33).toNatClampNeg 0).toInt = ((sy_ai F 39).getD ((sy_i F 33).toInt).toNat 0).toInt := congrArg Int32.toInt q88
      have n89 : ((sy_i F 86) + ((1 : Int32))).toInt = ((sy_i F 86).toInt + 1) := nz_add (rfl : (sy_i F 86).toInt = (sy_i F 86).toInt) (by decide : ((1 : Int32)).toInt = 1) (by omega) (by omega)
      exact k0pp_23_p5 hd F X1 X2 hB (by first | exact g0 | (simp only [nz_c]; exact g0)) (by first | exact g1 | (simp only [nz_c]; exact g1)) (by first | exact g2 | (simp only [nz_c]; exact g2)) (by first | exact g3 | (simp only [nz_c]; exact g3)) (by first | exact g4 | (simp only [nz_c]; exact g4)) (by first | exact ⟨by omega, by omega⟩ | (simp only [nz_c]; exact ⟨by omega, by omega⟩)) (by first | exact g5 | (simp only [nz_c]; exact g5) | (rw [n87]; exact g5)) (by first | exact g6 | (simp only [nz_c]; exact g6)) (by first | exact g7 | (simp only [nz_c]; exact g7)) (by first | exact g8 | (simp only [nz_c]; exact g8)) (by first | exact g9 | (simp only [nz_c]; exact g9)) (by first | exact ⟨by omega, by omega⟩ | (simp only [nz_c]; exact ⟨by omega, by omega⟩)) (fun F1 g e34 e82 e83 e84 e85 e86 => k5 g0 g1 g2 g3 g4 g5 g6 g7 g8 g9 F1 (nz_in0 hB [34] (fun j hj hn => g j hj (by simp only [List.mem_cons, List.not_mem_nil, or_false, not_or] at hn; omega)) (List.forall_mem_cons.mpr ⟨fun t ht => (Option.some.inj ht) ▸ (nz_hz e34), List.forall_mem_nil _⟩)) (fun j hj hn => g j hj (by simp only [List.mem_cons, List.not_mem_nil, or_false, not_or] at hn; omega)) (nz_fi (g 33 (by decide) (by decide))) ((congrArg Int32.toInt (zz_i e34)).trans (by decide : ((1 : Int32)).toInt = 1)) (nz_fi (g 23 (by decide) (by decide))) (nz_fa (g 39 (by decide) (by decide))) (nz_fa (g 32 (by decide) (by decide))) ((congrArg Int32.toInt (zz_i e82)).trans (rfl : (sy_i F 82).toInt = (sy_i F 82).toInt)) ((congrArg Int32.toInt (zz_i e83)).trans (rfl : (sy_i F 83).toInt = (sy_i F 83).toInt)) ((congrArg Int32.toInt (zz_i e84)).trans (by decide : ((0 : Int32)).toInt = 0)) ((congrArg Int32.toInt (zz_i e85)).trans n88) ((congrArg Int32.toInt (zz_i e86)).trans n89))
    replace g7 : (sy_i F 23).toInt < 512 := by omega
    by_cases g8 : (sy_i F 33).toInt < 0
    · have c33 := nz_bx hB (k := 33) (lo := 0) (hi := 400) rfl
      have q87 : (sy_ai F 39).getD (sy_i F 33).toNatClampNeg 0 = (sy_ai F 39).getD ((sy_i F 33).toInt).toNat 0 := by simp only [nz_c]
      have n87 : ((sy_ai F 39).getD (sy_i F 33).toNatClampNeg 0).toInt = ((sy_ai F 39).getD ((sy_i F 33).toInt).toNat 0).toInt := congrArg Int32.toInt q87
      have c23 := nz_bx hB (k := 23) (lo := 0) (hi := 512) rfl
      exfalso
      omega
    replace g8 : 0 ≤ (sy_i F 33).toInt := by omega
    by_cases g9 : 400 < (sy_i F 33).toInt
    · have c33 := nz_bx hB (k := 33) (lo := 0) (hi := 400) rfl
      have q87 : (sy_ai F 39).getD (sy_i F 33).toNatClampNeg 0 = (sy_ai F 39).getD ((sy_i F 33).toInt).toNat 0 := by simp only [nz_c]
      have n87 : ((sy_ai F 39).getD (sy_i F 33).toNatClampNeg 0).toInt = ((sy_ai F 39).getD ((sy_i F 33).toInt).toNat 0).toInt := congrArg Int32.toInt q87
      have c23 := nz_bx hB (k := 23) (lo := 0) (hi := 512) rfl
      exfalso
      omega
    replace g9 : (sy_i F 33).toInt ≤ 400 := by omega
    have c33 := nz_bx hB (k := 33) (lo := 0) (hi := 400) rfl
    have q87 : (sy_ai F 39).getD (sy_i F 33).toNatClampNeg 0 = (sy_ai F 39).getD ((sy_i F 33).toInt).toNat 0 := by simp only [nz_c]
    have n87 : ((sy_ai F 39).getD (sy_i F 33).toNatClampNeg 0).toInt = ((sy_ai F 39).getD ((sy_i F 33).toInt).toNat 0).toInt := congrArg Int32.toInt q87
    have c23 := nz_bx hB (k := 23) (lo := 0) (hi := 512) rfl
    have n89 : ((sy_i F 23) + ((1 : Int32))).toInt = ((sy_i F 23).toInt + 1) := nz_add (rfl : (sy_i F 23).toInt = (sy_i F 23).toInt) (by decide : ((1 : Int32)).toInt = 1) (by omega) (by omega)
    have w88 : jm_upd (sy_ai F 32) (sy_i F 23).toNatClampNeg (((-12) : Int32)) = jm_upd (sy_ai F 32) ((sy_i F 23).toInt).toNat (((-12) : Int32)) := by simp only [nz_c, (by decide : (((-12) : Int32)).toInt = (-12 : Int))]
    have q90 : (sy_ai F 39).getD (sy_i F 33).toNatClampNeg 0 = (sy_ai F 39).getD ((sy_i F 33).toInt).toNat 0 := by simp only [nz_c]
    have n90 : ((sy_ai F 39).getD (sy_i F 33).toNatClampNeg 0).toInt = ((sy_ai F 39).getD ((sy_i F 33).toInt).toNat 0).toInt := congrArg Int32.toInt q90
    have n91 : ((sy_i F 86) + ((1 : Int32))).toInt = ((sy_i F 86).toInt + 1) := nz_add (rfl : (sy_i F 86).toInt = (sy_i F 86).toInt) (by decide : ((1 : Int32)).toInt = 1) (by omega) (by omega)
    exact k0pp_23_p6 hd F X1 X2 hB (by first | exact g0 | (simp only [nz_c]; exact g0)) (by first | exact g1 | (simp only [nz_c]; exact g1)) (by first | exact g2 | (simp only [nz_c]; exact g2)) (by first | exact g3 | (simp only [nz_c]; exact g3)) (by first | exact g4 | (simp only [nz_c]; exact g4)) (by first | exact ⟨by omega, by omega⟩ | (simp only [nz_c]; exact ⟨by omega, by omega⟩)) (by first | exact g5 | (simp only [nz_c]; exact g5) | (rw [n87]; exact g5)) (by first | exact g6 | (simp only [nz_c]; exact g6)) (by first | exact g7 | (simp only [nz_c]; exact g7)) (by first | exact ⟨by omega, by omega⟩ | (simp only [nz_c]; exact ⟨by omega, by omega⟩)) (by first | exact g8 | (simp only [nz_c]; exact g8)) (by first | exact g9 | (simp only [nz_c]; exact g9)) (by first | exact ⟨by omega, by omega⟩ | (simp only [nz_c]; exact ⟨by omega, by omega⟩)) (fun F1 g e23 e32 e34 e82 e83 e84 e85 e86 => k6 g0 g1 g2 g3 g4 g5 g6 g7 g8 g9 F1 (nz_in0 hB [23, 32, 34] (fun j hj hn => g j hj (by simp only [List.mem_cons, List.not_mem_nil, or_false, not_or] at hn; omega)) (List.forall_mem_cons.mpr ⟨fun t ht => (Option.some.inj ht) ▸ (nz_hi e23 n89 (by omega) (by omega)), List.forall_mem_cons.mpr ⟨fun t ht => (Option.some.inj ht) ▸ (nz_hA e32 (nz_up (nz_ba hB (k := 32) (lo := (-2147483648)) (hi := 2147483646) rfl) (by decide : (((-12) : Int32)).toInt = (-12 : Int)) (by omega) (by omega))), List.forall_mem_cons.mpr ⟨fun t ht => (Option.some.inj ht) ▸ (nz_hz e34), List.forall_mem_nil _⟩⟩⟩)) (fun j hj hn => g j hj (by simp only [List.mem_cons, List.not_mem_nil, or_false, not_or] at hn; omega)) (nz_fi (g 33 (by decide) (by decide))) ((congrArg Int32.toInt (zz_i e34)).trans (by decide : ((1 : Int32)).toInt = 1)) ((congrArg Int32.toInt (zz_i e23)).trans n89) (nz_fa (g 39 (by decide) (by decide))) ((zz_ai e32).trans w88) ((congrArg Int32.toInt (zz_i e82)).trans (rfl : (sy_i F 82).toInt = (sy_i F 82).toInt)) ((congrArg Int32.toInt (zz_i e83)).trans (rfl : (sy_i F 83).toInt = (sy_i F 83).toInt)) ((congrArg Int32.toInt (zz_i e84)).trans (by decide : ((0 : Int32)).toInt = 0)) ((congrArg Int32.toInt (zz_i e85)).trans n90) ((congrArg Int32.toInt (zz_i e86)).trans n91))
  replace g2 : (sy_i F 85).toInt ≠ 42 := by omega
  by_cases g3 : (sy_i F 85).toInt ≠ 47
  · exact k0pp_23_p7 hd F X1 X2 hB (by first | exact g0 | (simp only [nz_c]; exact g0)) (by first | exact g1 | (simp only [nz_c]; exact g1)) (by first | exact g2 | (simp only [nz_c]; exact g2)) (by first | exact g3 | (simp only [nz_c]; exact g3)) (by first | exact (o1 g0 g1 g2 g3) | (simp only [nz_c]; exact (o1 g0 g1 g2 g3))) (fun F1 g  => by rw [(rfl : sy_i F 84 = sy_i F 84)]; exact k7 g0 g1 g2 g3 F1 (nz_in0 hB [] (fun j hj hn => g j hj (by simp only [List.mem_cons, List.not_mem_nil, or_false, not_or] at hn; exact trivial)) (List.forall_mem_nil _)) (fun j hj hn => g j hj (by simp only [List.mem_cons, List.not_mem_nil, or_false, not_or] at hn; exact trivial)) (nz_fi (g 33 (by decide) (by decide))) (nz_fi (g 34 (by decide) (by decide))) (nz_fi (g 23 (by decide) (by decide))) (nz_fa (g 39 (by decide) (by decide))) (nz_fa (g 32 (by decide) (by decide))))
  replace g3 : (sy_i F 85).toInt = 47 := by omega
  by_cases g4 : (sy_i F 33).toInt < 0
  · have c33 := nz_bx hB (k := 33) (lo := 0) (hi := 400) rfl
    exfalso
    omega
  replace g4 : 0 ≤ (sy_i F 33).toInt := by omega
  by_cases g5 : 400 < (sy_i F 33).toInt
  · have c33 := nz_bx hB (k := 33) (lo := 0) (hi := 400) rfl
    exfalso
    omega
  replace g5 : (sy_i F 33).toInt ≤ 400 := by omega
  by_cases g6 : ((sy_ai F 39).getD ((sy_i F 33).toInt).toNat 0).toInt = (sy_i F 85).toInt
  · by_cases g7 : (sy_i F 33).toInt < 400
    · have c33 := nz_bx hB (k := 33) (lo := 0) (hi := 400) rfl
      have q87 : (sy_ai F 39).getD (sy_i F 33).toNatClampNeg 0 = (sy_ai F 39).getD ((sy_i F 33).toInt).toNat 0 := by simp only [nz_c]
      have n87 : ((sy_ai F 39).getD (sy_i F 33).toNatClampNeg 0).toInt = ((sy_ai F 39).getD ((sy_i F 33).toInt).toNat 0).toInt := congrArg Int32.toInt q87
      have n88 : ((sy_i F 33) + ((1 : Int32))).toInt = ((sy_i F 33).toInt + 1) := nz_add (rfl : (sy_i F 33).toInt = (sy_i F 33).toInt) (by decide : ((1 : Int32)).toInt = 1) (by omega) (by omega)
      exact k0pp_23_p8 hd F X1 X2 hB (by first | exact g0 | (simp only [nz_c]; exact g0)) (by first | exact g1 | (simp only [nz_c]; exact g1)) (by first | exact g2 | (simp only [nz_c]; exact g2)) (by first | exact g3 | (simp only [nz_c]; exact g3)) (by first | exact g4 | (simp only [nz_c]; exact g4)) (by first | exact g5 | (simp only [nz_c]; exact g5)) (by first | exact ⟨by omega, by omega⟩ | (simp only [nz_c]; exact ⟨by omega, by omega⟩)) (by first | exact g6 | (simp only [nz_c]; exact g6) | (rw [n87]; exact g6)) (by first | exact g7 | (simp only [nz_c]; exact g7)) (fun F1 g e33 e82 e83 e84 e85 => k8 g0 g1 g2 g3 g4 g5 g6 g7 F1 (nz_in0 hB [33] (fun j hj hn => g j hj (by simp only [List.mem_cons, List.not_mem_nil, or_false, not_or] at hn; omega)) (List.forall_mem_cons.mpr ⟨fun t ht => (Option.some.inj ht) ▸ (nz_hi e33 n88 (by omega) (by omega)), List.forall_mem_nil _⟩)) (fun j hj hn => g j hj (by simp only [List.mem_cons, List.not_mem_nil, or_false, not_or] at hn; omega)) ((congrArg Int32.toInt (zz_i e33)).trans n88) (nz_fi (g 34 (by decide) (by decide))) (nz_fi (g 23 (by decide) (by decide))) (nz_fa (g 39 (by decide) (by decide))) (nz_fa (g 32 (by decide) (by decide))) ((congrArg Int32.toInt (zz_i e82)).trans (rfl : (sy_i F 82).toInt = (sy_i F 82).toInt)) ((congrArg Int32.toInt (zz_i e83)).trans (rfl : (sy_i F 83).toInt = (sy_i F 83).toInt)) ((congrArg Int32.toInt (zz_i e84)).trans (rfl : (sy_i F 85).toInt = (sy_i F 85).toInt)) ((congrArg Int32.toInt (zz_i e85)).trans (rfl : (sy_i F 86).toInt = (sy_i F 86).toInt)))
    replace g7 : 400 ≤ (sy_i F 33).toInt := by omega
    by_cases g8 : (sy_i F 85).toInt ≠ 42
    · by_cases g9 : 512 ≤ (sy_i F 23).toInt
      · by_cases g10 : (sy_i F 33).toInt < 0
        · have c33 := nz_bx hB (k := 33) (lo := 0) (hi := 400) rfl
          have q87 : (sy_ai F 39).getD (sy_i F 33).toNatClampNeg 0 = (sy_ai F 39).getD ((sy_i F 33).toInt).toNat 0 := by simp only [nz_c]
          have n87 : ((sy_ai F 39).getD (sy_i F 33).toNatClampNeg 0).toInt = ((sy_ai F 39).getD ((sy_i F 33).toInt).toNat 0).toInt := congrArg Int32.toInt q87
          have c23 := nz_bx hB (k := 23) (lo := 0) (hi := 512) rfl
          exfalso
          omega
        replace g10 : 0 ≤ (sy_i F 33).toInt := by omega
        by_cases g11 : 400 < (sy_i F 33).toInt
        · have c33 := nz_bx hB (k := 33) (lo := 0) (hi := 400) rfl
          have q87 : (sy_ai F 39).getD (sy_i F 33).toNatClampNeg 0 = (sy_ai F 39).getD ((sy_i F 33).toInt).toNat 0 := by simp only [nz_c]
          have n87 : ((sy_ai F 39).getD (sy_i F 33).toNatClampNeg 0).toInt = ((sy_ai F 39).getD ((sy_i F 33).toInt).toNat 0).toInt := congrArg Int32.toInt q87
          have c23 := nz_bx hB (k := 23) (lo := 0) (hi := 512) rfl
          exfalso
          omega
        replace g11 : (sy_i F 33).toInt ≤ 400 := by omega
        have c33 := nz_bx hB (k := 33) (lo := 0) (hi := 400) rfl
        have q87 : (sy_ai F 39).getD (sy_i F 33).toNatClampNeg 0 = (sy_ai F 39).getD ((sy_i F 33).toInt).toNat 0 := by simp only [nz_c]
        have n87 : ((sy_ai F 39).getD (sy_i F 33).toNatClampNeg 0).toInt = ((sy_ai F 39).getD ((sy_i F 33).toInt).toNat 0).toInt := congrArg Int32.toInt q87
        have c23 := nz_bx hB (k := 23) (lo := 0) (hi := 512) rfl
        have q88 : (sy_ai F 39).getD (sy_i F 33).toNatClampNeg 0 = (sy_ai F 39).getD ((sy_i F 33).toInt).toNat 0 := by simp only [nz_c]
        have n88 : ((sy_ai F 39).getD (sy_i F 33).toNatClampNeg 0).toInt = ((sy_ai F 39).getD ((sy_i F 33).toInt).toNat 0).toInt := congrArg Int32.toInt q88
        have n89 : ((sy_i F 86) + ((1 : Int32))).toInt = ((sy_i F 86).toInt + 1) := nz_add (rfl : (sy_i F 86).toInt = (sy_i F 86).toInt) (by decide : ((1 : Int32)).toInt = 1) (by omega) (by omega)
        exact k0pp_23_p9 hd F X1 X2 hB (by first | exact g0 | (simp only [nz_c]; exact g0)) (by first | exact g1 | (simp only [nz_c]; exact g1)) (by first | exact g2 | (simp only [nz_c]; exact g2)) (by first | exact g3 | (simp only [nz_c]; exact g3)) (by first | exact g4 | (simp only [nz_c]; exact g4)) (by first | exact g5 | (simp only [nz_c]; exact g5)) (by first | exact ⟨by omega, by omega⟩ | (simp only [nz_c]; exact ⟨by omega, by omega⟩)) (by first | exact g6 | (simp only [nz_c]; exact g6) | (rw [n87]; exact g6)) (by first | exact g7 | (simp only [nz_c]; exact g7)) (by first | exact g8 | (simp only [nz_c]; exact g8)) (by first | exact g9 | (simp only [nz_c]; exact g9)) (by first | exact g10 | (simp only [nz_c]; exact g10)) (by first | exact g11 | (simp only [nz_c]; exact g11)) (by first | exact ⟨by omega, by omega⟩ | (simp only [nz_c]; exact ⟨by omega, by omega⟩)) (fun F1 g e34 e82 e83 e84 e85 e86 => k9 g0 g1 g2 g3 g4 g5 g6 g7 g8 g9 g10 g11 F1 (nz_in0 hB [34] (fun j hj hn => g j hj (by simp only [List.mem_cons, List.not_mem_nil, or_false, not_or] at hn; omega)) (List.forall_mem_cons.mpr ⟨fun t ht => (Option.some.inj ht) ▸ (nz_hz e34), List.forall_mem_nil _⟩)) (fun j hj hn => g j hj (by simp only [List.mem_cons, List.not_mem_nil, or_false, not_or] at hn; omega)) (nz_fi (g 33 (by decide) (by decide))) ((congrArg Int32.toInt (zz_i e34)).trans (by decide : ((2 : Int32)).toInt = 2)) (nz_fi (g 23 (by decide) (by decide))) (nz_fa (g 39 (by decide) (by decide))) (nz_fa (g 32 (by decide) (by decide))) ((congrArg Int32.toInt (zz_i e82)).trans (rfl : (sy_i F 82).toInt = (sy_i F 82).toInt)) ((congrArg Int32.toInt (zz_i e83)).trans (rfl : (sy_i F 83).toInt = (sy_i F 83).toInt)) ((congrArg Int32.toInt (zz_i e84)).trans (by decide : ((0 : Int32)).toInt = 0)) ((congrArg Int32.toInt (zz_i e85)).trans n88) ((congrArg Int32.toInt (zz_i e86)).trans n89))
      replace g9 : (sy_i F 23).toInt < 512 := by omega
      by_cases g10 : (sy_i F 33).toInt < 0
      · have c33 := nz_bx hB (k := 33) (lo := 0) (hi := 400) rfl
        have q87 : (sy_ai F 39).getD (sy_i F 33).toNatClampNeg 0 = (sy_ai F 39).getD ((sy_i F 33).toInt).toNat 0 := by simp only [nz_c]
        have n87 : ((sy_ai F 39).getD (sy_i F 33).toNatClampNeg 0).toInt = ((sy_ai F 39).getD ((sy_i F 33).toInt).toNat 0).toInt := congrArg Int32.toInt q87
        have c23 := nz_bx hB (k := 23) (lo := 0) (hi := 512) rfl
        exfalso
        omega
      replace g10 : 0 ≤ (sy_i F 33).toInt := by omega
      by_cases g11 : 400 < (sy_i F 33).toInt
      · have c33 := nz_bx hB (k := 33) (lo := 0) (hi := 400) rfl
        have q87 : (sy_ai F 39).getD (sy_i F 33).toNatClampNeg 0 = (sy_ai F 39).getD ((sy_i F 33).toInt).toNat 0 := by simp only [nz_c]
        have n87 : ((sy_ai F 39).getD (sy_i F 33).toNatClampNeg 0).toInt = ((sy_ai F 39).getD ((sy_i F 33).toInt).toNat 0).toInt := congrArg Int32.toInt q87
        have c23 := nz_bx hB (k := 23) (lo := 0) (hi := 512) rfl
        exfalso
        omega
      replace g11 : (sy_i F 33).toInt ≤ 400 := by omega
      have c33 := nz_bx hB (k := 33) (lo := 0) (hi := 400) rfl
      have q87 : (sy_ai F 39).getD (sy_i F 33).toNatClampNeg 0 = (sy_ai F 39).getD ((sy_i F 33).toInt).toNat 0 := by simp only [nz_c]
      have n87 : ((sy_ai F 39).getD (sy_i F 33).toNatClampNeg 0).toInt = ((sy_ai F 39).getD ((sy_i F 33).toInt).toNat 0).toInt := congrArg Int32.toInt q87
      have c23 := nz_bx hB (k := 23) (lo := 0) (hi := 512) rfl
      have n89 : ((sy_i F 23) + ((1 : Int32))).toInt = ((sy_i F 23).toInt + 1) := nz_add (rfl : (sy_i F 23).toInt = (sy_i F 23).toInt) (by decide : ((1 : Int32)).toInt = 1) (by omega) (by omega)
      have w88 : jm_upd (sy_ai F 32) (sy_i F 23).toNatClampNeg (((-13) : Int32)) = jm_upd (sy_ai F 32) ((sy_i F 23).toInt).toNat (((-13) : Int32)) := by simp only [nz_c, (by decide : (((-13) : Int32)).toInt = (-13 : Int))]
      have q90 : (sy_ai F 39).getD (sy_i F 33).toNatClampNeg 0 = (sy_ai F 39).getD ((sy_i F 33).toInt).toNat 0 := by simp only [nz_c]
      have n90 : ((sy_ai F 39).getD (sy_i F 33).toNatClampNeg 0).toInt = ((sy_ai F 39).getD ((sy_i F 33).toInt).toNat 0).toInt := congrArg Int32.toInt q90
      have n91 : ((sy_i F 86) + ((1 : Int32))).toInt = ((sy_i F 86).toInt + 1) := nz_add (rfl : (sy_i F 86).toInt = (sy_i F 86).toInt) (by decide : ((1 : Int32)).toInt = 1) (by omega) (by omega)
      exact k0pp_23_p10 hd F X1 X2 hB (by first | exact g0 | (simp only [nz_c]; exact g0)) (by first | exact g1 | (simp only [nz_c]; exact g1)) (by first | exact g2 | (simp only [nz_c]; exact g2)) (by first | exact g3 | (simp only [nz_c]; exact g3)) (by first | exact g4 | (simp only [nz_c]; exact g4)) (by first | exact g5 | (simp only [nz_c]; exact g5)) (by first | exact ⟨by omega, by omega⟩ | (simp only [nz_c]; exact ⟨by omega, by omega⟩)) (by first | exact g6 | (simp only [nz_c]; exact g6) | (rw [n87]; exact g6)) (by first | exact g7 | (simp only [nz_c]; exact g7)) (by first | exact g8 | (simp only [nz_c]; exact g8)) (by first | exact g9 | (simp only [nz_c]; exact g9)) (by first | exact ⟨by omega, by omega⟩ | (simp only [nz_c]; exact ⟨by omega, by omega⟩)) (by first | exact g10 | (simp only [nz_c]; exact g10)) (by first | exact g11 | (simp only [nz_c]; exact g11)) (by first | exact ⟨by omega, by omega⟩ | (simp only [nz_c]; exact ⟨by omega, by omega⟩)) (fun F1 g e23 e32 e34 e82 e83 e84 e85 e86 => k10 g0 g1 g2 g3 g4 g5 g6 g7 g8 g9 g10 g11 F1 (nz_in0 hB [23, 32, 34] (fun j hj hn => g j hj (by simp only [List.mem_cons, List.not_mem_nil, or_false, not_or] at hn; omega)) (List.forall_mem_cons.mpr ⟨fun t ht => (Option.some.inj ht) ▸ (nz_hi e23 n89 (by omega) (by omega)), List.forall_mem_cons.mpr ⟨fun t ht => (Option.some.inj ht) ▸ (nz_hA e32 (nz_up (nz_ba hB (k := 32) (lo := (-2147483648)) (hi := 2147483646) rfl) (by decide : (((-13) : Int32)).toInt = (-13 : Int)) (by omega) (by omega))), List.forall_mem_cons.mpr ⟨fun t ht => (Option.some.inj ht) ▸ (nz_hz e34), List.forall_mem_nil _⟩⟩⟩)) (fun j hj hn => g j hj (by simp only [List.mem_cons, List.not_mem_nil, or_false, not_or] at hn; omega)) (nz_fi (g 33 (by decide) (by decide))) ((congrArg Int32.toInt (zz_i e34)).trans (by decide : ((2 : Int32)).toInt = 2)) ((congrArg Int32.toInt (zz_i e23)).trans n89) (nz_fa (g 39 (by decide) (by decide))) ((zz_ai e32).trans w88) ((congrArg Int32.toInt (zz_i e82)).trans (rfl : (sy_i F 82).toInt = (sy_i F 82).toInt)) ((congrArg Int32.toInt (zz_i e83)).trans (rfl : (sy_i F 83).toInt = (sy_i F 83).toInt)) ((congrArg Int32.toInt (zz_i e84)).trans (by decide : ((0 : Int32)).toInt = 0)) ((congrArg Int32.toInt (zz_i e85)).trans n90) ((congrArg Int32.toInt (zz_i e86)).trans n91))
    replace g8 : (sy_i F 85).toInt = 42 := by omega
    have c33 := nz_bx hB (k := 33) (lo := 0) (hi := 400) rfl
    have q87 : (sy_ai F 39).getD (sy_i F 33).toNatClampNeg 0 = (sy_ai F 39).getD ((sy_i F 33).toInt).toNat 0 := by simp only [nz_c]
    have n87 : ((sy_ai F 39).getD (sy_i F 33).toNatClampNeg 0).toInt = ((sy_ai F 39).getD ((sy_i F 33).toInt).toNat 0).toInt := congrArg Int32.toInt q87
    exfalso
    omega
  replace g6 : ((sy_ai F 39).getD ((sy_i F 33).toInt).toNat 0).toInt ≠ (sy_i F 85).toInt := by omega
  by_cases g7 : (sy_i F 85).toInt ≠ 42
  · by_cases g8 : 512 ≤ (sy_i F 23).toInt
    · by_cases g9 : (sy_i F 33).toInt < 0
      · have c33 := nz_bx hB (k := 33) (lo := 0) (hi := 400) rfl
        have q87 : (sy_ai F 39).getD (sy_i F 33).toNatClampNeg 0 = (sy_ai F 39).getD ((sy_i F 33).toInt).toNat 0 := by simp only [nz_c]
        have n87 : ((sy_ai F 39).getD (sy_i F 33).toNatClampNeg 0).toInt = ((sy_ai F 39).getD ((sy_i F 33).toInt).toNat 0).toInt := congrArg Int32.toInt q87
        have c23 := nz_bx hB (k := 23) (lo := 0) (hi := 512) rfl
        exfalso
        omega
      replace g9 : 0 ≤ (sy_i F 33).toInt := by omega
      by_cases g10 : 400 < (sy_i F 33).toInt
      · have c33 := nz_bx hB (k := 33) (lo := 0) (hi := 400) rfl
        have q87 : (sy_ai F 39).getD (sy_i F 33).toNatClampNeg 0 = (sy_ai F 39).getD ((sy_i F 33).toInt).toNat 0 := by simp only [nz_c]
        have n87 : ((sy_ai F 39).getD (sy_i F 33).toNatClampNeg 0).toInt = ((sy_ai F 39).getD ((sy_i F 33).toInt).toNat 0).toInt := congrArg Int32.toInt q87
        have c23 := nz_bx hB (k := 23) (lo := 0) (hi := 512) rfl
        exfalso
        omega
      replace g10 : (sy_i F 33).toInt ≤ 400 := by omega
      have c33 := nz_bx hB (k := 33) (lo := 0) (hi := 400) rfl
      have q87 : (sy_ai F 39).getD (sy_i F 33).toNatClampNeg 0 = (sy_ai F 39).getD ((sy_i F 33).toInt).toNat 0 := by simp only [nz_c]
      have n87 : ((sy_ai F 39).getD (sy_i F 33).toNatClampNeg 0).toInt = ((sy_ai F 39).getD ((sy_i F 33).toInt).toNat 0).toInt := congrArg Int32.toInt q87
      have c23 := nz_bx hB (k := 23) (lo := 0) (hi := 512) rfl
      have q88 : (sy_ai F 39).getD (sy_i F 33).toNatClampNeg 0 = (sy_ai F 39).getD ((sy_i F 33).toInt).toNat 0 := by simp only [nz_c]
      have n88 : ((sy_ai F 39).getD (sy_i F 33).toNatClampNeg 0).toInt = ((sy_ai F 39).getD ((sy_i F 33).toInt).toNat 0).toInt := congrArg Int32.toInt q88
      have n89 : ((sy_i F 86) + ((1 : Int32))).toInt = ((sy_i F 86).toInt + 1) := nz_add (rfl : (sy_i F 86).toInt = (sy_i F 86).toInt) (by decide : ((1 : Int32)).toInt = 1) (by omega) (by omega)
      exact k0pp_23_p11 hd F X1 X2 hB (by first | exact g0 | (simp only [nz_c]; exact g0)) (by first | exact g1 | (simp only [nz_c]; exact g1)) (by first | exact g2 | (simp only [nz_c]; exact g2)) (by first | exact g3 | (simp only [nz_c]; exact g3)) (by first | exact g4 | (simp only [nz_c]; exact g4)) (by first | exact g5 | (simp only [nz_c]; exact g5)) (by first | exact ⟨by omega, by omega⟩ | (simp only [nz_c]; exact ⟨by omega, by omega⟩)) (by first | exact g6 | (simp only [nz_c]; exact g6) | (rw [n87]; exact g6)) (by first | exact g7 | (simp only [nz_c]; exact g7)) (by first | exact g8 | (simp only [nz_c]; exact g8)) (by first | exact g9 | (simp only [nz_c]; exact g9)) (by first | exact g10 | (simp only [nz_c]; exact g10)) (by first | exact ⟨by omega, by omega⟩ | (simp only [nz_c]; exact ⟨by omega, by omega⟩)) (fun F1 g e34 e82 e83 e84 e85 e86 => k11 g0 g1 g2 g3 g4 g5 g6 g7 g8 g9 g10 F1 (nz_in0 hB [34] (fun j hj hn => g j hj (by simp only [List.mem_cons, List.not_mem_nil, or_false, not_or] at hn; omega)) (List.forall_mem_cons.mpr ⟨fun t ht => (Option.some.inj ht) ▸ (nz_hz e34), List.forall_mem_nil _⟩)) (fun j hj hn => g j hj (by simp only [List.mem_cons, List.not_mem_nil, or_false, not_or] at hn; omega)) (nz_fi (g 33 (by decide) (by decide))) ((congrArg Int32.toInt (zz_i e34)).trans (by decide : ((1 : Int32)).toInt = 1)) (nz_fi (g 23 (by decide) (by decide))) (nz_fa (g 39 (by decide) (by decide))) (nz_fa (g 32 (by decide) (by decide))) ((congrArg Int32.toInt (zz_i e82)).trans (rfl : (sy_i F 82).toInt = (sy_i F 82).toInt)) ((congrArg Int32.toInt (zz_i e83)).trans (rfl : (sy_i F 83).toInt = (sy_i F 83).toInt)) ((congrArg Int32.toInt (zz_i e84)).trans (by decide : ((0 : Int32)).toInt = 0)) ((congrArg Int32.toInt (zz_i e85)).trans n88) ((congrArg Int32.toInt (zz_i e86)).trans n89))
    replace g8 : (sy_i F 23).toInt < 512 := by omega
    by_cases g9 : (sy_i F 33).toInt < 0
    · have c33 := nz_bx hB (k := 33) (lo := 0) (hi := 400) rfl
      have q87 : (sy_ai F 39).getD (sy_i F 33).toNatClampNeg 0 = (sy_ai F 39).getD ((sy_i F 33).toInt).toNat 0 := by simp only [nz_c]
      have n87 : ((sy_ai F 39).getD (sy_i F 33).toNatClampNeg 0).toInt = ((sy_ai F 39).getD ((sy_i F 33).toInt).toNat 0).toInt := congrArg Int32.toInt q87
      have c23 := nz_bx hB (k := 23) (lo := 0) (hi := 512) rfl
      exfalso
      omega
    replace g9 : 0 ≤ (sy_i F 33).toInt := by omega
    by_cases g10 : 400 < (sy_i F 33).toInt
    · have c33 := nz_bx hB (k := 33) (lo := 0) (hi := 400) rfl
      have q87 : (sy_ai F 39).getD (sy_i F 33).toNatClampNeg 0 = (sy_ai F 39).getD ((sy_i F 33).toInt).toNat 0 := by simp only [nz_c]
      have n87 : ((sy_ai F 39).getD (sy_i F 33).toNatClampNeg 0).toInt = ((sy_ai F 39).getD ((sy_i F 33).toInt).toNat 0).toInt := congrArg Int32.toInt q87
      have c23 := nz_bx hB (k := 23) (lo := 0) (hi := 512) rfl
      exfalso
      omega
    replace g10 : (sy_i F 33).toInt ≤ 400 := by omega
    have c33 := nz_bx hB (k := 33) (lo := 0) (hi := 400) rfl
    have q87 : (sy_ai F 39).getD (sy_i F 33).toNatClampNeg 0 = (sy_ai F 39).getD ((sy_i F 33).toInt).toNat 0 := by simp only [nz_c]
    have n87 : ((sy_ai F 39).getD (sy_i F 33).toNatClampNeg 0).toInt = ((sy_ai F 39).getD ((sy_i F 33).toInt).toNat 0).toInt := congrArg Int32.toInt q87
    have c23 := nz_bx hB (k := 23) (lo := 0) (hi := 512) rfl
    have n89 : ((sy_i F 23) + ((1 : Int32))).toInt = ((sy_i F 23).toInt + 1) := nz_add (rfl : (sy_i F 23).toInt = (sy_i F 23).toInt) (by decide : ((1 : Int32)).toInt = 1) (by omega) (by omega)
    have w88 : jm_upd (sy_ai F 32) (sy_i F 23).toNatClampNeg (((-13) : Int32)) = jm_upd (sy_ai F 32) ((sy_i F 23).toInt).toNat (((-13) : Int32)) := by simp only [nz_c, (by decide : (((-13) : Int32)).toInt = (-13 : Int))]
    have q90 : (sy_ai F 39).getD (sy_i F 33).toNatClampNeg 0 = (sy_ai F 39).getD ((sy_i F 33).toInt).toNat 0 := by simp only [nz_c]
    have n90 : ((sy_ai F 39).getD (sy_i F 33).toNatClampNeg 0).toInt = ((sy_ai F 39).getD ((sy_i F 33).toInt).toNat 0).toInt := congrArg Int32.toInt q90
    have n91 : ((sy_i F 86) + ((1 : Int32))).toInt = ((sy_i F 86).toInt + 1) := nz_add (rfl : (sy_i F 86).toInt = (sy_i F 86).toInt) (by decide : ((1 : Int32)).toInt = 1) (by omega) (by omega)
    exact k0pp_23_p12 hd F X1 X2 hB (by first | exact g0 | (simp only [nz_c]; exact g0)) (by first | exact g1 | (simp only [nz_c]; exact g1)) (by first | exact g2 | (simp only [nz_c]; exact g2)) (by first | exact g3 | (simp only [nz_c]; exact g3)) (by first | exact g4 | (simp only [nz_c]; exact g4)) (by first | exact g5 | (simp only [nz_c]; exact g5)) (by first | exact ⟨by omega, by omega⟩ | (simp only [nz_c]; exact ⟨by omega, by omega⟩)) (by first | exact g6 | (simp only [nz_c]; exact g6) | (rw [n87]; exact g6)) (by first | exact g7 | (simp only [nz_c]; exact g7)) (by first | exact g8 | (simp only [nz_c]; exact g8)) (by first | exact ⟨by omega, by omega⟩ | (simp only [nz_c]; exact ⟨by omega, by omega⟩)) (by first | exact g9 | (simp only [nz_c]; exact g9)) (by first | exact g10 | (simp only [nz_c]; exact g10)) (by first | exact ⟨by omega, by omega⟩ | (simp only [nz_c]; exact ⟨by omega, by omega⟩)) (fun F1 g e23 e32 e34 e82 e83 e84 e85 e86 => k12 g0 g1 g2 g3 g4 g5 g6 g7 g8 g9 g10 F1 (nz_in0 hB [23, 32, 34] (fun j hj hn => g j hj (by simp only [List.mem_cons, List.not_mem_nil, or_false, not_or] at hn; omega)) (List.forall_mem_cons.mpr ⟨fun t ht => (Option.some.inj ht) ▸ (nz_hi e23 n89 (by omega) (by omega)), List.forall_mem_cons.mpr ⟨fun t ht => (Option.some.inj ht) ▸ (nz_hA e32 (nz_up (nz_ba hB (k := 32) (lo := (-2147483648)) (hi := 2147483646) rfl) (by decide : (((-13) : Int32)).toInt = (-13 : Int)) (by omega) (by omega))), List.forall_mem_cons.mpr ⟨fun t ht => (Option.some.inj ht) ▸ (nz_hz e34), List.forall_mem_nil _⟩⟩⟩)) (fun j hj hn => g j hj (by simp only [List.mem_cons, List.not_mem_nil, or_false, not_or] at hn; omega)) (nz_fi (g 33 (by decide) (by decide))) ((congrArg Int32.toInt (zz_i e34)).trans (by decide : ((1 : Int32)).toInt = 1)) ((congrArg Int32.toInt (zz_i e23)).trans n89) (nz_fa (g 39 (by decide) (by decide))) ((zz_ai e32).trans w88) ((congrArg Int32.toInt (zz_i e82)).trans (rfl : (sy_i F 82).toInt = (sy_i F 82).toInt)) ((congrArg Int32.toInt (zz_i e83)).trans (rfl : (sy_i F 83).toInt = (sy_i F 83).toInt)) ((congrArg Int32.toInt (zz_i e84)).trans (by decide : ((0 : Int32)).toInt = 0)) ((congrArg Int32.toInt (zz_i e85)).trans n90) ((congrArg Int32.toInt (zz_i e86)).trans n91))
  replace g7 : (sy_i F 85).toInt = 42 := by omega
  have c33 := nz_bx hB (k := 33) (lo := 0) (hi := 400) rfl
  have q87 : (sy_ai F 39).getD (sy_i F 33).toNatClampNeg 0 = (sy_ai F 39).getD ((sy_i F 33).toInt).toNat 0 := by simp only [nz_c]
  have n87 : ((sy_ai F 39).getD (sy_i F 33).toNatClampNeg 0).toInt = ((sy_ai F 39).getD ((sy_i F 33).toInt).toNat 0).toInt := congrArg Int32.toInt q87
  exfalso
  omega
theorem k0zp_64 {Ls : Nat} {xs : Nat → Int32} {d : Nat} {Q : Option Value → jm_h → Prop} (hd : 4 ≤ d) (F : Nat → sy_d) (X1 X2 : List jm_c) (hB : iv_in F iv_B0)
    (a85 : 0 ≤ (sy_i F 85).toInt ∧ (sy_i F 85).toInt ≤ 400)
    (k0 : (sy_i F 86).toInt = 0 → (sy_i F 84).toInt ≠ 42 → 512 ≤ (sy_i F 23).toInt → 0 ≤ (sy_i F 33).toInt → (sy_i F 33).toInt ≤ 400 → ∀ F1 : Nat → sy_d, iv_in F1 iv_B0 → (∀ j, j < 82 → j ∉ ([] : List Nat) → F1 j = F j) → (sy_i F1 33).toInt = (sy_i F 33).toInt → (sy_i F1 34).toInt = (sy_i F 34).toInt → (sy_i F1 23).toInt = (sy_i F 23).toInt → sy_ai F1 39 = sy_ai F 39 → sy_ai F1 32 = sy_ai F 32 → (sy_i F1 82).toInt = (sy_i F 82).toInt → (sy_i F1 83).toInt = (sy_i F 83).toInt → (sy_i F1 84).toInt = 0 → (sy_i F1 85).toInt = ((sy_ai F 39).getD ((sy_i F 33).toInt).toNat 0).toInt → (sy_i F1 86).toInt = ((sy_i F 85).toInt + 1) → hd_W Ls xs d jm_M39 Q (23, sy_dL F1 [some (.inl (.ref 30)), some (.inr (.inl 82)), some (.inr (.inl 83)), some (.inr (.inl 84)), some (.inr (.inl 85)), some (.inr (.inl 86))], sy_dS F1 [], sy_dh F1 X1 X2 (iv_H 0), 0, 0))
    (k1 : (sy_i F 86).toInt = 0 → (sy_i F 84).toInt ≠ 42 → (sy_i F 23).toInt < 512 → 0 ≤ (sy_i F 33).toInt → (sy_i F 33).toInt ≤ 400 → ∀ F1 : Nat → sy_d, iv_in F1 iv_B0 → (∀ j, j < 82 → j ∉ ([23, 32] : List Nat) → F1 j = F j) → (sy_i F1 33).toInt = (sy_i F 33).toInt → (sy_i F1 34).toInt = (sy_i F 34).toInt → (sy_i F1 23).toInt = ((sy_i F 23).toInt + 1) → sy_ai F1 39 = sy_ai F 39 → sy_ai F1 32 = jm_upd (sy_ai F 32) ((sy_i F 23).toInt).toNat (((-13) : Int32)) → (sy_i F1 82).toInt = (sy_i F 82).toInt → (sy_i F1 83).toInt = (sy_i F 83).toInt → (sy_i F1 84).toInt = 0 → (sy_i F1 85).toInt = ((sy_ai F 39).getD ((sy_i F 33).toInt).toNat 0).toInt → (sy_i F1 86).toInt = ((sy_i F 85).toInt + 1) → hd_W Ls xs d jm_M39 Q (23, sy_dL F1 [some (.inl (.ref 30)), some (.inr (.inl 82)), some (.inr (.inl 83)), some (.inr (.inl 84)), some (.inr (.inl 85)), some (.inr (.inl 86))], sy_dS F1 [], sy_dh F1 X1 X2 (iv_H 0), 0, 0))
    (k2 : (sy_i F 86).toInt = 0 → (sy_i F 84).toInt = 42 → 512 ≤ (sy_i F 23).toInt → 0 ≤ (sy_i F 33).toInt → (sy_i F 33).toInt ≤ 400 → ∀ F1 : Nat → sy_d, iv_in F1 iv_B0 → (∀ j, j < 82 → j ∉ ([] : List Nat) → F1 j = F j) → (sy_i F1 33).toInt = (sy_i F 33).toInt → (sy_i F1 34).toInt = (sy_i F 34).toInt → (sy_i F1 23).toInt = (sy_i F 23).toInt → sy_ai F1 39 = sy_ai F 39 → sy_ai F1 32 = sy_ai F 32 → (sy_i F1 82).toInt = (sy_i F 82).toInt → (sy_i F1 83).toInt = (sy_i F 83).toInt → (sy_i F1 84).toInt = 0 → (sy_i F1 85).toInt = ((sy_ai F 39).getD ((sy_i F 33).toInt).toNat 0).toInt → (sy_i F1 86).toInt = ((sy_i F 85).toInt + 1) → hd_W Ls xs d jm_M39 Q (23, sy_dL F1 [some (.inl (.ref 30)), some (.inr (.inl 82)), some (.inr (.inl 83)), some (.inr (.inl 84)), some (.inr (.inl 85)), some (.inr (.inl 86))], sy_dS F1 [], sy_dh F1 X1 X2 (iv_H 0), 0, 0))
    (k3 : (sy_i F 86).toInt = 0 → (sy_i F 84).toInt = 42 → (sy_i F 23).toInt < 512 → 0 ≤ (sy_i F 33).toInt → (sy_i F 33).toInt ≤ 400 → ∀ F1 : Nat → sy_d, iv_in F1 iv_B0 → (∀ j, j < 82 → j ∉ ([23, 32] : List Nat) → F1 j = F j) → (sy_i F1 33).toInt = (sy_i F 33).toInt → (sy_i F1 34).toInt = (sy_i F 34).toInt → (sy_i F1 23).toInt = ((sy_i F 23).toInt + 1) → sy_ai F1 39 = sy_ai F 39 → sy_ai F1 32 = jm_upd (sy_ai F 32) ((sy_i F 23).toInt).toNat (((-12) : Int32)) → (sy_i F1 82).toInt = (sy_i F 82).toInt → (sy_i F1 83).toInt = (sy_i F 83).toInt → (sy_i F1 84).toInt = 0 → (sy_i F1 85).toInt = ((sy_ai F 39).getD ((sy_i F 33).toInt).toNat 0).toInt → (sy_i F1 86).toInt = ((sy_i F 85).toInt + 1) → hd_W Ls xs d jm_M39 Q (23, sy_dL F1 [some (.inl (.ref 30)), some (.inr (.inl 82)), some (.inr (.inl 83)), some (.inr (.inl 84)), some (.inr (.inl 85)), some (.inr (.inl 86))], sy_dS F1 [], sy_dh F1 X1 X2 (iv_H 0), 0, 0))
    (k4 : (sy_i F 86).toInt ≠ 0 → (sy_i F 84).toInt ≠ 42 → 512 ≤ (sy_i F 23).toInt → 0 ≤ (sy_i F 33).toInt → (sy_i F 33).toInt ≤ 400 → ∀ F1 : Nat → sy_d, iv_in F1 iv_B0 → (∀ j, j < 82 → j ∉ ([] : List Nat) → F1 j = F j) → (sy_i F1 33).toInt = (sy_i F 33).toInt → (sy_i F1 34).toInt = (sy_i F 34).toInt → (sy_i F1 23).toInt = (sy_i F 23).toInt → sy_ai F1 39 = sy_ai F 39 → sy_ai F1 32 = sy_ai F 32 → (sy_i F1 82).toInt = (sy_i F 82).toInt → (sy_i F1 83).toInt = (sy_i F 83).toInt → (sy_i F1 84).toInt = 1 → (sy_i F1 85).toInt = ((sy_ai F 39).getD ((sy_i F 33).toInt).toNat 0).toInt → (sy_i F1 86).toInt = ((sy_i F 85).toInt + 1) → hd_W Ls xs d jm_M39 Q (23, sy_dL F1 [some (.inl (.ref 30)), some (.inr (.inl 82)), some (.inr (.inl 83)), some (.inr (.inl 84)), some (.inr (.inl 85)), some (.inr (.inl 86))], sy_dS F1 [], sy_dh F1 X1 X2 (iv_H 0), 0, 0))
    (k5 : (sy_i F 86).toInt ≠ 0 → (sy_i F 84).toInt ≠ 42 → (sy_i F 23).toInt < 512 → 0 ≤ (sy_i F 33).toInt → (sy_i F 33).toInt ≤ 400 → ∀ F1 : Nat → sy_d, iv_in F1 iv_B0 → (∀ j, j < 82 → j ∉ ([23, 32] : List Nat) → F1 j = F j) → (sy_i F1 33).toInt = (sy_i F 33).toInt → (sy_i F1 34).toInt = (sy_i F 34).toInt → (sy_i F1 23).toInt = ((sy_i F 23).toInt + 1) → sy_ai F1 39 = sy_ai F 39 → sy_ai F1 32 = jm_upd (sy_ai F 32) ((sy_i F 23).toInt).toNat (((-13) : Int32)) → (sy_i F1 82).toInt = (sy_i F 82).toInt → (sy_i F1 83).toInt = (sy_i F 83).toInt → (sy_i F1 84).toInt = 1 → (sy_i F1 85).toInt = ((sy_ai F 39).getD ((sy_i F 33).toInt).toNat 0).toInt → (sy_i F1 86).toInt = ((sy_i F 85).toInt + 1) → hd_W Ls xs d jm_M39 Q (23, sy_dL F1 [some (.inl (.ref 30)), some (.inr (.inl 82)), some (.inr (.inl 83)), some (.inr (.inl 84)), some (.inr (.inl 85)), some (.inr (.inl 86))], sy_dS F1 [], sy_dh F1 X1 X2 (iv_H 0), 0, 0))
    (k6 : (sy_i F 86).toInt ≠ 0 → (sy_i F 84).toInt = 42 → 512 ≤ (sy_i F 23).toInt → 0 ≤ (sy_i F 33).toInt → (sy_i F 33).toInt ≤ 400 → ∀ F1 : Nat → sy_d, iv_in F1 iv_B0 → (∀ j, j < 82 → j ∉ ([] : List Nat) → F1 j = F j) → (sy_i F1 33).toInt = (sy_i F 33).toInt → (sy_i F1 34).toInt = (sy_i F 34).toInt → (sy_i F1 23).toInt = (sy_i F 23).toInt → sy_ai F1 39 = sy_ai F 39 → sy_ai F1 32 = sy_ai F 32 → (sy_i F1 82).toInt = (sy_i F 82).toInt → (sy_i F1 83).toInt = (sy_i F 83).toInt → (sy_i F1 84).toInt = 1 → (sy_i F1 85).toInt = ((sy_ai F 39).getD ((sy_i F 33).toInt).toNat 0).toInt → (sy_i F1 86).toInt = ((sy_i F 85).toInt + 1) → hd_W Ls xs d jm_M39 Q (23, sy_dL F1 [some (.inl (.ref 30)), some (.inr (.inl 82)), some (.inr (.inl 83)), some (.inr (.inl 84)), some (.inr (.inl 85)), some (.inr (.inl 86))], sy_dS F1 [], sy_dh F1 X1 X2 (iv_H 0), 0, 0))
    (k7 : (sy_i F 86).toInt ≠ 0 → (sy_i F 84).toInt = 42 → (sy_i F 23).toInt < 512 → 0 ≤ (sy_i F 33).toInt → (sy_i F 33).toInt ≤ 400 → ∀ F1 : Nat → sy_d, iv_in F1 iv_B0 → (∀ j, j < 82 → j ∉ ([23, 32] : List Nat) → F1 j = F j) → (sy_i F1 33).toInt = (sy_i F 33).toInt → (sy_i F1 34).toInt = (sy_i F 34).toInt → (sy_i F1 23).toInt = ((sy_i F 23).toInt + 1) → sy_ai F1 39 = sy_ai F 39 → sy_ai F1 32 = jm_upd (sy_ai F 32) ((sy_i F 23).toInt).toNat (((-12) : Int32)) → (sy_i F1 82).toInt = (sy_i F 82).toInt → (sy_i F1 83).toInt = (sy_i F 83).toInt → (sy_i F1 84).toInt = 1 → (sy_i F1 85).toInt = ((sy_ai F 39).getD ((sy_i F 33).toInt).toNat 0).toInt → (sy_i F1 86).toInt = ((sy_i F 85).toInt + 1) → hd_W Ls xs d jm_M39 Q (23, sy_dL F1 [some (.inl (.ref 30)), some (.inr (.inl 82)), some (.inr (.inl 83)), some (.inr (.inl 84)), some (.inr (.inl 85)), some (.inr (.inl 86))], sy_dS F1 [], sy_dh F1 X1 X2 (iv_H 0), 0, 0)) :
    hd_W Ls xs d jm_M39 Q (64, sy_dL F [some (.inl (.ref 30)), some (.inr (.inl 82)), some (.inr (.inl 83)), none, some (.inr (.inl 84)), some (.inr (.inl 85))], sy_dS F [.inr (.inl 86)], sy_dh F X1 X2 (iv_H 0), 0, 0) := by
  by_cases g0 : (sy_i F 86).toInt = 0
  · by_cases g1 : (sy_i F 84).toInt ≠ 42
    · by_cases g2 : 512 ≤ (sy_i F 23).toInt
      · by_cases g3 : (sy_i F 33).toInt < 0
        · have c23 := nz_bx hB (k := 23) (lo := 0) (hi := 512) rfl
          have c33 := nz_bx hB (k := 33) (lo := 0) (hi := 400) rfl
          exfalso
          omega
        replace g3 : 0 ≤ (sy_i F 33).toInt := by omega
        by_cases g4 : 400 < (sy_i F 33).toInt
        · have c23 := nz_bx hB (k := 23) (lo := 0) (hi := 512) rfl
          have c33 := nz_bx hB (k := 33) (lo := 0) (hi := 400) rfl
          exfalso
          omega
        replace g4 : (sy_i F 33).toInt ≤ 400 := by omega
        have c23 := nz_bx hB (k := 23) (lo := 0) (hi := 512) rfl
        have c33 := nz_bx hB (k := 33) (lo := 0) (hi := 400) rfl
        have q87 : (sy_ai F 39).getD (sy_i F 33).toNatClampNeg 0 = (sy_ai F 39).getD ((sy_i F 33).toInt).toNat 0 := by simp only [nz_c]
        have n87 : ((sy_ai F 39).getD (sy_i F 33).toNatClampNeg 0).toInt = ((sy_ai F 39).getD ((sy_i F 33).toInt).toNat 0).toInt := congrArg Int32.toInt q87
        have n88 : ((sy_i F 85) + ((1 : Int32))).toInt = ((sy_i F 85).toInt + 1) := nz_add (rfl : (sy_i F 85).toInt = (sy_i F 85).toInt) (by decide : ((1 : Int32)).toInt = 1) (by omega) (by omega)
        exact k0pp_64_p0 hd F X1 X2 hB (by first | exact g0 | (simp only [nz_c]; exact g0)) (by first | exact g1 | (simp only [nz_c]; exact g1)) (by first | exact g2 | (simp only [nz_c]; exact g2)) (by first | exact g3 | (simp only [nz_c]; exact g3)) (by first | exact g4 | (simp only [nz_c]; exact g4)) (by first | exact ⟨by omega, by omega⟩ | (simp only [nz_c]; exact ⟨by omega, by omega⟩)) (fun F1 g e82 e83 e84 e85 e86 => k0 g0 g1 g2 g3 g4 F1 (nz_in0 hB [] (fun j hj hn => g j hj (by simp only [List.mem_cons, List.not_mem_nil, or_false, not_or] at hn; exact trivial)) (List.forall_mem_nil _)) (fun j hj hn => g j hj (by simp only [List.mem_cons, List.not_mem_nil, or_false, not_or] at hn; exact trivial)) (nz_fi (g 33 (by decide) (by decide))) (nz_fi (g 34 (by decide) (by decide))) (nz_fi (g 23 (by decide) (by decide))) (nz_fa (g 39 (by decide) (by decide))) (nz_fa (g 32 (by decide) (by decide))) ((congrArg Int32.toInt (zz_i e82)).trans (rfl : (sy_i F 82).toInt = (sy_i F 82).toInt)) ((congrArg Int32.toInt (zz_i e83)).trans (rfl : (sy_i F 83).toInt = (sy_i F 83).toInt)) ((congrArg Int32.toInt (zz_i e84)).trans (by decide : ((0 : Int32)).toInt = 0)) ((congrArg Int32.toInt (zz_i e85)).trans n87) ((congrArg Int32.toInt (zz_i e86)).trans n88))
      replace g2 : (sy_i F 23).toInt < 512 := by omega
      by_cases g3 : (sy_i F 33).toInt < 0
      · have c23 := nz_bx hB (k := 23) (lo := 0) (hi := 512) rfl
        have c33 := nz_bx hB (k := 33) (lo := 0) (hi := 400) rfl
        exfalso
        omega
      replace g3 : 0 ≤ (sy_i F 33).toInt := by omega
      by_cases g4 : 400 < (sy_i F 33).toInt
      · have c23 := nz_bx hB (k := 23) (lo := 0) (hi := 512) rfl
        have c33 := nz_bx hB (k := 33) (lo := 0) (hi := 400) rfl
        exfalso
        omega
      replace g4 : (sy_i F 33).toInt ≤ 400 := by omega
      have c23 := nz_bx hB (k := 23) (lo := 0) (hi := 512) rfl
      have c33 := nz_bx hB (k := 33) (lo := 0) (hi := 400) rfl
      have n88 : ((sy_i F 23) + ((1 : Int32))).toInt = ((sy_i F 23).toInt + 1) := nz_add (rfl : (sy_i F 23).toInt = (sy_i F 23).toInt) (by decide : ((1 : Int32)).toInt = 1) (by omega) (by omega)
      have w87 : jm_upd (sy_ai F 32) (sy_i F 23).toNatClampNeg (((-13) : Int32)) = jm_upd (sy_ai F 32) ((sy_i F 23).toInt).toNat (((-13) : Int32)) := by simp only [nz_c, (by decide : (((-13) : Int32)).toInt = (-13 : Int))]
      have q89 : (sy_ai F 39).getD (sy_i F 33).toNatClampNeg 0 = (sy_ai F 39).getD ((sy_i F 33).toInt).toNat 0 := by simp only [nz_c]
      have n89 : ((sy_ai F 39).getD (sy_i F 33).toNatClampNeg 0).toInt = ((sy_ai F 39).getD ((sy_i F 33).toInt).toNat 0).toInt := congrArg Int32.toInt q89
      have n90 : ((sy_i F 85) + ((1 : Int32))).toInt = ((sy_i F 85).toInt + 1) := nz_add (rfl : (sy_i F 85).toInt = (sy_i F 85).toInt) (by decide : ((1 : Int32)).toInt = 1) (by omega) (by omega)
      exact k0pp_64_p1 hd F X1 X2 hB (by first | exact g0 | (simp only [nz_c]; exact g0)) (by first | exact g1 | (simp only [nz_c]; exact g1)) (by first | exact g2 | (simp only [nz_c]; exact g2)) (by first | exact ⟨by omega, by omega⟩ | (simp only [nz_c]; exact ⟨by omega, by omega⟩)) (by first | exact g3 | (simp only [nz_c]; exact g3)) (by first | exact g4 | (simp only [nz_c]; exact g4)) (by first | exact ⟨by omega, by omega⟩ | (simp only [nz_c]; exact ⟨by omega, by omega⟩)) (fun F1 g e23 e32 e82 e83 e84 e85 e86 => k1 g0 g1 g2 g3 g4 F1 (nz_in0 hB [23, 32] (fun j hj hn => g j hj (by simp only [List.mem_cons, List.not_mem_nil, or_false, not_or] at hn; omega)) (List.forall_mem_cons.mpr ⟨fun t ht => (Option.some.inj ht) ▸ (nz_hi e23 n88 (by omega) (by omega)), List.forall_mem_cons.mpr ⟨fun t ht => (Option.some.inj ht) ▸ (nz_hA e32 (nz_up (nz_ba hB (k := 32) (lo := (-2147483648)) (hi := 2147483646) rfl) (by decide : (((-13) : Int32)).toInt = (-13 : Int)) (by omega) (by omega))), List.forall_mem_nil _⟩⟩)) (fun j hj hn => g j hj (by simp only [List.mem_cons, List.not_mem_nil, or_false, not_or] at hn; omega)) (nz_fi (g 33 (by decide) (by decide))) (nz_fi (g 34 (by decide) (by decide))) ((congrArg Int32.toInt (zz_i e23)).trans n88) (nz_fa (g 39 (by decide) (by decide))) ((zz_ai e32).trans w87) ((congrArg Int32.toInt (zz_i e82)).trans (rfl : (sy_i F 82).toInt = (sy_i F 82).toInt)) ((congrArg Int32.toInt (zz_i e83)).trans (rfl : (sy_i F 83).toInt = (sy_i F 83).toInt)) ((congrArg Int32.toInt (zz_i e84)).trans (by decide : ((0 : Int32)).toInt = 0)) ((congrArg Int32.toInt (zz_i e85)).trans n89) ((congrArg Int32.toInt (zz_i e86)).trans n90))
    replace g1 : (sy_i F 84).toInt = 42 := by omega
    by_cases g2 : 512 ≤ (sy_i F 23).toInt
    · by_cases g3 : (sy_i F 33).toInt < 0
      · have c23 := nz_bx hB (k := 23) (lo := 0) (hi := 512) rfl
        have c33 := nz_bx hB (k := 33) (lo := 0) (hi := 400) rfl
        exfalso
        omega
      replace g3 : 0 ≤ (sy_i F 33).toInt := by omega
      by_cases g4 : 400 < (sy_i F 33).toInt
      · have c23 := nz_bx hB (k := 23) (lo := 0) (hi := 512) rfl
        have c33 := nz_bx hB (k := 33) (lo := 0) (hi := 400) rfl
        exfalso
        omega
      replace g4 : (sy_i F 33).toInt ≤ 400 := by omega
      have c23 := nz_bx hB (k := 23) (lo := 0) (hi := 512) rfl
      have c33 := nz_bx hB (k := 33) (lo := 0) (hi := 400) rfl
      have q87 : (sy_ai F 39).getD (sy_i F 33).toNatClampNeg 0 = (sy_ai F 39).getD ((sy_i F 33).toInt).toNat 0 := by simp only [nz_c]
      have n87 : ((sy_ai F 39).getD (sy_i F 33).toNatClampNeg 0).toInt = ((sy_ai F 39).getD ((sy_i F 33).toInt).toNat 0).toInt := congrArg Int32.toInt q87
      have n88 : ((sy_i F 85) + ((1 : Int32))).toInt = ((sy_i F 85).toInt + 1) := nz_add (rfl : (sy_i F 85).toInt = (sy_i F 85).toInt) (by decide : ((1 : Int32)).toInt = 1) (by omega) (by omega)
      exact k0pp_64_p2 hd F X1 X2 hB (by first | exact g0 | (simp only [nz_c]; exact g0)) (by first | exact g1 | (simp only [nz_c]; exact g1)) (by first | exact g2 | (simp only [nz_c]; exact g2)) (by first | exact g3 | (simp only [nz_c]; exact g3)) (by first | exact g4 | (simp only [nz_c]; exact g4)) (by first | exact ⟨by omega, by omega⟩ | (simp only [nz_c]; exact ⟨by omega, by omega⟩)) (fun F1 g e82 e83 e84 e85 e86 => k2 g0 g1 g2 g3 g4 F1 (nz_in0 hB [] (fun j hj hn => g j hj (by simp only [List.mem_cons, List.not_mem_nil, or_false, not_or] at hn; exact trivial)) (List.forall_mem_nil _)) (fun j hj hn => g j hj (by simp only [List.mem_cons, List.not_mem_nil, or_false, not_or] at hn; exact trivial)) (nz_fi (g 33 (by decide) (by decide))) (nz_fi (g 34 (by decide) (by decide))) (nz_fi (g 23 (by decide) (by decide))) (nz_fa (g 39 (by decide) (by decide))) (nz_fa (g 32 (by decide) (by decide))) ((congrArg Int32.toInt (zz_i e82)).trans (rfl : (sy_i F 82).toInt = (sy_i F 82).toInt)) ((congrArg Int32.toInt (zz_i e83)).trans (rfl : (sy_i F 83).toInt = (sy_i F 83).toInt)) ((congrArg Int32.toInt (zz_i e84)).trans (by decide : ((0 : Int32)).toInt = 0)) ((congrArg Int32.toInt (zz_i e85)).trans n87) ((congrArg Int32.toInt (zz_i e86)).trans n88))
    replace g2 : (sy_i F 23).toInt < 512 := by omega
    by_cases g3 : (sy_i F 33).toInt < 0
    · have c23 := nz_bx hB (k := 23) (lo := 0) (hi := 512) rfl
      have c33 := nz_bx hB (k := 33) (lo := 0) (hi := 400) rfl
      exfalso
      omega
    replace g3 : 0 ≤ (sy_i F 33).toInt := by omega
    by_cases g4 : 400 < (sy_i F 33).toInt
    · have c23 := nz_bx hB (k := 23) (lo := 0) (hi := 512) rfl
      have c33 := nz_bx hB (k := 33) (lo := 0) (hi := 400) rfl
      exfalso
      omega
    replace g4 : (sy_i F 33).toInt ≤ 400 := by omega
    have c23 := nz_bx hB (k := 23) (lo := 0) (hi := 512) rfl
    have c33 := nz_bx hB (k := 33) (lo := 0) (hi := 400) rfl
    have n88 : ((sy_i F 23) + ((1 : Int32))).toInt = ((sy_i F 23).toInt + 1) := nz_add (rfl : (sy_i F 23).toInt = (sy_i F 23).toInt) (by decide : ((1 : Int32)).toInt = 1) (by omega) (by omega)
    have w87 : jm_upd (sy_ai F 32) (sy_i F 23).toNatClampNeg (((-12) : Int32)) = jm_upd (sy_ai F 32) ((sy_i F 23).toInt).toNat (((-12) : Int32)) := by simp only [nz_c, (by decide : (((-12) : Int32)).toInt = (-12 : Int))]
    have q89 : (sy_ai F 39).getD (sy_i F 33).toNatClampNeg 0 = (sy_ai F 39).getD ((sy_i F 33).toInt).toNat 0 := by simp only [nz_c]
    have n89 : ((sy_ai F 39).getD (sy_i F 33).toNatClampNeg 0).toInt = ((sy_ai F 39).getD ((sy_i F 33).toInt).toNat 0).toInt := congrArg Int32.toInt q89
    have n90 : ((sy_i F 85) + ((1 : Int32))).toInt = ((sy_i F 85).toInt + 1) := nz_add (rfl : (sy_i F 85).toInt = (sy_i F 85).toInt) (by decide : ((1 : Int32)).toInt = 1) (by omega) (by omega)
    exact k0pp_64_p3 hd F X1 X2 hB (by first | exact g0 | (simp only [nz_c]; exact g0)) (by first | exact g1 | (simp only [nz_c]; exact g1)) (by first | exact g2 | (simp only [nz_c]; exact g2)) (by first | exact ⟨by omega, by omega⟩ | (simp only [nz_c]; exact ⟨by omega, by omega⟩)) (by first | exact g3 | (simp only [nz_c]; exact g3)) (by first | exact g4 | (simp only [nz_c]; exact g4)) (by first | exact ⟨by omega, by omega⟩ | (simp only [nz_c]; exact ⟨by omega, by omega⟩)) (fun F1 g e23 e32 e82 e83 e84 e85 e86 => k3 g0 g1 g2 g3 g4 F1 (nz_in0 hB [23, 32] (fun j hj hn => g j hj (by simp only [List.mem_cons, List.not_mem_nil, or_false, not_or] at hn; omega)) (List.forall_mem_cons.mpr ⟨fun t ht => (Option.some.inj ht) ▸ (nz_hi e23 n88 (by omega) (by omega)), List.forall_mem_cons.mpr ⟨fun t ht => (Option.some.inj ht) ▸ (nz_hA e32 (nz_up (nz_ba hB (k := 32) (lo := (-2147483648)) (hi := 2147483646) rfl) (by decide : (((-12) : Int32)).toInt = (-12 : Int)) (by omega) (by omega))), List.forall_mem_nil _⟩⟩)) (fun j hj hn => g j hj (by simp only [List.mem_cons, List.not_mem_nil, or_false, not_or] at hn; omega)) (nz_fi (g 33 (by decide) (by decide))) (nz_fi (g 34 (by decide) (by decide))) ((congrArg Int32.toInt (zz_i e23)).trans n88) (nz_fa (g 39 (by decide) (by decide))) ((zz_ai e32).trans w87) ((congrArg Int32.toInt (zz_i e82)).trans (rfl : (sy_i F 82).toInt = (sy_i F 82).toInt)) ((congrArg Int32.toInt (zz_i e83)).trans (rfl : (sy_i F 83).toInt = (sy_i F 83).toInt)) ((congrArg Int32.toInt (zz_i e84)).trans (by decide : ((0 : Int32)).toInt = 0)) ((congrArg Int32.toInt (zz_i e85)).trans n89) ((congrArg Int32.toInt (zz_i e86)).trans n90))
  replace g0 : (sy_i F 86).toInt ≠ 0 := by omega
  by_cases g1 : (sy_i F 84).toInt ≠ 42
  · by_cases g2 : 512 ≤ (sy_i F 23).toInt
    · by_cases g3 : (sy_i F 33).toInt < 0
      · have c23 := nz_bx hB (k := 23) (lo := 0) (hi := 512) rfl
        have c33 := nz_bx hB (k := 33) (lo := 0) (hi := 400) rfl
        exfalso
        omega
      replace g3 : 0 ≤ (sy_i F 33).toInt := by omega
      by_cases g4 : 400 < (sy_i F 33).toInt
      · have c23 := nz_bx hB (k := 23) (lo := 0) (hi := 512) rfl
        have c33 := nz_bx hB (k := 33) (lo := 0) (hi := 400) rfl
        exfalso
        omega
      replace g4 : (sy_i F 33).toInt ≤ 400 := by omega
      have c23 := nz_bx hB (k := 23) (lo := 0) (hi := 512) rfl
      have c33 := nz_bx hB (k := 33) (lo := 0) (hi := 400) rfl
      have q87 : (sy_ai F 39).getD (sy_i F 33).toNatClampNeg 0 = (sy_ai F 39).getD ((sy_i F 33).toInt).toNat 0 := by simp only [nz_c]
      have n87 : ((sy_ai F 39).getD (sy_i F 33).toNatClampNeg 0).toInt = ((sy_ai F 39).getD ((sy_i F 33).toInt).toNat 0).toInt := congrArg Int32.toInt q87
      have n88 : ((sy_i F 85) + ((1 : Int32))).toInt = ((sy_i F 85).toInt + 1) := nz_add (rfl : (sy_i F 85).toInt = (sy_i F 85).toInt) (by decide : ((1 : Int32)).toInt = 1) (by omega) (by omega)
      exact k0pp_64_p4 hd F X1 X2 hB (by first | exact g0 | (simp only [nz_c]; exact g0)) (by first | exact g1 | (simp only [nz_c]; exact g1)) (by first | exact g2 | (simp only [nz_c]; exact g2)) (by first | exact g3 | (simp only [nz_c]; exact g3)) (by first | exact g4 | (simp only [nz_c]; exact g4)) (by first | exact ⟨by omega, by omega⟩ | (simp only [nz_c]; exact ⟨by omega, by omega⟩)) (fun F1 g e82 e83 e84 e85 e86 => k4 g0 g1 g2 g3 g4 F1 (nz_in0 hB [] (fun j hj hn => g j hj (by simp only [List.mem_cons, List.not_mem_nil, or_false, not_or] at hn; exact trivial)) (List.forall_mem_nil _)) (fun j hj hn => g j hj (by simp only [List.mem_cons, List.not_mem_nil, or_false, not_or] at hn; exact trivial)) (nz_fi (g 33 (by decide) (by decide))) (nz_fi (g 34 (by decide) (by decide))) (nz_fi (g 23 (by decide) (by decide))) (nz_fa (g 39 (by decide) (by decide))) (nz_fa (g 32 (by decide) (by decide))) ((congrArg Int32.toInt (zz_i e82)).trans (rfl : (sy_i F 82).toInt = (sy_i F 82).toInt)) ((congrArg Int32.toInt (zz_i e83)).trans (rfl : (sy_i F 83).toInt = (sy_i F 83).toInt)) ((congrArg Int32.toInt (zz_i e84)).trans (by decide : ((1 : Int32)).toInt = 1)) ((congrArg Int32.toInt (zz_i e85)).trans n87) ((congrArg Int32.toInt (zz_i e86)).trans n88))
    replace g2 : (sy_i F 23).toInt < 512 := by omega
    by_cases g3 : (sy_i F 33).toInt < 0
    · have c23 := nz_bx hB (k := 23) (lo := 0) (hi := 512) rfl
      have c33 := nz_bx hB (k := 33) (lo := 0) (hi := 400) rfl
      exfalso
      omega
    replace g3 : 0 ≤ (sy_i F 33).toInt := by omega
    by_cases g4 : 400 < (sy_i F 33).toInt
    · have c23 := nz_bx hB (k := 23) (lo := 0) (hi := 512) rfl
      have c33 := nz_bx hB (k := 33) (lo := 0) (hi := 400) rfl
      exfalso
      omega
    replace g4 : (sy_i F 33).toInt ≤ 400 := by omega
    have c23 := nz_bx hB (k := 23) (lo := 0) (hi := 512) rfl
    have c33 := nz_bx hB (k := 33) (lo := 0) (hi := 400) rfl
    have n88 : ((sy_i F 23) + ((1 : Int32))).toInt = ((sy_i F 23).toInt + 1) := nz_add (rfl : (sy_i F 23).toInt = (sy_i F 23).toInt) (by decide : ((1 : Int32)).toInt = 1) (by omega) (by omega)
    have w87 : jm_upd (sy_ai F 32) (sy_i F 23).toNatClampNeg (((-13) : Int32)) = jm_upd (sy_ai F 32) ((sy_i F 23).toInt).toNat (((-13) : Int32)) := by simp only [nz_c, (by decide : (((-13) : Int32)).toInt = (-13 : Int))]
    have q89 : (sy_ai F 39).getD (sy_i F 33).toNatClampNeg 0 = (sy_ai F 39).getD ((sy_i F 33).toInt).toNat 0 := by simp only [nz_c]
    have n89 : ((sy_ai F 39).getD (sy_i F 33).toNatClampNeg 0).toInt = ((sy_ai F 39).getD ((sy_i F 33).toInt).toNat 0).toInt := congrArg Int32.toInt q89
    have n90 : ((sy_i F 85) + ((1 : Int32))).toInt = ((sy_i F 85).toInt + 1) := nz_add (rfl : (sy_i F 85).toInt = (sy_i F 85).toInt) (by decide : ((1 : Int32)).toInt = 1) (by omega) (by omega)
    exact k0pp_64_p5 hd F X1 X2 hB (by first | exact g0 | (simp only [nz_c]; exact g0)) (by first | exact g1 | (simp only [nz_c]; exact g1)) (by first | exact g2 | (simp only [nz_c]; exact g2)) (by first | exact ⟨by omega, by omega⟩ | (simp only [nz_c]; exact ⟨by omega, by omega⟩)) (by first | exact g3 | (simp only [nz_c]; exact g3)) (by first | exact g4 | (simp only [nz_c]; exact g4)) (by first | exact ⟨by omega, by omega⟩ | (simp only [nz_c]; exact ⟨by omega, by omega⟩)) (fun F1 g e23 e32 e82 e83 e84 e85 e86 => k5 g0 g1 g2 g3 g4 F1 (nz_in0 hB [23, 32] (fun j hj hn => g j hj (by simp only [List.mem_cons, List.not_mem_nil, or_false, not_or] at hn; omega)) (List.forall_mem_cons.mpr ⟨fun t ht => (Option.some.inj ht) ▸ (nz_hi e23 n88 (by omega) (by omega)), List.forall_mem_cons.mpr ⟨fun t ht => (Option.some.inj ht) ▸ (nz_hA e32 (nz_up (nz_ba hB (k := 32) (lo := (-2147483648)) (hi := 2147483646) rfl) (by decide : (((-13) : Int32)).toInt = (-13 : Int)) (by omega) (by omega))), List.forall_mem_nil _⟩⟩)) (fun j hj hn => g j hj (by simp only [List.mem_cons, List.not_mem_nil, or_false, not_or] at hn; omega)) (nz_fi (g 33 (by decide) (by decide))) (nz_fi (g 34 (by decide) (by decide))) ((congrArg Int32.toInt (zz_i e23)).trans n88) (nz_fa (g 39 (by decide) (by decide))) ((zz_ai e32).trans w87) ((congrArg Int32.toInt (zz_i e82)).trans (rfl : (sy_i F 82).toInt = (sy_i F 82).toInt)) ((congrArg Int32.toInt (zz_i e83)).trans (rfl : (sy_i F 83).toInt = (sy_i F 83).toInt)) ((congrArg Int32.toInt (zz_i e84)).trans (by decide : ((1 : Int32)).toInt = 1)) ((congrArg Int32.toInt (zz_i e85)).trans n89) ((congrArg Int32.toInt (zz_i e86)).trans n90))
  replace g1 : (sy_i F 84).toInt = 42 := by omega
  by_cases g2 : 512 ≤ (sy_i F 23).toInt
  · by_cases g3 : (sy_i F 33).toInt < 0
    · have c23 := nz_bx hB (k := 23) (lo := 0) (hi := 512) rfl
      have c33 := nz_bx hB (k := 33) (lo := 0) (hi := 400) rfl
      exfalso
      omega
    replace g3 : 0 ≤ (sy_i F 33).toInt := by omega
    by_cases g4 : 400 < (sy_i F 33).toInt
    · have c23 := nz_bx hB (k := 23) (lo := 0) (hi := 512) rfl
      have c33 := nz_bx hB (k := 33) (lo := 0) (hi := 400) rfl
      exfalso
      omega
    replace g4 : (sy_i F 33).toInt ≤ 400 := by omega
    have c23 := nz_bx hB (k := 23) (lo := 0) (hi := 512) rfl
    have c33 := nz_bx hB (k := 33) (lo := 0) (hi := 400) rfl
    have q87 : (sy_ai F 39).getD (sy_i F 33).toNatClampNeg 0 = (sy_ai F 39).getD ((sy_i F 33).toInt).toNat 0 := by simp only [nz_c]
    have n87 : ((sy_ai F 39).getD (sy_i F 33).toNatClampNeg 0).toInt = ((sy_ai F 39).getD ((sy_i F 33).toInt).toNat 0).toInt := congrArg Int32.toInt q87
    have n88 : ((sy_i F 85) + ((1 : Int32))).toInt = ((sy_i F 85).toInt + 1) := nz_add (rfl : (sy_i F 85).toInt = (sy_i F 85).toInt) (by decide : ((1 : Int32)).toInt = 1) (by omega) (by omega)
    exact k0pp_64_p6 hd F X1 X2 hB (by first | exact g0 | (simp only [nz_c]; exact g0)) (by first | exact g1 | (simp only [nz_c]; exact g1)) (by first | exact g2 | (simp only [nz_c]; exact g2)) (by first | exact g3 | (simp only [nz_c]; exact g3)) (by first | exact g4 | (simp only [nz_c]; exact g4)) (by first | exact ⟨by omega, by omega⟩ | (simp only [nz_c]; exact ⟨by omega, by omega⟩)) (fun F1 g e82 e83 e84 e85 e86 => k6 g0 g1 g2 g3 g4 F1 (nz_in0 hB [] (fun j hj hn => g j hj (by simp only [List.mem_cons, List.not_mem_nil, or_false, not_or] at hn; exact trivial)) (List.forall_mem_nil _)) (fun j hj hn => g j hj (by simp only [List.mem_cons, List.not_mem_nil, or_false, not_or] at hn; exact trivial)) (nz_fi (g 33 (by decide) (by decide))) (nz_fi (g 34 (by decide) (by decide))) (nz_fi (g 23 (by decide) (by decide))) (nz_fa (g 39 (by decide) (by decide))) (nz_fa (g 32 (by decide) (by decide))) ((congrArg Int32.toInt (zz_i e82)).trans (rfl : (sy_i F 82).toInt = (sy_i F 82).toInt)) ((congrArg Int32.toInt (zz_i e83)).trans (rfl : (sy_i F 83).toInt = (sy_i F 83).toInt)) ((congrArg Int32.toInt (zz_i e84)).trans (by decide : ((1 : Int32)).toInt = 1)) ((congrArg Int32.toInt (zz_i e85)).trans n87) ((congrArg Int32.toInt (zz_i e86)).trans n88))
  replace g2 : (sy_i F 23).toInt < 512 := by omega
  by_cases g3 : (sy_i F 33).toInt < 0
  · have c23 := nz_bx hB (k := 23) (lo := 0) (hi := 512) rfl
    have c33 := nz_bx hB (k := 33) (lo := 0) (hi := 400) rfl
    exfalso
    omega
  replace g3 : 0 ≤ (sy_i F 33).toInt := by omega
  by_cases g4 : 400 < (sy_i F 33).toInt
  · have c23 := nz_bx hB (k := 23) (lo := 0) (hi := 512) rfl
    have c33 := nz_bx hB (k := 33) (lo := 0) (hi := 400) rfl
    exfalso
    omega
  replace g4 : (sy_i F 33).toInt ≤ 400 := by omega
  have c23 := nz_bx hB (k := 23) (lo := 0) (hi := 512) rfl
  have c33 := nz_bx hB (k := 33) (lo := 0) (hi := 400) rfl
  have n88 : ((sy_i F 23) + ((1 : Int32))).toInt = ((sy_i F 23).toInt + 1) := nz_add (rfl : (sy_i F 23).toInt = (sy_i F 23).toInt) (by decide : ((1 : Int32)).toInt = 1) (by omega) (by omega)
  have w87 : jm_upd (sy_ai F 32) (sy_i F 23).toNatClampNeg (((-12) : Int32)) = jm_upd (sy_ai F 32) ((sy_i F 23).toInt).toNat (((-12) : Int32)) := by simp only [nz_c, (by decide : (((-12) : Int32)).toInt = (-12 : Int))]
  have q89 : (sy_ai F 39).getD (sy_i F 33).toNatClampNeg 0 = (sy_ai F 39).getD ((sy_i F 33).toInt).toNat 0 := by simp only [nz_c]
  have n89 : ((sy_ai F 39).getD (sy_i F 33).toNatClampNeg 0).toInt = ((sy_ai F 39).getD ((sy_i F 33).toInt).toNat 0).toInt := congrArg Int32.toInt q89
  have n90 : ((sy_i F 85) + ((1 : Int32))).toInt = ((sy_i F 85).toInt + 1) := nz_add (rfl : (sy_i F 85).toInt = (sy_i F 85).toInt) (by decide : ((1 : Int32)).toInt = 1) (by omega) (by omega)
  exact k0pp_64_p7 hd F X1 X2 hB (by first | exact g0 | (simp only [nz_c]; exact g0)) (by first | exact g1 | (simp only [nz_c]; exact g1)) (by first | exact g2 | (simp only [nz_c]; exact g2)) (by first | exact ⟨by omega, by omega⟩ | (simp only [nz_c]; exact ⟨by omega, by omega⟩)) (by first | exact g3 | (simp only [nz_c]; exact g3)) (by first | exact g4 | (simp only [nz_c]; exact g4)) (by first | exact ⟨by omega, by omega⟩ | (simp only [nz_c]; exact ⟨by omega, by omega⟩)) (fun F1 g e23 e32 e82 e83 e84 e85 e86 => k7 g0 g1 g2 g3 g4 F1 (nz_in0 hB [23, 32] (fun j hj hn => g j hj (by simp only [List.mem_cons, List.not_mem_nil, or_false, not_or] at hn; omega)) (List.forall_mem_cons.mpr ⟨fun t ht => (Option.some.inj ht) ▸ (nz_hi e23 n88 (by omega) (by omega)), List.forall_mem_cons.mpr ⟨fun t ht => (Option.some.inj ht) ▸ (nz_hA e32 (nz_up (nz_ba hB (k := 32) (lo := (-2147483648)) (hi := 2147483646) rfl) (by decide : (((-12) : Int32)).toInt = (-12 : Int)) (by omega) (by omega))), List.forall_mem_nil _⟩⟩)) (fun j hj hn => g j hj (by simp only [List.mem_cons, List.not_mem_nil, or_false, not_or] at hn; omega)) (nz_fi (g 33 (by decide) (by decide))) (nz_fi (g 34 (by decide) (by decide))) ((congrArg Int32.toInt (zz_i e23)).trans n88) (nz_fa (g 39 (by decide) (by decide))) ((zz_ai e32).trans w87) ((congrArg Int32.toInt (zz_i e82)).trans (rfl : (sy_i F 82).toInt = (sy_i F 82).toInt)) ((congrArg Int32.toInt (zz_i e83)).trans (rfl : (sy_i F 83).toInt = (sy_i F 83).toInt)) ((congrArg Int32.toInt (zz_i e84)).trans (by decide : ((1 : Int32)).toInt = 1)) ((congrArg Int32.toInt (zz_i e85)).trans n89) ((congrArg Int32.toInt (zz_i e86)).trans n90))
theorem k0zs_0 {Ls : Nat} {xs : Nat → Int32} {d : Nat} {Q : Option Value → jm_h → Prop} (hd : 4 ≤ d) (F : Nat → sy_d) (X1 X2 : List jm_c) (hB : iv_in F iv_B0)
    (k0 : ∀ F1 : Nat → sy_d, iv_in F1 iv_B0 → (∀ j, j < 82 → j ∉ ([] : List Nat) → F1 j = F j) → (sy_i F1 33).toInt = (sy_i F 33).toInt → (sy_i F1 34).toInt = (sy_i F 34).toInt → (sy_i F1 23).toInt = (sy_i F 23).toInt → sy_ai F1 39 = sy_ai F 39 → sy_ai F1 32 = sy_ai F 32 → (sy_i F1 82).toInt = (sy_i F 82).toInt → (sy_i F1 83).toInt = (sy_i F 83).toInt → hd_W Ls xs d jm_M38 Q (3, sy_dL F1 [some (.inl (.ref 30)), some (.inr (.inl 82)), some (.inr (.inl 83)), none, none, none], sy_dS F1 [.inr (.inl 83), .inr (.inl 82), .inl (.ref 30)], sy_dh F1 X1 X2 (iv_H 0), 0, 0)) :
    hd_W Ls xs d jm_M38 Q (0, sy_dL F [some (.inl (.ref 30)), some (.inr (.inl 82)), some (.inr (.inl 83)), none, none, none], sy_dS F [], sy_dh F X1 X2 (iv_H 0), 0, 0) := by
  exact k0ps_0_p0 hd F X1 X2 hB  (fun F1 g e82 e83 => k0 F1 (nz_in0 hB [] (fun j hj hn => g j hj (by simp only [List.mem_cons, List.not_mem_nil, or_false, not_or] at hn; exact trivial)) (List.forall_mem_nil _)) (fun j hj hn => g j hj (by simp only [List.mem_cons, List.not_mem_nil, or_false, not_or] at hn; exact trivial)) (nz_fi (g 33 (by decide) (by decide))) (nz_fi (g 34 (by decide) (by decide))) (nz_fi (g 23 (by decide) (by decide))) (nz_fa (g 39 (by decide) (by decide))) (nz_fa (g 32 (by decide) (by decide))) ((congrArg Int32.toInt (zz_i e82)).trans (rfl : (sy_i F 82).toInt = (sy_i F 82).toInt)) ((congrArg Int32.toInt (zz_i e83)).trans (rfl : (sy_i F 83).toInt = (sy_i F 83).toInt)))
theorem k0zs_6 {Ls : Nat} {xs : Nat → Int32} {d : Nat} {Q : Option Value → jm_h → Prop} (hd : 4 ≤ d) (F : Nat → sy_d) (X1 X2 : List jm_c) (hB : iv_in F iv_B0)
    (k0 : 0 ≤ (sy_i F 33).toInt → (sy_i F 33).toInt ≤ 400 → ∀ F1 : Nat → sy_d, iv_in F1 iv_B0 → (∀ j, j < 82 → j ∉ ([] : List Nat) → F1 j = F j) → (sy_i F1 33).toInt = (sy_i F 33).toInt → (sy_i F1 34).toInt = (sy_i F 34).toInt → (sy_i F1 23).toInt = (sy_i F 23).toInt → sy_ai F1 39 = sy_ai F 39 → sy_ai F1 32 = sy_ai F 32 → (sy_i F1 82).toInt = (sy_i F 82).toInt → (sy_i F1 83).toInt = (sy_i F 83).toInt → (sy_i F1 84).toInt = (sy_i F 84).toInt → (sy_i F1 85).toInt = ((sy_ai F 39).getD ((sy_i F 33).toInt).toNat 0).toInt → (sy_i F1 86).toInt = 0 → hd_W Ls xs d jm_M38 Q (23, sy_dL F1 [some (.inl (.ref 30)), some (.inr (.inl 82)), some (.inr (.inl 83)), some (.inr (.inl 84)), some (.inr (.inl 85)), some (.inr (.inl 86))], sy_dS F1 [], sy_dh F1 X1 X2 (iv_H 0), 0, 0)) :
    hd_W Ls xs d jm_M38 Q (6, sy_dL F [some (.inl (.ref 30)), some (.inr (.inl 82)), some (.inr (.inl 83)), none, none, none], sy_dS F [.inr (.inl 84)], sy_dh F X1 X2 (iv_H 0), 0, 0) := by
  by_cases g0 : (sy_i F 33).toInt < 0
  · have c33 := nz_bx hB (k := 33) (lo := 0) (hi := 400) rfl
    exfalso
    omega
  replace g0 : 0 ≤ (sy_i F 33).toInt := by omega
  by_cases g1 : 400 < (sy_i F 33).toInt
  · have c33 := nz_bx hB (k := 33) (lo := 0) (hi := 400) rfl
    exfalso
    omega
  replace g1 : (sy_i F 33).toInt ≤ 400 := by omega
  have c33 := nz_bx hB (k := 33) (lo := 0) (hi := 400) rfl
  have q85 : (sy_ai F 39).getD (sy_i F 33).toNatClampNeg 0 = (sy_ai F 39).getD ((sy_i F 33).toInt).toNat 0 := by simp only [nz_c]
  have n85 : ((sy_ai F 39).getD (sy_i F 33).toNatClampNeg 0).toInt = ((sy_ai F 39).getD ((sy_i F 33).toInt).toNat 0).toInt := congrArg Int32.toInt q85
  exact k0ps_6_p0 hd F X1 X2 hB (by first | exact g0 | (simp only [nz_c]; exact g0)) (by first | exact g1 | (simp only [nz_c]; exact g1)) (by first | exact ⟨by omega, by omega⟩ | (simp only [nz_c]; exact ⟨by omega, by omega⟩)) (fun F1 g e82 e83 e84 e85 e86 => k0 g0 g1 F1 (nz_in0 hB [] (fun j hj hn => g j hj (by simp only [List.mem_cons, List.not_mem_nil, or_false, not_or] at hn; exact trivial)) (List.forall_mem_nil _)) (fun j hj hn => g j hj (by simp only [List.mem_cons, List.not_mem_nil, or_false, not_or] at hn; exact trivial)) (nz_fi (g 33 (by decide) (by decide))) (nz_fi (g 34 (by decide) (by decide))) (nz_fi (g 23 (by decide) (by decide))) (nz_fa (g 39 (by decide) (by decide))) (nz_fa (g 32 (by decide) (by decide))) ((congrArg Int32.toInt (zz_i e82)).trans (rfl : (sy_i F 82).toInt = (sy_i F 82).toInt)) ((congrArg Int32.toInt (zz_i e83)).trans (rfl : (sy_i F 83).toInt = (sy_i F 83).toInt)) ((congrArg Int32.toInt (zz_i e84)).trans (rfl : (sy_i F 84).toInt = (sy_i F 84).toInt)) ((congrArg Int32.toInt (zz_i e85)).trans n85) ((congrArg Int32.toInt (zz_i e86)).trans (by decide : ((0 : Int32)).toInt = 0)))
theorem k0zs_23 {Ls : Nat} {xs : Nat → Int32} {d : Nat} {Q : Option Value → jm_h → Prop} (hd : 4 ≤ d) (F : Nat → sy_d) (X1 X2 : List jm_c) (hB : iv_in F iv_B0)
    (a86 : 0 ≤ (sy_i F 86).toInt ∧ (sy_i F 86).toInt ≤ 401)
    (o0 : 400 < (sy_i F 86).toInt → ((sy_i F 84).toInt = 0 ∨ (sy_i F 84).toInt = 1))
    (o1 : (sy_i F 86).toInt ≤ 400 → (sy_i F 84).toInt ≠ 0 → (sy_i F 85).toInt ≠ 43 → (sy_i F 85).toInt ≠ 45 → ((sy_i F 84).toInt = 0 ∨ (sy_i F 84).toInt = 1))
    (k0 : 400 < (sy_i F 86).toInt → ∀ F1 : Nat → sy_d, iv_in F1 iv_B0 → (∀ j, j < 82 → j ∉ ([] : List Nat) → F1 j = F j) → (sy_i F1 33).toInt = (sy_i F 33).toInt → (sy_i F1 34).toInt = (sy_i F 34).toInt → (sy_i F1 23).toInt = (sy_i F 23).toInt → sy_ai F1 39 = sy_ai F 39 → sy_ai F1 32 = sy_ai F 32 → Q (some (.int (sy_i F 84))) (sy_dh F1 X1 X2 (iv_H 0)))
    (k1 : (sy_i F 86).toInt ≤ 400 → (sy_i F 84).toInt = 0 → ∀ F1 : Nat → sy_d, iv_in F1 iv_B0 → (∀ j, j < 82 → j ∉ ([] : List Nat) → F1 j = F j) → (sy_i F1 33).toInt = (sy_i F 33).toInt → (sy_i F1 34).toInt = (sy_i F 34).toInt → (sy_i F1 23).toInt = (sy_i F 23).toInt → sy_ai F1 39 = sy_ai F 39 → sy_ai F1 32 = sy_ai F 32 → Q (some (.int (sy_i F 84))) (sy_dh F1 X1 X2 (iv_H 0)))
    (k2 : (sy_i F 86).toInt ≤ 400 → (sy_i F 84).toInt ≠ 0 → (sy_i F 85).toInt = 43 → 0 ≤ (sy_i F 33).toInt → (sy_i F 33).toInt ≤ 400 → ((sy_ai F 39).getD ((sy_i F 33).toInt).toNat 0).toInt = (sy_i F 85).toInt → (sy_i F 33).toInt < 400 → ∀ F1 : Nat → sy_d, iv_in F1 iv_B0 → (∀ j, j < 82 → j ∉ ([33] : List Nat) → F1 j = F j) → (sy_i F1 33).toInt = ((sy_i F 33).toInt + 1) → (sy_i F1 34).toInt = (sy_i F 34).toInt → (sy_i F1 23).toInt = (sy_i F 23).toInt → sy_ai F1 39 = sy_ai F 39 → sy_ai F1 32 = sy_ai F 32 → (sy_i F1 82).toInt = (sy_i F 82).toInt → (sy_i F1 83).toInt = (sy_i F 83).toInt → (sy_i F1 84).toInt = (sy_i F 85).toInt → (sy_i F1 85).toInt = (sy_i F 86).toInt → hd_W Ls xs d jm_M38 Q (61, sy_dL F1 [some (.inl (.ref 30)), some (.inr (.inl 82)), some (.inr (.inl 83)), none, some (.inr (.inl 84)), some (.inr (.inl 85))], sy_dS F1 [.inr (.inl 83), .inr (.inl 82), .inl (.ref 30)], sy_dh F1 X1 X2 (iv_H 0), 0, 0))
    (k3 : (sy_i F 86).toInt ≤ 400 → (sy_i F 84).toInt ≠ 0 → (sy_i F 85).toInt = 43 → 0 ≤ (sy_i F 33).toInt → (sy_i F 33).toInt ≤ 400 → ((sy_ai F 39).getD ((sy_i F 33).toInt).toNat 0).toInt = (sy_i F 85).toInt → 400 ≤ (sy_i F 33).toInt → (sy_i F 85).toInt = 43 → 512 ≤ (sy_i F 23).toInt → 0 ≤ (sy_i F 33).toInt → (sy_i F 33).toInt ≤ 400 → ∀ F1 : Nat → sy_d, iv_in F1 iv_B0 → (∀ j, j < 82 → j ∉ ([34] : List Nat) → F1 j = F j) → (sy_i F1 33).toInt = (sy_i F 33).toInt → (sy_i F1 34).toInt = 2 → (sy_i F1 23).toInt = (sy_i F 23).toInt → sy_ai F1 39 = sy_ai F 39 → sy_ai F1 32 = sy_ai F 32 → (sy_i F1 82).toInt = (sy_i F 82).toInt → (sy_i F1 83).toInt = (sy_i F 83).toInt → (sy_i F1 84).toInt = 0 → (sy_i F1 85).toInt = ((sy_ai F 39).getD ((sy_i F 33).toInt).toNat 0).toInt → (sy_i F1 86).toInt = ((sy_i F 86).toInt + 1) → hd_W Ls xs d jm_M38 Q (23, sy_dL F1 [some (.inl (.ref 30)), some (.inr (.inl 82)), some (.inr (.inl 83)), some (.inr (.inl 84)), some (.inr (.inl 85)), some (.inr (.inl 86))], sy_dS F1 [], sy_dh F1 X1 X2 (iv_H 0), 0, 0))
    (k4 : (sy_i F 86).toInt ≤ 400 → (sy_i F 84).toInt ≠ 0 → (sy_i F 85).toInt = 43 → 0 ≤ (sy_i F 33).toInt → (sy_i F 33).toInt ≤ 400 → ((sy_ai F 39).getD ((sy_i F 33).toInt).toNat 0).toInt = (sy_i F 85).toInt → 400 ≤ (sy_i F 33).toInt → (sy_i F 85).toInt = 43 → (sy_i F 23).toInt < 512 → 0 ≤ (sy_i F 33).toInt → (sy_i F 33).toInt ≤ 400 → ∀ F1 : Nat → sy_d, iv_in F1 iv_B0 → (∀ j, j < 82 → j ∉ ([23, 32, 34] : List Nat) → F1 j = F j) → (sy_i F1 33).toInt = (sy_i F 33).toInt → (sy_i F1 34).toInt = 2 → (sy_i F1 23).toInt = ((sy_i F 23).toInt + 1) → sy_ai F1 39 = sy_ai F 39 → sy_ai F1 32 = jm_upd (sy_ai F 32) ((sy_i F 23).toInt).toNat (((-10) : Int32)) → (sy_i F1 82).toInt = (sy_i F 82).toInt → (sy_i F1 83).toInt = (sy_i F 83).toInt → (sy_i F1 84).toInt = 0 → (sy_i F1 85).toInt = ((sy_ai F 39).getD ((sy_i F 33).toInt).toNat 0).toInt → (sy_i F1 86).toInt = ((sy_i F 86).toInt + 1) → hd_W Ls xs d jm_M38 Q (23, sy_dL F1 [some (.inl (.ref 30)), some (.inr (.inl 82)), some (.inr (.inl 83)), some (.inr (.inl 84)), some (.inr (.inl 85)), some (.inr (.inl 86))], sy_dS F1 [], sy_dh F1 X1 X2 (iv_H 0), 0, 0))
    (k5 : (sy_i F 86).toInt ≤ 400 → (sy_i F 84).toInt ≠ 0 → (sy_i F 85).toInt = 43 → 0 ≤ (sy_i F 33).toInt → (sy_i F 33).toInt ≤ 400 → ((sy_ai F 39).getD ((sy_i F 33).toInt).toNat 0).toInt ≠ (sy_i F 85).toInt → (sy_i F 85).toInt = 43 → 512 ≤ (sy_i F 23).toInt → 0 ≤ (sy_i F 33).toInt → (sy_i F 33).toInt ≤ 400 → ∀ F1 : Nat → sy_d, iv_in F1 iv_B0 → (∀ j, j < 82 → j ∉ ([34] : List Nat) → F1 j = F j) → (sy_i F1 33).toInt = (sy_i F 33).toInt → (sy_i F1 34).toInt = 1 → (sy_i F1 23).toInt = (sy_i F 23).toInt → sy_ai F1 39 = sy_ai F 39 → sy_ai F1 32 = sy_ai F 32 → (sy_i F1 82).toInt = (sy_i F 82).toInt → (sy_i F1 83).toInt = (sy_i F 83).toInt → (sy_i F1 84).toInt = 0 → (sy_i F1 85).toInt = ((sy_ai F 39).getD ((sy_i F 33).toInt).toNat 0).toInt → (sy_i F1 86).toInt = ((sy_i F 86).toInt + 1) → hd_W Ls xs d jm_M38 Q (23, sy_dL F1 [some (.inl (.ref 30)), some (.inr (.inl 82)), some (.inr (.inl 83)), some (.inr (.inl 84)), some (.inr (.inl 85)), some (.inr (.inl 86))], sy_dS F1 [], sy_dh F1 X1 X2 (iv_H 0), 0, 0))
    (k6 : (sy_i F 86).toInt ≤ 400 → (sy_i F 84).toInt ≠ 0 → (sy_i F 85).toInt = 43 → 0 ≤ (sy_i F 33).toInt → (sy_i F 33).toInt ≤ 400 → ((sy_ai F 39).getD ((sy_i F 33).toInt).toNat 0).toInt ≠ (sy_i F 85).toInt → (sy_i F 85).toInt = 43 → (sy_i F 23).toInt < 512 → 0 ≤ (sy_i F 33).toInt → (sy_i F 33).toInt ≤ 400 → ∀ F1 : Nat → sy_d, iv_in F1 iv_B0 → (∀ j, j < 82 → j ∉ ([23, 32, 34] : List Nat) → F1 j = F j) → (sy_i F1 33).toInt = (sy_i F 33).toInt → (sy_i F1 34).toInt = 1 → (sy_i F1 23).toInt = ((sy_i F 23).toInt + 1) → sy_ai F1 39 = sy_ai F 39 → sy_ai F1 32 = jm_upd (sy_ai F 32) ((sy_i F 23).toInt).toNat (((-10) : Int32)) → (sy_i F1 82).toInt = (sy_i F 82).toInt → (sy_i F1 83).toInt = (sy_i F 83).toInt → (sy_i F1 84).toInt = 0 → (sy_i F1 85).toInt = ((sy_ai F 39).getD ((sy_i F 33).toInt).toNat 0).toInt → (sy_i F1 86).toInt = ((sy_i F 86).toInt + 1) → hd_W Ls xs d jm_M38 Q (23, sy_dL F1 [some (.inl (.ref 30)), some (.inr (.inl 82)), some (.inr (.inl 83)), some (.inr (.inl 84)), some (.inr (.inl 85)), some (.inr (.inl 86))], sy_dS F1 [], sy_dh F1 X1 X2 (iv_H 0), 0, 0))
    (k7 : (sy_i F 86).toInt ≤ 400 → (sy_i F 84).toInt ≠ 0 → (sy_i F 85).toInt ≠ 43 → (sy_i F 85).toInt ≠ 45 → ∀ F1 : Nat → sy_d, iv_in F1 iv_B0 → (∀ j, j < 82 → j ∉ ([] : List Nat) → F1 j = F j) → (sy_i F1 33).toInt = (sy_i F 33).toInt → (sy_i F1 34).toInt = (sy_i F 34).toInt → (sy_i F1 23).toInt = (sy_i F 23).toInt → sy_ai F1 39 = sy_ai F 39 → sy_ai F1 32 = sy_ai F 32 → Q (some (.int (sy_i F 84))) (sy_dh F1 X1 X2 (iv_H 0)))
    (k8 : (sy_i F 86).toInt ≤ 400 → (sy_i F 84).toInt ≠ 0 → (sy_i F 85).toInt ≠ 43 → (sy_i F 85).toInt = 45 → 0 ≤ (sy_i F 33).toInt → (sy_i F 33).toInt ≤ 400 → ((sy_ai F 39).getD ((sy_i F 33).toInt).toNat 0).toInt = (sy_i F 85).toInt → (sy_i F 33).toInt < 400 → ∀ F1 : Nat → sy_d, iv_in F1 iv_B0 → (∀ j, j < 82 → j ∉ ([33] : List Nat) → F1 j = F j) → (sy_i F1 33).toInt = ((sy_i F 33).toInt + 1) → (sy_i F1 34).toInt = (sy_i F 34).toInt → (sy_i F1 23).toInt = (sy_i F 23).toInt → sy_ai F1 39 = sy_ai F 39 → sy_ai F1 32 = sy_ai F 32 → (sy_i F1 82).toInt = (sy_i F 82).toInt → (sy_i F1 83).toInt = (sy_i F 83).toInt → (sy_i F1 84).toInt = (sy_i F 85).toInt → (sy_i F1 85).toInt = (sy_i F 86).toInt → hd_W Ls xs d jm_M38 Q (61, sy_dL F1 [some (.inl (.ref 30)), some (.inr (.inl 82)), some (.inr (.inl 83)), none, some (.inr (.inl 84)), some (.inr (.inl 85))], sy_dS F1 [.inr (.inl 83), .inr (.inl 82), .inl (.ref 30)], sy_dh F1 X1 X2 (iv_H 0), 0, 0))
    (k9 : (sy_i F 86).toInt ≤ 400 → (sy_i F 84).toInt ≠ 0 → (sy_i F 85).toInt ≠ 43 → (sy_i F 85).toInt = 45 → 0 ≤ (sy_i F 33).toInt → (sy_i F 33).toInt ≤ 400 → ((sy_ai F 39).getD ((sy_i F 33).toInt).toNat 0).toInt = (sy_i F 85).toInt → 400 ≤ (sy_i F 33).toInt → (sy_i F 85).toInt ≠ 43 → 512 ≤ (sy_i F 23).toInt → 0 ≤ (sy_i F 33).toInt → (sy_i F 33).toInt ≤ 400 → ∀ F1 : Nat → sy_d, iv_in F1 iv_B0 → (∀ j, j < 82 → j ∉ ([34] : List Nat) → F1 j = F j) → (sy_i F1 33).toInt = (sy_i F 33).toInt → (sy_i F1 34).toInt = 2 → (sy_i F1 23).toInt = (sy_i F 23).toInt → sy_ai F1 39 = sy_ai F 39 → sy_ai F1 32 = sy_ai F 32 → (sy_i F1 82).toInt = (sy_i F 82).toInt → (sy_i F1 83).toInt = (sy_i F 83).toInt → (sy_i F1 84).toInt = 0 → (sy_i F1 85).toInt = ((sy_ai F 39).getD ((sy_i F 33).toInt).toNat 0).toInt → (sy_i F1 86).toInt = ((sy_i F 86).toInt + 1) → hd_W Ls xs d jm_M38 Q (23, sy_dL F1 [some (.inl (.ref 30)), some (.inr (.inl 82)), some (.inr (.inl 83)), some (.inr (.inl 84)), some (.inr (.inl 85)), some (.inr (.inl 86))], sy_dS F1 [], sy_dh F1 X1 X2 (iv_H 0), 0, 0))
    (k10 : (sy_i F 86).toInt ≤ 400 → (sy_i F 84).toInt ≠ 0 → (sy_i F 85).toInt ≠ 43 → (sy_i F 85).toInt = 45 → 0 ≤ (sy_i F 33).toInt → (sy_i F 33).toInt ≤ 400 → ((sy_ai F 39).getD ((sy_i F 33).toInt).toNat 0).toInt = (sy_i F 85).toInt → 400 ≤ (sy_i F 33).toInt → (sy_i F 85).toInt ≠ 43 → (sy_i F 23).toInt < 512 → 0 ≤ (sy_i F 33).toInt → (sy_i F 33).toInt ≤ 400 → ∀ F1 : Nat → sy_d, iv_in F1 iv_B0 → (∀ j, j < 82 → j ∉ ([23, 32, 34] : List Nat) → F1 j = F j) → (sy_i F1 33).toInt = (sy_i F 33).toInt → (sy_i F1 34).toInt = 2 → (sy_i F1 23).toInt = ((sy_i F 23).toInt + 1) → sy_ai F1 39 = sy_ai F 39 → sy_ai F1 32 = jm_upd (sy_ai F 32) ((sy_i F 23).toInt).toNat (((-11) : Int32)) → (sy_i F1 82).toInt = (sy_i F 82).toInt → (sy_i F1 83).toInt = (sy_i F 83).toInt → (sy_i F1 84).toInt = 0 → (sy_i F1 85).toInt = ((sy_ai F 39).getD ((sy_i F 33).toInt).toNat 0).toInt → (sy_i F1 86).toInt = ((sy_i F 86).toInt + 1) → hd_W Ls xs d jm_M38 Q (23, sy_dL F1 [some (.inl (.ref 30)), some (.inr (.inl 82)), some (.inr (.inl 83)), some (.inr (.inl 84)), some (.inr (.inl 85)), some (.inr (.inl 86))], sy_dS F1 [], sy_dh F1 X1 X2 (iv_H 0), 0, 0))
    (k11 : (sy_i F 86).toInt ≤ 400 → (sy_i F 84).toInt ≠ 0 → (sy_i F 85).toInt ≠ 43 → (sy_i F 85).toInt = 45 → 0 ≤ (sy_i F 33).toInt → (sy_i F 33).toInt ≤ 400 → ((sy_ai F 39).getD ((sy_i F 33).toInt).toNat 0).toInt ≠ (sy_i F 85).toInt → (sy_i F 85).toInt ≠ 43 → 512 ≤ (sy_i F 23).toInt → 0 ≤ (sy_i F 33).toInt → (sy_i F 33).toInt ≤ 400 → ∀ F1 : Nat → sy_d, iv_in F1 iv_B0 → (∀ j, j < 82 → j ∉ ([34] : List Nat) → F1 j = F j) → (sy_i F1 33).toInt = (sy_i F 33).toInt → (sy_i F1 34).toInt = 1 → (sy_i F1 23).toInt = (sy_i F 23).toInt → sy_ai F1 39 = sy_ai F 39 → sy_ai F1 32 = sy_ai F 32 → (sy_i F1 82).toInt = (sy_i F 82).toInt → (sy_i F1 83).toInt = (sy_i F 83).toInt → (sy_i F1 84).toInt = 0 → (sy_i F1 85).toInt = ((sy_ai F 39).getD ((sy_i F 33).toInt).toNat 0).toInt → (sy_i F1 86).toInt = ((sy_i F 86).toInt + 1) → hd_W Ls xs d jm_M38 Q (23, sy_dL F1 [some (.inl (.ref 30)), some (.inr (.inl 82)), some (.inr (.inl 83)), some (.inr (.inl 84)), some (.inr (.inl 85)), some (.inr (.inl 86))], sy_dS F1 [], sy_dh F1 X1 X2 (iv_H 0), 0, 0))
    (k12 : (sy_i F 86).toInt ≤ 400 → (sy_i F 84).toInt ≠ 0 → (sy_i F 85).toInt ≠ 43 → (sy_i F 85).toInt = 45 → 0 ≤ (sy_i F 33).toInt → (sy_i F 33).toInt ≤ 400 → ((sy_ai F 39).getD ((sy_i F 33).toInt).toNat 0).toInt ≠ (sy_i F 85).toInt → (sy_i F 85).toInt ≠ 43 → (sy_i F 23).toInt < 512 → 0 ≤ (sy_i F 33).toInt → (sy_i F 33).toInt ≤ 400 → ∀ F1 : Nat → sy_d, iv_in F1 iv_B0 → (∀ j, j < 82 → j ∉ ([23, 32, 34] : List Nat) → F1 j = F j) → (sy_i F1 33).toInt = (sy_i F 33).toInt → (sy_i F1 34).toInt = 1 → (sy_i F1 23).toInt = ((sy_i F 23).toInt + 1) → sy_ai F1 39 = sy_ai F 39 → sy_ai F1 32 = jm_upd (sy_ai F 32) ((sy_i F 23).toInt).toNat (((-11) : Int32)) → (sy_i F1 82).toInt = (sy_i F 82).toInt → (sy_i F1 83).toInt = (sy_i F 83).toInt → (sy_i F1 84).toInt = 0 → (sy_i F1 85).toInt = ((sy_ai F 39).getD ((sy_i F 33).toInt).toNat 0).toInt → (sy_i F1 86).toInt = ((sy_i F 86).toInt + 1) → hd_W Ls xs d jm_M38 Q (23, sy_dL F1 [some (.inl (.ref 30)), some (.inr (.inl 82)), some (.inr (.inl 83)), some (.inr (.inl 84)), some (.inr (.inl 85)), some (.inr (.inl 86))], sy_dS F1 [], sy_dh F1 X1 X2 (iv_H 0), 0, 0)) :
    hd_W Ls xs d jm_M38 Q (23, sy_dL F [some (.inl (.ref 30)), some (.inr (.inl 82)), some (.inr (.inl 83)), some (.inr (.inl 84)), some (.inr (.inl 85)), some (.inr (.inl 86))], sy_dS F [], sy_dh F X1 X2 (iv_H 0), 0, 0) := by
  by_cases g0 : 400 < (sy_i F 86).toInt
  · exact k0ps_23_p0 hd F X1 X2 hB (by first | exact g0 | (simp only [nz_c]; exact g0)) (by first | exact (o0 g0) | (simp only [nz_c]; exact (o0 g0))) (fun F1 g  => by rw [(rfl : sy_i F 84 = sy_i F 84)]; exact k0 g0 F1 (nz_in0 hB [] (fun j hj hn => g j hj (by simp only [List.mem_cons, List.not_mem_nil, or_false, not_or] at hn; exact trivial)) (List.forall_mem_nil _)) (fun j hj hn => g j hj (by simp only [List.mem_cons, List.not_mem_nil, or_false, not_or] at hn; exact trivial)) (nz_fi (g 33 (by decide) (by decide))) (nz_fi (g 34 (by decide) (by decide))) (nz_fi (g 23 (by decide) (by decide))) (nz_fa (g 39 (by decide) (by decide))) (nz_fa (g 32 (by decide) (by decide))))
  replace g0 : (sy_i F 86).toInt ≤ 400 := by omega
  by_cases g1 : (sy_i F 84).toInt = 0
  · exact k0ps_23_p1 hd F X1 X2 hB (by first | exact g0 | (simp only [nz_c]; exact g0)) (by first | exact g1 | (simp only [nz_c]; exact g1)) (by first | exact (by omega) | (simp only [nz_c]; exact (by omega))) (fun F1 g  => by rw [(rfl : sy_i F 84 = sy_i F 84)]; exact k1 g0 g1 F1 (nz_in0 hB [] (fun j hj hn => g j hj (by simp only [List.mem_cons, List.not_mem_nil, or_false, not_or] at hn; exact trivial)) (List.forall_mem_nil _)) (fun j hj hn => g j hj (by simp only [List.mem_cons, List.not_mem_nil, or_false, not_or] at hn; exact trivial)) (nz_fi (g 33 (by decide) (by decide))) (nz_fi (g 34 (by decide) (by decide))) (nz_fi (g 23 (by decide) (by decide))) (nz_fa (g 39 (by decide) (by decide))) (nz_fa (g 32 (by decide) (by decide))))
  replace g1 : (sy_i F 84).toInt ≠ 0 := by omega
  by_cases g2 : (sy_i F 85).toInt = 43
  · by_cases g3 : (sy_i F 33).toInt < 0
    · have c33 := nz_bx hB (k := 33) (lo := 0) (hi := 400) rfl
      exfalso
      omega
    replace g3 : 0 ≤ (sy_i F 33).toInt := by omega
    by_cases g4 : 400 < (sy_i F 33).toInt
    · have c33 := nz_bx hB (k := 33) (lo := 0) (hi := 400) rfl
      exfalso
      omega
    replace g4 : (sy_i F 33).toInt ≤ 400 := by omega
    by_cases g5 : ((sy_ai F 39).getD ((sy_i F 33).toInt).toNat 0).toInt = (sy_i F 85).toInt
    · by_cases g6 : (sy_i F 33).toInt < 400
      · have c33 := nz_bx hB (k := 33) (lo := 0) (hi := 400) rfl
        have q87 : (sy_ai F 39).getD (sy_i F 33).toNatClampNeg 0 = (sy_ai F 39).getD ((sy_i F 33).toInt).toNat 0 := by simp only [nz_c]
        have n87 : ((sy_ai F 39).getD (sy_i F 33).toNatClampNeg 0).toInt = ((sy_ai F 39).getD ((sy_i F 33).toInt).toNat 0).toInt := congrArg Int32.toInt q87
        have n88 : ((sy_i F 33) + ((1 : Int32))).toInt = ((sy_i F 33).toInt + 1) := nz_add (rfl : (sy_i F 33).toInt = (sy_i F 33).toInt) (by decide : ((1 : Int32)).toInt = 1) (by omega) (by omega)
        exact k0ps_23_p2 hd F X1 X2 hB (by first | exact g0 | (simp only [nz_c]; exact g0)) (by first | exact g1 | (simp only [nz_c]; exact g1)) (by first | exact g2 | (simp only [nz_c]; exact g2)) (by first | exact g3 | (simp only [nz_c]; exact g3)) (by first | exact g4 | (simp only [nz_c]; exact g4)) (by first | exact ⟨by omega, by omega⟩ | (simp only [nz_c]; exact ⟨by omega, by omega⟩)) (by first | exact g5 | (simp only [nz_c]; exact g5) | (rw [n87]; exact g5)) (by first | exact g6 | (simp only [nz_c]; exact g6)) (fun F1 g e33 e82 e83 e84 e85 => k2 g0 g1 g2 g3 g4 g5 g6 F1 (nz_in0 hB [33] (fun j hj hn => g j hj (by simp only [List.mem_cons, List.not_mem_nil, or_false, not_or] at hn; omega)) (List.forall_mem_cons.mpr ⟨fun t ht => (Option.some.inj ht) ▸ (nz_hi e33 n88 (by omega) (by omega)), List.forall_mem_nil _⟩)) (fun j hj hn => g j hj (by simp only [List.mem_cons, List.not_mem_nil, or_false, not_or] at hn; omega)) ((congrArg Int32.toInt (zz_i e33)).trans n88) (nz_fi (g 34 (by decide) (by decide))) (nz_fi (g 23 (by decide) (by decide))) (nz_fa (g 39 (by decide) (by decide))) (nz_fa (g 32 (by decide) (by decide))) ((congrArg Int32.toInt (zz_i e82)).trans (rfl : (sy_i F 82).toInt = (sy_i F 82).toInt)) ((congrArg Int32.toInt (zz_i e83)).trans (rfl : (sy_i F 83).toInt = (sy_i F 83).toInt)) ((congrArg Int32.toInt (zz_i e84)).trans (rfl : (sy_i F 85).toInt = (sy_i F 85).toInt)) ((congrArg Int32.toInt (zz_i e85)).trans (rfl : (sy_i F 86).toInt = (sy_i F 86).toInt)))
      replace g6 : 400 ≤ (sy_i F 33).toInt := by omega
      by_cases g7 : (sy_i F 85).toInt ≠ 43
      · have c33 := nz_bx hB (k := 33) (lo := 0) (hi := 400) rfl
        have q87 : (sy_ai F 39).getD (sy_i F 33).toNatClampNeg 0 = (sy_ai F 39).getD ((sy_i F 33).toInt).toNat 0 := by simp only [nz_c]
        have n87 : ((sy_ai F 39).getD (sy_i F 33).toNatClampNeg 0).toInt = ((sy_ai F 39).getD ((sy_i F 33).toInt).toNat 0).toInt := congrArg Int32.toInt q87
        exfalso
        omega
      replace g7 : (sy_i F 85).toInt = 43 := by omega
      by_cases g8 : 512 ≤ (sy_i F 23).toInt
      · by_cases g9 : (sy_i F 33).toInt < 0
        · have c33 := nz_bx hB (k := 33) (lo := 0) (hi := 400) rfl
          have q87 : (sy_ai F 39).getD (sy_i F 33).toNatClampNeg 0 = (sy_ai F 39).getD ((sy_i F 33).toInt).toNat 0 := by simp only [nz_c]
          have n87 : ((sy_ai F 39).getD (sy_i F 33).toNatClampNeg 0).toInt = ((sy_ai F 39).getD ((sy_i F 33).toInt).toNat 0).toInt := congrArg Int32.toInt q87
          have c23 := nz_bx hB (k := 23) (lo := 0) (hi := 512) rfl
          exfalso
          omega
        replace g9 : 0 ≤ (sy_i F 33).toInt := by omega
        by_cases g10 : 400 < (sy_i F 33).toInt
        · have c33 := nz_bx hB (k := 33) (lo := 0) (hi := 400) rfl
          have q87 : (sy_ai F 39).getD (sy_i F 33).toNatClampNeg 0 = (sy_ai F 39).getD ((sy_i F 33).toInt).toNat 0 := by simp only [nz_c]
          have n87 : ((sy_ai F 39).getD (sy_i F 33).toNatClampNeg 0).toInt = ((sy_ai F 39).getD ((sy_i F 33).toInt).toNat 0).toInt := congrArg Int32.toInt q87
          have c23 := nz_bx hB (k := 23) (lo := 0) (hi := 512) rfl
          exfalso
          omega
        replace g10 : (sy_i F 33).toInt ≤ 400 := by omega
        have c33 := nz_bx hB (k := 33) (lo := 0) (hi := 400) rfl
        have q87 : (sy_ai F 39).getD (sy_i F 33).toNatClampNeg 0 = (sy_ai F 39).getD ((sy_i F 33).toInt).toNat 0 := by simp only [nz_c]
        have n87 : ((sy_ai F 39).getD (sy_i F 33).toNatClampNeg 0).toInt = ((sy_ai F 39).getD ((sy_i F 33).toInt).toNat 0).toInt := congrArg Int32.toInt q87
        have c23 := nz_bx hB (k := 23) (lo := 0) (hi := 512) rfl
        have q88 : (sy_ai F 39).getD (sy_i F 33).toNatClampNeg 0 = (sy_ai F 39).getD ((sy_i F 33).toInt).toNat 0 := by simp only [nz_c]
        have n88 : ((sy_ai F 39).getD (sy_i F 33).toNatClampNeg 0).toInt = ((sy_ai F 39).getD ((sy_i F 33).toInt).toNat 0).toInt := congrArg Int32.toInt q88
        have n89 : ((sy_i F 86) + ((1 : Int32))).toInt = ((sy_i F 86).toInt + 1) := nz_add (rfl : (sy_i F 86).toInt = (sy_i F 86).toInt) (by decide : ((1 : Int32)).toInt = 1) (by omega) (by omega)
        exact k0ps_23_p3 hd F X1 X2 hB (by first | exact g0 | (simp only [nz_c]; exact g0)) (by first | exact g1 | (simp only [nz_c]; exact g1)) (by first | exact g2 | (simp only [nz_c]; exact g2)) (by first | exact g3 | (simp only [nz_c]; exact g3)) (by first | exact g4 | (simp only [nz_c]; exact g4)) (by first | exact ⟨by omega, by omega⟩ | (simp only [nz_c]; exact ⟨by omega, by omega⟩)) (by first | exact g5 | (simp only [nz_c]; exact g5) | (rw [n87]; exact g5)) (by first | exact g6 | (simp only [nz_c]; exact g6)) (by first | exact g7 | (simp only [nz_c]; exact g7)) (by first | exact g8 | (simp only [nz_c]; exact g8)) (by first | exact g9 | (simp only [nz_c]; exact g9)) (by first | exact g10 | (simp only [nz_c]; exact g10)) (by first | exact ⟨by omega, by omega⟩ | (simp only [nz_c]; exact ⟨by omega, by omega⟩)) (fun F1 g e34 e82 e83 e84 e85 e86 => k3 g0 g1 g2 g3 g4 g5 g6 g7 g8 g9 g10 F1 (nz_in0 hB [34] (fun j hj hn => g j hj (by simp only [List.mem_cons, List.not_mem_nil, or_false, not_or] at hn; omega)) (List.forall_mem_cons.mpr ⟨fun t ht => (Option.some.inj ht) ▸ (nz_hz e34), List.forall_mem_nil _⟩)) (fun j hj hn => g j hj (by simp only [List.mem_cons, List.not_mem_nil, or_false, not_or] at hn; omega)) (nz_fi (g 33 (by decide) (by decide))) ((congrArg Int32.toInt (zz_i e34)).trans (by decide : ((2 : Int32)).toInt = 2)) (nz_fi (g 23 (by decide) (by decide))) (nz_fa (g 39 (by decide) (by decide))) (nz_fa (g 32 (by decide) (by decide))) ((congrArg Int32.toInt (zz_i e82)).trans (rfl : (sy_i F 82).toInt = (sy_i F 82).toInt)) ((congrArg Int32.toInt (zz_i e83)).trans (rfl : (sy_i F 83).toInt = (sy_i F 83).toInt)) ((congrArg Int32.toInt (zz_i e84)).trans (by decide : ((0 : Int32)).toInt = 0)) ((congrArg Int32.toInt (zz_i e85)).trans n88) ((congrArg Int32.toInt (zz_i e86)).trans n89))
      replace g8 : (sy_i F 23).toInt < 512 := by omega
      by_cases g9 : (sy_i F 33).toInt < 0
      · have c33 := nz_bx hB (k := 33) (lo := 0) (hi := 400) rfl
        have q87 : (sy_ai F 39).getD (sy_i F 33).toNatClampNeg 0 = (sy_ai F 39).getD ((sy_i F 33).toInt).toNat 0 := by simp only [nz_c]
        have n87 : ((sy_ai F 39).getD (sy_i F 33).toNatClampNeg 0).toInt = ((sy_ai F 39).getD ((sy_i F 33).toInt).toNat 0).toInt := congrArg Int32.toInt q87
        have c23 := nz_bx hB (k := 23) (lo := 0) (hi := 512) rfl
        exfalso
        omega
      replace g9 : 0 ≤ (sy_i F 33).toInt := by omega
      by_cases g10 : 400 < (sy_i F 33).toInt
      · have c33 := nz_bx hB (k := 33) (lo := 0) (hi := 400) rfl
        have q87 : (sy_ai F 39).getD (sy_i F 33).toNatClampNeg 0 = (sy_ai F 39).getD ((sy_i F 33).toInt).toNat 0 := by simp only [nz_c]
        have n87 : ((sy_ai F 39).getD (sy_i F 33).toNatClampNeg 0).toInt = ((sy_ai F 39).getD ((sy_i F 33).toInt).toNat 0).toInt := congrArg Int32.toInt q87
        have c23 := nz_bx hB (k := 23) (lo := 0) (hi := 512) rfl
        exfalso
        omega
      replace g10 : (sy_i F 33).toInt ≤ 400 := by omega
      have c33 := nz_bx hB (k := 33) (lo := 0) (hi := 400) rfl
      have q87 : (sy_ai F 39).getD (sy_i F 33).toNatClampNeg 0 = (sy_ai F 39).getD ((sy_i F 33).toInt).toNat 0 := by simp only [nz_c]
      have n87 : ((sy_ai F 39).getD (sy_i F 33).toNatClampNeg 0).toInt = ((sy_ai F 39).getD ((sy_i F 33).toInt).toNat 0).toInt := congrArg Int32.toInt q87
      have c23 := nz_bx hB (k := 23) (lo := 0) (hi := 512) rfl
      have n89 : ((sy_i F 23) + ((1 : Int32))).toInt = ((sy_i F 23).toInt + 1) := nz_add (rfl : (sy_i F 23).toInt = (sy_i F 23).toInt) (by decide : ((1 : Int32)).toInt = 1) (by omega) (by omega)
      have w88 : jm_upd (sy_ai F 32) (sy_i F 23).toNatClampNeg (((-10) : Int32)) = jm_upd (sy_ai F 32) ((sy_i F 23).toInt).toNat (((-10) : Int32)) := by simp only [nz_c, (by decide : (((-10) : Int32)).toInt = (-10 : Int))]
      have q90 : (sy_ai F 39).getD (sy_i F 33).toNatClampNeg 0 = (sy_ai F 39).getD ((sy_i F 33).toInt).toNat 0 := by simp only [nz_c]
      have n90 : ((sy_ai F 39).getD (sy_i F 33).toNatClampNeg 0).toInt = ((sy_ai F 39).getD ((sy_i F 33).toInt).toNat 0).toInt := congrArg Int32.toInt q90
      have n91 : ((sy_i F 86) + ((1 : Int32))).toInt = ((sy_i F 86).toInt + 1) := nz_add (rfl : (sy_i F 86).toInt = (sy_i F 86).toInt) (by decide : ((1 : Int32)).toInt = 1) (by omega) (by omega)
      exact k0ps_23_p4 hd F X1 X2 hB (by first | exact g0 | (simp only [nz_c]; exact g0)) (by first | exact g1 | (simp only [nz_c]; exact g1)) (by first | exact g2 | (simp only [nz_c]; exact g2)) (by first | exact g3 | (simp only [nz_c]; exact g3)) (by first | exact g4 | (simp only [nz_c]; exact g4)) (by first | exact ⟨by omega, by omega⟩ | (simp only [nz_c]; exact ⟨by omega, by omega⟩)) (by first | exact g5 | (simp only [nz_c]; exact g5) | (rw [n87]; exact g5)) (by first | exact g6 | (simp only [nz_c]; exact g6)) (by first | exact g7 | (simp only [nz_c]; exact g7)) (by first | exact g8 | (simp only [nz_c]; exact g8)) (by first | exact ⟨by omega, by omega⟩ | (simp only [nz_c]; exact ⟨by omega, by omega⟩)) (by first | exact g9 | (simp only [nz_c]; exact g9)) (by first | exact g10 | (simp only [nz_c]; exact g10)) (by first | exact ⟨by omega, by omega⟩ | (simp only [nz_c]; exact ⟨by omega, by omega⟩)) (fun F1 g e23 e32 e34 e82 e83 e84 e85 e86 => k4 g0 g1 g2 g3 g4 g5 g6 g7 g8 g9 g10 F1 (nz_in0 hB [23, 32, 34] (fun j hj hn => g j hj (by simp only [List.mem_cons, List.not_mem_nil, or_false, not_or] at hn; omega)) (List.forall_mem_cons.mpr ⟨fun t ht => (Option.some.inj ht) ▸ (nz_hi e23 n89 (by omega) (by omega)), List.forall_mem_cons.mpr ⟨fun t ht => (Option.some.inj ht) ▸ (nz_hA e32 (nz_up (nz_ba hB (k := 32) (lo := (-2147483648)) (hi := 2147483646) rfl) (by decide : (((-10) : Int32)).toInt = (-10 : Int)) (by omega) (by omega))), List.forall_mem_cons.mpr ⟨fun t ht => (Option.some.inj ht) ▸ (nz_hz e34), List.forall_mem_nil _⟩⟩⟩)) (fun j hj hn => g j hj (by simp only [List.mem_cons, List.not_mem_nil, or_false, not_or] at hn; omega)) (nz_fi (g 33 (by decide) (by decide))) ((congrArg Int32.toInt (zz_i e34)).trans (by decide : ((2 : Int32)).toInt = 2)) ((congrArg Int32.toInt (zz_i e23)).trans n89) (nz_fa (g 39 (by decide) (by decide))) ((zz_ai e32).trans w88) ((congrArg Int32.toInt (zz_i e82)).trans (rfl : (sy_i F 82).toInt = (sy_i F 82).toInt)) ((congrArg Int32.toInt (zz_i e83)).trans (rfl : (sy_i F 83).toInt = (sy_i F 83).toInt)) ((congrArg Int32.toInt (zz_i e84)).trans (by decide : ((0 : Int32)).toInt = 0)) ((congrArg Int32.toInt (zz_i e85)).trans n90) ((congrArg Int32.toInt (zz_i e86)).trans n91))
    replace g5 : ((sy_ai F 39).getD ((sy_i F 33).toInt).toNat 0).toInt ≠ (sy_i F 85).toInt := by omega
    by_cases g6 : (sy_i F 85).toInt ≠ 43
    · have c33 := nz_bx hB (k := 33) (lo := 0) (hi := 400) rfl
      have q87 : (sy_ai F 39).getD (sy_i F 33).toNatClampNeg 0 = (sy_ai F 39).getD ((sy_i F 33).toInt).toNat 0 := by simp only [nz_c]
      have n87 : ((sy_ai F 39).getD (sy_i F 33).toNatClampNeg 0).toInt = ((sy_ai F 39).getD ((sy_i F 33).toInt).toNat 0).toInt := congrArg Int32.toInt q87
      exfalso
      omega
    replace g6 : (sy_i F 85).toInt = 43 := by omega
    by_cases g7 : 512 ≤ (sy_i F 23).toInt
    · by_cases g8 : (sy_i F 33).toInt < 0
      · have c33 := nz_bx hB (k := 33) (lo := 0) (hi := 400) rfl
        have q87 : (sy_ai F 39).getD (sy_i F 33).toNatClampNeg 0 = (sy_ai F 39).getD ((sy_i F 33).toInt).toNat 0 := by simp only [nz_c]
        have n87 : ((sy_ai F 39).getD (sy_i F 33).toNatClampNeg 0).toInt = ((sy_ai F 39).getD ((sy_i F 33).toInt).toNat 0).toInt := congrArg Int32.toInt q87
        have c23 := nz_bx hB (k := 23) (lo := 0) (hi := 512) rfl
        exfalso
        omega
      replace g8 : 0 ≤ (sy_i F 33).toInt := by omega
      by_cases g9 : 400 < (sy_i F 33).toInt
      · have c33 := nz_bx hB (k := 33) (lo := 0) (hi := 400) rfl
        have q87 : (sy_ai F 39).getD (sy_i F 33).toNatClampNeg 0 = (sy_ai F 39).getD ((sy_i F 33).toInt).toNat 0 := by simp only [nz_c]
        have n87 : ((sy_ai F 39).getD (sy_i F 33).toNatClampNeg 0).toInt = ((sy_ai F 39).getD ((sy_i F 33).toInt).toNat 0).toInt := congrArg Int32.toInt q87
        have c23 := nz_bx hB (k := 23) (lo := 0) (hi := 512) rfl
        exfalso
        omega
      replace g9 : (sy_i F 33).toInt ≤ 400 := by omega
      have c33 := nz_bx hB (k := 33) (lo := 0) (hi := 400) rfl
      have q87 : (sy_ai F 39).getD (sy_i F 33).toNatClampNeg 0 = (sy_ai F 39).getD ((sy_i F 33).toInt).toNat 0 := by simp only [nz_c]
      have n87 : ((sy_ai F 39).getD (sy_i F 33).toNatClampNeg 0).toInt = ((sy_ai F 39).getD ((sy_i F 33).toInt).toNat 0).toInt := congrArg Int32.toInt q87
      have c23 := nz_bx hB (k := 23) (lo := 0) (hi := 512) rfl
      have q88 : (sy_ai F 39).getD (sy_i F 33).toNatClampNeg 0 = (sy_ai F 39).getD ((sy_i F 33).toInt).toNat 0 := by simp only [nz_c]
      have n88 : ((sy_ai F 39).getD (sy_i F 33).toNatClampNeg 0).toInt = ((sy_ai F 39).getD ((sy_i F 33).toInt).toNat 0).toInt := congrArg Int32.toInt q88
      have n89 : ((sy_i F 86) + ((1 : Int32))).toInt = ((sy_i F 86).toInt + 1) := nz_add (rfl : (sy_i F 86).toInt = (sy_i F 86).toInt) (by decide : ((1 : Int32)).toInt = 1) (by omega) (by omega)
      exact k0ps_23_p5 hd F X1 X2 hB (by first | exact g0 | (simp only [nz_c]; exact g0)) (by first | exact g1 | (simp only [nz_c]; exact g1)) (by first | exact g2 | (simp only [nz_c]; exact g2)) (by first | exact g3 | (simp only [nz_c]; exact g3)) (by first | exact g4 | (simp only [nz_c]; exact g4)) (by first | exact ⟨by omega, by omega⟩ | (simp only [nz_c]; exact ⟨by omega, by omega⟩)) (by first | exact g5 | (simp only [nz_c]; exact g5) | (rw [n87]; exact g5)) (by first | exact g6 | (simp only [nz_c]; exact g6)) (by first | exact g7 | (simp only [nz_c]; exact g7)) (by first | exact g8 | (simp only [nz_c]; exact g8)) (by first | exact g9 | (simp only [nz_c]; exact g9)) (by first | exact ⟨by omega, by omega⟩ | (simp only [nz_c]; exact ⟨by omega, by omega⟩)) (fun F1 g e34 e82 e83 e84 e85 e86 => k5 g0 g1 g2 g3 g4 g5 g6 g7 g8 g9 F1 (nz_in0 hB [34] (fun j hj hn => g j hj (by simp only [List.mem_cons, List.not_mem_nil, or_false, not_or] at hn; omega)) (List.forall_mem_cons.mpr ⟨fun t ht => (Option.some.inj ht) ▸ (nz_hz e34), List.forall_mem_nil _⟩)) (fun j hj hn => g j hj (by simp only [List.mem_cons, List.not_mem_nil, or_false, not_or] at hn; omega)) (nz_fi (g 33 (by decide) (by decide))) ((congrArg Int32.toInt (zz_i e34)).trans (by decide : ((1 : Int32)).toInt = 1)) (nz_fi (g 23 (by decide) (by decide))) (nz_fa (g 39 (by decide) (by decide))) (nz_fa (g 32 (by decide) (by decide))) ((congrArg Int32.toInt (zz_i e82)).trans (rfl : (sy_i F 82).toInt = (sy_i F 82).toInt)) ((congrArg Int32.toInt (zz_i e83)).trans (rfl : (sy_i F 83).toInt = (sy_i F 83).toInt)) ((congrArg Int32.toInt (zz_i e84)).trans (by decide : ((0 : Int32)).toInt = 0)) ((congrArg Int32.toInt (zz_i e85)).trans n88) ((congrArg Int32.toInt (zz_i e86)).trans n89))
    replace g7 : (sy_i F 23).toInt < 512 := by omega
    by_cases g8 : (sy_i F 33).toInt < 0
    · have c33 := nz_bx hB (k := 33) (lo := 0) (hi := 400) rfl
      have q87 : (sy_ai F 39).getD (sy_i F 33).toNatClampNeg 0 = (sy_ai F 39).getD ((sy_i F 33).toInt).toNat 0 := by simp only [nz_c]
      have n87 : ((sy_ai F 39).getD (sy_i F 33).toNatClampNeg 0).toInt = ((sy_ai F 39).getD ((sy_i F 33).toInt).toNat 0).toInt := congrArg Int32.toInt q87
      have c23 := nz_bx hB (k := 23) (lo := 0) (hi := 512) rfl
      exfalso
      omega
    replace g8 : 0 ≤ (sy_i F 33).toInt := by omega
    by_cases g9 : 400 < (sy_i F 33).toInt
    · have c33 := nz_bx hB (k := 33) (lo := 0) (hi := 400) rfl
      have q87 : (sy_ai F 39).getD (sy_i F 33).toNatClampNeg 0 = (sy_ai F 39).getD ((sy_i F 33).toInt).toNat 0 := by simp only [nz_c]
      have n87 : ((sy_ai F 39).getD (sy_i F 33).toNatClampNeg 0).toInt = ((sy_ai F 39).getD ((sy_i F 33).toInt).toNat 0).toInt := congrArg Int32.toInt q87
      have c23 := nz_bx hB (k := 23) (lo := 0) (hi := 512) rfl
      exfalso
      omega
    replace g9 : (sy_i F 33).toInt ≤ 400 := by omega
    have c33 := nz_bx hB (k := 33) (lo := 0) (hi := 400) rfl
    have q87 : (sy_ai F 39).getD (sy_i F 33).toNatClampNeg 0 = (sy_ai F 39).getD ((sy_i F 33).toInt).toNat 0 := by simp only [nz_c]
    have n87 : ((sy_ai F 39).getD (sy_i F 33).toNatClampNeg 0).toInt = ((sy_ai F 39).getD ((sy_i F 33).toInt).toNat 0).toInt := congrArg Int32.toInt q87
    have c23 := nz_bx hB (k := 23) (lo := 0) (hi := 512) rfl
    have n89 : ((sy_i F 23) + ((1 : Int32))).toInt = ((sy_i F 23).toInt + 1) := nz_add (rfl : (sy_i F 23).toInt = (sy_i F 23).toInt) (by decide : ((1 : Int32)).toInt = 1) (by omega) (by omega)
    have w88 : jm_upd (sy_ai F 32) (sy_i F 23).toNatClampNeg (((-10) : Int32)) = jm_upd (sy_ai F 32) ((sy_i F 23).toInt).toNat (((-10) : Int32)) := by simp only [nz_c, (by decide : (((-10) : Int32)).toInt = (-10 : Int))]
    have q90 : (sy_ai F 39).getD (sy_i F 33).toNatClampNeg 0 = (sy_ai F 39).getD ((sy_i F 33).toInt).toNat 0 := by simp only [nz_c]
    have n90 : ((sy_ai F 39).getD (sy_i F 33).toNatClampNeg 0).toInt = ((sy_ai F 39).getD ((sy_i F 33).toInt).toNat 0).toInt := congrArg Int32.toInt q90
    have n91 : ((sy_i F 86) + ((1 : Int32))).toInt = ((sy_i F 86).toInt + 1) := nz_add (rfl : (sy_i F 86).toInt = (sy_i F 86).toInt) (by decide : ((1 : Int32)).toInt = 1) (by omega) (by omega)
    exact k0ps_23_p6 hd F X1 X2 hB (by first | exact g0 | (simp only [nz_c]; exact g0)) (by first | exact g1 | (simp only [nz_c]; exact g1)) (by first | exact g2 | (simp only [nz_c]; exact g2)) (by first | exact g3 | (simp only [nz_c]; exact g3)) (by first | exact g4 | (simp only [nz_c]; exact g4)) (by first | exact ⟨by omega, by omega⟩ | (simp only [nz_c]; exact ⟨by omega, by omega⟩)) (by first | exact g5 | (simp only [nz_c]; exact g5) | (rw [n87]; exact g5)) (by first | exact g6 | (simp only [nz_c]; exact g6)) (by first | exact g7 | (simp only [nz_c]; exact g7)) (by first | exact ⟨by omega, by omega⟩ | (simp only [nz_c]; exact ⟨by omega, by omega⟩)) (by first | exact g8 | (simp only [nz_c]; exact g8)) (by first | exact g9 | (simp only [nz_c]; exact g9)) (by first | exact ⟨by omega, by omega⟩ | (simp only [nz_c]; exact ⟨by omega, by omega⟩)) (fun F1 g e23 e32 e34 e82 e83 e84 e85 e86 => k6 g0 g1 g2 g3 g4 g5 g6 g7 g8 g9 F1 (nz_in0 hB [23, 32, 34] (fun j hj hn => g j hj (by simp only [List.mem_cons, List.not_mem_nil, or_false, not_or] at hn; omega)) (List.forall_mem_cons.mpr ⟨fun t ht => (Option.some.inj ht) ▸ (nz_hi e23 n89 (by omega) (by omega)), List.forall_mem_cons.mpr ⟨fun t ht => (Option.some.inj ht) ▸ (nz_hA e32 (nz_up (nz_ba hB (k := 32) (lo := (-2147483648)) (hi := 2147483646) rfl) (by decide : (((-10) : Int32)).toInt = (-10 : Int)) (by omega) (by omega))), List.forall_mem_cons.mpr ⟨fun t ht => (Option.some.inj ht) ▸ (nz_hz e34), List.forall_mem_nil _⟩⟩⟩)) (fun j hj hn => g j hj (by simp only [List.mem_cons, List.not_mem_nil, or_false, not_or] at hn; omega)) (nz_fi (g 33 (by decide) (by decide))) ((congrArg Int32.toInt (zz_i e34)).trans (by decide : ((1 : Int32)).toInt = 1)) ((congrArg Int32.toInt (zz_i e23)).trans n89) (nz_fa (g 39 (by decide) (by decide))) ((zz_ai e32).trans w88) ((congrArg Int32.toInt (zz_i e82)).trans (rfl : (sy_i F 82).toInt = (sy_i F 82).toInt)) ((congrArg Int32.toInt (zz_i e83)).trans (rfl : (sy_i F 83).toInt = (sy_i F 83).toInt)) ((congrArg Int32.toInt (zz_i e84)).trans (by decide : ((0 : Int32)).toInt = 0)) ((congrArg Int32.toInt (zz_i e85)).trans n90) ((congrArg Int32.toInt (zz_i e86)).trans n91))
  replace g2 : (sy_i F 85).toInt ≠ 43 := by omega
  by_cases g3 : (sy_i F 85).toInt ≠ 45
  · exact k0ps_23_p7 hd F X1 X2 hB (by first | exact g0 | (simp only [nz_c]; exact g0)) (by first | exact g1 | (simp only [nz_c]; exact g1)) (by first | exact g2 | (simp only [nz_c]; exact g2)) (by first | exact g3 | (simp only [nz_c]; exact g3)) (by first | exact (o1 g0 g1 g2 g3) | (simp only [nz_c]; exact (o1 g0 g1 g2 g3))) (fun F1 g  => by rw [(rfl : sy_i F 84 = sy_i F 84)]; exact k7 g0 g1 g2 g3 F1 (nz_in0 hB [] (fun j hj hn => g j hj (by simp only [List.mem_cons, List.not_mem_nil, or_false, not_or] at hn; exact trivial)) (List.forall_mem_nil _)) (fun j hj hn => g j hj (by simp only [List.mem_cons, List.not_mem_nil, or_false, not_or] at hn; exact trivial)) (nz_fi (g 33 (by decide) (by decide))) (nz_fi (g 34 (by decide) (by decide))) (nz_fi (g 23 (by decide) (by decide))) (nz_fa (g 39 (by decide) (by decide))) (nz_fa (g 32 (by decide) (by decide))))
  replace g3 : (sy_i F 85).toInt = 45 := by omega
  by_cases g4 : (sy_i F 33).toInt < 0
  · have c33 := nz_bx hB (k := 33) (lo := 0) (hi := 400) rfl
    exfalso
    omega
  replace g4 : 0 ≤ (sy_i F 33).toInt := by omega
  by_cases g5 : 400 < (sy_i F 33).toInt
  · have c33 := nz_bx hB (k := 33) (lo := 0) (hi := 400) rfl
    exfalso
    omega
  replace g5 : (sy_i F 33).toInt ≤ 400 := by omega
  by_cases g6 : ((sy_ai F 39).getD ((sy_i F 33).toInt).toNat 0).toInt = (sy_i F 85).toInt
  · by_cases g7 : (sy_i F 33).toInt < 400
    · have c33 := nz_bx hB (k := 33) (lo := 0) (hi := 400) rfl
      have q87 : (sy_ai F 39).getD (sy_i F 33).toNatClampNeg 0 = (sy_ai F 39).getD ((sy_i F 33).toInt).toNat 0 := by simp only [nz_c]
      have n87 : ((sy_ai F 39).getD (sy_i F 33).toNatClampNeg 0).toInt = ((sy_ai F 39).getD ((sy_i F 33).toInt).toNat 0).toInt := congrArg Int32.toInt q87
      have n88 : ((sy_i F 33) + ((1 : Int32))).toInt = ((sy_i F 33).toInt + 1) := nz_add (rfl : (sy_i F 33).toInt = (sy_i F 33).toInt) (by decide : ((1 : Int32)).toInt = 1) (by omega) (by omega)
      exact k0ps_23_p8 hd F X1 X2 hB (by first | exact g0 | (simp only [nz_c]; exact g0)) (by first | exact g1 | (simp only [nz_c]; exact g1)) (by first | exact g2 | (simp only [nz_c]; exact g2)) (by first | exact g3 | (simp only [nz_c]; exact g3)) (by first | exact g4 | (simp only [nz_c]; exact g4)) (by first | exact g5 | (simp only [nz_c]; exact g5)) (by first | exact ⟨by omega, by omega⟩ | (simp only [nz_c]; exact ⟨by omega, by omega⟩)) (by first | exact g6 | (simp only [nz_c]; exact g6) | (rw [n87]; exact g6)) (by first | exact g7 | (simp only [nz_c]; exact g7)) (fun F1 g e33 e82 e83 e84 e85 => k8 g0 g1 g2 g3 g4 g5 g6 g7 F1 (nz_in0 hB [33] (fun j hj hn => g j hj (by simp only [List.mem_cons, List.not_mem_nil, or_false, not_or] at hn; omega)) (List.forall_mem_cons.mpr ⟨fun t ht => (Option.some.inj ht) ▸ (nz_hi e33 n88 (by omega) (by omega)), List.forall_mem_nil _⟩)) (fun j hj hn => g j hj (by simp only [List.mem_cons, List.not_mem_nil, or_false, not_or] at hn; omega)) ((congrArg Int32.toInt (zz_i e33)).trans n88) (nz_fi (g 34 (by decide) (by decide))) (nz_fi (g 23 (by decide) (by decide))) (nz_fa (g 39 (by decide) (by decide))) (nz_fa (g 32 (by decide) (by decide))) ((congrArg Int32.toInt (zz_i e82)).trans (rfl : (sy_i F 82).toInt = (sy_i F 82).toInt)) ((congrArg Int32.toInt (zz_i e83)).trans (rfl : (sy_i F 83).toInt = (sy_i F 83).toInt)) ((congrArg Int32.toInt (zz_i e84)).trans (rfl : (sy_i F 85).toInt = (sy_i F 85).toInt)) ((congrArg Int32.toInt (zz_i e85)).trans (rfl : (sy_i F 86).toInt = (sy_i F 86).toInt)))
    replace g7 : 400 ≤ (sy_i F 33).toInt := by omega
    by_cases g8 : (sy_i F 85).toInt ≠ 43
    · by_cases g9 : 512 ≤ (sy_i F 23).toInt
      · by_cases g10 : (sy_i F 33).toInt < 0
        · have c33 := nz_bx hB (k := 33) (lo := 0) (hi := 400) rfl
          have q87 : (sy_ai F 39).getD (sy_i F 33).toNatClampNeg 0 = (sy_ai F 39).getD ((sy_i F 33).toInt).toNat 0 := by simp only [nz_c]
          have n87 : ((sy_ai F 39).getD (sy_i F 33).toNatClampNeg 0).toInt = ((sy_ai F 39).getD ((sy_i F 33).toInt).toNat 0).toInt := congrArg Int32.toInt q87
          have c23 := nz_bx hB (k := 23) (lo := 0) (hi := 512) rfl
          exfalso
          omega
        replace g10 : 0 ≤ (sy_i F 33).toInt := by omega
        by_cases g11 : 400 < (sy_i F 33).toInt
        · have c33 := nz_bx hB (k := 33) (lo := 0) (hi := 400) rfl
          have q87 : (sy_ai F 39).getD (sy_i F 33).toNatClampNeg 0 = (sy_ai F 39).getD ((sy_i F 33).toInt).toNat 0 := by simp only [nz_c]
          have n87 : ((sy_ai F 39).getD (sy_i F 33).toNatClampNeg 0).toInt = ((sy_ai F 39).getD ((sy_i F 33).toInt).toNat 0).toInt := congrArg Int32.toInt q87
          have c23 := nz_bx hB (k := 23) (lo := 0) (hi := 512) rfl
          exfalso
          omega
        replace g11 : (sy_i F 33).toInt ≤ 400 := by omega
        have c33 := nz_bx hB (k := 33) (lo := 0) (hi := 400) rfl
        have q87 : (sy_ai F 39).getD (sy_i F 33).toNatClampNeg 0 = (sy_ai F 39).getD ((sy_i F 33).toInt).toNat 0 := by simp only [nz_c]
        have n87 : ((sy_ai F 39).getD (sy_i F 33).toNatClampNeg 0).toInt = ((sy_ai F 39).getD ((sy_i F 33).toInt).toNat 0).toInt := congrArg Int32.toInt q87
        have c23 := nz_bx hB (k := 23) (lo := 0) (hi := 512) rfl
        have q88 : (sy_ai F 39).getD (sy_i F 33).toNatClampNeg 0 = (sy_ai F 39).getD ((sy_i F 33).toInt).toNat 0 := by simp only [nz_c]
        have n88 : ((sy_ai F 39).getD (sy_i F 33).toNatClampNeg 0).toInt = ((sy_ai F 39).getD ((sy_i F 33).toInt).toNat 0).toInt := congrArg Int32.toInt q88
        have n89 : ((sy_i F 86) + ((1 : Int32))).toInt = ((sy_i F 86).toInt + 1) := nz_add (rfl : (sy_i F 86).toInt = (sy_i F 86).toInt) (by decide : ((1 : Int32)).toInt = 1) (by omega) (by omega)
        exact k0ps_23_p9 hd F X1 X2 hB (by first | exact g0 | (simp only [nz_c]; exact g0)) (by first | exact g1 | (simp only [nz_c]; exact g1)) (by first | exact g2 | (simp only [nz_c]; exact g2)) (by first | exact g3 | (simp only [nz_c]; exact g3)) (by first | exact g4 | (simp only [nz_c]; exact g4)) (by first | exact g5 | (simp only [nz_c]; exact g5)) (by first | exact ⟨by omega, by omega⟩ | (simp only [nz_c]; exact ⟨by omega, by omega⟩)) (by first | exact g6 | (simp only [nz_c]; exact g6) | (rw [n87]; exact g6)) (by first | exact g7 | (simp only [nz_c]; exact g7)) (by first | exact g8 | (simp only [nz_c]; exact g8)) (by first | exact g9 | (simp only [nz_c]; exact g9)) (by first | exact g10 | (simp only [nz_c]; exact g10)) (by first | exact g11 | (simp only [nz_c]; exact g11)) (by first | exact ⟨by omega, by omega⟩ | (simp only [nz_c]; exact ⟨by omega, by omega⟩)) (fun F1 g e34 e82 e83 e84 e85 e86 => k9 g0 g1 g2 g3 g4 g5 g6 g7 g8 g9 g10 g11 F1 (nz_in0 hB [34] (fun j hj hn => g j hj (by simp only [List.mem_cons, List.not_mem_nil, or_false, not_or] at hn; omega)) (List.forall_mem_cons.mpr ⟨fun t ht => (Option.some.inj ht) ▸ (nz_hz e34), List.forall_mem_nil _⟩)) (fun j hj hn => g j hj (by simp only [List.mem_cons, List.not_mem_nil, or_false, not_or] at hn; omega)) (nz_fi (g 33 (by decide) (by decide))) ((congrArg Int32.toInt (zz_i e34)).trans (by decide : ((2 : Int32)).toInt = 2)) (nz_fi (g 23 (by decide) (by decide))) (nz_fa (g 39 (by decide) (by decide))) (nz_fa (g 32 (by decide) (by decide))) ((congrArg Int32.toInt (zz_i e82)).trans (rfl : (sy_i F 82).toInt = (sy_i F 82).toInt)) ((congrArg Int32.toInt (zz_i e83)).trans (rfl : (sy_i F 83).toInt = (sy_i F 83).toInt)) ((congrArg Int32.toInt (zz_i e84)).trans (by decide : ((0 : Int32)).toInt = 0)) ((congrArg Int32.toInt (zz_i e85)).trans n88) ((congrArg Int32.toInt (zz_i e86)).trans n89))
      replace g9 : (sy_i F 23).toInt < 512 := by omega
      by_cases g10 : (sy_i F 33).toInt < 0
      · have c33 := nz_bx hB (k := 33) (lo := 0) (hi := 400) rfl
        have q87 : (sy_ai F 39).getD (sy_i F 33).toNatClampNeg 0 = (sy_ai F 39).getD ((sy_i F 33).toInt).toNat 0 := by simp only [nz_c]
        have n87 : ((sy_ai F 39).getD (sy_i F 33).toNatClampNeg 0).toInt = ((sy_ai F 39).getD ((sy_i F 33).toInt).toNat 0).toInt := congrArg Int32.toInt q87
        have c23 := nz_bx hB (k := 23) (lo := 0) (hi := 512) rfl
        exfalso
        omega
      replace g10 : 0 ≤ (sy_i F 33).toInt := by omega
      by_cases g11 : 400 < (sy_i F 33).toInt
      · have c33 := nz_bx hB (k := 33) (lo := 0) (hi := 400) rfl
        have q87 : (sy_ai F 39).getD (sy_i F 33).toNatClampNeg 0 = (sy_ai F 39).getD ((sy_i F 33).toInt).toNat 0 := by simp only [nz_c]
        have n87 : ((sy_ai F 39).getD (sy_i F 33).toNatClampNeg 0).toInt = ((sy_ai F 39).getD ((sy_i F 33).toInt).toNat 0).toInt := congrArg Int32.toInt q87
        have c23 := nz_bx hB (k := 23) (lo := 0) (hi := 512) rfl
        exfalso
        omega
      replace g11 : (sy_i F 33).toInt ≤ 400 := by omega
      have c33 := nz_bx hB (k := 33) (lo := 0) (hi := 400) rfl
      have q87 : (sy_ai F 39).getD (sy_i F 33).toNatClampNeg 0 = (sy_ai F 39).getD ((sy_i F 33).toInt).toNat 0 := by simp only [nz_c]
      have n87 : ((sy_ai F 39).getD (sy_i F 33).toNatClampNeg 0).toInt = ((sy_ai F 39).getD ((sy_i F 33).toInt).toNat 0).toInt := congrArg Int32.toInt q87
      have c23 := nz_bx hB (k := 23) (lo := 0) (hi := 512) rfl
      have n89 : ((sy_i F 23) + ((1 : Int32))).toInt = ((sy_i F 23).toInt + 1) := nz_add (rfl : (sy_i F 23).toInt = (sy_i F 23).toInt) (by decide : ((1 : Int32)).toInt = 1) (by omega) (by omega)
      have w88 : jm_upd (sy_ai F 32) (sy_i F 23).toNatClampNeg (((-11) : Int32)) = jm_upd (sy_ai F 32) ((sy_i F 23).toInt).toNat (((-11) : Int32)) := by simp only [nz_c, (by decide : (((-11) : Int32)).toInt = (-11 : Int))]
      have q90 : (sy_ai F 39).getD (sy_i F 33).toNatClampNeg 0 = (sy_ai F 39).getD ((sy_i F 33).toInt).toNat 0 := by simp only [nz_c]
      have n90 : ((sy_ai F 39).getD (sy_i F 33).toNatClampNeg 0).toInt = ((sy_ai F 39).getD ((sy_i F 33).toInt).toNat 0).toInt := congrArg Int32.toInt q90
      have n91 : ((sy_i F 86) + ((1 : Int32))).toInt = ((sy_i F 86).toInt + 1) := nz_add (rfl : (sy_i F 86).toInt = (sy_i F 86).toInt) (by decide : ((1 : Int32)).toInt = 1) (by omega) (by omega)
      exact k0ps_23_p10 hd F X1 X2 hB (by first | exact g0 | (simp only [nz_c]; exact g0)) (by first | exact g1 | (simp only [nz_c]; exact g1)) (by first | exact g2 | (simp only [nz_c]; exact g2)) (by first | exact g3 | (simp only [nz_c]; exact g3)) (by first | exact g4 | (simp only [nz_c]; exact g4)) (by first | exact g5 | (simp only [nz_c]; exact g5)) (by first | exact ⟨by omega, by omega⟩ | (simp only [nz_c]; exact ⟨by omega, by omega⟩)) (by first | exact g6 | (simp only [nz_c]; exact g6) | (rw [n87]; exact g6)) (by first | exact g7 | (simp only [nz_c]; exact g7)) (by first | exact g8 | (simp only [nz_c]; exact g8)) (by first | exact g9 | (simp only [nz_c]; exact g9)) (by first | exact ⟨by omega, by omega⟩ | (simp only [nz_c]; exact ⟨by omega, by omega⟩)) (by first | exact g10 | (simp only [nz_c]; exact g10)) (by first | exact g11 | (simp only [nz_c]; exact g11)) (by first | exact ⟨by omega, by omega⟩ | (simp only [nz_c]; exact ⟨by omega, by omega⟩)) (fun F1 g e23 e32 e34 e82 e83 e84 e85 e86 => k10 g0 g1 g2 g3 g4 g5 g6 g7 g8 g9 g10 g11 F1 (nz_in0 hB [23, 32, 34] (fun j hj hn => g j hj (by simp only [List.mem_cons, List.not_mem_nil, or_false, not_or] at hn; omega)) (List.forall_mem_cons.mpr ⟨fun t ht => (Option.some.inj ht) ▸ (nz_hi e23 n89 (by omega) (by omega)), List.forall_mem_cons.mpr ⟨fun t ht => (Option.some.inj ht) ▸ (nz_hA e32 (nz_up (nz_ba hB (k := 32) (lo := (-2147483648)) (hi := 2147483646) rfl) (by decide : (((-11) : Int32)).toInt = (-11 : Int)) (by omega) (by omega))), List.forall_mem_cons.mpr ⟨fun t ht => (Option.some.inj ht) ▸ (nz_hz e34), List.forall_mem_nil _⟩⟩⟩)) (fun j hj hn => g j hj (by simp only [List.mem_cons, List.not_mem_nil, or_false, not_or] at hn; omega)) (nz_fi (g 33 (by decide) (by decide))) ((congrArg Int32.toInt (zz_i e34)).trans (by decide : ((2 : Int32)).toInt = 2)) ((congrArg Int32.toInt (zz_i e23)).trans n89) (nz_fa (g 39 (by decide) (by decide))) ((zz_ai e32).trans w88) ((congrArg Int32.toInt (zz_i e82)).trans (rfl : (sy_i F 82).toInt = (sy_i F 82).toInt)) ((congrArg Int32.toInt (zz_i e83)).trans (rfl : (sy_i F 83).toInt = (sy_i F 83).toInt)) ((congrArg Int32.toInt (zz_i e84)).trans (by decide : ((0 : Int32)).toInt = 0)) ((congrArg Int32.toInt (zz_i e85)).trans n90) ((congrArg Int32.toInt (zz_i e86)).trans n91))
    replace g8 : (sy_i F 85).toInt = 43 := by omega
    have c33 := nz_bx hB (k := 33) (lo := 0) (hi := 400) rfl
    have q87 : (sy_ai F 39).getD (sy_i F 33).toNatClampNeg 0 = (sy_ai F 39).getD ((sy_i F 33).toInt).toNat 0 := by simp only [nz_c]
    have n87 : ((sy_ai F 39).getD (sy_i F 33).toNatClampNeg 0).toInt = ((sy_ai F 39).getD ((sy_i F 33).toInt).toNat 0).toInt := congrArg Int32.toInt q87
    exfalso
    omega
  replace g6 : ((sy_ai F 39).getD ((sy_i F 33).toInt).toNat 0).toInt ≠ (sy_i F 85).toInt := by omega
  by_cases g7 : (sy_i F 85).toInt ≠ 43
  · by_cases g8 : 512 ≤ (sy_i F 23).toInt
    · by_cases g9 : (sy_i F 33).toInt < 0
      · have c33 := nz_bx hB (k := 33) (lo := 0) (hi := 400) rfl
        have q87 : (sy_ai F 39).getD (sy_i F 33).toNatClampNeg 0 = (sy_ai F 39).getD ((sy_i F 33).toInt).toNat 0 := by simp only [nz_c]
        have n87 : ((sy_ai F 39).getD (sy_i F 33).toNatClampNeg 0).toInt = ((sy_ai F 39).getD ((sy_i F 33).toInt).toNat 0).toInt := congrArg Int32.toInt q87
        have c23 := nz_bx hB (k := 23) (lo := 0) (hi := 512) rfl
        exfalso
        omega
      replace g9 : 0 ≤ (sy_i F 33).toInt := by omega
      by_cases g10 : 400 < (sy_i F 33).toInt
      · have c33 := nz_bx hB (k := 33) (lo := 0) (hi := 400) rfl
        have q87 : (sy_ai F 39).getD (sy_i F 33).toNatClampNeg 0 = (sy_ai F 39).getD ((sy_i F 33).toInt).toNat 0 := by simp only [nz_c]
        have n87 : ((sy_ai F 39).getD (sy_i F 33).toNatClampNeg 0).toInt = ((sy_ai F 39).getD ((sy_i F 33).toInt).toNat 0).toInt := congrArg Int32.toInt q87
        have c23 := nz_bx hB (k := 23) (lo := 0) (hi := 512) rfl
        exfalso
        omega
      replace g10 : (sy_i F 33).toInt ≤ 400 := by omega
      have c33 := nz_bx hB (k := 33) (lo := 0) (hi := 400) rfl
      have q87 : (sy_ai F 39).getD (sy_i F 33).toNatClampNeg 0 = (sy_ai F 39).getD ((sy_i F 33).toInt).toNat 0 := by simp only [nz_c]
      have n87 : ((sy_ai F 39).getD (sy_i F 33).toNatClampNeg 0).toInt = ((sy_ai F 39).getD ((sy_i F 33).toInt).toNat 0).toInt := congrArg Int32.toInt q87
      have c23 := nz_bx hB (k := 23) (lo := 0) (hi := 512) rfl
      have q88 : (sy_ai F 39).getD (sy_i F 33).toNatClampNeg 0 = (sy_ai F 39).getD ((sy_i F 33).toInt).toNat 0 := by simp only [nz_c]
      have n88 : ((sy_ai F 39).getD (sy_i F 33).toNatClampNeg 0).toInt = ((sy_ai F 39).getD ((sy_i F 33).toInt).toNat 0).toInt := congrArg Int32.toInt q88
      have n89 : ((sy_i F 86) + ((1 : Int32))).toInt = ((sy_i F 86).toInt + 1) := nz_add (rfl : (sy_i F 86).toInt = (sy_i F 86).toInt) (by decide : ((1 : Int32)).toInt = 1) (by omega) (by omega)
      exact k0ps_23_p11 hd F X1 X2 hB (by first | exact g0 | (simp only [nz_c]; exact g0)) (by first | exact g1 | (simp only [nz_c]; exact g1)) (by first | exact g2 | (simp only [nz_c]; exact g2)) (by first | exact g3 | (simp only [nz_c]; exact g3)) (by first | exact g4 | (simp only [nz_c]; exact g4)) (by first | exact g5 | (simp only [nz_c]; exact g5)) (by first | exact ⟨by omega, by omega⟩ | (simp only [nz_c]; exact ⟨by omega, by omega⟩)) (by first | exact g6 | (simp only [nz_c]; exact g6) | (rw [n87]; exact g6)) (by first | exact g7 | (simp only [nz_c]; exact g7)) (by first | exact g8 | (simp only [nz_c]; exact g8)) (by first | exact g9 | (simp only [nz_c]; exact g9)) (by first | exact g10 | (simp only [nz_c]; exact g10)) (by first | exact ⟨by omega, by omega⟩ | (simp only [nz_c]; exact ⟨by omega, by omega⟩)) (fun F1 g e34 e82 e83 e84 e85 e86 => k11 g0 g1 g2 g3 g4 g5 g6 g7 g8 g9 g10 F1 (nz_in0 hB [34] (fun j hj hn => g j hj (by simp only [List.mem_cons, List.not_mem_nil, or_false, not_or] at hn; omega)) (List.forall_mem_cons.mpr ⟨fun t ht => (Option.some.inj ht) ▸ (nz_hz e34), List.forall_mem_nil _⟩)) (fun j hj hn => g j hj (by simp only [List.mem_cons, List.not_mem_nil, or_false, not_or] at hn; omega)) (nz_fi (g 33 (by decide) (by decide))) ((congrArg Int32.toInt (zz_i e34)).trans (by decide : ((1 : Int32)).toInt = 1)) (nz_fi (g 23 (by decide) (by decide))) (nz_fa (g 39 (by decide) (by decide))) (nz_fa (g 32 (by decide) (by decide))) ((congrArg Int32.toInt (zz_i e82)).trans (rfl : (sy_i F 82).toInt = (sy_i F 82).toInt)) ((congrArg Int32.toInt (zz_i e83)).trans (rfl : (sy_i F 83).toInt = (sy_i F 83).toInt)) ((congrArg Int32.toInt (zz_i e84)).trans (by decide : ((0 : Int32)).toInt = 0)) ((congrArg Int32.toInt (zz_i e85)).trans n88) ((congrArg Int32.toInt (zz_i e86)).trans n89))
    replace g8 : (sy_i F 23).toInt < 512 := by omega
    by_cases g9 : (sy_i F 33).toInt < 0
    · have c33 := nz_bx hB (k := 33) (lo := 0) (hi := 400) rfl
      have q87 : (sy_ai F 39).getD (sy_i F 33).toNatClampNeg 0 = (sy_ai F 39).getD ((sy_i F 33).toInt).toNat 0 := by simp only [nz_c]
      have n87 : ((sy_ai F 39).getD (sy_i F 33).toNatClampNeg 0).toInt = ((sy_ai F 39).getD ((sy_i F 33).toInt).toNat 0).toInt := congrArg Int32.toInt q87
      have c23 := nz_bx hB (k := 23) (lo := 0) (hi := 512) rfl
      exfalso
      omega
    replace g9 : 0 ≤ (sy_i F 33).toInt := by omega
    by_cases g10 : 400 < (sy_i F 33).toInt
    · have c33 := nz_bx hB (k := 33) (lo := 0) (hi := 400) rfl
      have q87 : (sy_ai F 39).getD (sy_i F 33).toNatClampNeg 0 = (sy_ai F 39).getD ((sy_i F 33).toInt).toNat 0 := by simp only [nz_c]
      have n87 : ((sy_ai F 39).getD (sy_i F 33).toNatClampNeg 0).toInt = ((sy_ai F 39).getD ((sy_i F 33).toInt).toNat 0).toInt := congrArg Int32.toInt q87
      have c23 := nz_bx hB (k := 23) (lo := 0) (hi := 512) rfl
      exfalso
      omega
    replace g10 : (sy_i F 33).toInt ≤ 400 := by omega
    have c33 := nz_bx hB (k := 33) (lo := 0) (hi := 400) rfl
    have q87 : (sy_ai F 39).getD (sy_i F 33).toNatClampNeg 0 = (sy_ai F 39).getD ((sy_i F 33).toInt).toNat 0 := by simp only [nz_c]
    have n87 : ((sy_ai F 39).getD (sy_i F 33).toNatClampNeg 0).toInt = ((sy_ai F 39).getD ((sy_i F 33).toInt).toNat 0).toInt := congrArg Int32.toInt q87
    have c23 := nz_bx hB (k := 23) (lo := 0) (hi := 512) rfl
    have n89 : ((sy_i F 23) + ((1 : Int32))).toInt = ((sy_i F 23).toInt + 1) := nz_add (rfl : (sy_i F 23).toInt = (sy_i F 23).toInt) (by decide : ((1 : Int32)).toInt = 1) (by omega) (by omega)
    have w88 : jm_upd (sy_ai F 32) (sy_i F 23).toNatClampNeg (((-11) : Int32)) = jm_upd (sy_ai F 32) ((sy_i F 23).toInt).toNat (((-11) : Int32)) := by simp only [nz_c, (by decide : (((-11) : Int32)).toInt = (-11 : Int))]
    have q90 : (sy_ai F 39).getD (sy_i F 33).toNatClampNeg 0 = (sy_ai F 39).getD ((sy_i F 33).toInt).toNat 0 := by simp only [nz_c]
    have n90 : ((sy_ai F 39).getD (sy_i F 33).toNatClampNeg 0).toInt = ((sy_ai F 39).getD ((sy_i F 33).toInt).toNat 0).toInt := congrArg Int32.toInt q90
    have n91 : ((sy_i F 86) + ((1 : Int32))).toInt = ((sy_i F 86).toInt + 1) := nz_add (rfl : (sy_i F 86).toInt = (sy_i F 86).toInt) (by decide : ((1 : Int32)).toInt = 1) (by omega) (by omega)
    exact k0ps_23_p12 hd F X1 X2 hB (by first | exact g0 | (simp only [nz_c]; exact g0)) (by first | exact g1 | (simp only [nz_c]; exact g1)) (by first | exact g2 | (simp only [nz_c]; exact g2)) (by first | exact g3 | (simp only [nz_c]; exact g3)) (by first | exact g4 | (simp only [nz_c]; exact g4)) (by first | exact g5 | (simp only [nz_c]; exact g5)) (by first | exact ⟨by omega, by omega⟩ | (simp only [nz_c]; exact ⟨by omega, by omega⟩)) (by first | exact g6 | (simp only [nz_c]; exact g6) | (rw [n87]; exact g6)) (by first | exact g7 | (simp only [nz_c]; exact g7)) (by first | exact g8 | (simp only [nz_c]; exact g8)) (by first | exact ⟨by omega, by omega⟩ | (simp only [nz_c]; exact ⟨by omega, by omega⟩)) (by first | exact g9 | (simp only [nz_c]; exact g9)) (by first | exact g10 | (simp only [nz_c]; exact g10)) (by first | exact ⟨by omega, by omega⟩ | (simp only [nz_c]; exact ⟨by omega, by omega⟩)) (fun F1 g e23 e32 e34 e82 e83 e84 e85 e86 => k12 g0 g1 g2 g3 g4 g5 g6 g7 g8 g9 g10 F1 (nz_in0 hB [23, 32, 34] (fun j hj hn => g j hj (by simp only [List.mem_cons, List.not_mem_nil, or_false, not_or] at hn; omega)) (List.forall_mem_cons.mpr ⟨fun t ht => (Option.some.inj ht) ▸ (nz_hi e23 n89 (by omega) (by omega)), List.forall_mem_cons.mpr ⟨fun t ht => (Option.some.inj ht) ▸ (nz_hA e32 (nz_up (nz_ba hB (k := 32) (lo := (-2147483648)) (hi := 2147483646) rfl) (by decide : (((-11) : Int32)).toInt = (-11 : Int)) (by omega) (by omega))), List.forall_mem_cons.mpr ⟨fun t ht => (Option.some.inj ht) ▸ (nz_hz e34), List.forall_mem_nil _⟩⟩⟩)) (fun j hj hn => g j hj (by simp only [List.mem_cons, List.not_mem_nil, or_false, not_or] at hn; omega)) (nz_fi (g 33 (by decide) (by decide))) ((congrArg Int32.toInt (zz_i e34)).trans (by decide : ((1 : Int32)).toInt = 1)) ((congrArg Int32.toInt (zz_i e23)).trans n89) (nz_fa (g 39 (by decide) (by decide))) ((zz_ai e32).trans w88) ((congrArg Int32.toInt (zz_i e82)).trans (rfl : (sy_i F 82).toInt = (sy_i F 82).toInt)) ((congrArg Int32.toInt (zz_i e83)).trans (rfl : (sy_i F 83).toInt = (sy_i F 83).toInt)) ((congrArg Int32.toInt (zz_i e84)).trans (by decide : ((0 : Int32)).toInt = 0)) ((congrArg Int32.toInt (zz_i e85)).trans n90) ((congrArg Int32.toInt (zz_i e86)).trans n91))
  replace g7 : (sy_i F 85).toInt = 43 := by omega
  have c33 := nz_bx hB (k := 33) (lo := 0) (hi := 400) rfl
  have q87 : (sy_ai F 39).getD (sy_i F 33).toNatClampNeg 0 = (sy_ai F 39).getD ((sy_i F 33).toInt).toNat 0 := by simp only [nz_c]
  have n87 : ((sy_ai F 39).getD (sy_i F 33).toNatClampNeg 0).toInt = ((sy_ai F 39).getD ((sy_i F 33).toInt).toNat 0).toInt := congrArg Int32.toInt q87
  exfalso
  omega
theorem k0zs_64 {Ls : Nat} {xs : Nat → Int32} {d : Nat} {Q : Option Value → jm_h → Prop} (hd : 4 ≤ d) (F : Nat → sy_d) (X1 X2 : List jm_c) (hB : iv_in F iv_B0)
    (a85 : 0 ≤ (sy_i F 85).toInt ∧ (sy_i F 85).toInt ≤ 400)
    (k0 : (sy_i F 86).toInt = 0 → (sy_i F 84).toInt ≠ 43 → 512 ≤ (sy_i F 23).toInt → 0 ≤ (sy_i F 33).toInt → (sy_i F 33).toInt ≤ 400 → ∀ F1 : Nat → sy_d, iv_in F1 iv_B0 → (∀ j, j < 82 → j ∉ ([] : List Nat) → F1 j = F j) → (sy_i F1 33).toInt = (sy_i F 33).toInt → (sy_i F1 34).toInt = (sy_i F 34).toInt → (sy_i F1 23).toInt = (sy_i F 23).toInt → sy_ai F1 39 = sy_ai F 39 → sy_ai F1 32 = sy_ai F 32 → (sy_i F1 82).toInt = (sy_i F 82).toInt → (sy_i F1 83).toInt = (sy_i F 83).toInt → (sy_i F1 84).toInt = 0 → (sy_i F1 85).toInt = ((sy_ai F 39).getD ((sy_i F 33).toInt).toNat 0).toInt → (sy_i F1 86).toInt = ((sy_i F 85).toInt + 1) → hd_W Ls xs d jm_M38 Q (23, sy_dL F1 [some (.inl (.ref 30)), some (.inr (.inl 82)), some (.inr (.inl 83)), some (.inr (.inl 84)), some (.inr (.inl 85)), some (.inr (.inl 86))], sy_dS F1 [], sy_dh F1 X1 X2 (iv_H 0), 0, 0))
    (k1 : (sy_i F 86).toInt = 0 → (sy_i F 84).toInt ≠ 43 → (sy_i F 23).toInt < 512 → 0 ≤ (sy_i F 33).toInt → (sy_i F 33).toInt ≤ 400 → ∀ F1 : Nat → sy_d, iv_in F1 iv_B0 → (∀ j, j < 82 → j ∉ ([23, 32] : List Nat) → F1 j = F j) → (sy_i F1 33).toInt = (sy_i F 33).toInt → (sy_i F1 34).toInt = (sy_i F 34).toInt → (sy_i F1 23).toInt = ((sy_i F 23).toInt + 1) → sy_ai F1 39 = sy_ai F 39 → sy_ai F1 32 = jm_upd (sy_ai F 32) ((sy_i F 23).toInt).toNat (((-11) : Int32)) → (sy_i F1 82).toInt = (sy_i F 82).toInt → (sy_i F1 83).toInt = (sy_i F 83).toInt → (sy_i F1 84).toInt = 0 → (sy_i F1 85).toInt = ((sy_ai F 39).getD ((sy_i F 33).toInt).toNat 0).toInt → (sy_i F1 86).toInt = ((sy_i F 85).toInt + 1) → hd_W Ls xs d jm_M38 Q (23, sy_dL F1 [some (.inl (.ref 30)), some (.inr (.inl 82)), some (.inr (.inl 83)), some (.inr (.inl 84)), some (.inr (.inl 85)), some (.inr (.inl 86))], sy_dS F1 [], sy_dh F1 X1 X2 (iv_H 0), 0, 0))
    (k2 : (sy_i F 86).toInt = 0 → (sy_i F 84).toInt = 43 → 512 ≤ (sy_i F 23).toInt → 0 ≤ (sy_i F 33).toInt → (sy_i F 33).toInt ≤ 400 → ∀ F1 : Nat → sy_d, iv_in F1 iv_B0 → (∀ j, j < 82 → j ∉ ([] : List Nat) → F1 j = F j) → (sy_i F1 33).toInt = (sy_i F 33).toInt → (sy_i F1 34).toInt = (sy_i F 34).toInt → (sy_i F1 23).toInt = (sy_i F 23).toInt → sy_ai F1 39 = sy_ai F 39 → sy_ai F1 32 = sy_ai F 32 → (sy_i F1 82).toInt = (sy_i F 82).toInt → (sy_i F1 83).toInt = (sy_i F 83).toInt → (sy_i F1 84).toInt = 0 → (sy_i F1 85).toInt = ((sy_ai F 39).getD ((sy_i F 33).toInt).toNat 0).toInt → (sy_i F1 86).toInt = ((sy_i F 85).toInt + 1) → hd_W Ls xs d jm_M38 Q (23, sy_dL F1 [some (.inl (.ref 30)), some (.inr (.inl 82)), some (.inr (.inl 83)), some (.inr (.inl 84)), some (.inr (.inl 85)), some (.inr (.inl 86))], sy_dS F1 [], sy_dh F1 X1 X2 (iv_H 0), 0, 0))
    (k3 : (sy_i F 86).toInt = 0 → (sy_i F 84).toInt = 43 → (sy_i F 23).toInt < 512 → 0 ≤ (sy_i F 33).toInt → (sy_i F 33).toInt ≤ 400 → ∀ F1 : Nat → sy_d, iv_in F1 iv_B0 → (∀ j, j < 82 → j ∉ ([23, 32] : List Nat) → F1 j = F j) → (sy_i F1 33).toInt = (sy_i F 33).toInt → (sy_i F1 34).toInt = (sy_i F 34).toInt → (sy_i F1 23).toInt = ((sy_i F 23).toInt + 1) → sy_ai F1 39 = sy_ai F 39 → sy_ai F1 32 = jm_upd (sy_ai F 32) ((sy_i F 23).toInt).toNat (((-10) : Int32)) → (sy_i F1 82).toInt = (sy_i F 82).toInt → (sy_i F1 83).toInt = (sy_i F 83).toInt → (sy_i F1 84).toInt = 0 → (sy_i F1 85).toInt = ((sy_ai F 39).getD ((sy_i F 33).toInt).toNat 0).toInt → (sy_i F1 86).toInt = ((sy_i F 85).toInt + 1) → hd_W Ls xs d jm_M38 Q (23, sy_dL F1 [some (.inl (.ref 30)), some (.inr (.inl 82)), some (.inr (.inl 83)), some (.inr (.inl 84)), some (.inr (.inl 85)), some (.inr (.inl 86))], sy_dS F1 [], sy_dh F1 X1 X2 (iv_H 0), 0, 0))
    (k4 : (sy_i F 86).toInt ≠ 0 → (sy_i F 84).toInt ≠ 43 → 512 ≤ (sy_i F 23).toInt → 0 ≤ (sy_i F 33).toInt → (sy_i F 33).toInt ≤ 400 → ∀ F1 : Nat → sy_d, iv_in F1 iv_B0 → (∀ j, j < 82 → j ∉ ([] : List Nat) → F1 j = F j) → (sy_i F1 33).toInt = (sy_i F 33).toInt → (sy_i F1 34).toInt = (sy_i F 34).toInt → (sy_i F1 23).toInt = (sy_i F 23).toInt → sy_ai F1 39 = sy_ai F 39 → sy_ai F1 32 = sy_ai F 32 → (sy_i F1 82).toInt = (sy_i F 82).toInt → (sy_i F1 83).toInt = (sy_i F 83).toInt → (sy_i F1 84).toInt = 1 → (sy_i F1 85).toInt = ((sy_ai F 39).getD ((sy_i F 33).toInt).toNat 0).toInt → (sy_i F1 86).toInt = ((sy_i F 85).toInt + 1) → hd_W Ls xs d jm_M38 Q (23, sy_dL F1 [some (.inl (.ref 30)), some (.inr (.inl 82)), some (.inr (.inl 83)), some (.inr (.inl 84)), some (.inr (.inl 85)), some (.inr (.inl 86))], sy_dS F1 [], sy_dh F1 X1 X2 (iv_H 0), 0, 0))
    (k5 : (sy_i F 86).toInt ≠ 0 → (sy_i F 84).toInt ≠ 43 → (sy_i F 23).toInt < 512 → 0 ≤ (sy_i F 33).toInt → (sy_i F 33).toInt ≤ 400 → ∀ F1 : Nat → sy_d, iv_in F1 iv_B0 → (∀ j, j < 82 → j ∉ ([23, 32] : List Nat) → F1 j = F j) → (sy_i F1 33).toInt = (sy_i F 33).toInt → (sy_i F1 34).toInt = (sy_i F 34).toInt → (sy_i F1 23).toInt = ((sy_i F 23).toInt + 1) → sy_ai F1 39 = sy_ai F 39 → sy_ai F1 32 = jm_upd (sy_ai F 32) ((sy_i F 23).toInt).toNat (((-11) : Int32)) → (sy_i F1 82).toInt = (sy_i F 82).toInt → (sy_i F1 83).toInt = (sy_i F 83).toInt → (sy_i F1 84).toInt = 1 → (sy_i F1 85).toInt = ((sy_ai F 39).getD ((sy_i F 33).toInt).toNat 0).toInt → (sy_i F1 86).toInt = ((sy_i F 85).toInt + 1) → hd_W Ls xs d jm_M38 Q (23, sy_dL F1 [some (.inl (.ref 30)), some (.inr (.inl 82)), some (.inr (.inl 83)), some (.inr (.inl 84)), some (.inr (.inl 85)), some (.inr (.inl 86))], sy_dS F1 [], sy_dh F1 X1 X2 (iv_H 0), 0, 0))
    (k6 : (sy_i F 86).toInt ≠ 0 → (sy_i F 84).toInt = 43 → 512 ≤ (sy_i F 23).toInt → 0 ≤ (sy_i F 33).toInt → (sy_i F 33).toInt ≤ 400 → ∀ F1 : Nat → sy_d, iv_in F1 iv_B0 → (∀ j, j < 82 → j ∉ ([] : List Nat) → F1 j = F j) → (sy_i F1 33).toInt = (sy_i F 33).toInt → (sy_i F1 34).toInt = (sy_i F 34).toInt → (sy_i F1 23).toInt = (sy_i F 23).toInt → sy_ai F1 39 = sy_ai F 39 → sy_ai F1 32 = sy_ai F 32 → (sy_i F1 82).toInt = (sy_i F 82).toInt → (sy_i F1 83).toInt = (sy_i F 83).toInt → (sy_i F1 84).toInt = 1 → (sy_i F1 85).toInt = ((sy_ai F 39).getD ((sy_i F 33).toInt).toNat 0).toInt → (sy_i F1 86).toInt = ((sy_i F 85).toInt + 1) → hd_W Ls xs d jm_M38 Q (23, sy_dL F1 [some (.inl (.ref 30)), some (.inr (.inl 82)), some (.inr (.inl 83)), some (.inr (.inl 84)), some (.inr (.inl 85)), some (.inr (.inl 86))], sy_dS F1 [], sy_dh F1 X1 X2 (iv_H 0), 0, 0))
    (k7 : (sy_i F 86).toInt ≠ 0 → (sy_i F 84).toInt = 43 → (sy_i F 23).toInt < 512 → 0 ≤ (sy_i F 33).toInt → (sy_i F 33).toInt ≤ 400 → ∀ F1 : Nat → sy_d, iv_in F1 iv_B0 → (∀ j, j < 82 → j ∉ ([23, 32] : List Nat) → F1 j = F j) → (sy_i F1 33).toInt = (sy_i F 33).toInt → (sy_i F1 34).toInt = (sy_i F 34).toInt → (sy_i F1 23).toInt = ((sy_i F 23).toInt + 1) → sy_ai F1 39 = sy_ai F 39 → sy_ai F1 32 = jm_upd (sy_ai F 32) ((sy_i F 23).toInt).toNat (((-10) : Int32)) → (sy_i F1 82).toInt = (sy_i F 82).toInt → (sy_i F1 83).toInt = (sy_i F 83).toInt → (sy_i F1 84).toInt = 1 → (sy_i F1 85).toInt = ((sy_ai F 39).getD ((sy_i F 33).toInt).toNat 0).toInt → (sy_i F1 86).toInt = ((sy_i F 85).toInt + 1) → hd_W Ls xs d jm_M38 Q (23, sy_dL F1 [some (.inl (.ref 30)), some (.inr (.inl 82)), some (.inr (.inl 83)), some (.inr (.inl 84)), some (.inr (.inl 85)), some (.inr (.inl 86))], sy_dS F1 [], sy_dh F1 X1 X2 (iv_H 0), 0, 0)) :
    hd_W Ls xs d jm_M38 Q (64, sy_dL F [some (.inl (.ref 30)), some (.inr (.inl 82)), some (.inr (.inl 83)), none, some (.inr (.inl 84)), some (.inr (.inl 85))], sy_dS F [.inr (.inl 86)], sy_dh F X1 X2 (iv_H 0), 0, 0) := by
  by_cases g0 : (sy_i F 86).toInt = 0
  · by_cases g1 : (sy_i F 84).toInt ≠ 43
    · by_cases g2 : 512 ≤ (sy_i F 23).toInt
      · by_cases g3 : (sy_i F 33).toInt < 0
        · have c23 := nz_bx hB (k := 23) (lo := 0) (hi := 512) rfl
          have c33 := nz_bx hB (k := 33) (lo := 0) (hi := 400) rfl
          exfalso
          omega
        replace g3 : 0 ≤ (sy_i F 33).toInt := by omega
        by_cases g4 : 400 < (sy_i F 33).toInt
        · have c23 := nz_bx hB (k := 23) (lo := 0) (hi := 512) rfl
          have c33 := nz_bx hB (k := 33) (lo := 0) (hi := 400) rfl
          exfalso
          omega
        replace g4 : (sy_i F 33).toInt ≤ 400 := by omega
        have c23 := nz_bx hB (k := 23) (lo := 0) (hi := 512) rfl
        have c33 := nz_bx hB (k := 33) (lo := 0) (hi := 400) rfl
        have q87 : (sy_ai F 39).getD (sy_i F 33).toNatClampNeg 0 = (sy_ai F 39).getD ((sy_i F 33).toInt).toNat 0 := by simp only [nz_c]
        have n87 : ((sy_ai F 39).getD (sy_i F 33).toNatClampNeg 0).toInt = ((sy_ai F 39).getD ((sy_i F 33).toInt).toNat 0).toInt := congrArg Int32.toInt q87
        have n88 : ((sy_i F 85) + ((1 : Int32))).toInt = ((sy_i F 85).toInt + 1) := nz_add (rfl : (sy_i F 85).toInt = (sy_i F 85).toInt) (by decide : ((1 : Int32)).toInt = 1) (by omega) (by omega)
        exact k0ps_64_p0 hd F X1 X2 hB (by first | exact g0 | (simp only [nz_c]; exact g0)) (by first | exact g1 | (simp only [nz_c]; exact g1)) (by first | exact g2 | (simp only [nz_c]; exact g2)) (by first | exact g3 | (simp only [nz_c]; exact g3)) (by first | exact g4 | (simp only [nz_c]; exact g4)) (by first | exact ⟨by omega, by omega⟩ | (simp only [nz_c]; exact ⟨by omega, by omega⟩)) (fun F1 g e82 e83 e84 e85 e86 => k0 g0 g1 g2 g3 g4 F1 (nz_in0 hB [] (fun j hj hn => g j hj (by simp only [List.mem_cons, List.not_mem_nil, or_false, not_or] at hn; exact trivial)) (List.forall_mem_nil _)) (fun j hj hn => g j hj (by simp only [List.mem_cons, List.not_mem_nil, or_false, not_or] at hn; exact trivial)) (nz_fi (g 33 (by decide) (by decide))) (nz_fi (g 34 (by decide) (by decide))) (nz_fi (g 23 (by decide) (by decide))) (nz_fa (g 39 (by decide) (by decide))) (nz_fa (g 32 (by decide) (by decide))) ((congrArg Int32.toInt (zz_i e82)).trans (rfl : (sy_i F 82).toInt = (sy_i F 82).toInt)) ((congrArg Int32.toInt (zz_i e83)).trans (rfl : (sy_i F 83).toInt = (sy_i F 83).toInt)) ((congrArg Int32.toInt (zz_i e84)).trans (by decide : ((0 : Int32)).toInt = 0)) ((congrArg Int32.toInt (zz_i e85)).trans n87) ((congrArg Int32.toInt (zz_i e86)).trans n88))
      replace g2 : (sy_i F 23).toInt < 512 := by omega
      by_cases g3 : (sy_i F 33).toInt < 0
      · have c23 := nz_bx hB (k := 23) (lo := 0) (hi := 512) rfl
        have c33 := nz_bx hB (k := 33) (lo := 0) (hi := 400) rfl
        exfalso
        omega
      replace g3 : 0 ≤ (sy_i F 33).toInt := by omega
      by_cases g4 : 400 < (sy_i F 33).toInt
      · have c23 := nz_bx hB (k := 23) (lo := 0) (hi := 512) rfl
        have c33 := nz_bx hB (k := 33) (lo := 0) (hi := 400) rfl
        exfalso
        omega
      replace g4 : (sy_i F 33).toInt ≤ 400 := by omega
      have c23 := nz_bx hB (k := 23) (lo := 0) (hi := 512) rfl
      have c33 := nz_bx hB (k := 33) (lo := 0) (hi := 400) rfl
      have n88 : ((sy_i F 23) + ((1 : Int32))).toInt = ((sy_i F 23).toInt + 1) := nz_add (rfl : (sy_i F 23).toInt = (sy_i F 23).toInt) (by decide : ((1 : Int32)).toInt = 1) (by omega) (by omega)
      have w87 : jm_upd (sy_ai F 32) (sy_i F 23).toNatClampNeg (((-11) : Int32)) = jm_upd (sy_ai F 32) ((sy_i F 23).toInt).toNat (((-11) : Int32)) := by simp only [nz_c, (by decide : (((-11) : Int32)).toInt = (-11 : Int))]
      have q89 : (sy_ai F 39).getD (sy_i F 33).toNatClampNeg 0 = (sy_ai F 39).getD ((sy_i F 33).toInt).toNat 0 := by simp only [nz_c]
      have n89 : ((sy_ai F 39).getD (sy_i F 33).toNatClampNeg 0).toInt = ((sy_ai F 39).getD ((sy_i F 33).toInt).toNat 0).toInt := congrArg Int32.toInt q89
      have n90 : ((sy_i F 85) + ((1 : Int32))).toInt = ((sy_i F 85).toInt + 1) := nz_add (rfl : (sy_i F 85).toInt = (sy_i F 85).toInt) (by decide : ((1 : Int32)).toInt = 1) (by omega) (by omega)
      exact k0ps_64_p1 hd F X1 X2 hB (by first | exact g0 | (simp only [nz_c]; exact g0)) (by first | exact g1 | (simp only [nz_c]; exact g1)) (by first | exact g2 | (simp only [nz_c]; exact g2)) (by first | exact ⟨by omega, by omega⟩ | (simp only [nz_c]; exact ⟨by omega, by omega⟩)) (by first | exact g3 | (simp only [nz_c]; exact g3)) (by first | exact g4 | (simp only [nz_c]; exact g4)) (by first | exact ⟨by omega, by omega⟩ | (simp only [nz_c]; exact ⟨by omega, by omega⟩)) (fun F1 g e23 e32 e82 e83 e84 e85 e86 => k1 g0 g1 g2 g3 g4 F1 (nz_in0 hB [23, 32] (fun j hj hn => g j hj (by simp only [List.mem_cons, List.not_mem_nil, or_false, not_or] at hn; omega)) (List.forall_mem_cons.mpr ⟨fun t ht => (Option.some.inj ht) ▸ (nz_hi e23 n88 (by omega) (by omega)), List.forall_mem_cons.mpr ⟨fun t ht => (Option.some.inj ht) ▸ (nz_hA e32 (nz_up (nz_ba hB (k := 32) (lo := (-2147483648)) (hi := 2147483646) rfl) (by decide : (((-11) : Int32)).toInt = (-11 : Int)) (by omega) (by omega))), List.forall_mem_nil _⟩⟩)) (fun j hj hn => g j hj (by simp only [List.mem_cons, List.not_mem_nil, or_false, not_or] at hn; omega)) (nz_fi (g 33 (by decide) (by decide))) (nz_fi (g 34 (by decide) (by decide))) ((congrArg Int32.toInt (zz_i e23)).trans n88) (nz_fa (g 39 (by decide) (by decide))) ((zz_ai e32).trans w87) ((congrArg Int32.toInt (zz_i e82)).trans (rfl : (sy_i F 82).toInt = (sy_i F 82).toInt)) ((congrArg Int32.toInt (zz_i e83)).trans (rfl : (sy_i F 83).toInt = (sy_i F 83).toInt)) ((congrArg Int32.toInt (zz_i e84)).trans (by decide : ((0 : Int32)).toInt = 0)) ((congrArg Int32.toInt (zz_i e85)).trans n89) ((congrArg Int32.toInt (zz_i e86)).trans n90))
    replace g1 : (sy_i F 84).toInt = 43 := by omega
    by_cases g2 : 512 ≤ (sy_i F 23).toInt
    · by_cases g3 : (sy_i F 33).toInt < 0
      · have c23 := nz_bx hB (k := 23) (lo := 0) (hi := 512) rfl
        have c33 := nz_bx hB (k := 33) (lo := 0) (hi := 400) rfl
        exfalso
        omega
      replace g3 : 0 ≤ (sy_i F 33).toInt := by omega
      by_cases g4 : 400 < (sy_i F 33).toInt
      · have c23 := nz_bx hB (k := 23) (lo := 0) (hi := 512) rfl
        have c33 := nz_bx hB (k := 33) (lo := 0) (hi := 400) rfl
        exfalso
        omega
      replace g4 : (sy_i F 33).toInt ≤ 400 := by omega
      have c23 := nz_bx hB (k := 23) (lo := 0) (hi := 512) rfl
      have c33 := nz_bx hB (k := 33) (lo := 0) (hi := 400) rfl
      have q87 : (sy_ai F 39).getD (sy_i F 33).toNatClampNeg 0 = (sy_ai F 39).getD ((sy_i F 33).toInt).toNat 0 := by simp only [nz_c]
      have n87 : ((sy_ai F 39).getD (sy_i F 33).toNatClampNeg 0).toInt = ((sy_ai F 39).getD ((sy_i F 33).toInt).toNat 0).toInt := congrArg Int32.toInt q87
      have n88 : ((sy_i F 85) + ((1 : Int32))).toInt = ((sy_i F 85).toInt + 1) := nz_add (rfl : (sy_i F 85).toInt = (sy_i F 85).toInt) (by decide : ((1 : Int32)).toInt = 1) (by omega) (by omega)
      exact k0ps_64_p2 hd F X1 X2 hB (by first | exact g0 | (simp only [nz_c]; exact g0)) (by first | exact g1 | (simp only [nz_c]; exact g1)) (by first | exact g2 | (simp only [nz_c]; exact g2)) (by first | exact g3 | (simp only [nz_c]; exact g3)) (by first | exact g4 | (simp only [nz_c]; exact g4)) (by first | exact ⟨by omega, by omega⟩ | (simp only [nz_c]; exact ⟨by omega, by omega⟩)) (fun F1 g e82 e83 e84 e85 e86 => k2 g0 g1 g2 g3 g4 F1 (nz_in0 hB [] (fun j hj hn => g j hj (by simp only [List.mem_cons, List.not_mem_nil, or_false, not_or] at hn; exact trivial)) (List.forall_mem_nil _)) (fun j hj hn => g j hj (by simp only [List.mem_cons, List.not_mem_nil, or_false, not_or] at hn; exact trivial)) (nz_fi (g 33 (by decide) (by decide))) (nz_fi (g 34 (by decide) (by decide))) (nz_fi (g 23 (by decide) (by decide))) (nz_fa (g 39 (by decide) (by decide))) (nz_fa (g 32 (by decide) (by decide))) ((congrArg Int32.toInt (zz_i e82)).trans (rfl : (sy_i F 82).toInt = (sy_i F 82).toInt)) ((congrArg Int32.toInt (zz_i e83)).trans (rfl : (sy_i F 83).toInt = (sy_i F 83).toInt)) ((congrArg Int32.toInt (zz_i e84)).trans (by decide : ((0 : Int32)).toInt = 0)) ((congrArg Int32.toInt (zz_i e85)).trans n87) ((congrArg Int32.toInt (zz_i e86)).trans n88))
    replace g2 : (sy_i F 23).toInt < 512 := by omega
    by_cases g3 : (sy_i F 33).toInt < 0
    · have c23 := nz_bx hB (k := 23) (lo := 0) (hi := 512) rfl
      have c33 := nz_bx hB (k := 33) (lo := 0) (hi := 400) rfl
      exfalso
      omega
    replace g3 : 0 ≤ (sy_i F 33).toInt := by omega
    by_cases g4 : 400 < (sy_i F 33).toInt
    · have c23 := nz_bx hB (k := 23) (lo := 0) (hi := 512) rfl
      have c33 := nz_bx hB (k := 33) (lo := 0) (hi := 400) rfl
      exfalso
      omega
    replace g4 : (sy_i F 33).toInt ≤ 400 := by omega
    have c23 := nz_bx hB (k := 23) (lo := 0) (hi := 512) rfl
    have c33 := nz_bx hB (k := 33) (lo := 0) (hi := 400) rfl
    have n88 : ((sy_i F 23) + ((1 : Int32))).toInt = ((sy_i F 23).toInt + 1) := nz_add (rfl : (sy_i F 23).toInt = (sy_i F 23).toInt) (by decide : ((1 : Int32)).toInt = 1) (by omega) (by omega)
    have w87 : jm_upd (sy_ai F 32) (sy_i F 23).toNatClampNeg (((-10) : Int32)) = jm_upd (sy_ai F 32) ((sy_i F 23).toInt).toNat (((-10) : Int32)) := by simp only [nz_c, (by decide : (((-10) : Int32)).toInt = (-10 : Int))]
    have q89 : (sy_ai F 39).getD (sy_i F 33).toNatClampNeg 0 = (sy_ai F 39).getD ((sy_i F 33).toInt).toNat 0 := by simp only [nz_c]
    have n89 : ((sy_ai F 39).getD (sy_i F 33).toNatClampNeg 0).toInt = ((sy_ai F 39).getD ((sy_i F 33).toInt).toNat 0).toInt := congrArg Int32.toInt q89
    have n90 : ((sy_i F 85) + ((1 : Int32))).toInt = ((sy_i F 85).toInt + 1) := nz_add (rfl : (sy_i F 85).toInt = (sy_i F 85).toInt) (by decide : ((1 : Int32)).toInt = 1) (by omega) (by omega)
    exact k0ps_64_p3 hd F X1 X2 hB (by first | exact g0 | (simp only [nz_c]; exact g0)) (by first | exact g1 | (simp only [nz_c]; exact g1)) (by first | exact g2 | (simp only [nz_c]; exact g2)) (by first | exact ⟨by omega, by omega⟩ | (simp only [nz_c]; exact ⟨by omega, by omega⟩)) (by first | exact g3 | (simp only [nz_c]; exact g3)) (by first | exact g4 | (simp only [nz_c]; exact g4)) (by first | exact ⟨by omega, by omega⟩ | (simp only [nz_c]; exact ⟨by omega, by omega⟩)) (fun F1 g e23 e32 e82 e83 e84 e85 e86 => k3 g0 g1 g2 g3 g4 F1 (nz_in0 hB [23, 32] (fun j hj hn => g j hj (by simp only [List.mem_cons, List.not_mem_nil, or_false, not_or] at hn; omega)) (List.forall_mem_cons.mpr ⟨fun t ht => (Option.some.inj ht) ▸ (nz_hi e23 n88 (by omega) (by omega)), List.forall_mem_cons.mpr ⟨fun t ht => (Option.some.inj ht) ▸ (nz_hA e32 (nz_up (nz_ba hB (k := 32) (lo := (-2147483648)) (hi := 2147483646) rfl) (by decide : (((-10) : Int32)).toInt = (-10 : Int)) (by omega) (by omega))), List.forall_mem_nil _⟩⟩)) (fun j hj hn => g j hj (by simp only [List.mem_cons, List.not_mem_nil, or_false, not_or] at hn; omega)) (nz_fi (g 33 (by decide) (by decide))) (nz_fi (g 34 (by decide) (by decide))) ((congrArg Int32.toInt (zz_i e23)).trans n88) (nz_fa (g 39 (by decide) (by decide))) ((zz_ai e32).trans w87) ((congrArg Int32.toInt (zz_i e82)).trans (rfl : (sy_i F 82).toInt = (sy_i F 82).toInt)) ((congrArg Int32.toInt (zz_i e83)).trans (rfl : (sy_i F 83).toInt = (sy_i F 83).toInt)) ((congrArg Int32.toInt (zz_i e84)).trans (by decide : ((0 : Int32)).toInt = 0)) ((congrArg Int32.toInt (zz_i e85)).trans n89) ((congrArg Int32.toInt (zz_i e86)).trans n90))
  replace g0 : (sy_i F 86).toInt ≠ 0 := by omega
  by_cases g1 : (sy_i F 84).toInt ≠ 43
  · by_cases g2 : 512 ≤ (sy_i F 23).toInt
    · by_cases g3 : (sy_i F 33).toInt < 0
      · have c23 := nz_bx hB (k := 23) (lo := 0) (hi := 512) rfl
        have c33 := nz_bx hB (k := 33) (lo := 0) (hi := 400) rfl
        exfalso
        omega
      replace g3 : 0 ≤ (sy_i F 33).toInt := by omega
      by_cases g4 : 400 < (sy_i F 33).toInt
      · have c23 := nz_bx hB (k := 23) (lo := 0) (hi := 512) rfl
        have c33 := nz_bx hB (k := 33) (lo := 0) (hi := 400) rfl
        exfalso
        omega
      replace g4 : (sy_i F 33).toInt ≤ 400 := by omega
      have c23 := nz_bx hB (k := 23) (lo := 0) (hi := 512) rfl
      have c33 := nz_bx hB (k := 33) (lo := 0) (hi := 400) rfl
      have q87 : (sy_ai F 39).getD (sy_i F 33).toNatClampNeg 0 = (sy_ai F 39).getD ((sy_i F 33).toInt).toNat 0 := by simp only [nz_c]
      have n87 : ((sy_ai F 39).getD (sy_i F 33).toNatClampNeg 0).toInt = ((sy_ai F 39).getD ((sy_i F 33).toInt).toNat 0).toInt := congrArg Int32.toInt q87
      have n88 : ((sy_i F 85) + ((1 : Int32))).toInt = ((sy_i F 85).toInt + 1) := nz_add (rfl : (sy_i F 85).toInt = (sy_i F 85).toInt) (by decide : ((1 : Int32)).toInt = 1) (by omega) (by omega)
      exact k0ps_64_p4 hd F X1 X2 hB (by first | exact g0 | (simp only [nz_c]; exact g0)) (by first | exact g1 | (simp only [nz_c]; exact g1)) (by first | exact g2 | (simp only [nz_c]; exact g2)) (by first | exact g3 | (simp only [nz_c]; exact g3)) (by first | exact g4 | (simp only [nz_c]; exact g4)) (by first | exact ⟨by omega, by omega⟩ | (simp only [nz_c]; exact ⟨by omega, by omega⟩)) (fun F1 g e82 e83 e84 e85 e86 => k4 g0 g1 g2 g3 g4 F1 (nz_in0 hB [] (fun j hj hn => g j hj (by simp only [List.mem_cons, List.not_mem_nil, or_false, not_or] at hn; exact trivial)) (List.forall_mem_nil _)) (fun j hj hn => g j hj (by simp only [List.mem_cons, List.not_mem_nil, or_false, not_or] at hn; exact trivial)) (nz_fi (g 33 (by decide) (by decide))) (nz_fi (g 34 (by decide) (by decide))) (nz_fi (g 23 (by decide) (by decide))) (nz_fa (g 39 (by decide) (by decide))) (nz_fa (g 32 (by decide) (by decide))) ((congrArg Int32.toInt (zz_i e82)).trans (rfl : (sy_i F 82).toInt = (sy_i F 82).toInt)) ((congrArg Int32.toInt (zz_i e83)).trans (rfl : (sy_i F 83).toInt = (sy_i F 83).toInt)) ((congrArg Int32.toInt (zz_i e84)).trans (by decide : ((1 : Int32)).toInt = 1)) ((congrArg Int32.toInt (zz_i e85)).trans n87) ((congrArg Int32.toInt (zz_i e86)).trans n88))
    replace g2 : (sy_i F 23).toInt < 512 := by omega
    by_cases g3 : (sy_i F 33).toInt < 0
    · have c23 := nz_bx hB (k := 23) (lo := 0) (hi := 512) rfl
      have c33 := nz_bx hB (k := 33) (lo := 0) (hi := 400) rfl
      exfalso
      omega
    replace g3 : 0 ≤ (sy_i F 33).toInt := by omega
    by_cases g4 : 400 < (sy_i F 33).toInt
    · have c23 := nz_bx hB (k := 23) (lo := 0) (hi := 512) rfl
      have c33 := nz_bx hB (k := 33) (lo := 0) (hi := 400) rfl
      exfalso
      omega
    replace g4 : (sy_i F 33).toInt ≤ 400 := by omega
    have c23 := nz_bx hB (k := 23) (lo := 0) (hi := 512) rfl
    have c33 := nz_bx hB (k := 33) (lo := 0) (hi := 400) rfl
    have n88 : ((sy_i F 23) + ((1 : Int32))).toInt = ((sy_i F 23).toInt + 1) := nz_add (rfl : (sy_i F 23).toInt = (sy_i F 23).toInt) (by decide : ((1 : Int32)).toInt = 1) (by omega) (by omega)
    have w87 : jm_upd (sy_ai F 32) (sy_i F 23).toNatClampNeg (((-11) : Int32)) = jm_upd (sy_ai F 32) ((sy_i F 23).toInt).toNat (((-11) : Int32)) := by simp only [nz_c, (by decide : (((-11) : Int32)).toInt = (-11 : Int))]
    have q89 : (sy_ai F 39).getD (sy_i F 33).toNatClampNeg 0 = (sy_ai F 39).getD ((sy_i F 33).toInt).toNat 0 := by simp only [nz_c]
    have n89 : ((sy_ai F 39).getD (sy_i F 33).toNatClampNeg 0).toInt = ((sy_ai F 39).getD ((sy_i F 33).toInt).toNat 0).toInt := congrArg Int32.toInt q89
    have n90 : ((sy_i F 85) + ((1 : Int32))).toInt = ((sy_i F 85).toInt + 1) := nz_add (rfl : (sy_i F 85).toInt = (sy_i F 85).toInt) (by decide : ((1 : Int32)).toInt = 1) (by omega) (by omega)
    exact k0ps_64_p5 hd F X1 X2 hB (by first | exact g0 | (simp only [nz_c]; exact g0)) (by first | exact g1 | (simp only [nz_c]; exact g1)) (by first | exact g2 | (simp only [nz_c]; exact g2)) (by first | exact ⟨by omega, by omega⟩ | (simp only [nz_c]; exact ⟨by omega, by omega⟩)) (by first | exact g3 | (simp only [nz_c]; exact g3)) (by first | exact g4 | (simp only [nz_c]; exact g4)) (by first | exact ⟨by omega, by omega⟩ | (simp only [nz_c]; exact ⟨by omega, by omega⟩)) (fun F1 g e23 e32 e82 e83 e84 e85 e86 => k5 g0 g1 g2 g3 g4 F1 (nz_in0 hB [23, 32] (fun j hj hn => g j hj (by simp only [List.mem_cons, List.not_mem_nil, or_false, not_or] at hn; omega)) (List.forall_mem_cons.mpr ⟨fun t ht => (Option.some.inj ht) ▸ (nz_hi e23 n88 (by omega) (by omega)), List.forall_mem_cons.mpr ⟨fun t ht => (Option.some.inj ht) ▸ (nz_hA e32 (nz_up (nz_ba hB (k := 32) (lo := (-2147483648)) (hi := 2147483646) rfl) (by decide : (((-11) : Int32)).toInt = (-11 : Int)) (by omega) (by omega))), List.forall_mem_nil _⟩⟩)) (fun j hj hn => g j hj (by simp only [List.mem_cons, List.not_mem_nil, or_false, not_or] at hn; omega)) (nz_fi (g 33 (by decide) (by decide))) (nz_fi (g 34 (by decide) (by decide))) ((congrArg Int32.toInt (zz_i e23)).trans n88) (nz_fa (g 39 (by decide) (by decide))) ((zz_ai e32).trans w87) ((congrArg Int32.toInt (zz_i e82)).trans (rfl : (sy_i F 82).toInt = (sy_i F 82).toInt)) ((congrArg Int32.toInt (zz_i e83)).trans (rfl : (sy_i F 83).toInt = (sy_i F 83).toInt)) ((congrArg Int32.toInt (zz_i e84)).trans (by decide : ((1 : Int32)).toInt = 1)) ((congrArg Int32.toInt (zz_i e85)).trans n89) ((congrArg Int32.toInt (zz_i e86)).trans n90))
  replace g1 : (sy_i F 84).toInt = 43 := by omega
  by_cases g2 : 512 ≤ (sy_i F 23).toInt
  · by_cases g3 : (sy_i F 33).toInt < 0
    · have c23 := nz_bx hB (k := 23) (lo := 0) (hi := 512) rfl
      have c33 := nz_bx hB (k := 33) (lo := 0) (hi := 400) rfl
      exfalso
      omega
    replace g3 : 0 ≤ (sy_i F 33).toInt := by omega
    by_cases g4 : 400 < (sy_i F 33).toInt
    · have c23 := nz_bx hB (k := 23) (lo := 0) (hi := 512) rfl
      have c33 := nz_bx hB (k := 33) (lo := 0) (hi := 400) rfl
      exfalso
      omega
    replace g4 : (sy_i F 33).toInt ≤ 400 := by omega
    have c23 := nz_bx hB (k := 23) (lo := 0) (hi := 512) rfl
    have c33 := nz_bx hB (k := 33) (lo := 0) (hi := 400) rfl
    have q87 : (sy_ai F 39).getD (sy_i F 33).toNatClampNeg 0 = (sy_ai F 39).getD ((sy_i F 33).toInt).toNat 0 := by simp only [nz_c]
    have n87 : ((sy_ai F 39).getD (sy_i F 33).toNatClampNeg 0).toInt = ((sy_ai F 39).getD ((sy_i F 33).toInt).toNat 0).toInt := congrArg Int32.toInt q87
    have n88 : ((sy_i F 85) + ((1 : Int32))).toInt = ((sy_i F 85).toInt + 1) := nz_add (rfl : (sy_i F 85).toInt = (sy_i F 85).toInt) (by decide : ((1 : Int32)).toInt = 1) (by omega) (by omega)
    exact k0ps_64_p6 hd F X1 X2 hB (by first | exact g0 | (simp only [nz_c]; exact g0)) (by first | exact g1 | (simp only [nz_c]; exact g1)) (by first | exact g2 | (simp only [nz_c]; exact g2)) (by first | exact g3 | (simp only [nz_c]; exact g3)) (by first | exact g4 | (simp only [nz_c]; exact g4)) (by first | exact ⟨by omega, by omega⟩ | (simp only [nz_c]; exact ⟨by omega, by omega⟩)) (fun F1 g e82 e83 e84 e85 e86 => k6 g0 g1 g2 g3 g4 F1 (nz_in0 hB [] (fun j hj hn => g j hj (by simp only [List.mem_cons, List.not_mem_nil, or_false, not_or] at hn; exact trivial)) (List.forall_mem_nil _)) (fun j hj hn => g j hj (by simp only [List.mem_cons, List.not_mem_nil, or_false, not_or] at hn; exact trivial)) (nz_fi (g 33 (by decide) (by decide))) (nz_fi (g 34 (by decide) (by decide))) (nz_fi (g 23 (by decide) (by decide))) (nz_fa (g 39 (by decide) (by decide))) (nz_fa (g 32 (by decide) (by decide))) ((congrArg Int32.toInt (zz_i e82)).trans (rfl : (sy_i F 82).toInt = (sy_i F 82).toInt)) ((congrArg Int32.toInt (zz_i e83)).trans (rfl : (sy_i F 83).toInt = (sy_i F 83).toInt)) ((congrArg Int32.toInt (zz_i e84)).trans (by decide : ((1 : Int32)).toInt = 1)) ((congrArg Int32.toInt (zz_i e85)).trans n87) ((congrArg Int32.toInt (zz_i e86)).trans n88))
  replace g2 : (sy_i F 23).toInt < 512 := by omega
  by_cases g3 : (sy_i F 33).toInt < 0
  · have c23 := nz_bx hB (k := 23) (lo := 0) (hi := 512) rfl
    have c33 := nz_bx hB (k := 33) (lo := 0) (hi := 400) rfl
    exfalso
    omega
  replace g3 : 0 ≤ (sy_i F 33).toInt := by omega
  by_cases g4 : 400 < (sy_i F 33).toInt
  · have c23 := nz_bx hB (k := 23) (lo := 0) (hi := 512) rfl
    have c33 := nz_bx hB (k := 33) (lo := 0) (hi := 400) rfl
    exfalso
    omega
  replace g4 : (sy_i F 33).toInt ≤ 400 := by omega
  have c23 := nz_bx hB (k := 23) (lo := 0) (hi := 512) rfl
  have c33 := nz_bx hB (k := 33) (lo := 0) (hi := 400) rfl
  have n88 : ((sy_i F 23) + ((1 : Int32))).toInt = ((sy_i F 23).toInt + 1) := nz_add (rfl : (sy_i F 23).toInt = (sy_i F 23).toInt) (by decide : ((1 : Int32)).toInt = 1) (by omega) (by omega)
  have w87 : jm_upd (sy_ai F 32) (sy_i F 23).toNatClampNeg (((-10) : Int32)) = jm_upd (sy_ai F 32) ((sy_i F 23).toInt).toNat (((-10) : Int32)) := by simp only [nz_c, (by decide : (((-10) : Int32)).toInt = (-10 : Int))]
  have q89 : (sy_ai F 39).getD (sy_i F 33).toNatClampNeg 0 = (sy_ai F 39).getD ((sy_i F 33).toInt).toNat 0 := by simp only [nz_c]
  have n89 : ((sy_ai F 39).getD (sy_i F 33).toNatClampNeg 0).toInt = ((sy_ai F 39).getD ((sy_i F 33).toInt).toNat 0).toInt := congrArg Int32.toInt q89
  have n90 : ((sy_i F 85) + ((1 : Int32))).toInt = ((sy_i F 85).toInt + 1) := nz_add (rfl : (sy_i F 85).toInt = (sy_i F 85).toInt) (by decide : ((1 : Int32)).toInt = 1) (by omega) (by omega)
  exact k0ps_64_p7 hd F X1 X2 hB (by first | exact g0 | (simp only [nz_c]; exact g0)) (by first | exact g1 | (simp only [nz_c]; exact g1)) (by first | exact g2 | (simp only [nz_c]; exact g2)) (by first | exact ⟨by omega, by omega⟩ | (simp only [nz_c]; exact ⟨by omega, by omega⟩)) (by first | exact g3 | (simp only [nz_c]; exact g3)) (by first | exact g4 | (simp only [nz_c]; exact g4)) (by first | exact ⟨by omega, by omega⟩ | (simp only [nz_c]; exact ⟨by omega, by omega⟩)) (fun F1 g e23 e32 e82 e83 e84 e85 e86 => k7 g0 g1 g2 g3 g4 F1 (nz_in0 hB [23, 32] (fun j hj hn => g j hj (by simp only [List.mem_cons, List.not_mem_nil, or_false, not_or] at hn; omega)) (List.forall_mem_cons.mpr ⟨fun t ht => (Option.some.inj ht) ▸ (nz_hi e23 n88 (by omega) (by omega)), List.forall_mem_cons.mpr ⟨fun t ht => (Option.some.inj ht) ▸ (nz_hA e32 (nz_up (nz_ba hB (k := 32) (lo := (-2147483648)) (hi := 2147483646) rfl) (by decide : (((-10) : Int32)).toInt = (-10 : Int)) (by omega) (by omega))), List.forall_mem_nil _⟩⟩)) (fun j hj hn => g j hj (by simp only [List.mem_cons, List.not_mem_nil, or_false, not_or] at hn; omega)) (nz_fi (g 33 (by decide) (by decide))) (nz_fi (g 34 (by decide) (by decide))) ((congrArg Int32.toInt (zz_i e23)).trans n88) (nz_fa (g 39 (by decide) (by decide))) ((zz_ai e32).trans w87) ((congrArg Int32.toInt (zz_i e82)).trans (rfl : (sy_i F 82).toInt = (sy_i F 82).toInt)) ((congrArg Int32.toInt (zz_i e83)).trans (rfl : (sy_i F 83).toInt = (sy_i F 83).toInt)) ((congrArg Int32.toInt (zz_i e84)).trans (by decide : ((1 : Int32)).toInt = 1)) ((congrArg Int32.toInt (zz_i e85)).trans n89) ((congrArg Int32.toInt (zz_i e86)).trans n90))
