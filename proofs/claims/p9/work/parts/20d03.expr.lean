/-! ===== expressions once more, way by way, with the fault's place ===== -/
theorem exy_0 {Ls : Nat} {xs : Nat → Int32} {d : Nat} {Q : Option Value → jm_h → Prop} (hd : 4 ≤ d) (F : Nat → sy_d) (X1 X2 : List jm_c) (hB : iv_in F iv_B4)
    (k0 : ∀ F1 : Nat → sy_d, iv_in F1 iv_B4 → (∀ j, j < 69 → j ∉ ([16] : List Nat) → F1 j = F j) → (sy_i F1 4).toInt = (sy_i F 4).toInt → (sy_i F1 5).toInt = (sy_i F 5).toInt → (sy_i F1 6).toInt = (sy_i F 6).toInt → (sy_i F1 7).toInt = (sy_i F 7).toInt → (sy_i F1 11).toInt = (sy_i F 11).toInt → (sy_i F1 12).toInt = (sy_i F 12).toInt → (sy_i F1 14).toInt = (sy_i F 14).toInt → (sy_i F1 15).toInt = (sy_i F 15).toInt → (sy_i F1 16).toInt = 0 → sy_ai F1 25 = sy_ai F 25 → sy_ai F1 26 = sy_ai F 26 → sy_ai F1 49 = sy_ai F 49 → sy_ai F1 50 = sy_ai F 50 → sy_ai F1 51 = sy_ai F 51 → (sy_i F1 69).toInt = (sy_i F 5).toInt → hd_W Ls xs d jm_M164 Q (12, sy_dL F1 [some (.inl (.ref 1000)), some (.inr (.inl 69)), some (.inl (.int 1))], sy_dS F1 [], sy_dh F1 X1 X2 (iv_H 4), 0, 0)) :
    hd_W Ls xs d jm_M164 Q (0, sy_dL F [some (.inl (.ref 1000)), none, none], sy_dS F [], sy_dh F X1 X2 (iv_H 4), 0, 0) := by
  have c5 := nz_bx hB (k := 5) (lo := 0) (hi := 7) rfl
  exact ex_0_p0 hd F X1 X2 hB  (fun F1 g e16 e69 => k0 F1 (nz_in hB [16] (fun j hj hn => g j hj (by simp only [List.mem_cons, List.not_mem_nil, or_false, not_or] at hn; omega)) (List.forall_mem_cons.mpr ⟨fun t ht => (Option.some.inj ht) ▸ (nz_hi e16 (by decide : ((0 : Int32)).toInt = 0) (by omega) (by omega)), List.forall_mem_nil _⟩)) (fun j hj hn => g j hj (by simp only [List.mem_cons, List.not_mem_nil, or_false, not_or] at hn; omega)) (nz_fi (g 4 (by decide) (by decide))) (nz_fi (g 5 (by decide) (by decide))) (nz_fi (g 6 (by decide) (by decide))) (nz_fi (g 7 (by decide) (by decide))) (nz_fi (g 11 (by decide) (by decide))) (nz_fi (g 12 (by decide) (by decide))) (nz_fi (g 14 (by decide) (by decide))) (nz_fi (g 15 (by decide) (by decide))) ((congrArg Int32.toInt (zz_i e16)).trans (by decide : ((0 : Int32)).toInt = 0)) (nz_fa (g 25 (by decide) (by decide))) (nz_fa (g 26 (by decide) (by decide))) (nz_fa (g 49 (by decide) (by decide))) (nz_fa (g 50 (by decide) (by decide))) (nz_fa (g 51 (by decide) (by decide))) ((congrArg Int32.toInt (zz_i e69)).trans (rfl : (sy_i F 5).toInt = (sy_i F 5).toInt)))
theorem exy_12 {Ls : Nat} {xs : Nat → Int32} {d : Nat} {Q : Option Value → jm_h → Prop} (hd : 4 ≤ d) (F : Nat → sy_d) (X1 X2 : List jm_c) (hB : iv_in F iv_B4)
    (k0 : (sy_i F 6).toInt ≠ 0 → ∀ F1 : Nat → sy_d, iv_in F1 iv_B4 → (∀ j, j < 69 → j ∉ ([] : List Nat) → F1 j = F j) → (sy_i F1 4).toInt = (sy_i F 4).toInt → (sy_i F1 5).toInt = (sy_i F 5).toInt → (sy_i F1 6).toInt = (sy_i F 6).toInt → (sy_i F1 7).toInt = (sy_i F 7).toInt → (sy_i F1 11).toInt = (sy_i F 11).toInt → (sy_i F1 12).toInt = (sy_i F 12).toInt → (sy_i F1 14).toInt = (sy_i F 14).toInt → (sy_i F1 15).toInt = (sy_i F 15).toInt → (sy_i F1 16).toInt = (sy_i F 16).toInt → sy_ai F1 25 = sy_ai F 25 → sy_ai F1 26 = sy_ai F 26 → sy_ai F1 49 = sy_ai F 49 → sy_ai F1 50 = sy_ai F 50 → sy_ai F1 51 = sy_ai F 51 → Q (none) (sy_dh F1 X1 X2 (iv_H 4)))
    (k1 : (sy_i F 6).toInt = 0 → ∀ F1 : Nat → sy_d, iv_in F1 iv_B4 → (∀ j, j < 69 → j ∉ ([] : List Nat) → F1 j = F j) → (sy_i F1 4).toInt = (sy_i F 4).toInt → (sy_i F1 5).toInt = (sy_i F 5).toInt → (sy_i F1 6).toInt = (sy_i F 6).toInt → (sy_i F1 7).toInt = (sy_i F 7).toInt → (sy_i F1 11).toInt = (sy_i F 11).toInt → (sy_i F1 12).toInt = (sy_i F 12).toInt → (sy_i F1 14).toInt = (sy_i F 14).toInt → (sy_i F1 15).toInt = (sy_i F 15).toInt → (sy_i F1 16).toInt = (sy_i F 16).toInt → sy_ai F1 25 = sy_ai F 25 → sy_ai F1 26 = sy_ai F 26 → sy_ai F1 49 = sy_ai F 49 → sy_ai F1 50 = sy_ai F 50 → sy_ai F1 51 = sy_ai F 51 → (sy_i F1 69).toInt = (sy_i F 69).toInt → hd_W Ls xs d jm_M164 Q (23, sy_dL F1 [some (.inl (.ref 1000)), some (.inr (.inl 69)), some (.inl (.int 1))], sy_dS F1 [], sy_dh F1 X1 X2 (iv_H 4), 0, 0)) :
    hd_W Ls xs d jm_M164 Q (12, sy_dL F [some (.inl (.ref 1000)), some (.inr (.inl 69)), some (.inl (.int 1))], sy_dS F [], sy_dh F X1 X2 (iv_H 4), 0, 0) := by
  by_cases g0 : (sy_i F 6).toInt ≠ 0
  · have c6 := nz_bx hB (k := 6) (lo := 0) (hi := 2) rfl
    exact ex_12_p0 hd F X1 X2 hB (by first | exact g0 | (simp only [nz_c]; exact g0)) (fun F1 g  => k0 g0 F1 (nz_in hB [] (fun j hj hn => g j hj (by simp only [List.mem_cons, List.not_mem_nil, or_false, not_or] at hn; exact trivial)) (List.forall_mem_nil _)) (fun j hj hn => g j hj (by simp only [List.mem_cons, List.not_mem_nil, or_false, not_or] at hn; exact trivial)) (nz_fi (g 4 (by decide) (by decide))) (nz_fi (g 5 (by decide) (by decide))) (nz_fi (g 6 (by decide) (by decide))) (nz_fi (g 7 (by decide) (by decide))) (nz_fi (g 11 (by decide) (by decide))) (nz_fi (g 12 (by decide) (by decide))) (nz_fi (g 14 (by decide) (by decide))) (nz_fi (g 15 (by decide) (by decide))) (nz_fi (g 16 (by decide) (by decide))) (nz_fa (g 25 (by decide) (by decide))) (nz_fa (g 26 (by decide) (by decide))) (nz_fa (g 49 (by decide) (by decide))) (nz_fa (g 50 (by decide) (by decide))) (nz_fa (g 51 (by decide) (by decide))))
  replace g0 : (sy_i F 6).toInt = 0 := by omega
  have c6 := nz_bx hB (k := 6) (lo := 0) (hi := 2) rfl
  exact ex_12_p1 hd F X1 X2 hB (by first | exact g0 | (simp only [nz_c]; exact g0)) (fun F1 g e69 => k1 g0 F1 (nz_in hB [] (fun j hj hn => g j hj (by simp only [List.mem_cons, List.not_mem_nil, or_false, not_or] at hn; exact trivial)) (List.forall_mem_nil _)) (fun j hj hn => g j hj (by simp only [List.mem_cons, List.not_mem_nil, or_false, not_or] at hn; exact trivial)) (nz_fi (g 4 (by decide) (by decide))) (nz_fi (g 5 (by decide) (by decide))) (nz_fi (g 6 (by decide) (by decide))) (nz_fi (g 7 (by decide) (by decide))) (nz_fi (g 11 (by decide) (by decide))) (nz_fi (g 12 (by decide) (by decide))) (nz_fi (g 14 (by decide) (by decide))) (nz_fi (g 15 (by decide) (by decide))) (nz_fi (g 16 (by decide) (by decide))) (nz_fa (g 25 (by decide) (by decide))) (nz_fa (g 26 (by decide) (by decide))) (nz_fa (g 49 (by decide) (by decide))) (nz_fa (g 50 (by decide) (by decide))) (nz_fa (g 51 (by decide) (by decide))) ((congrArg Int32.toInt (zz_i e69)).trans (rfl : (sy_i F 69).toInt = (sy_i F 69).toInt)))
theorem exy_23 {Ls : Nat} {xs : Nat → Int32} {d : Nat} {Q : Option Value → jm_h → Prop} (hd : 4 ≤ d) (F : Nat → sy_d) (X1 X2 : List jm_c) (hB : iv_in F iv_B4)
    (o0 : (sy_i F 6).toInt = 0 → ((sy_ai F 25).getD ((sy_i F 4).toInt).toNat 0).toInt ≠ 6 → (sy_i F 6).toInt = 0 → ((sy_ai F 25).getD ((sy_i F 4).toInt).toNat 0).toInt ≠ 2 → (sy_i F 6).toInt = 0 → 34 ≤ ((sy_ai F 25).getD ((sy_i F 4).toInt).toNat 0).toInt → ((sy_ai F 25).getD ((sy_i F 4).toInt).toNat 0).toInt ≤ 42 → (0 ≤ (sy_i F 15).toInt ∧ (sy_i F 15).toInt < 840))
    (o1 : (sy_i F 6).toInt = 0 → ((sy_ai F 25).getD ((sy_i F 4).toInt).toNat 0).toInt ≠ 6 → (sy_i F 6).toInt = 0 → ((sy_ai F 25).getD ((sy_i F 4).toInt).toNat 0).toInt = 2 → (0 ≤ (sy_i F 15).toInt ∧ (sy_i F 15).toInt < 840))
    (o2 : (sy_i F 6).toInt = 0 → ((sy_ai F 25).getD ((sy_i F 4).toInt).toNat 0).toInt = 6 → (sy_i F 5).toInt ≠ 6 → (sy_i F 4).toInt ≠ 400 → (0 ≤ (sy_i F 16).toInt ∧ (sy_i F 16).toInt < 64))
    (o3 : (sy_i F 6).toInt = 0 → ((sy_ai F 25).getD ((sy_i F 4).toInt).toNat 0).toInt = 6 → (sy_i F 5).toInt ≠ 6 → (sy_i F 4).toInt = 400 → (sy_i F 6).toInt ≤ 0 → (0 ≤ (sy_i F 16).toInt ∧ (sy_i F 16).toInt < 64))
    (o4 : (sy_i F 6).toInt = 0 → ((sy_ai F 25).getD ((sy_i F 4).toInt).toNat 0).toInt = 6 → (sy_i F 5).toInt = 6 → (sy_i F 6).toInt ≤ 0 → (sy_i F 4).toInt ≠ 400 → (0 ≤ (sy_i F 16).toInt ∧ (sy_i F 16).toInt < 64))
    (o5 : (sy_i F 6).toInt = 0 → ((sy_ai F 25).getD ((sy_i F 4).toInt).toNat 0).toInt = 6 → (sy_i F 5).toInt = 6 → (sy_i F 6).toInt ≤ 0 → (sy_i F 4).toInt = 400 → (0 ≤ (sy_i F 16).toInt ∧ (sy_i F 16).toInt < 64))
    (o6 : (sy_i F 6).toInt = 0 → ((sy_ai F 25).getD ((sy_i F 4).toInt).toNat 0).toInt ≠ 6 → (sy_i F 6).toInt = 0 → ((sy_ai F 25).getD ((sy_i F 4).toInt).toNat 0).toInt ≠ 2 → (sy_i F 6).toInt = 0 → 34 ≤ ((sy_ai F 25).getD ((sy_i F 4).toInt).toNat 0).toInt → ((sy_ai F 25).getD ((sy_i F 4).toInt).toNat 0).toInt ≤ 42 → (sy_i F 4).toInt ≠ 400 → (sy_i F 6).toInt ≤ 0 → (0 ≤ ((sy_i F 15).toInt + 1) ∧ ((sy_i F 15).toInt + 1) ≤ 840))
    (o7 : (sy_i F 6).toInt = 0 → ((sy_ai F 25).getD ((sy_i F 4).toInt).toNat 0).toInt ≠ 6 → (sy_i F 6).toInt = 0 → ((sy_ai F 25).getD ((sy_i F 4).toInt).toNat 0).toInt ≠ 2 → (sy_i F 6).toInt = 0 → 34 ≤ ((sy_ai F 25).getD ((sy_i F 4).toInt).toNat 0).toInt → ((sy_ai F 25).getD ((sy_i F 4).toInt).toNat 0).toInt ≤ 42 → (sy_i F 4).toInt = 400 → (sy_i F 6).toInt ≤ 0 → (0 ≤ ((sy_i F 15).toInt + 1) ∧ ((sy_i F 15).toInt + 1) ≤ 840))
    (o8 : (sy_i F 6).toInt = 0 → ((sy_ai F 25).getD ((sy_i F 4).toInt).toNat 0).toInt ≠ 6 → (sy_i F 6).toInt = 0 → ((sy_ai F 25).getD ((sy_i F 4).toInt).toNat 0).toInt = 2 → (sy_i F 4).toInt ≠ 400 → (sy_i F 6).toInt ≤ 0 → (0 ≤ ((sy_i F 15).toInt + 1) ∧ ((sy_i F 15).toInt + 1) ≤ 840))
    (o9 : (sy_i F 6).toInt = 0 → ((sy_ai F 25).getD ((sy_i F 4).toInt).toNat 0).toInt ≠ 6 → (sy_i F 6).toInt = 0 → ((sy_ai F 25).getD ((sy_i F 4).toInt).toNat 0).toInt = 2 → (sy_i F 4).toInt = 400 → (sy_i F 6).toInt ≤ 0 → (0 ≤ ((sy_i F 15).toInt + 1) ∧ ((sy_i F 15).toInt + 1) ≤ 840))
    (o10 : (sy_i F 6).toInt = 0 → ((sy_ai F 25).getD ((sy_i F 4).toInt).toNat 0).toInt = 6 → (sy_i F 5).toInt ≠ 6 → (sy_i F 4).toInt ≠ 400 → (0 ≤ ((sy_i F 5).toInt + 1) ∧ ((sy_i F 5).toInt + 1) ≤ 7))
    (o11 : (sy_i F 6).toInt = 0 → ((sy_ai F 25).getD ((sy_i F 4).toInt).toNat 0).toInt = 6 → (sy_i F 5).toInt ≠ 6 → (sy_i F 4).toInt ≠ 400 → (0 ≤ ((sy_i F 16).toInt + 1) ∧ ((sy_i F 16).toInt + 1) ≤ 64))
    (o12 : (sy_i F 6).toInt = 0 → ((sy_ai F 25).getD ((sy_i F 4).toInt).toNat 0).toInt = 6 → (sy_i F 5).toInt ≠ 6 → (sy_i F 4).toInt = 400 → (sy_i F 6).toInt ≤ 0 → (0 ≤ ((sy_i F 5).toInt + 1) ∧ ((sy_i F 5).toInt + 1) ≤ 7))
    (o13 : (sy_i F 6).toInt = 0 → ((sy_ai F 25).getD ((sy_i F 4).toInt).toNat 0).toInt = 6 → (sy_i F 5).toInt ≠ 6 → (sy_i F 4).toInt = 400 → (sy_i F 6).toInt ≤ 0 → (0 ≤ ((sy_i F 16).toInt + 1) ∧ ((sy_i F 16).toInt + 1) ≤ 64))
    (o14 : (sy_i F 6).toInt = 0 → ((sy_ai F 25).getD ((sy_i F 4).toInt).toNat 0).toInt = 6 → (sy_i F 5).toInt = 6 → (sy_i F 6).toInt ≤ 0 → (sy_i F 4).toInt ≠ 400 → (0 ≤ ((sy_i F 16).toInt + 1) ∧ ((sy_i F 16).toInt + 1) ≤ 64))
    (o15 : (sy_i F 6).toInt = 0 → ((sy_ai F 25).getD ((sy_i F 4).toInt).toNat 0).toInt = 6 → (sy_i F 5).toInt = 6 → (sy_i F 6).toInt ≤ 0 → (sy_i F 4).toInt = 400 → (0 ≤ ((sy_i F 16).toInt + 1) ∧ ((sy_i F 16).toInt + 1) ≤ 64))
    (k0 : (sy_i F 6).toInt ≠ 0 → (sy_i F 6).toInt ≠ 0 → (sy_i F 6).toInt ≠ 0 → 0 < (sy_i F 6).toInt → 0 < (sy_i F 6).toInt → ∀ F1 : Nat → sy_d, iv_in F1 iv_B4 → (∀ j, j < 69 → j ∉ ([] : List Nat) → F1 j = F j) → (sy_i F1 4).toInt = (sy_i F 4).toInt → (sy_i F1 5).toInt = (sy_i F 5).toInt → (sy_i F1 6).toInt = (sy_i F 6).toInt → (sy_i F1 7).toInt = (sy_i F 7).toInt → (sy_i F1 11).toInt = (sy_i F 11).toInt → (sy_i F1 12).toInt = (sy_i F 12).toInt → (sy_i F1 14).toInt = (sy_i F 14).toInt → (sy_i F1 15).toInt = (sy_i F 15).toInt → (sy_i F1 16).toInt = (sy_i F 16).toInt → sy_ai F1 25 = sy_ai F 25 → sy_ai F1 26 = sy_ai F 26 → sy_ai F1 49 = sy_ai F 49 → sy_ai F1 50 = sy_ai F 50 → sy_ai F1 51 = sy_ai F 51 → Q (none) (sy_dh F1 X1 X2 (iv_H 4)))
    (k1 : (sy_i F 6).toInt = 0 → ((sy_ai F 25).getD ((sy_i F 4).toInt).toNat 0).toInt ≠ 6 → (sy_i F 6).toInt = 0 → ((sy_ai F 25).getD ((sy_i F 4).toInt).toNat 0).toInt ≠ 2 → (sy_i F 6).toInt = 0 → ((sy_ai F 25).getD ((sy_i F 4).toInt).toNat 0).toInt < 34 → (sy_i F 6).toInt ≤ 0 → ∀ F1 : Nat → sy_d, iv_in F1 iv_B4 → (∀ j, j < 69 → j ∉ ([6, 7] : List Nat) → F1 j = F j) → (sy_i F1 4).toInt = (sy_i F 4).toInt → (sy_i F1 5).toInt = (sy_i F 5).toInt → (sy_i F1 6).toInt = 1 → (sy_i F1 7).toInt = ((sy_ai F 26).getD ((sy_i F 4).toInt).toNat 0).toInt → (sy_i F1 11).toInt = (sy_i F 11).toInt → (sy_i F1 12).toInt = (sy_i F 12).toInt → (sy_i F1 14).toInt = (sy_i F 14).toInt → (sy_i F1 15).toInt = (sy_i F 15).toInt → (sy_i F1 16).toInt = (sy_i F 16).toInt → sy_ai F1 25 = sy_ai F 25 → sy_ai F1 26 = sy_ai F 26 → sy_ai F1 49 = sy_ai F 49 → sy_ai F1 50 = sy_ai F 50 → sy_ai F1 51 = sy_ai F 51 → Q (none) (sy_dh F1 X1 X2 (iv_H 4)))
    (k2 : (sy_i F 6).toInt = 0 → ((sy_ai F 25).getD ((sy_i F 4).toInt).toNat 0).toInt ≠ 6 → (sy_i F 6).toInt = 0 → ((sy_ai F 25).getD ((sy_i F 4).toInt).toNat 0).toInt ≠ 2 → (sy_i F 6).toInt = 0 → 34 ≤ ((sy_ai F 25).getD ((sy_i F 4).toInt).toNat 0).toInt → ((sy_ai F 25).getD ((sy_i F 4).toInt).toNat 0).toInt ≤ 42 → (sy_i F 4).toInt ≠ 400 → (sy_i F 6).toInt ≤ 0 → ∀ F1 : Nat → sy_d, iv_in F1 iv_B4 → (∀ j, j < 69 → j ∉ ([4, 15, 49, 50] : List Nat) → F1 j = F j) → (sy_i F1 4).toInt = ((sy_i F 4).toInt + 1) → (sy_i F1 5).toInt = (sy_i F 5).toInt → (sy_i F1 6).toInt = (sy_i F 6).toInt → (sy_i F1 7).toInt = (sy_i F 7).toInt → (sy_i F1 11).toInt = (sy_i F 11).toInt → (sy_i F1 12).toInt = (sy_i F 12).toInt → (sy_i F1 14).toInt = (sy_i F 14).toInt → (sy_i F1 15).toInt = ((sy_i F 15).toInt + 1) → (sy_i F1 16).toInt = (sy_i F 16).toInt → sy_ai F1 25 = sy_ai F 25 → sy_ai F1 26 = sy_ai F 26 → sy_ai F1 49 = jm_upd (sy_ai F 49) ((sy_i F 15).toInt).toNat ((1 : Int32)) → sy_ai F1 50 = jm_upd (sy_ai F 50) ((sy_i F 15).toInt).toNat (((sy_ai F 25).getD ((sy_i F 4).toInt).toNat 0) - ((34 : Int32))) → sy_ai F1 51 = sy_ai F 51 → (sy_i F1 69).toInt = (sy_i F 69).toInt → hd_W Ls xs d jm_M164 Q (96, sy_dL F1 [some (.inl (.ref 1000)), some (.inr (.inl 69)), some (.inl (.int 1))], sy_dS F1 [], sy_dh F1 X1 X2 (iv_H 4), 0, 0))
    (k3 : (sy_i F 6).toInt = 0 → ((sy_ai F 25).getD ((sy_i F 4).toInt).toNat 0).toInt ≠ 6 → (sy_i F 6).toInt = 0 → ((sy_ai F 25).getD ((sy_i F 4).toInt).toNat 0).toInt ≠ 2 → (sy_i F 6).toInt = 0 → 34 ≤ ((sy_ai F 25).getD ((sy_i F 4).toInt).toNat 0).toInt → ((sy_ai F 25).getD ((sy_i F 4).toInt).toNat 0).toInt ≤ 42 → (sy_i F 4).toInt = 400 → (sy_i F 6).toInt ≤ 0 → ∀ F1 : Nat → sy_d, iv_in F1 iv_B4 → (∀ j, j < 69 → j ∉ ([6, 7, 15, 49, 50] : List Nat) → F1 j = F j) → (sy_i F1 4).toInt = (sy_i F 4).toInt → (sy_i F1 5).toInt = (sy_i F 5).toInt → (sy_i F1 6).toInt = 2 → (sy_i F1 7).toInt = ((sy_ai F 26).getD ((sy_i F 4).toInt).toNat 0).toInt → (sy_i F1 11).toInt = (sy_i F 11).toInt → (sy_i F1 12).toInt = (sy_i F 12).toInt → (sy_i F1 14).toInt = (sy_i F 14).toInt → (sy_i F1 15).toInt = ((sy_i F 15).toInt + 1) → (sy_i F1 16).toInt = (sy_i F 16).toInt → sy_ai F1 25 = sy_ai F 25 → sy_ai F1 26 = sy_ai F 26 → sy_ai F1 49 = jm_upd (sy_ai F 49) ((sy_i F 15).toInt).toNat ((1 : Int32)) → sy_ai F1 50 = jm_upd (sy_ai F 50) ((sy_i F 15).toInt).toNat (((sy_ai F 25).getD ((sy_i F 4).toInt).toNat 0) - ((34 : Int32))) → sy_ai F1 51 = sy_ai F 51 → Q (none) (sy_dh F1 X1 X2 (iv_H 4)))
    (k4 : (sy_i F 6).toInt = 0 → ((sy_ai F 25).getD ((sy_i F 4).toInt).toNat 0).toInt ≠ 6 → (sy_i F 6).toInt = 0 → ((sy_ai F 25).getD ((sy_i F 4).toInt).toNat 0).toInt = 2 → (sy_i F 4).toInt ≠ 400 → (sy_i F 6).toInt ≤ 0 → ∀ F1 : Nat → sy_d, iv_in F1 iv_B4 → (∀ j, j < 69 → j ∉ ([4, 15, 49, 50] : List Nat) → F1 j = F j) → (sy_i F1 4).toInt = ((sy_i F 4).toInt + 1) → (sy_i F1 5).toInt = (sy_i F 5).toInt → (sy_i F1 6).toInt = (sy_i F 6).toInt → (sy_i F1 7).toInt = (sy_i F 7).toInt → (sy_i F1 11).toInt = (sy_i F 11).toInt → (sy_i F1 12).toInt = (sy_i F 12).toInt → (sy_i F1 14).toInt = (sy_i F 14).toInt → (sy_i F1 15).toInt = ((sy_i F 15).toInt + 1) → (sy_i F1 16).toInt = (sy_i F 16).toInt → sy_ai F1 25 = sy_ai F 25 → sy_ai F1 26 = sy_ai F 26 → sy_ai F1 49 = jm_upd (sy_ai F 49) ((sy_i F 15).toInt).toNat ((0 : Int32)) → sy_ai F1 50 = jm_upd (sy_ai F 50) ((sy_i F 15).toInt).toNat ((sy_ai F 27).getD ((sy_i F 4).toInt).toNat 0) → sy_ai F1 51 = sy_ai F 51 → (sy_i F1 69).toInt = (sy_i F 69).toInt → hd_W Ls xs d jm_M164 Q (96, sy_dL F1 [some (.inl (.ref 1000)), some (.inr (.inl 69)), some (.inl (.int 1))], sy_dS F1 [], sy_dh F1 X1 X2 (iv_H 4), 0, 0))
    (k5 : (sy_i F 6).toInt = 0 → ((sy_ai F 25).getD ((sy_i F 4).toInt).toNat 0).toInt ≠ 6 → (sy_i F 6).toInt = 0 → ((sy_ai F 25).getD ((sy_i F 4).toInt).toNat 0).toInt = 2 → (sy_i F 4).toInt = 400 → (sy_i F 6).toInt ≤ 0 → ∀ F1 : Nat → sy_d, iv_in F1 iv_B4 → (∀ j, j < 69 → j ∉ ([6, 7, 15, 49, 50] : List Nat) → F1 j = F j) → (sy_i F1 4).toInt = (sy_i F 4).toInt → (sy_i F1 5).toInt = (sy_i F 5).toInt → (sy_i F1 6).toInt = 2 → (sy_i F1 7).toInt = ((sy_ai F 26).getD ((sy_i F 4).toInt).toNat 0).toInt → (sy_i F1 11).toInt = (sy_i F 11).toInt → (sy_i F1 12).toInt = (sy_i F 12).toInt → (sy_i F1 14).toInt = (sy_i F 14).toInt → (sy_i F1 15).toInt = ((sy_i F 15).toInt + 1) → (sy_i F1 16).toInt = (sy_i F 16).toInt → sy_ai F1 25 = sy_ai F 25 → sy_ai F1 26 = sy_ai F 26 → sy_ai F1 49 = jm_upd (sy_ai F 49) ((sy_i F 15).toInt).toNat ((0 : Int32)) → sy_ai F1 50 = jm_upd (sy_ai F 50) ((sy_i F 15).toInt).toNat ((sy_ai F 27).getD ((sy_i F 4).toInt).toNat 0) → sy_ai F1 51 = sy_ai F 51 → Q (none) (sy_dh F1 X1 X2 (iv_H 4)))
    (k6 : (sy_i F 6).toInt = 0 → ((sy_ai F 25).getD ((sy_i F 4).toInt).toNat 0).toInt = 6 → (sy_i F 5).toInt ≠ 6 → (sy_i F 4).toInt ≠ 400 → ∀ F1 : Nat → sy_d, iv_in F1 iv_B4 → (∀ j, j < 69 → j ∉ ([4, 5, 16, 51] : List Nat) → F1 j = F j) → (sy_i F1 4).toInt = ((sy_i F 4).toInt + 1) → (sy_i F1 5).toInt = ((sy_i F 5).toInt + 1) → (sy_i F1 6).toInt = (sy_i F 6).toInt → (sy_i F1 7).toInt = (sy_i F 7).toInt → (sy_i F1 11).toInt = (sy_i F 11).toInt → (sy_i F1 12).toInt = (sy_i F 12).toInt → (sy_i F1 14).toInt = (sy_i F 14).toInt → (sy_i F1 15).toInt = (sy_i F 15).toInt → (sy_i F1 16).toInt = ((sy_i F 16).toInt + 1) → sy_ai F1 25 = sy_ai F 25 → sy_ai F1 26 = sy_ai F 26 → sy_ai F1 49 = sy_ai F 49 → sy_ai F1 50 = sy_ai F 50 → sy_ai F1 51 = jm_upd (sy_ai F 51) ((sy_i F 16).toInt).toNat ((6 : Int32)) → (sy_i F1 69).toInt = (sy_i F 69).toInt → hd_W Ls xs d jm_M164 Q (23, sy_dL F1 [some (.inl (.ref 1000)), some (.inr (.inl 69)), some (.inl (.int 1))], sy_dS F1 [], sy_dh F1 X1 X2 (iv_H 4), 0, 0))
    (k7 : (sy_i F 6).toInt = 0 → ((sy_ai F 25).getD ((sy_i F 4).toInt).toNat 0).toInt = 6 → (sy_i F 5).toInt ≠ 6 → (sy_i F 4).toInt = 400 → (sy_i F 6).toInt ≤ 0 → ∀ F1 : Nat → sy_d, iv_in F1 iv_B4 → (∀ j, j < 69 → j ∉ ([5, 6, 7, 16, 51] : List Nat) → F1 j = F j) → (sy_i F1 4).toInt = (sy_i F 4).toInt → (sy_i F1 5).toInt = ((sy_i F 5).toInt + 1) → (sy_i F1 6).toInt = 2 → (sy_i F1 7).toInt = ((sy_ai F 26).getD ((sy_i F 4).toInt).toNat 0).toInt → (sy_i F1 11).toInt = (sy_i F 11).toInt → (sy_i F1 12).toInt = (sy_i F 12).toInt → (sy_i F1 14).toInt = (sy_i F 14).toInt → (sy_i F1 15).toInt = (sy_i F 15).toInt → (sy_i F1 16).toInt = ((sy_i F 16).toInt + 1) → sy_ai F1 25 = sy_ai F 25 → sy_ai F1 26 = sy_ai F 26 → sy_ai F1 49 = sy_ai F 49 → sy_ai F1 50 = sy_ai F 50 → sy_ai F1 51 = jm_upd (sy_ai F 51) ((sy_i F 16).toInt).toNat ((6 : Int32)) → (sy_i F1 69).toInt = (sy_i F 69).toInt → hd_W Ls xs d jm_M164 Q (23, sy_dL F1 [some (.inl (.ref 1000)), some (.inr (.inl 69)), some (.inl (.int 1))], sy_dS F1 [], sy_dh F1 X1 X2 (iv_H 4), 0, 0))
    (k8 : (sy_i F 6).toInt = 0 → ((sy_ai F 25).getD ((sy_i F 4).toInt).toNat 0).toInt = 6 → (sy_i F 5).toInt = 6 → (sy_i F 6).toInt ≤ 0 → (sy_i F 4).toInt ≠ 400 → ∀ F1 : Nat → sy_d, iv_in F1 iv_B4 → (∀ j, j < 69 → j ∉ ([4, 5, 6, 7, 16, 51] : List Nat) → F1 j = F j) → (sy_i F1 4).toInt = ((sy_i F 4).toInt + 1) → (sy_i F1 5).toInt = ((sy_i F 5).toInt + 1) → (sy_i F1 6).toInt = 2 → (sy_i F1 7).toInt = ((sy_ai F 26).getD ((sy_i F 4).toInt).toNat 0).toInt → (sy_i F1 11).toInt = (sy_i F 11).toInt → (sy_i F1 12).toInt = (sy_i F 12).toInt → (sy_i F1 14).toInt = (sy_i F 14).toInt → (sy_i F1 15).toInt = (sy_i F 15).toInt → (sy_i F1 16).toInt = ((sy_i F 16).toInt + 1) → sy_ai F1 25 = sy_ai F 25 → sy_ai F1 26 = sy_ai F 26 → sy_ai F1 49 = sy_ai F 49 → sy_ai F1 50 = sy_ai F 50 → sy_ai F1 51 = jm_upd (sy_ai F 51) ((sy_i F 16).toInt).toNat ((6 : Int32)) → (sy_i F1 69).toInt = (sy_i F 69).toInt → hd_W Ls xs d jm_M164 Q (23, sy_dL F1 [some (.inl (.ref 1000)), some (.inr (.inl 69)), some (.inl (.int 1))], sy_dS F1 [], sy_dh F1 X1 X2 (iv_H 4), 0, 0))
    (k9 : (sy_i F 6).toInt = 0 → ((sy_ai F 25).getD ((sy_i F 4).toInt).toNat 0).toInt = 6 → (sy_i F 5).toInt = 6 → (sy_i F 6).toInt ≤ 0 → (sy_i F 4).toInt = 400 → ∀ F1 : Nat → sy_d, iv_in F1 iv_B4 → (∀ j, j < 69 → j ∉ ([5, 6, 7, 16, 51] : List Nat) → F1 j = F j) → (sy_i F1 4).toInt = (sy_i F 4).toInt → (sy_i F1 5).toInt = ((sy_i F 5).toInt + 1) → (sy_i F1 6).toInt = 2 → (sy_i F1 7).toInt = ((sy_ai F 26).getD ((sy_i F 4).toInt).toNat 0).toInt → (sy_i F1 11).toInt = (sy_i F 11).toInt → (sy_i F1 12).toInt = (sy_i F 12).toInt → (sy_i F1 14).toInt = (sy_i F 14).toInt → (sy_i F1 15).toInt = (sy_i F 15).toInt → (sy_i F1 16).toInt = ((sy_i F 16).toInt + 1) → sy_ai F1 25 = sy_ai F 25 → sy_ai F1 26 = sy_ai F 26 → sy_ai F1 49 = sy_ai F 49 → sy_ai F1 50 = sy_ai F 50 → sy_ai F1 51 = jm_upd (sy_ai F 51) ((sy_i F 16).toInt).toNat ((6 : Int32)) → (sy_i F1 69).toInt = (sy_i F 69).toInt → hd_W Ls xs d jm_M164 Q (23, sy_dL F1 [some (.inl (.ref 1000)), some (.inr (.inl 69)), some (.inl (.int 1))], sy_dS F1 [], sy_dh F1 X1 X2 (iv_H 4), 0, 0)) :
    hd_W Ls xs d jm_M164 Q (23, sy_dL F [some (.inl (.ref 1000)), some (.inr (.inl 69)), some (.inl (.int 1))], sy_dS F [], sy_dh F X1 X2 (iv_H 4), 0, 0) := by
  by_cases g0 : (sy_i F 6).toInt ≠ 0
  · by_cases g1 : (sy_i F 6).toInt ≠ 0
    · by_cases g2 : (sy_i F 6).toInt ≠ 0
      · by_cases g3 : (sy_i F 6).toInt ≤ 0
        · have c6 := nz_bx hB (k := 6) (lo := 0) (hi := 2) rfl
          exfalso
          omega
        replace g3 : 0 < (sy_i F 6).toInt := by omega
        by_cases g4 : (sy_i F 6).toInt ≤ 0
        · have c6 := nz_bx hB (k := 6) (lo := 0) (hi := 2) rfl
          exfalso
          omega
        replace g4 : 0 < (sy_i F 6).toInt := by omega
        have c6 := nz_bx hB (k := 6) (lo := 0) (hi := 2) rfl
        exact ex_23_p0 hd F X1 X2 hB (by first | exact g0 | (simp only [nz_c]; exact g0)) (by first | exact g1 | (simp only [nz_c]; exact g1)) (by first | exact g2 | (simp only [nz_c]; exact g2)) (by first | exact g3 | (simp only [nz_c]; exact g3)) (by first | exact g4 | (simp only [nz_c]; exact g4)) (fun F1 g  => k0 g0 g1 g2 g3 g4 F1 (nz_in hB [] (fun j hj hn => g j hj (by simp only [List.mem_cons, List.not_mem_nil, or_false, not_or] at hn; exact trivial)) (List.forall_mem_nil _)) (fun j hj hn => g j hj (by simp only [List.mem_cons, List.not_mem_nil, or_false, not_or] at hn; exact trivial)) (nz_fi (g 4 (by decide) (by decide))) (nz_fi (g 5 (by decide) (by decide))) (nz_fi (g 6 (by decide) (by decide))) (nz_fi (g 7 (by decide) (by decide))) (nz_fi (g 11 (by decide) (by decide))) (nz_fi (g 12 (by decide) (by decide))) (nz_fi (g 14 (by decide) (by decide))) (nz_fi (g 15 (by decide) (by decide))) (nz_fi (g 16 (by decide) (by decide))) (nz_fa (g 25 (by decide) (by decide))) (nz_fa (g 26 (by decide) (by decide))) (nz_fa (g 49 (by decide) (by decide))) (nz_fa (g 50 (by decide) (by decide))) (nz_fa (g 51 (by decide) (by decide))))
      replace g2 : (sy_i F 6).toInt = 0 := by omega
      have c6 := nz_bx hB (k := 6) (lo := 0) (hi := 2) rfl
      exfalso
      omega
    replace g1 : (sy_i F 6).toInt = 0 := by omega
    have c6 := nz_bx hB (k := 6) (lo := 0) (hi := 2) rfl
    exfalso
    omega
  replace g0 : (sy_i F 6).toInt = 0 := by omega
  by_cases g1 : ((sy_ai F 25).getD ((sy_i F 4).toInt).toNat 0).toInt ≠ 6
  · by_cases g2 : (sy_i F 6).toInt ≠ 0
    · have c6 := nz_bx hB (k := 6) (lo := 0) (hi := 2) rfl
      have c4 := nz_bx hB (k := 4) (lo := 0) (hi := 400) rfl
      have q70 : (sy_ai F 25).getD (sy_i F 4).toNatClampNeg 0 = (sy_ai F 25).getD ((sy_i F 4).toInt).toNat 0 := by simp only [nz_c]
      have n70 : ((sy_ai F 25).getD (sy_i F 4).toNatClampNeg 0).toInt = ((sy_ai F 25).getD ((sy_i F 4).toInt).toNat 0).toInt := congrArg Int32.toInt q70
      have r70 := nz_ba hB (k := 25) (lo := 0) (hi := 42) rfl ((sy_i F 4).toInt).toNat
      exfalso
      omega
    replace g2 : (sy_i F 6).toInt = 0 := by omega
    by_cases g3 : ((sy_ai F 25).getD ((sy_i F 4).toInt).toNat 0).toInt ≠ 2
    · by_cases g4 : (sy_i F 6).toInt ≠ 0
      · have c6 := nz_bx hB (k := 6) (lo := 0) (hi := 2) rfl
        have c4 := nz_bx hB (k := 4) (lo := 0) (hi := 400) rfl
        have q70 : (sy_ai F 25).getD (sy_i F 4).toNatClampNeg 0 = (sy_ai F 25).getD ((sy_i F 4).toInt).toNat 0 := by simp only [nz_c]
        have n70 : ((sy_ai F 25).getD (sy_i F 4).toNatClampNeg 0).toInt = ((sy_ai F 25).getD ((sy_i F 4).toInt).toNat 0).toInt := congrArg Int32.toInt q70
        have r70 := nz_ba hB (k := 25) (lo := 0) (hi := 42) rfl ((sy_i F 4).toInt).toNat
        have q71 : (sy_ai F 25).getD (sy_i F 4).toNatClampNeg 0 = (sy_ai F 25).getD ((sy_i F 4).toInt).toNat 0 := by simp only [nz_c]
        have n71 : ((sy_ai F 25).getD (sy_i F 4).toNatClampNeg 0).toInt = ((sy_ai F 25).getD ((sy_i F 4).toInt).toNat 0).toInt := congrArg Int32.toInt q71
        have r71 := nz_ba hB (k := 25) (lo := 0) (hi := 42) rfl ((sy_i F 4).toInt).toNat
        exfalso
        omega
      replace g4 : (sy_i F 6).toInt = 0 := by omega
      by_cases g5 : ((sy_ai F 25).getD ((sy_i F 4).toInt).toNat 0).toInt < 34
      · by_cases g6 : (sy_i F 6).toInt ≤ 0
        · have c6 := nz_bx hB (k := 6) (lo := 0) (hi := 2) rfl
          have c4 := nz_bx hB (k := 4) (lo := 0) (hi := 400) rfl
          have q70 : (sy_ai F 25).getD (sy_i F 4).toNatClampNeg 0 = (sy_ai F 25).getD ((sy_i F 4).toInt).toNat 0 := by simp only [nz_c]
          have n70 : ((sy_ai F 25).getD (sy_i F 4).toNatClampNeg 0).toInt = ((sy_ai F 25).getD ((sy_i F 4).toInt).toNat 0).toInt := congrArg Int32.toInt q70
          have r70 := nz_ba hB (k := 25) (lo := 0) (hi := 42) rfl ((sy_i F 4).toInt).toNat
          have q71 : (sy_ai F 25).getD (sy_i F 4).toNatClampNeg 0 = (sy_ai F 25).getD ((sy_i F 4).toInt).toNat 0 := by simp only [nz_c]
          have n71 : ((sy_ai F 25).getD (sy_i F 4).toNatClampNeg 0).toInt = ((sy_ai F 25).getD ((sy_i F 4).toInt).toNat 0).toInt := congrArg Int32.toInt q71
          have r71 := nz_ba hB (k := 25) (lo := 0) (hi := 42) rfl ((sy_i F 4).toInt).toNat
          have q72 : (sy_ai F 25).getD (sy_i F 4).toNatClampNeg 0 = (sy_ai F 25).getD ((sy_i F 4).toInt).toNat 0 := by simp only [nz_c]
          have n72 : ((sy_ai F 25).getD (sy_i F 4).toNatClampNeg 0).toInt = ((sy_ai F 25).getD ((sy_i F 4).toInt).toNat 0).toInt := congrArg Int32.toInt q72
          have r72 := nz_ba hB (k := 25) (lo := 0) (hi := 42) rfl ((sy_i F 4).toInt).toNat
          have q73 : (sy_ai F 26).getD (sy_i F 4).toNatClampNeg 0 = (sy_ai F 26).getD ((sy_i F 4).toInt).toNat 0 := by simp only [nz_c]
          have n73 : ((sy_ai F 26).getD (sy_i F 4).toNatClampNeg 0).toInt = ((sy_ai F 26).getD ((sy_i F 4).toInt).toNat 0).toInt := congrArg Int32.toInt q73
          exact ex_23_p1 hd F X1 X2 hB (by first | exact g0 | (simp only [nz_c]; exact g0)) (by first | exact ⟨by omega, by omega⟩ | (simp only [nz_c]; exact ⟨by omega, by omega⟩)) (by first | exact g1 | (simp only [nz_c]; exact g1) | (rw [n70]; exact g1)) (by first | exact g2 | (simp only [nz_c]; exact g2)) (by first | exact ⟨by omega, by omega⟩ | (simp only [nz_c]; exact ⟨by omega, by omega⟩)) (by first | exact g3 | (simp only [nz_c]; exact g3) | (rw [n71]; exact g3)) (by first | exact g4 | (simp only [nz_c]; exact g4)) (by first | exact ⟨by omega, by omega⟩ | (simp only [nz_c]; exact ⟨by omega, by omega⟩)) (by first | exact g5 | (simp only [nz_c]; exact g5) | (rw [n72]; exact g5)) (by first | exact g6 | (simp only [nz_c]; exact g6)) (by first | exact ⟨by omega, by omega⟩ | (simp only [nz_c]; exact ⟨by omega, by omega⟩)) (fun F1 g e6 e7 => k1 g0 g1 g2 g3 g4 g5 g6 F1 (nz_in hB [6, 7] (fun j hj hn => g j hj (by simp only [List.mem_cons, List.not_mem_nil, or_false, not_or] at hn; omega)) (List.forall_mem_cons.mpr ⟨fun t ht => (Option.some.inj ht) ▸ (nz_hi e6 (by decide : ((1 : Int32)).toInt = 1) (by omega) (by omega)), List.forall_mem_cons.mpr ⟨fun t ht => (Option.some.inj ht) ▸ (nz_hz e7), List.forall_mem_nil _⟩⟩)) (fun j hj hn => g j hj (by simp only [List.mem_cons, List.not_mem_nil, or_false, not_or] at hn; omega)) (nz_fi (g 4 (by decide) (by decide))) (nz_fi (g 5 (by decide) (by decide))) ((congrArg Int32.toInt (zz_i e6)).trans (by decide : ((1 : Int32)).toInt = 1)) ((congrArg Int32.toInt (zz_i e7)).trans n73) (nz_fi (g 11 (by decide) (by decide))) (nz_fi (g 12 (by decide) (by decide))) (nz_fi (g 14 (by decide) (by decide))) (nz_fi (g 15 (by decide) (by decide))) (nz_fi (g 16 (by decide) (by decide))) (nz_fa (g 25 (by decide) (by decide))) (nz_fa (g 26 (by decide) (by decide))) (nz_fa (g 49 (by decide) (by decide))) (nz_fa (g 50 (by decide) (by decide))) (nz_fa (g 51 (by decide) (by decide))))
        replace g6 : 0 < (sy_i F 6).toInt := by omega
        have c6 := nz_bx hB (k := 6) (lo := 0) (hi := 2) rfl
        have c4 := nz_bx hB (k := 4) (lo := 0) (hi := 400) rfl
        have q70 : (sy_ai F 25).getD (sy_i F 4).toNatClampNeg 0 = (sy_ai F 25).getD ((sy_i F 4).toInt).toNat 0 := by simp only [nz_c]
        have n70 : ((sy_ai F 25).getD (sy_i F 4).toNatClampNeg 0).toInt = ((sy_ai F 25).getD ((sy_i F 4).toInt).toNat 0).toInt := congrArg Int32.toInt q70
        have r70 := nz_ba hB (k := 25) (lo := 0) (hi := 42) rfl ((sy_i F 4).toInt).toNat
        have q71 : (sy_ai F 25).getD (sy_i F 4).toNatClampNeg 0 = (sy_ai F 25).getD ((sy_i F 4).toInt).toNat 0 := by simp only [nz_c]
        have n71 : ((sy_ai F 25).getD (sy_i F 4).toNatClampNeg 0).toInt = ((sy_ai F 25).getD ((sy_i F 4).toInt).toNat 0).toInt := congrArg Int32.toInt q71
        have r71 := nz_ba hB (k := 25) (lo := 0) (hi := 42) rfl ((sy_i F 4).toInt).toNat
        have q72 : (sy_ai F 25).getD (sy_i F 4).toNatClampNeg 0 = (sy_ai F 25).getD ((sy_i F 4).toInt).toNat 0 := by simp only [nz_c]
        have n72 : ((sy_ai F 25).getD (sy_i F 4).toNatClampNeg 0).toInt = ((sy_ai F 25).getD ((sy_i F 4).toInt).toNat 0).toInt := congrArg Int32.toInt q72
        have r72 := nz_ba hB (k := 25) (lo := 0) (hi := 42) rfl ((sy_i F 4).toInt).toNat
        exfalso
        omega
      replace g5 : 34 ≤ ((sy_ai F 25).getD ((sy_i F 4).toInt).toNat 0).toInt := by omega
      by_cases g6 : 42 < ((sy_ai F 25).getD ((sy_i F 4).toInt).toNat 0).toInt
      · have c6 := nz_bx hB (k := 6) (lo := 0) (hi := 2) rfl
        have c4 := nz_bx hB (k := 4) (lo := 0) (hi := 400) rfl
        have q70 : (sy_ai F 25).getD (sy_i F 4).toNatClampNeg 0 = (sy_ai F 25).getD ((sy_i F 4).toInt).toNat 0 := by simp only [nz_c]
        have n70 : ((sy_ai F 25).getD (sy_i F 4).toNatClampNeg 0).toInt = ((sy_ai F 25).getD ((sy_i F 4).toInt).toNat 0).toInt := congrArg Int32.toInt q70
        have r70 := nz_ba hB (k := 25) (lo := 0) (hi := 42) rfl ((sy_i F 4).toInt).toNat
        have q71 : (sy_ai F 25).getD (sy_i F 4).toNatClampNeg 0 = (sy_ai F 25).getD ((sy_i F 4).toInt).toNat 0 := by simp only [nz_c]
        have n71 : ((sy_ai F 25).getD (sy_i F 4).toNatClampNeg 0).toInt = ((sy_ai F 25).getD ((sy_i F 4).toInt).toNat 0).toInt := congrArg Int32.toInt q71
        have r71 := nz_ba hB (k := 25) (lo := 0) (hi := 42) rfl ((sy_i F 4).toInt).toNat
        have q72 : (sy_ai F 25).getD (sy_i F 4).toNatClampNeg 0 = (sy_ai F 25).getD ((sy_i F 4).toInt).toNat 0 := by simp only [nz_c]
        have n72 : ((sy_ai F 25).getD (sy_i F 4).toNatClampNeg 0).toInt = ((sy_ai F 25).getD ((sy_i F 4).toInt).toNat 0).toInt := congrArg Int32.toInt q72
        have r72 := nz_ba hB (k := 25) (lo := 0) (hi := 42) rfl ((sy_i F 4).toInt).toNat
        have q73 : (sy_ai F 25).getD (sy_i F 4).toNatClampNeg 0 = (sy_ai F 25).getD ((sy_i F 4).toInt).toNat 0 := by simp only [nz_c]
        have n73 : ((sy_ai F 25).getD (sy_i F 4).toNatClampNeg 0).toInt = ((sy_ai F 25).getD ((sy_i F 4).toInt).toNat 0).toInt := congrArg Int32.toInt q73
        have r73 := nz_ba hB (k := 25) (lo := 0) (hi := 42) rfl ((sy_i F 4).toInt).toNat
        exfalso
        omega
      replace g6 : ((sy_ai F 25).getD ((sy_i F 4).toInt).toNat 0).toInt ≤ 42 := by omega
      by_cases g7 : (sy_i F 4).toInt ≠ 400
      · by_cases g8 : (sy_i F 6).toInt ≤ 0
        · have c6 := nz_bx hB (k := 6) (lo := 0) (hi := 2) rfl
          have c4 := nz_bx hB (k := 4) (lo := 0) (hi := 400) rfl
          have q70 : (sy_ai F 25).getD (sy_i F 4).toNatClampNeg 0 = (sy_ai F 25).getD ((sy_i F 4).toInt).toNat 0 := by simp only [nz_c]
          have n70 : ((sy_ai F 25).getD (sy_i F 4).toNatClampNeg 0).toInt = ((sy_ai F 25).getD ((sy_i F 4).toInt).toNat 0).toInt := congrArg Int32.toInt q70
          have r70 := nz_ba hB (k := 25) (lo := 0) (hi := 42) rfl ((sy_i F 4).toInt).toNat
          have q71 : (sy_ai F 25).getD (sy_i F 4).toNatClampNeg 0 = (sy_ai F 25).getD ((sy_i F 4).toInt).toNat 0 := by simp only [nz_c]
          have n71 : ((sy_ai F 25).getD (sy_i F 4).toNatClampNeg 0).toInt = ((sy_ai F 25).getD ((sy_i F 4).toInt).toNat 0).toInt := congrArg Int32.toInt q71
          have r71 := nz_ba hB (k := 25) (lo := 0) (hi := 42) rfl ((sy_i F 4).toInt).toNat
          have q72 : (sy_ai F 25).getD (sy_i F 4).toNatClampNeg 0 = (sy_ai F 25).getD ((sy_i F 4).toInt).toNat 0 := by simp only [nz_c]
          have n72 : ((sy_ai F 25).getD (sy_i F 4).toNatClampNeg 0).toInt = ((sy_ai F 25).getD ((sy_i F 4).toInt).toNat 0).toInt := congrArg Int32.toInt q72
          have r72 := nz_ba hB (k := 25) (lo := 0) (hi := 42) rfl ((sy_i F 4).toInt).toNat
          have q73 : (sy_ai F 25).getD (sy_i F 4).toNatClampNeg 0 = (sy_ai F 25).getD ((sy_i F 4).toInt).toNat 0 := by simp only [nz_c]
          have n73 : ((sy_ai F 25).getD (sy_i F 4).toNatClampNeg 0).toInt = ((sy_ai F 25).getD ((sy_i F 4).toInt).toNat 0).toInt := congrArg Int32.toInt q73
          have r73 := nz_ba hB (k := 25) (lo := 0) (hi := 42) rfl ((sy_i F 4).toInt).toNat
          have c15 := nz_bx hB (k := 15) (lo := 0) (hi := 840) rfl
          have n79 : ((sy_i F 4) + ((1 : Int32))).toInt = ((sy_i F 4).toInt + 1) := nz_add (rfl : (sy_i F 4).toInt = (sy_i F 4).toInt) (by decide : ((1 : Int32)).toInt = 1) (by omega) (by omega)
          have n78 : ((sy_i F 15) + ((1 : Int32))).toInt = ((sy_i F 15).toInt + 1) := nz_add (rfl : (sy_i F 15).toInt = (sy_i F 15).toInt) (by decide : ((1 : Int32)).toInt = 1) (by omega) (by omega)
          have w76 : jm_upd (sy_ai F 49) (sy_i F 15).toNatClampNeg ((1 : Int32)) = jm_upd (sy_ai F 49) ((sy_i F 15).toInt).toNat ((1 : Int32)) := by simp only [nz_c, (by decide : ((1 : Int32)).toInt = 1)]
          have q74 : (sy_ai F 25).getD (sy_i F 4).toNatClampNeg 0 = (sy_ai F 25).getD ((sy_i F 4).toInt).toNat 0 := by simp only [nz_c]
          have n74 : ((sy_ai F 25).getD (sy_i F 4).toNatClampNeg 0).toInt = ((sy_ai F 25).getD ((sy_i F 4).toInt).toNat 0).toInt := congrArg Int32.toInt q74
          have r74 := nz_ba hB (k := 25) (lo := 0) (hi := 42) rfl ((sy_i F 4).toInt).toNat
          have n75 : (((sy_ai F 25).getD (sy_i F 4).toNatClampNeg 0) - ((34 : Int32))).toInt = (((sy_ai F 25).getD ((sy_i F 4).toInt).toNat 0).toInt - 34) := nz_sub n74 (by decide : ((34 : Int32)).toInt = 34) (by omega) (by omega)
          have w77 : jm_upd (sy_ai F 50) (sy_i F 15).toNatClampNeg (((sy_ai F 25).getD (sy_i F 4).toNatClampNeg 0) - ((34 : Int32))) = jm_upd (sy_ai F 50) ((sy_i F 15).toInt).toNat (((sy_ai F 25).getD ((sy_i F 4).toInt).toNat 0) - ((34 : Int32))) := by simp only [nz_c, n75, (by decide : ((34 : Int32)).toInt = 34)]
          exact ex_23_p2 hd F X1 X2 hB (by first | exact g0 | (simp only [nz_c]; exact g0)) (by first | exact ⟨by omega, by omega⟩ | (simp only [nz_c]; exact ⟨by omega, by omega⟩)) (by first | exact g1 | (simp only [nz_c]; exact g1) | (rw [n70]; exact g1)) (by first | exact g2 | (simp only [nz_c]; exact g2)) (by first | exact ⟨by omega, by omega⟩ | (simp only [nz_c]; exact ⟨by omega, by omega⟩)) (by first | exact g3 | (simp only [nz_c]; exact g3) | (rw [n71]; exact g3)) (by first | exact g4 | (simp only [nz_c]; exact g4)) (by first | exact ⟨by omega, by omega⟩ | (simp only [nz_c]; exact ⟨by omega, by omega⟩)) (by first | exact g5 | (simp only [nz_c]; exact g5) | (rw [n72]; exact g5)) (by first | exact ⟨by omega, by omega⟩ | (simp only [nz_c]; exact ⟨by omega, by omega⟩)) (by first | exact g6 | (simp only [nz_c]; exact g6) | (rw [n73]; exact g6)) (by first | exact ⟨by omega, by omega⟩ | (simp only [nz_c]; exact ⟨by omega, by omega⟩)) (by first | exact (o0 g0 g1 g2 g3 g4 g5 g6) | (simp only [nz_c]; exact (o0 g0 g1 g2 g3 g4 g5 g6))) (by first | exact (o0 g0 g1 g2 g3 g4 g5 g6) | (simp only [nz_c]; exact (o0 g0 g1 g2 g3 g4 g5 g6))) (by first | exact g7 | (simp only [nz_c]; exact g7)) (by first | exact g8 | (simp only [nz_c]; exact g8)) (fun F1 g e4 e15 e49 e50 e69 => k2 g0 g1 g2 g3 g4 g5 g6 g7 g8 F1 (nz_in hB [4, 15, 49, 50] (fun j hj hn => g j hj (by simp only [List.mem_cons, List.not_mem_nil, or_false, not_or] at hn; omega)) (List.forall_mem_cons.mpr ⟨fun t ht => (Option.some.inj ht) ▸ (nz_hi e4 n79 (by omega) (by omega)), List.forall_mem_cons.mpr ⟨fun t ht => (Option.some.inj ht) ▸ (nz_hi e15 n78 (o6 g0 g1 g2 g3 g4 g5 g6 g7 g8).1 (o6 g0 g1 g2 g3 g4 g5 g6 g7 g8).2), List.forall_mem_cons.mpr ⟨fun t ht => (Option.some.inj ht) ▸ (nz_hA e49 (nz_up (nz_ba hB (k := 49) (lo := 0) (hi := 5) rfl) (by decide : ((1 : Int32)).toInt = 1) (by omega) (by omega))), List.forall_mem_cons.mpr ⟨fun t ht => (Option.some.inj ht) ▸ (nz_hz2 e50), List.forall_mem_nil _⟩⟩⟩⟩)) (fun j hj hn => g j hj (by simp only [List.mem_cons, List.not_mem_nil, or_false, not_or] at hn; omega)) ((congrArg Int32.toInt (zz_i e4)).trans n79) (nz_fi (g 5 (by decide) (by decide))) (nz_fi (g 6 (by decide) (by decide))) (nz_fi (g 7 (by decide) (by decide))) (nz_fi (g 11 (by decide) (by decide))) (nz_fi (g 12 (by decide) (by decide))) (nz_fi (g 14 (by decide) (by decide))) ((congrArg Int32.toInt (zz_i e15)).trans n78) (nz_fi (g 16 (by decide) (by decide))) (nz_fa (g 25 (by decide) (by decide))) (nz_fa (g 26 (by decide) (by decide))) ((zz_ai e49).trans w76) ((zz_ai e50).trans w77) (nz_fa (g 51 (by decide) (by decide))) ((congrArg Int32.toInt (zz_i e69)).trans (rfl : (sy_i F 69).toInt = (sy_i F 69).toInt)))
        replace g8 : 0 < (sy_i F 6).toInt := by omega
        have c6 := nz_bx hB (k := 6) (lo := 0) (hi := 2) rfl
        have c4 := nz_bx hB (k := 4) (lo := 0) (hi := 400) rfl
        have q70 : (sy_ai F 25).getD (sy_i F 4).toNatClampNeg 0 = (sy_ai F 25).getD ((sy_i F 4).toInt).toNat 0 := by simp only [nz_c]
        have n70 : ((sy_ai F 25).getD (sy_i F 4).toNatClampNeg 0).toInt = ((sy_ai F 25).getD ((sy_i F 4).toInt).toNat 0).toInt := congrArg Int32.toInt q70
        have r70 := nz_ba hB (k := 25) (lo := 0) (hi := 42) rfl ((sy_i F 4).toInt).toNat
        have q71 : (sy_ai F 25).getD (sy_i F 4).toNatClampNeg 0 = (sy_ai F 25).getD ((sy_i F 4).toInt).toNat 0 := by simp only [nz_c]
        have n71 : ((sy_ai F 25).getD (sy_i F 4).toNatClampNeg 0).toInt = ((sy_ai F 25).getD ((sy_i F 4).toInt).toNat 0).toInt := congrArg Int32.toInt q71
        have r71 := nz_ba hB (k := 25) (lo := 0) (hi := 42) rfl ((sy_i F 4).toInt).toNat
        have q72 : (sy_ai F 25).getD (sy_i F 4).toNatClampNeg 0 = (sy_ai F 25).getD ((sy_i F 4).toInt).toNat 0 := by simp only [nz_c]
        have n72 : ((sy_ai F 25).getD (sy_i F 4).toNatClampNeg 0).toInt = ((sy_ai F 25).getD ((sy_i F 4).toInt).toNat 0).toInt := congrArg Int32.toInt q72
        have r72 := nz_ba hB (k := 25) (lo := 0) (hi := 42) rfl ((sy_i F 4).toInt).toNat
        have q73 : (sy_ai F 25).getD (sy_i F 4).toNatClampNeg 0 = (sy_ai F 25).getD ((sy_i F 4).toInt).toNat 0 := by simp only [nz_c]
        have n73 : ((sy_ai F 25).getD (sy_i F 4).toNatClampNeg 0).toInt = ((sy_ai F 25).getD ((sy_i F 4).toInt).toNat 0).toInt := congrArg Int32.toInt q73
        have r73 := nz_ba hB (k := 25) (lo := 0) (hi := 42) rfl ((sy_i F 4).toInt).toNat
        have c15 := nz_bx hB (k := 15) (lo := 0) (hi := 840) rfl
        exfalso
        omega
      replace g7 : (sy_i F 4).toInt = 400 := by omega
      by_cases g8 : (sy_i F 6).toInt ≤ 0
      · have c6 := nz_bx hB (k := 6) (lo := 0) (hi := 2) rfl
        have c4 := nz_bx hB (k := 4) (lo := 0) (hi := 400) rfl
        have q70 : (sy_ai F 25).getD (sy_i F 4).toNatClampNeg 0 = (sy_ai F 25).getD ((sy_i F 4).toInt).toNat 0 := by simp only [nz_c]
        have n70 : ((sy_ai F 25).getD (sy_i F 4).toNatClampNeg 0).toInt = ((sy_ai F 25).getD ((sy_i F 4).toInt).toNat 0).toInt := congrArg Int32.toInt q70
        have r70 := nz_ba hB (k := 25) (lo := 0) (hi := 42) rfl ((sy_i F 4).toInt).toNat
        have q71 : (sy_ai F 25).getD (sy_i F 4).toNatClampNeg 0 = (sy_ai F 25).getD ((sy_i F 4).toInt).toNat 0 := by simp only [nz_c]
        have n71 : ((sy_ai F 25).getD (sy_i F 4).toNatClampNeg 0).toInt = ((sy_ai F 25).getD ((sy_i F 4).toInt).toNat 0).toInt := congrArg Int32.toInt q71
        have r71 := nz_ba hB (k := 25) (lo := 0) (hi := 42) rfl ((sy_i F 4).toInt).toNat
        have q72 : (sy_ai F 25).getD (sy_i F 4).toNatClampNeg 0 = (sy_ai F 25).getD ((sy_i F 4).toInt).toNat 0 := by simp only [nz_c]
        have n72 : ((sy_ai F 25).getD (sy_i F 4).toNatClampNeg 0).toInt = ((sy_ai F 25).getD ((sy_i F 4).toInt).toNat 0).toInt := congrArg Int32.toInt q72
        have r72 := nz_ba hB (k := 25) (lo := 0) (hi := 42) rfl ((sy_i F 4).toInt).toNat
        have q73 : (sy_ai F 25).getD (sy_i F 4).toNatClampNeg 0 = (sy_ai F 25).getD ((sy_i F 4).toInt).toNat 0 := by simp only [nz_c]
        have n73 : ((sy_ai F 25).getD (sy_i F 4).toNatClampNeg 0).toInt = ((sy_ai F 25).getD ((sy_i F 4).toInt).toNat 0).toInt := congrArg Int32.toInt q73
        have r73 := nz_ba hB (k := 25) (lo := 0) (hi := 42) rfl ((sy_i F 4).toInt).toNat
        have c15 := nz_bx hB (k := 15) (lo := 0) (hi := 840) rfl
        have q79 : (sy_ai F 26).getD (sy_i F 4).toNatClampNeg 0 = (sy_ai F 26).getD ((sy_i F 4).toInt).toNat 0 := by simp only [nz_c]
        have n79 : ((sy_ai F 26).getD (sy_i F 4).toNatClampNeg 0).toInt = ((sy_ai F 26).getD ((sy_i F 4).toInt).toNat 0).toInt := congrArg Int32.toInt q79
        have n78 : ((sy_i F 15) + ((1 : Int32))).toInt = ((sy_i F 15).toInt + 1) := nz_add (rfl : (sy_i F 15).toInt = (sy_i F 15).toInt) (by decide : ((1 : Int32)).toInt = 1) (by omega) (by omega)
        have w76 : jm_upd (sy_ai F 49) (sy_i F 15).toNatClampNeg ((1 : Int32)) = jm_upd (sy_ai F 49) ((sy_i F 15).toInt).toNat ((1 : Int32)) := by simp only [nz_c, (by decide : ((1 : Int32)).toInt = 1)]
        have q74 : (sy_ai F 25).getD (sy_i F 4).toNatClampNeg 0 = (sy_ai F 25).getD ((sy_i F 4).toInt).toNat 0 := by simp only [nz_c]
        have n74 : ((sy_ai F 25).getD (sy_i F 4).toNatClampNeg 0).toInt = ((sy_ai F 25).getD ((sy_i F 4).toInt).toNat 0).toInt := congrArg Int32.toInt q74
        have r74 := nz_ba hB (k := 25) (lo := 0) (hi := 42) rfl ((sy_i F 4).toInt).toNat
        have n75 : (((sy_ai F 25).getD (sy_i F 4).toNatClampNeg 0) - ((34 : Int32))).toInt = (((sy_ai F 25).getD ((sy_i F 4).toInt).toNat 0).toInt - 34) := nz_sub n74 (by decide : ((34 : Int32)).toInt = 34) (by omega) (by omega)
        have w77 : jm_upd (sy_ai F 50) (sy_i F 15).toNatClampNeg (((sy_ai F 25).getD (sy_i F 4).toNatClampNeg 0) - ((34 : Int32))) = jm_upd (sy_ai F 50) ((sy_i F 15).toInt).toNat (((sy_ai F 25).getD ((sy_i F 4).toInt).toNat 0) - ((34 : Int32))) := by simp only [nz_c, n75, (by decide : ((34 : Int32)).toInt = 34)]
        exact ex_23_p3 hd F X1 X2 hB (by first | exact g0 | (simp only [nz_c]; exact g0)) (by first | exact ⟨by omega, by omega⟩ | (simp only [nz_c]; exact ⟨by omega, by omega⟩)) (by first | exact g1 | (simp only [nz_c]; exact g1) | (rw [n70]; exact g1)) (by first | exact g2 | (simp only [nz_c]; exact g2)) (by first | exact ⟨by omega, by omega⟩ | (simp only [nz_c]; exact ⟨by omega, by omega⟩)) (by first | exact g3 | (simp only [nz_c]; exact g3) | (rw [n71]; exact g3)) (by first | exact g4 | (simp only [nz_c]; exact g4)) (by first | exact ⟨by omega, by omega⟩ | (simp only [nz_c]; exact ⟨by omega, by omega⟩)) (by first | exact g5 | (simp only [nz_c]; exact g5) | (rw [n72]; exact g5)) (by first | exact ⟨by omega, by omega⟩ | (simp only [nz_c]; exact ⟨by omega, by omega⟩)) (by first | exact g6 | (simp only [nz_c]; exact g6) | (rw [n73]; exact g6)) (by first | exact ⟨by omega, by omega⟩ | (simp only [nz_c]; exact ⟨by omega, by omega⟩)) (by first | exact (o0 g0 g1 g2 g3 g4 g5 g6) | (simp only [nz_c]; exact (o0 g0 g1 g2 g3 g4 g5 g6))) (by first | exact (o0 g0 g1 g2 g3 g4 g5 g6) | (simp only [nz_c]; exact (o0 g0 g1 g2 g3 g4 g5 g6))) (by first | exact g7 | (simp only [nz_c]; exact g7)) (by first | exact g8 | (simp only [nz_c]; exact g8)) (by first | exact ⟨by omega, by omega⟩ | (simp only [nz_c]; exact ⟨by omega, by omega⟩)) (fun F1 g e6 e7 e15 e49 e50 => k3 g0 g1 g2 g3 g4 g5 g6 g7 g8 F1 (nz_in hB [6, 7, 15, 49, 50] (fun j hj hn => g j hj (by simp only [List.mem_cons, List.not_mem_nil, or_false, not_or] at hn; omega)) (List.forall_mem_cons.mpr ⟨fun t ht => (Option.some.inj ht) ▸ (nz_hi e6 (by decide : ((2 : Int32)).toInt = 2) (by omega) (by omega)), List.forall_mem_cons.mpr ⟨fun t ht => (Option.some.inj ht) ▸ (nz_hz e7), List.forall_mem_cons.mpr ⟨fun t ht => (Option.some.inj ht) ▸ (nz_hi e15 n78 (o7 g0 g1 g2 g3 g4 g5 g6 g7 g8).1 (o7 g0 g1 g2 g3 g4 g5 g6 g7 g8).2), List.forall_mem_cons.mpr ⟨fun t ht => (Option.some.inj ht) ▸ (nz_hA e49 (nz_up (nz_ba hB (k := 49) (lo := 0) (hi := 5) rfl) (by decide : ((1 : Int32)).toInt = 1) (by omega) (by omega))), List.forall_mem_cons.mpr ⟨fun t ht => (Option.some.inj ht) ▸ (nz_hz2 e50), List.forall_mem_nil _⟩⟩⟩⟩⟩)) (fun j hj hn => g j hj (by simp only [List.mem_cons, List.not_mem_nil, or_false, not_or] at hn; omega)) (nz_fi (g 4 (by decide) (by decide))) (nz_fi (g 5 (by decide) (by decide))) ((congrArg Int32.toInt (zz_i e6)).trans (by decide : ((2 : Int32)).toInt = 2)) ((congrArg Int32.toInt (zz_i e7)).trans n79) (nz_fi (g 11 (by decide) (by decide))) (nz_fi (g 12 (by decide) (by decide))) (nz_fi (g 14 (by decide) (by decide))) ((congrArg Int32.toInt (zz_i e15)).trans n78) (nz_fi (g 16 (by decide) (by decide))) (nz_fa (g 25 (by decide) (by decide))) (nz_fa (g 26 (by decide) (by decide))) ((zz_ai e49).trans w76) ((zz_ai e50).trans w77) (nz_fa (g 51 (by decide) (by decide))))
      replace g8 : 0 < (sy_i F 6).toInt := by omega
      have c6 := nz_bx hB (k := 6) (lo := 0) (hi := 2) rfl
      have c4 := nz_bx hB (k := 4) (lo := 0) (hi := 400) rfl
      have q70 : (sy_ai F 25).getD (sy_i F 4).toNatClampNeg 0 = (sy_ai F 25).getD ((sy_i F 4).toInt).toNat 0 := by simp only [nz_c]
      have n70 : ((sy_ai F 25).getD (sy_i F 4).toNatClampNeg 0).toInt = ((sy_ai F 25).getD ((sy_i F 4).toInt).toNat 0).toInt := congrArg Int32.toInt q70
      have r70 := nz_ba hB (k := 25) (lo := 0) (hi := 42) rfl ((sy_i F 4).toInt).toNat
      have q71 : (sy_ai F 25).getD (sy_i F 4).toNatClampNeg 0 = (sy_ai F 25).getD ((sy_i F 4).toInt).toNat 0 := by simp only [nz_c]
      have n71 : ((sy_ai F 25).getD (sy_i F 4).toNatClampNeg 0).toInt = ((sy_ai F 25).getD ((sy_i F 4).toInt).toNat 0).toInt := congrArg Int32.toInt q71
      have r71 := nz_ba hB (k := 25) (lo := 0) (hi := 42) rfl ((sy_i F 4).toInt).toNat
      have q72 : (sy_ai F 25).getD (sy_i F 4).toNatClampNeg 0 = (sy_ai F 25).getD ((sy_i F 4).toInt).toNat 0 := by simp only [nz_c]
      have n72 : ((sy_ai F 25).getD (sy_i F 4).toNatClampNeg 0).toInt = ((sy_ai F 25).getD ((sy_i F 4).toInt).toNat 0).toInt := congrArg Int32.toInt q72
      have r72 := nz_ba hB (k := 25) (lo := 0) (hi := 42) rfl ((sy_i F 4).toInt).toNat
      have q73 : (sy_ai F 25).getD (sy_i F 4).toNatClampNeg 0 = (sy_ai F 25).getD ((sy_i F 4).toInt).toNat 0 := by simp only [nz_c]
      have n73 : ((sy_ai F 25).getD (sy_i F 4).toNatClampNeg 0).toInt = ((sy_ai F 25).getD ((sy_i F 4).toInt).toNat 0).toInt := congrArg Int32.toInt q73
      have r73 := nz_ba hB (k := 25) (lo := 0) (hi := 42) rfl ((sy_i F 4).toInt).toNat
      have c15 := nz_bx hB (k := 15) (lo := 0) (hi := 840) rfl
      exfalso
      omega
    replace g3 : ((sy_ai F 25).getD ((sy_i F 4).toInt).toNat 0).toInt = 2 := by omega
    by_cases g4 : (sy_i F 4).toInt ≠ 400
    · by_cases g5 : (sy_i F 6).toInt ≤ 0
      · have c6 := nz_bx hB (k := 6) (lo := 0) (hi := 2) rfl
        have c4 := nz_bx hB (k := 4) (lo := 0) (hi := 400) rfl
        have q70 : (sy_ai F 25).getD (sy_i F 4).toNatClampNeg 0 = (sy_ai F 25).getD ((sy_i F 4).toInt).toNat 0 := by simp only [nz_c]
        have n70 : ((sy_ai F 25).getD (sy_i F 4).toNatClampNeg 0).toInt = ((sy_ai F 25).getD ((sy_i F 4).toInt).toNat 0).toInt := congrArg Int32.toInt q70
        have r70 := nz_ba hB (k := 25) (lo := 0) (hi := 42) rfl ((sy_i F 4).toInt).toNat
        have q71 : (sy_ai F 25).getD (sy_i F 4).toNatClampNeg 0 = (sy_ai F 25).getD ((sy_i F 4).toInt).toNat 0 := by simp only [nz_c]
        have n71 : ((sy_ai F 25).getD (sy_i F 4).toNatClampNeg 0).toInt = ((sy_ai F 25).getD ((sy_i F 4).toInt).toNat 0).toInt := congrArg Int32.toInt q71
        have r71 := nz_ba hB (k := 25) (lo := 0) (hi := 42) rfl ((sy_i F 4).toInt).toNat
        have c15 := nz_bx hB (k := 15) (lo := 0) (hi := 840) rfl
        have n76 : ((sy_i F 4) + ((1 : Int32))).toInt = ((sy_i F 4).toInt + 1) := nz_add (rfl : (sy_i F 4).toInt = (sy_i F 4).toInt) (by decide : ((1 : Int32)).toInt = 1) (by omega) (by omega)
        have n75 : ((sy_i F 15) + ((1 : Int32))).toInt = ((sy_i F 15).toInt + 1) := nz_add (rfl : (sy_i F 15).toInt = (sy_i F 15).toInt) (by decide : ((1 : Int32)).toInt = 1) (by omega) (by omega)
        have w73 : jm_upd (sy_ai F 49) (sy_i F 15).toNatClampNeg ((0 : Int32)) = jm_upd (sy_ai F 49) ((sy_i F 15).toInt).toNat ((0 : Int32)) := by simp only [nz_c, (by decide : ((0 : Int32)).toInt = 0)]
        have w74 : jm_upd (sy_ai F 50) (sy_i F 15).toNatClampNeg ((sy_ai F 27).getD (sy_i F 4).toNatClampNeg 0) = jm_upd (sy_ai F 50) ((sy_i F 15).toInt).toNat ((sy_ai F 27).getD ((sy_i F 4).toInt).toNat 0) := by simp only [nz_c]
        exact ex_23_p4 hd F X1 X2 hB (by first | exact g0 | (simp only [nz_c]; exact g0)) (by first | exact ⟨by omega, by omega⟩ | (simp only [nz_c]; exact ⟨by omega, by omega⟩)) (by first | exact g1 | (simp only [nz_c]; exact g1) | (rw [n70]; exact g1)) (by first | exact g2 | (simp only [nz_c]; exact g2)) (by first | exact ⟨by omega, by omega⟩ | (simp only [nz_c]; exact ⟨by omega, by omega⟩)) (by first | exact g3 | (simp only [nz_c]; exact g3) | (rw [n71]; exact g3)) (by first | exact ⟨by omega, by omega⟩ | (simp only [nz_c]; exact ⟨by omega, by omega⟩)) (by first | exact (o1 g0 g1 g2 g3) | (simp only [nz_c]; exact (o1 g0 g1 g2 g3))) (by first | exact (o1 g0 g1 g2 g3) | (simp only [nz_c]; exact (o1 g0 g1 g2 g3))) (by first | exact g4 | (simp only [nz_c]; exact g4)) (by first | exact g5 | (simp only [nz_c]; exact g5)) (fun F1 g e4 e15 e49 e50 e69 => k4 g0 g1 g2 g3 g4 g5 F1 (nz_in hB [4, 15, 49, 50] (fun j hj hn => g j hj (by simp only [List.mem_cons, List.not_mem_nil, or_false, not_or] at hn; omega)) (List.forall_mem_cons.mpr ⟨fun t ht => (Option.some.inj ht) ▸ (nz_hi e4 n76 (by omega) (by omega)), List.forall_mem_cons.mpr ⟨fun t ht => (Option.some.inj ht) ▸ (nz_hi e15 n75 (o8 g0 g1 g2 g3 g4 g5).1 (o8 g0 g1 g2 g3 g4 g5).2), List.forall_mem_cons.mpr ⟨fun t ht => (Option.some.inj ht) ▸ (nz_hA e49 (nz_up (nz_ba hB (k := 49) (lo := 0) (hi := 5) rfl) (by decide : ((0 : Int32)).toInt = 0) (by omega) (by omega))), List.forall_mem_cons.mpr ⟨fun t ht => (Option.some.inj ht) ▸ (nz_hz2 e50), List.forall_mem_nil _⟩⟩⟩⟩)) (fun j hj hn => g j hj (by simp only [List.mem_cons, List.not_mem_nil, or_false, not_or] at hn; omega)) ((congrArg Int32.toInt (zz_i e4)).trans n76) (nz_fi (g 5 (by decide) (by decide))) (nz_fi (g 6 (by decide) (by decide))) (nz_fi (g 7 (by decide) (by decide))) (nz_fi (g 11 (by decide) (by decide))) (nz_fi (g 12 (by decide) (by decide))) (nz_fi (g 14 (by decide) (by decide))) ((congrArg Int32.toInt (zz_i e15)).trans n75) (nz_fi (g 16 (by decide) (by decide))) (nz_fa (g 25 (by decide) (by decide))) (nz_fa (g 26 (by decide) (by decide))) ((zz_ai e49).trans w73) ((zz_ai e50).trans w74) (nz_fa (g 51 (by decide) (by decide))) ((congrArg Int32.toInt (zz_i e69)).trans (rfl : (sy_i F 69).toInt = (sy_i F 69).toInt)))
      replace g5 : 0 < (sy_i F 6).toInt := by omega
      have c6 := nz_bx hB (k := 6) (lo := 0) (hi := 2) rfl
      have c4 := nz_bx hB (k := 4) (lo := 0) (hi := 400) rfl
      have q70 : (sy_ai F 25).getD (sy_i F 4).toNatClampNeg 0 = (sy_ai F 25).getD ((sy_i F 4).toInt).toNat 0 := by simp only [nz_c]
      have n70 : ((sy_ai F 25).getD (sy_i F 4).toNatClampNeg 0).toInt = ((sy_ai F 25).getD ((sy_i F 4).toInt).toNat 0).toInt := congrArg Int32.toInt q70
      have r70 := nz_ba hB (k := 25) (lo := 0) (hi := 42) rfl ((sy_i F 4).toInt).toNat
      have q71 : (sy_ai F 25).getD (sy_i F 4).toNatClampNeg 0 = (sy_ai F 25).getD ((sy_i F 4).toInt).toNat 0 := by simp only [nz_c]
      have n71 : ((sy_ai F 25).getD (sy_i F 4).toNatClampNeg 0).toInt = ((sy_ai F 25).getD ((sy_i F 4).toInt).toNat 0).toInt := congrArg Int32.toInt q71
      have r71 := nz_ba hB (k := 25) (lo := 0) (hi := 42) rfl ((sy_i F 4).toInt).toNat
      have c15 := nz_bx hB (k := 15) (lo := 0) (hi := 840) rfl
      exfalso
      omega
    replace g4 : (sy_i F 4).toInt = 400 := by omega
    by_cases g5 : (sy_i F 6).toInt ≤ 0
    · have c6 := nz_bx hB (k := 6) (lo := 0) (hi := 2) rfl
      have c4 := nz_bx hB (k := 4) (lo := 0) (hi := 400) rfl
      have q70 : (sy_ai F 25).getD (sy_i F 4).toNatClampNeg 0 = (sy_ai F 25).getD ((sy_i F 4).toInt).toNat 0 := by simp only [nz_c]
      have n70 : ((sy_ai F 25).getD (sy_i F 4).toNatClampNeg 0).toInt = ((sy_ai F 25).getD ((sy_i F 4).toInt).toNat 0).toInt := congrArg Int32.toInt q70
      have r70 := nz_ba hB (k := 25) (lo := 0) (hi := 42) rfl ((sy_i F 4).toInt).toNat
      have q71 : (sy_ai F 25).getD (sy_i F 4).toNatClampNeg 0 = (sy_ai F 25).getD ((sy_i F 4).toInt).toNat 0 := by simp only [nz_c]
      have n71 : ((sy_ai F 25).getD (sy_i F 4).toNatClampNeg 0).toInt = ((sy_ai F 25).getD ((sy_i F 4).toInt).toNat 0).toInt := congrArg Int32.toInt q71
      have r71 := nz_ba hB (k := 25) (lo := 0) (hi := 42) rfl ((sy_i F 4).toInt).toNat
      have c15 := nz_bx hB (k := 15) (lo := 0) (hi := 840) rfl
      have q76 : (sy_ai F 26).getD (sy_i F 4).toNatClampNeg 0 = (sy_ai F 26).getD ((sy_i F 4).toInt).toNat 0 := by simp only [nz_c]
      have n76 : ((sy_ai F 26).getD (sy_i F 4).toNatClampNeg 0).toInt = ((sy_ai F 26).getD ((sy_i F 4).toInt).toNat 0).toInt := congrArg Int32.toInt q76
      have n75 : ((sy_i F 15) + ((1 : Int32))).toInt = ((sy_i F 15).toInt + 1) := nz_add (rfl : (sy_i F 15).toInt = (sy_i F 15).toInt) (by decide : ((1 : Int32)).toInt = 1) (by omega) (by omega)
      have w73 : jm_upd (sy_ai F 49) (sy_i F 15).toNatClampNeg ((0 : Int32)) = jm_upd (sy_ai F 49) ((sy_i F 15).toInt).toNat ((0 : Int32)) := by simp only [nz_c, (by decide : ((0 : Int32)).toInt = 0)]
      have w74 : jm_upd (sy_ai F 50) (sy_i F 15).toNatClampNeg ((sy_ai F 27).getD (sy_i F 4).toNatClampNeg 0) = jm_upd (sy_ai F 50) ((sy_i F 15).toInt).toNat ((sy_ai F 27).getD ((sy_i F 4).toInt).toNat 0) := by simp only [nz_c]
      exact ex_23_p5 hd F X1 X2 hB (by first | exact g0 | (simp only [nz_c]; exact g0)) (by first | exact ⟨by omega, by omega⟩ | (simp only [nz_c]; exact ⟨by omega, by omega⟩)) (by first | exact g1 | (simp only [nz_c]; exact g1) | (rw [n70]; exact g1)) (by first | exact g2 | (simp only [nz_c]; exact g2)) (by first | exact ⟨by omega, by omega⟩ | (simp only [nz_c]; exact ⟨by omega, by omega⟩)) (by first | exact g3 | (simp only [nz_c]; exact g3) | (rw [n71]; exact g3)) (by first | exact ⟨by omega, by omega⟩ | (simp only [nz_c]; exact ⟨by omega, by omega⟩)) (by first | exact (o1 g0 g1 g2 g3) | (simp only [nz_c]; exact (o1 g0 g1 g2 g3))) (by first | exact (o1 g0 g1 g2 g3) | (simp only [nz_c]; exact (o1 g0 g1 g2 g3))) (by first | exact g4 | (simp only [nz_c]; exact g4)) (by first | exact g5 | (simp only [nz_c]; exact g5)) (by first | exact ⟨by omega, by omega⟩ | (simp only [nz_c]; exact ⟨by omega, by omega⟩)) (fun F1 g e6 e7 e15 e49 e50 => k5 g0 g1 g2 g3 g4 g5 F1 (nz_in hB [6, 7, 15, 49, 50] (fun j hj hn => g j hj (by simp only [List.mem_cons, List.not_mem_nil, or_false, not_or] at hn; omega)) (List.forall_mem_cons.mpr ⟨fun t ht => (Option.some.inj ht) ▸ (nz_hi e6 (by decide : ((2 : Int32)).toInt = 2) (by omega) (by omega)), List.forall_mem_cons.mpr ⟨fun t ht => (Option.some.inj ht) ▸ (nz_hz e7), List.forall_mem_cons.mpr ⟨fun t ht => (Option.some.inj ht) ▸ (nz_hi e15 n75 (o9 g0 g1 g2 g3 g4 g5).1 (o9 g0 g1 g2 g3 g4 g5).2), List.forall_mem_cons.mpr ⟨fun t ht => (Option.some.inj ht) ▸ (nz_hA e49 (nz_up (nz_ba hB (k := 49) (lo := 0) (hi := 5) rfl) (by decide : ((0 : Int32)).toInt = 0) (by omega) (by omega))), List.forall_mem_cons.mpr ⟨fun t ht => (Option.some.inj ht) ▸ (nz_hz2 e50), List.forall_mem_nil _⟩⟩⟩⟩⟩)) (fun j hj hn => g j hj (by simp only [List.mem_cons, List.not_mem_nil, or_false, not_or] at hn; omega)) (nz_fi (g 4 (by decide) (by decide))) (nz_fi (g 5 (by decide) (by decide))) ((congrArg Int32.toInt (zz_i e6)).trans (by decide : ((2 : Int32)).toInt = 2)) ((congrArg Int32.toInt (zz_i e7)).trans n76) (nz_fi (g 11 (by decide) (by decide))) (nz_fi (g 12 (by decide) (by decide))) (nz_fi (g 14 (by decide) (by decide))) ((congrArg Int32.toInt (zz_i e15)).trans n75) (nz_fi (g 16 (by decide) (by decide))) (nz_fa (g 25 (by decide) (by decide))) (nz_fa (g 26 (by decide) (by decide))) ((zz_ai e49).trans w73) ((zz_ai e50).trans w74) (nz_fa (g 51 (by decide) (by decide))))
    replace g5 : 0 < (sy_i F 6).toInt := by omega
    have c6 := nz_bx hB (k := 6) (lo := 0) (hi := 2) rfl
    have c4 := nz_bx hB (k := 4) (lo := 0) (hi := 400) rfl
    have q70 : (sy_ai F 25).getD (sy_i F 4).toNatClampNeg 0 = (sy_ai F 25).getD ((sy_i F 4).toInt).toNat 0 := by simp only [nz_c]
    have n70 : ((sy_ai F 25).getD (sy_i F 4).toNatClampNeg 0).toInt = ((sy_ai F 25).getD ((sy_i F 4).toInt).toNat 0).toInt := congrArg Int32.toInt q70
    have r70 := nz_ba hB (k := 25) (lo := 0) (hi := 42) rfl ((sy_i F 4).toInt).toNat
    have q71 : (sy_ai F 25).getD (sy_i F 4).toNatClampNeg 0 = (sy_ai F 25).getD ((sy_i F 4).toInt).toNat 0 := by simp only [nz_c]
    have n71 : ((sy_ai F 25).getD (sy_i F 4).toNatClampNeg 0).toInt = ((sy_ai F 25).getD ((sy_i F 4).toInt).toNat 0).toInt := congrArg Int32.toInt q71
    have r71 := nz_ba hB (k := 25) (lo := 0) (hi := 42) rfl ((sy_i F 4).toInt).toNat
    have c15 := nz_bx hB (k := 15) (lo := 0) (hi := 840) rfl
    exfalso
    omega
  replace g1 : ((sy_ai F 25).getD ((sy_i F 4).toInt).toNat 0).toInt = 6 := by omega
  by_cases g2 : (sy_i F 5).toInt ≠ 6
  · by_cases g3 : (sy_i F 4).toInt ≠ 400
    · have c6 := nz_bx hB (k := 6) (lo := 0) (hi := 2) rfl
      have c4 := nz_bx hB (k := 4) (lo := 0) (hi := 400) rfl
      have q70 : (sy_ai F 25).getD (sy_i F 4).toNatClampNeg 0 = (sy_ai F 25).getD ((sy_i F 4).toInt).toNat 0 := by simp only [nz_c]
      have n70 : ((sy_ai F 25).getD (sy_i F 4).toNatClampNeg 0).toInt = ((sy_ai F 25).getD ((sy_i F 4).toInt).toNat 0).toInt := congrArg Int32.toInt q70
      have r70 := nz_ba hB (k := 25) (lo := 0) (hi := 42) rfl ((sy_i F 4).toInt).toNat
      have c5 := nz_bx hB (k := 5) (lo := 0) (hi := 7) rfl
      have c16 := nz_bx hB (k := 16) (lo := 0) (hi := 64) rfl
      have n72 : ((sy_i F 4) + ((1 : Int32))).toInt = ((sy_i F 4).toInt + 1) := nz_add (rfl : (sy_i F 4).toInt = (sy_i F 4).toInt) (by decide : ((1 : Int32)).toInt = 1) (by omega) (by omega)
      have n71 : ((sy_i F 5) + ((1 : Int32))).toInt = ((sy_i F 5).toInt + 1) := nz_add (rfl : (sy_i F 5).toInt = (sy_i F 5).toInt) (by decide : ((1 : Int32)).toInt = 1) (by omega) (by omega)
      have n74 : ((sy_i F 16) + ((1 : Int32))).toInt = ((sy_i F 16).toInt + 1) := nz_add (rfl : (sy_i F 16).toInt = (sy_i F 16).toInt) (by decide : ((1 : Int32)).toInt = 1) (by omega) (by omega)
      have w73 : jm_upd (sy_ai F 51) (sy_i F 16).toNatClampNeg ((6 : Int32)) = jm_upd (sy_ai F 51) ((sy_i F 16).toInt).toNat ((6 : Int32)) := by simp only [nz_c, (by decide : ((6 : Int32)).toInt = 6)]
      exact ex_23_p6 hd F X1 X2 hB (by first | exact g0 | (simp only [nz_c]; exact g0)) (by first | exact ⟨by omega, by omega⟩ | (simp only [nz_c]; exact ⟨by omega, by omega⟩)) (by first | exact g1 | (simp only [nz_c]; exact g1) | (rw [n70]; exact g1)) (by first | exact g2 | (simp only [nz_c]; exact g2)) (by first | exact g3 | (simp only [nz_c]; exact g3)) (by first | exact (o2 g0 g1 g2 g3) | (simp only [nz_c]; exact (o2 g0 g1 g2 g3))) (fun F1 g e4 e5 e16 e51 e69 => k6 g0 g1 g2 g3 F1 (nz_in hB [4, 5, 16, 51] (fun j hj hn => g j hj (by simp only [List.mem_cons, List.not_mem_nil, or_false, not_or] at hn; omega)) (List.forall_mem_cons.mpr ⟨fun t ht => (Option.some.inj ht) ▸ (nz_hi e4 n72 (by omega) (by omega)), List.forall_mem_cons.mpr ⟨fun t ht => (Option.some.inj ht) ▸ (nz_hi e5 n71 (o10 g0 g1 g2 g3).1 (o10 g0 g1 g2 g3).2), List.forall_mem_cons.mpr ⟨fun t ht => (Option.some.inj ht) ▸ (nz_hi e16 n74 (o11 g0 g1 g2 g3).1 (o11 g0 g1 g2 g3).2), List.forall_mem_cons.mpr ⟨fun t ht => (Option.some.inj ht) ▸ (nz_hz2 e51), List.forall_mem_nil _⟩⟩⟩⟩)) (fun j hj hn => g j hj (by simp only [List.mem_cons, List.not_mem_nil, or_false, not_or] at hn; omega)) ((congrArg Int32.toInt (zz_i e4)).trans n72) ((congrArg Int32.toInt (zz_i e5)).trans n71) (nz_fi (g 6 (by decide) (by decide))) (nz_fi (g 7 (by decide) (by decide))) (nz_fi (g 11 (by decide) (by decide))) (nz_fi (g 12 (by decide) (by decide))) (nz_fi (g 14 (by decide) (by decide))) (nz_fi (g 15 (by decide) (by decide))) ((congrArg Int32.toInt (zz_i e16)).trans n74) (nz_fa (g 25 (by decide) (by decide))) (nz_fa (g 26 (by decide) (by decide))) (nz_fa (g 49 (by decide) (by decide))) (nz_fa (g 50 (by decide) (by decide))) ((zz_ai e51).trans w73) ((congrArg Int32.toInt (zz_i e69)).trans (rfl : (sy_i F 69).toInt = (sy_i F 69).toInt)))
    replace g3 : (sy_i F 4).toInt = 400 := by omega
    by_cases g4 : (sy_i F 6).toInt ≤ 0
    · have c6 := nz_bx hB (k := 6) (lo := 0) (hi := 2) rfl
      have c4 := nz_bx hB (k := 4) (lo := 0) (hi := 400) rfl
      have q70 : (sy_ai F 25).getD (sy_i F 4).toNatClampNeg 0 = (sy_ai F 25).getD ((sy_i F 4).toInt).toNat 0 := by simp only [nz_c]
      have n70 : ((sy_ai F 25).getD (sy_i F 4).toNatClampNeg 0).toInt = ((sy_ai F 25).getD ((sy_i F 4).toInt).toNat 0).toInt := congrArg Int32.toInt q70
      have r70 := nz_ba hB (k := 25) (lo := 0) (hi := 42) rfl ((sy_i F 4).toInt).toNat
      have c5 := nz_bx hB (k := 5) (lo := 0) (hi := 7) rfl
      have c16 := nz_bx hB (k := 16) (lo := 0) (hi := 64) rfl
      have n71 : ((sy_i F 5) + ((1 : Int32))).toInt = ((sy_i F 5).toInt + 1) := nz_add (rfl : (sy_i F 5).toInt = (sy_i F 5).toInt) (by decide : ((1 : Int32)).toInt = 1) (by omega) (by omega)
      have q72 : (sy_ai F 26).getD (sy_i F 4).toNatClampNeg 0 = (sy_ai F 26).getD ((sy_i F 4).toInt).toNat 0 := by simp only [nz_c]
      have n72 : ((sy_ai F 26).getD (sy_i F 4).toNatClampNeg 0).toInt = ((sy_ai F 26).getD ((sy_i F 4).toInt).toNat 0).toInt := congrArg Int32.toInt q72
      have n74 : ((sy_i F 16) + ((1 : Int32))).toInt = ((sy_i F 16).toInt + 1) := nz_add (rfl : (sy_i F 16).toInt = (sy_i F 16).toInt) (by decide : ((1 : Int32)).toInt = 1) (by omega) (by omega)
      have w73 : jm_upd (sy_ai F 51) (sy_i F 16).toNatClampNeg ((6 : Int32)) = jm_upd (sy_ai F 51) ((sy_i F 16).toInt).toNat ((6 : Int32)) := by simp only [nz_c, (by decide : ((6 : Int32)).toInt = 6)]
      exact ex_23_p7 hd F X1 X2 hB (by first | exact g0 | (simp only [nz_c]; exact g0)) (by first | exact ⟨by omega, by omega⟩ | (simp only [nz_c]; exact ⟨by omega, by omega⟩)) (by first | exact g1 | (simp only [nz_c]; exact g1) | (rw [n70]; exact g1)) (by first | exact g2 | (simp only [nz_c]; exact g2)) (by first | exact g3 | (simp only [nz_c]; exact g3)) (by first | exact g4 | (simp only [nz_c]; exact g4)) (by first | exact ⟨by omega, by omega⟩ | (simp only [nz_c]; exact ⟨by omega, by omega⟩)) (by first | exact (o3 g0 g1 g2 g3 g4) | (simp only [nz_c]; exact (o3 g0 g1 g2 g3 g4))) (fun F1 g e5 e6 e7 e16 e51 e69 => k7 g0 g1 g2 g3 g4 F1 (nz_in hB [5, 6, 7, 16, 51] (fun j hj hn => g j hj (by simp only [List.mem_cons, List.not_mem_nil, or_false, not_or] at hn; omega)) (List.forall_mem_cons.mpr ⟨fun t ht => (Option.some.inj ht) ▸ (nz_hi e5 n71 (o12 g0 g1 g2 g3 g4).1 (o12 g0 g1 g2 g3 g4).2), List.forall_mem_cons.mpr ⟨fun t ht => (Option.some.inj ht) ▸ (nz_hi e6 (by decide : ((2 : Int32)).toInt = 2) (by omega) (by omega)), List.forall_mem_cons.mpr ⟨fun t ht => (Option.some.inj ht) ▸ (nz_hz e7), List.forall_mem_cons.mpr ⟨fun t ht => (Option.some.inj ht) ▸ (nz_hi e16 n74 (o13 g0 g1 g2 g3 g4).1 (o13 g0 g1 g2 g3 g4).2), List.forall_mem_cons.mpr ⟨fun t ht => (Option.some.inj ht) ▸ (nz_hz2 e51), List.forall_mem_nil _⟩⟩⟩⟩⟩)) (fun j hj hn => g j hj (by simp only [List.mem_cons, List.not_mem_nil, or_false, not_or] at hn; omega)) (nz_fi (g 4 (by decide) (by decide))) ((congrArg Int32.toInt (zz_i e5)).trans n71) ((congrArg Int32.toInt (zz_i e6)).trans (by decide : ((2 : Int32)).toInt = 2)) ((congrArg Int32.toInt (zz_i e7)).trans n72) (nz_fi (g 11 (by decide) (by decide))) (nz_fi (g 12 (by decide) (by decide))) (nz_fi (g 14 (by decide) (by decide))) (nz_fi (g 15 (by decide) (by decide))) ((congrArg Int32.toInt (zz_i e16)).trans n74) (nz_fa (g 25 (by decide) (by decide))) (nz_fa (g 26 (by decide) (by decide))) (nz_fa (g 49 (by decide) (by decide))) (nz_fa (g 50 (by decide) (by decide))) ((zz_ai e51).trans w73) ((congrArg Int32.toInt (zz_i e69)).trans (rfl : (sy_i F 69).toInt = (sy_i F 69).toInt)))
    replace g4 : 0 < (sy_i F 6).toInt := by omega
    have c6 := nz_bx hB (k := 6) (lo := 0) (hi := 2) rfl
    have c4 := nz_bx hB (k := 4) (lo := 0) (hi := 400) rfl
    have q70 : (sy_ai F 25).getD (sy_i F 4).toNatClampNeg 0 = (sy_ai F 25).getD ((sy_i F 4).toInt).toNat 0 := by simp only [nz_c]
    have n70 : ((sy_ai F 25).getD (sy_i F 4).toNatClampNeg 0).toInt = ((sy_ai F 25).getD ((sy_i F 4).toInt).toNat 0).toInt := congrArg Int32.toInt q70
    have r70 := nz_ba hB (k := 25) (lo := 0) (hi := 42) rfl ((sy_i F 4).toInt).toNat
    have c5 := nz_bx hB (k := 5) (lo := 0) (hi := 7) rfl
    exfalso
    omega
  replace g2 : (sy_i F 5).toInt = 6 := by omega
  by_cases g3 : (sy_i F 6).toInt ≤ 0
  · by_cases g4 : (sy_i F 4).toInt ≠ 400
    · have c6 := nz_bx hB (k := 6) (lo := 0) (hi := 2) rfl
      have c4 := nz_bx hB (k := 4) (lo := 0) (hi := 400) rfl
      have q70 : (sy_ai F 25).getD (sy_i F 4).toNatClampNeg 0 = (sy_ai F 25).getD ((sy_i F 4).toInt).toNat 0 := by simp only [nz_c]
      have n70 : ((sy_ai F 25).getD (sy_i F 4).toNatClampNeg 0).toInt = ((sy_ai F 25).getD ((sy_i F 4).toInt).toNat 0).toInt := congrArg Int32.toInt q70
      have r70 := nz_ba hB (k := 25) (lo := 0) (hi := 42) rfl ((sy_i F 4).toInt).toNat
      have c5 := nz_bx hB (k := 5) (lo := 0) (hi := 7) rfl
      have c16 := nz_bx hB (k := 16) (lo := 0) (hi := 64) rfl
      have n73 : ((sy_i F 4) + ((1 : Int32))).toInt = ((sy_i F 4).toInt + 1) := nz_add (rfl : (sy_i F 4).toInt = (sy_i F 4).toInt) (by decide : ((1 : Int32)).toInt = 1) (by omega) (by omega)
      have n72 : ((sy_i F 5) + ((1 : Int32))).toInt = ((sy_i F 5).toInt + 1) := nz_add (rfl : (sy_i F 5).toInt = (sy_i F 5).toInt) (by decide : ((1 : Int32)).toInt = 1) (by omega) (by omega)
      have q71 : (sy_ai F 26).getD (sy_i F 4).toNatClampNeg 0 = (sy_ai F 26).getD ((sy_i F 4).toInt).toNat 0 := by simp only [nz_c]
      have n71 : ((sy_ai F 26).getD (sy_i F 4).toNatClampNeg 0).toInt = ((sy_ai F 26).getD ((sy_i F 4).toInt).toNat 0).toInt := congrArg Int32.toInt q71
      have n75 : ((sy_i F 16) + ((1 : Int32))).toInt = ((sy_i F 16).toInt + 1) := nz_add (rfl : (sy_i F 16).toInt = (sy_i F 16).toInt) (by decide : ((1 : Int32)).toInt = 1) (by omega) (by omega)
      have w74 : jm_upd (sy_ai F 51) (sy_i F 16).toNatClampNeg ((6 : Int32)) = jm_upd (sy_ai F 51) ((sy_i F 16).toInt).toNat ((6 : Int32)) := by simp only [nz_c, (by decide : ((6 : Int32)).toInt = 6)]
      exact ex_23_p8 hd F X1 X2 hB (by first | exact g0 | (simp only [nz_c]; exact g0)) (by first | exact ⟨by omega, by omega⟩ | (simp only [nz_c]; exact ⟨by omega, by omega⟩)) (by first | exact g1 | (simp only [nz_c]; exact g1) | (rw [n70]; exact g1)) (by first | exact g2 | (simp only [nz_c]; exact g2)) (by first | exact g3 | (simp only [nz_c]; exact g3)) (by first | exact ⟨by omega, by omega⟩ | (simp only [nz_c]; exact ⟨by omega, by omega⟩)) (by first | exact g4 | (simp only [nz_c]; exact g4)) (by first | exact (o4 g0 g1 g2 g3 g4) | (simp only [nz_c]; exact (o4 g0 g1 g2 g3 g4))) (fun F1 g e4 e5 e6 e7 e16 e51 e69 => k8 g0 g1 g2 g3 g4 F1 (nz_in hB [4, 5, 6, 7, 16, 51] (fun j hj hn => g j hj (by simp only [List.mem_cons, List.not_mem_nil, or_false, not_or] at hn; omega)) (List.forall_mem_cons.mpr ⟨fun t ht => (Option.some.inj ht) ▸ (nz_hi e4 n73 (by omega) (by omega)), List.forall_mem_cons.mpr ⟨fun t ht => (Option.some.inj ht) ▸ (nz_hi e5 n72 (by omega) (by omega)), List.forall_mem_cons.mpr ⟨fun t ht => (Option.some.inj ht) ▸ (nz_hi e6 (by decide : ((2 : Int32)).toInt = 2) (by omega) (by omega)), List.forall_mem_cons.mpr ⟨fun t ht => (Option.some.inj ht) ▸ (nz_hz e7), List.forall_mem_cons.mpr ⟨fun t ht => (Option.some.inj ht) ▸ (nz_hi e16 n75 (o14 g0 g1 g2 g3 g4).1 (o14 g0 g1 g2 g3 g4).2), List.forall_mem_cons.mpr ⟨fun t ht => (Option.some.inj ht) ▸ (nz_hz2 e51), List.forall_mem_nil _⟩⟩⟩⟩⟩⟩)) (fun j hj hn => g j hj (by simp only [List.mem_cons, List.not_mem_nil, or_false, not_or] at hn; omega)) ((congrArg Int32.toInt (zz_i e4)).trans n73) ((congrArg Int32.toInt (zz_i e5)).trans n72) ((congrArg Int32.toInt (zz_i e6)).trans (by decide : ((2 : Int32)).toInt = 2)) ((congrArg Int32.toInt (zz_i e7)).trans n71) (nz_fi (g 11 (by decide) (by decide))) (nz_fi (g 12 (by decide) (by decide))) (nz_fi (g 14 (by decide) (by decide))) (nz_fi (g 15 (by decide) (by decide))) ((congrArg Int32.toInt (zz_i e16)).trans n75) (nz_fa (g 25 (by decide) (by decide))) (nz_fa (g 26 (by decide) (by decide))) (nz_fa (g 49 (by decide) (by decide))) (nz_fa (g 50 (by decide) (by decide))) ((zz_ai e51).trans w74) ((congrArg Int32.toInt (zz_i e69)).trans (rfl : (sy_i F 69).toInt = (sy_i F 69).toInt)))
    replace g4 : (sy_i F 4).toInt = 400 := by omega
    have c6 := nz_bx hB (k := 6) (lo := 0) (hi := 2) rfl
    have c4 := nz_bx hB (k := 4) (lo := 0) (hi := 400) rfl
    have q70 : (sy_ai F 25).getD (sy_i F 4).toNatClampNeg 0 = (sy_ai F 25).getD ((sy_i F 4).toInt).toNat 0 := by simp only [nz_c]
    have n70 : ((sy_ai F 25).getD (sy_i F 4).toNatClampNeg 0).toInt = ((sy_ai F 25).getD ((sy_i F 4).toInt).toNat 0).toInt := congrArg Int32.toInt q70
    have r70 := nz_ba hB (k := 25) (lo := 0) (hi := 42) rfl ((sy_i F 4).toInt).toNat
    have c5 := nz_bx hB (k := 5) (lo := 0) (hi := 7) rfl
    have c16 := nz_bx hB (k := 16) (lo := 0) (hi := 64) rfl
    have n72 : ((sy_i F 5) + ((1 : Int32))).toInt = ((sy_i F 5).toInt + 1) := nz_add (rfl : (sy_i F 5).toInt = (sy_i F 5).toInt) (by decide : ((1 : Int32)).toInt = 1) (by omega) (by omega)
    have q71 : (sy_ai F 26).getD (sy_i F 4).toNatClampNeg 0 = (sy_ai F 26).getD ((sy_i F 4).toInt).toNat 0 := by simp only [nz_c]
    have n71 : ((sy_ai F 26).getD (sy_i F 4).toNatClampNeg 0).toInt = ((sy_ai F 26).getD ((sy_i F 4).toInt).toNat 0).toInt := congrArg Int32.toInt q71
    have n74 : ((sy_i F 16) + ((1 : Int32))).toInt = ((sy_i F 16).toInt + 1) := nz_add (rfl : (sy_i F 16).toInt = (sy_i F 16).toInt) (by decide : ((1 : Int32)).toInt = 1) (by omega) (by omega)
    have w73 : jm_upd (sy_ai F 51) (sy_i F 16).toNatClampNeg ((6 : Int32)) = jm_upd (sy_ai F 51) ((sy_i F 16).toInt).toNat ((6 : Int32)) := by simp only [nz_c, (by decide : ((6 : Int32)).toInt = 6)]
    exact ex_23_p9 hd F X1 X2 hB (by first | exact g0 | (simp only [nz_c]; exact g0)) (by first | exact ⟨by omega, by omega⟩ | (simp only [nz_c]; exact ⟨by omega, by omega⟩)) (by first | exact g1 | (simp only [nz_c]; exact g1) | (rw [n70]; exact g1)) (by first | exact g2 | (simp only [nz_c]; exact g2)) (by first | exact g3 | (simp only [nz_c]; exact g3)) (by first | exact ⟨by omega, by omega⟩ | (simp only [nz_c]; exact ⟨by omega, by omega⟩)) (by first | exact g4 | (simp only [nz_c]; exact g4)) (by first | exact (o5 g0 g1 g2 g3 g4) | (simp only [nz_c]; exact (o5 g0 g1 g2 g3 g4))) (fun F1 g e5 e6 e7 e16 e51 e69 => k9 g0 g1 g2 g3 g4 F1 (nz_in hB [5, 6, 7, 16, 51] (fun j hj hn => g j hj (by simp only [List.mem_cons, List.not_mem_nil, or_false, not_or] at hn; omega)) (List.forall_mem_cons.mpr ⟨fun t ht => (Option.some.inj ht) ▸ (nz_hi e5 n72 (by omega) (by omega)), List.forall_mem_cons.mpr ⟨fun t ht => (Option.some.inj ht) ▸ (nz_hi e6 (by decide : ((2 : Int32)).toInt = 2) (by omega) (by omega)), List.forall_mem_cons.mpr ⟨fun t ht => (Option.some.inj ht) ▸ (nz_hz e7), List.forall_mem_cons.mpr ⟨fun t ht => (Option.some.inj ht) ▸ (nz_hi e16 n74 (o15 g0 g1 g2 g3 g4).1 (o15 g0 g1 g2 g3 g4).2), List.forall_mem_cons.mpr ⟨fun t ht => (Option.some.inj ht) ▸ (nz_hz2 e51), List.forall_mem_nil _⟩⟩⟩⟩⟩)) (fun j hj hn => g j hj (by simp only [List.mem_cons, List.not_mem_nil, or_false, not_or] at hn; omega)) (nz_fi (g 4 (by decide) (by decide))) ((congrArg Int32.toInt (zz_i e5)).trans n72) ((congrArg Int32.toInt (zz_i e6)).trans (by decide : ((2 : Int32)).toInt = 2)) ((congrArg Int32.toInt (zz_i e7)).trans n71) (nz_fi (g 11 (by decide) (by decide))) (nz_fi (g 12 (by decide) (by decide))) (nz_fi (g 14 (by decide) (by decide))) (nz_fi (g 15 (by decide) (by decide))) ((congrArg Int32.toInt (zz_i e16)).trans n74) (nz_fa (g 25 (by decide) (by decide))) (nz_fa (g 26 (by decide) (by decide))) (nz_fa (g 49 (by decide) (by decide))) (nz_fa (g 50 (by decide) (by decide))) ((zz_ai e51).trans w73) ((congrArg Int32.toInt (zz_i e69)).trans (rfl : (sy_i F 69).toInt = (sy_i F 69).toInt)))
  replace g3 : 0 < (sy_i F 6).toInt := by omega
  have c6 := nz_bx hB (k := 6) (lo := 0) (hi := 2) rfl
  have c4 := nz_bx hB (k := 4) (lo := 0) (hi := 400) rfl
  have q70 : (sy_ai F 25).getD (sy_i F 4).toNatClampNeg 0 = (sy_ai F 25).getD ((sy_i F 4).toInt).toNat 0 := by simp only [nz_c]
  have n70 : ((sy_ai F 25).getD (sy_i F 4).toNatClampNeg 0).toInt = ((sy_ai F 25).getD ((sy_i F 4).toInt).toNat 0).toInt := congrArg Int32.toInt q70
  have r70 := nz_ba hB (k := 25) (lo := 0) (hi := 42) rfl ((sy_i F 4).toInt).toNat
  have c5 := nz_bx hB (k := 5) (lo := 0) (hi := 7) rfl
  exfalso
  omega
theorem exy_96 {Ls : Nat} {xs : Nat → Int32} {d : Nat} {Q : Option Value → jm_h → Prop} (hd : 4 ≤ d) (F : Nat → sy_d) (X1 X2 : List jm_c) (hB : iv_in F iv_B4)
    (k0 : (sy_i F 6).toInt ≠ 0 → (sy_i F 6).toInt ≠ 0 → (sy_i F 6).toInt ≠ 0 → (sy_i F 6).toInt ≠ 0 → (sy_i F 6).toInt ≠ 0 → (sy_i F 5).toInt ≤ (sy_i F 69).toInt → ∀ F1 : Nat → sy_d, iv_in F1 iv_B4 → (∀ j, j < 69 → j ∉ ([] : List Nat) → F1 j = F j) → (sy_i F1 4).toInt = (sy_i F 4).toInt → (sy_i F1 5).toInt = (sy_i F 5).toInt → (sy_i F1 6).toInt = (sy_i F 6).toInt → (sy_i F1 7).toInt = (sy_i F 7).toInt → (sy_i F1 11).toInt = (sy_i F 11).toInt → (sy_i F1 12).toInt = (sy_i F 12).toInt → (sy_i F1 14).toInt = (sy_i F 14).toInt → (sy_i F1 15).toInt = (sy_i F 15).toInt → (sy_i F1 16).toInt = (sy_i F 16).toInt → sy_ai F1 25 = sy_ai F 25 → sy_ai F1 26 = sy_ai F 26 → sy_ai F1 49 = sy_ai F 49 → sy_ai F1 50 = sy_ai F 50 → sy_ai F1 51 = sy_ai F 51 → hd_W Ls xs d jm_M164 Q (206, sy_dL F1 [some (.inl (.ref 1000)), none, none], sy_dS F1 [.inl (.int 0), .inl (.ref 1000)], sy_dh F1 X1 X2 (iv_H 4), 0, 0))
    (k1 : (sy_i F 6).toInt ≠ 0 → (sy_i F 6).toInt ≠ 0 → (sy_i F 6).toInt ≠ 0 → (sy_i F 6).toInt ≠ 0 → (sy_i F 6).toInt ≠ 0 → (sy_i F 69).toInt < (sy_i F 5).toInt → 0 < (sy_i F 6).toInt → ∀ F1 : Nat → sy_d, iv_in F1 iv_B4 → (∀ j, j < 69 → j ∉ ([] : List Nat) → F1 j = F j) → (sy_i F1 4).toInt = (sy_i F 4).toInt → (sy_i F1 5).toInt = (sy_i F 5).toInt → (sy_i F1 6).toInt = (sy_i F 6).toInt → (sy_i F1 7).toInt = (sy_i F 7).toInt → (sy_i F1 11).toInt = (sy_i F 11).toInt → (sy_i F1 12).toInt = (sy_i F 12).toInt → (sy_i F1 14).toInt = (sy_i F 14).toInt → (sy_i F1 15).toInt = (sy_i F 15).toInt → (sy_i F1 16).toInt = (sy_i F 16).toInt → sy_ai F1 25 = sy_ai F 25 → sy_ai F1 26 = sy_ai F 26 → sy_ai F1 49 = sy_ai F 49 → sy_ai F1 50 = sy_ai F 50 → sy_ai F1 51 = sy_ai F 51 → hd_W Ls xs d jm_M164 Q (206, sy_dL F1 [some (.inl (.ref 1000)), none, none], sy_dS F1 [.inl (.int 0), .inl (.ref 1000)], sy_dh F1 X1 X2 (iv_H 4), 0, 0))
    (k2 : (sy_i F 6).toInt = 0 → ((sy_ai F 25).getD ((sy_i F 4).toInt).toNat 0).toInt ≠ 7 → (sy_i F 6).toInt = 0 → ((sy_ai F 25).getD ((sy_i F 4).toInt).toNat 0).toInt ≠ 8 → (sy_i F 6).toInt = 0 → ((sy_ai F 25).getD ((sy_i F 4).toInt).toNat 0).toInt ≠ 9 → (sy_i F 6).toInt = 0 → ((sy_ai F 25).getD ((sy_i F 4).toInt).toNat 0).toInt ≠ 10 → (sy_i F 6).toInt = 0 → ((sy_ai F 25).getD ((sy_i F 4).toInt).toNat 0).toInt ≠ 15 → (sy_i F 5).toInt ≤ (sy_i F 69).toInt → ∀ F1 : Nat → sy_d, iv_in F1 iv_B4 → (∀ j, j < 69 → j ∉ ([] : List Nat) → F1 j = F j) → (sy_i F1 4).toInt = (sy_i F 4).toInt → (sy_i F1 5).toInt = (sy_i F 5).toInt → (sy_i F1 6).toInt = (sy_i F 6).toInt → (sy_i F1 7).toInt = (sy_i F 7).toInt → (sy_i F1 11).toInt = (sy_i F 11).toInt → (sy_i F1 12).toInt = (sy_i F 12).toInt → (sy_i F1 14).toInt = (sy_i F 14).toInt → (sy_i F1 15).toInt = (sy_i F 15).toInt → (sy_i F1 16).toInt = (sy_i F 16).toInt → sy_ai F1 25 = sy_ai F 25 → sy_ai F1 26 = sy_ai F 26 → sy_ai F1 49 = sy_ai F 49 → sy_ai F1 50 = sy_ai F 50 → sy_ai F1 51 = sy_ai F 51 → hd_W Ls xs d jm_M164 Q (206, sy_dL F1 [some (.inl (.ref 1000)), none, none], sy_dS F1 [.inl (.int 0), .inl (.ref 1000)], sy_dh F1 X1 X2 (iv_H 4), 0, 0))
    (k3 : (sy_i F 6).toInt = 0 → ((sy_ai F 25).getD ((sy_i F 4).toInt).toNat 0).toInt ≠ 7 → (sy_i F 6).toInt = 0 → ((sy_ai F 25).getD ((sy_i F 4).toInt).toNat 0).toInt ≠ 8 → (sy_i F 6).toInt = 0 → ((sy_ai F 25).getD ((sy_i F 4).toInt).toNat 0).toInt ≠ 9 → (sy_i F 6).toInt = 0 → ((sy_ai F 25).getD ((sy_i F 4).toInt).toNat 0).toInt ≠ 10 → (sy_i F 6).toInt = 0 → ((sy_ai F 25).getD ((sy_i F 4).toInt).toNat 0).toInt ≠ 15 → (sy_i F 69).toInt < (sy_i F 5).toInt → (sy_i F 6).toInt ≤ 0 → ∀ F1 : Nat → sy_d, iv_in F1 iv_B4 → (∀ j, j < 69 → j ∉ ([6, 7] : List Nat) → F1 j = F j) → (sy_i F1 4).toInt = (sy_i F 4).toInt → (sy_i F1 5).toInt = (sy_i F 5).toInt → (sy_i F1 6).toInt = 1 → (sy_i F1 7).toInt = ((sy_ai F 26).getD ((sy_i F 4).toInt).toNat 0).toInt → (sy_i F1 11).toInt = (sy_i F 11).toInt → (sy_i F1 12).toInt = (sy_i F 12).toInt → (sy_i F1 14).toInt = (sy_i F 14).toInt → (sy_i F1 15).toInt = (sy_i F 15).toInt → (sy_i F1 16).toInt = (sy_i F 16).toInt → sy_ai F1 25 = sy_ai F 25 → sy_ai F1 26 = sy_ai F 26 → sy_ai F1 49 = sy_ai F 49 → sy_ai F1 50 = sy_ai F 50 → sy_ai F1 51 = sy_ai F 51 → hd_W Ls xs d jm_M164 Q (206, sy_dL F1 [some (.inl (.ref 1000)), none, none], sy_dS F1 [.inl (.int 0), .inl (.ref 1000)], sy_dh F1 X1 X2 (iv_H 4), 0, 0))
    (k4 : (sy_i F 6).toInt = 0 → ((sy_ai F 25).getD ((sy_i F 4).toInt).toNat 0).toInt ≠ 7 → (sy_i F 6).toInt = 0 → ((sy_ai F 25).getD ((sy_i F 4).toInt).toNat 0).toInt ≠ 8 → (sy_i F 6).toInt = 0 → ((sy_ai F 25).getD ((sy_i F 4).toInt).toNat 0).toInt ≠ 9 → (sy_i F 6).toInt = 0 → ((sy_ai F 25).getD ((sy_i F 4).toInt).toNat 0).toInt ≠ 10 → (sy_i F 6).toInt = 0 → ((sy_ai F 25).getD ((sy_i F 4).toInt).toNat 0).toInt = 15 → (sy_i F 6).toInt = 0 → ((sy_ai F 25).getD ((sy_i F 4).toInt).toNat 0).toInt ≠ 10 → (sy_i F 6).toInt = 0 → ((sy_ai F 25).getD ((sy_i F 4).toInt).toNat 0).toInt = 15 → ∀ F1 : Nat → sy_d, iv_in F1 iv_B4 → (∀ j, j < 69 → j ∉ ([] : List Nat) → F1 j = F j) → (sy_i F1 4).toInt = (sy_i F 4).toInt → (sy_i F1 5).toInt = (sy_i F 5).toInt → (sy_i F1 6).toInt = (sy_i F 6).toInt → (sy_i F1 7).toInt = (sy_i F 7).toInt → (sy_i F1 11).toInt = (sy_i F 11).toInt → (sy_i F1 12).toInt = (sy_i F 12).toInt → (sy_i F1 14).toInt = (sy_i F 14).toInt → (sy_i F1 15).toInt = (sy_i F 15).toInt → (sy_i F1 16).toInt = (sy_i F 16).toInt → sy_ai F1 25 = sy_ai F 25 → sy_ai F1 26 = sy_ai F 26 → sy_ai F1 49 = sy_ai F 49 → sy_ai F1 50 = sy_ai F 50 → sy_ai F1 51 = sy_ai F 51 → (sy_i F1 69).toInt = (sy_i F 69).toInt → (sy_i F1 70).toInt = 1 → hd_W Ls xs d jm_M164 Q (234, sy_dL F1 [some (.inl (.ref 1000)), some (.inr (.inl 69)), some (.inl (.int 1))], sy_dS F1 [.inr (.inl 70), .inl (.ref 1000)], sy_dh F1 X1 X2 (iv_H 4), 0, 0))
    (k5 : (sy_i F 6).toInt = 0 → ((sy_ai F 25).getD ((sy_i F 4).toInt).toNat 0).toInt ≠ 7 → (sy_i F 6).toInt = 0 → ((sy_ai F 25).getD ((sy_i F 4).toInt).toNat 0).toInt ≠ 8 → (sy_i F 6).toInt = 0 → ((sy_ai F 25).getD ((sy_i F 4).toInt).toNat 0).toInt ≠ 9 → (sy_i F 6).toInt = 0 → ((sy_ai F 25).getD ((sy_i F 4).toInt).toNat 0).toInt = 10 → (sy_i F 6).toInt = 0 → ((sy_ai F 25).getD ((sy_i F 4).toInt).toNat 0).toInt = 10 → ∀ F1 : Nat → sy_d, iv_in F1 iv_B4 → (∀ j, j < 69 → j ∉ ([] : List Nat) → F1 j = F j) → (sy_i F1 4).toInt = (sy_i F 4).toInt → (sy_i F1 5).toInt = (sy_i F 5).toInt → (sy_i F1 6).toInt = (sy_i F 6).toInt → (sy_i F1 7).toInt = (sy_i F 7).toInt → (sy_i F1 11).toInt = (sy_i F 11).toInt → (sy_i F1 12).toInt = (sy_i F 12).toInt → (sy_i F1 14).toInt = (sy_i F 14).toInt → (sy_i F1 15).toInt = (sy_i F 15).toInt → (sy_i F1 16).toInt = (sy_i F 16).toInt → sy_ai F1 25 = sy_ai F 25 → sy_ai F1 26 = sy_ai F 26 → sy_ai F1 49 = sy_ai F 49 → sy_ai F1 50 = sy_ai F 50 → sy_ai F1 51 = sy_ai F 51 → (sy_i F1 69).toInt = (sy_i F 69).toInt → (sy_i F1 70).toInt = 1 → hd_W Ls xs d jm_M164 Q (234, sy_dL F1 [some (.inl (.ref 1000)), some (.inr (.inl 69)), some (.inl (.int 1))], sy_dS F1 [.inr (.inl 70), .inl (.ref 1000)], sy_dh F1 X1 X2 (iv_H 4), 0, 0))
    (k6 : (sy_i F 6).toInt = 0 → ((sy_ai F 25).getD ((sy_i F 4).toInt).toNat 0).toInt ≠ 7 → (sy_i F 6).toInt = 0 → ((sy_ai F 25).getD ((sy_i F 4).toInt).toNat 0).toInt ≠ 8 → (sy_i F 6).toInt = 0 → ((sy_ai F 25).getD ((sy_i F 4).toInt).toNat 0).toInt = 9 → (sy_i F 6).toInt = 0 → ((sy_ai F 25).getD ((sy_i F 4).toInt).toNat 0).toInt ≠ 10 → (sy_i F 6).toInt = 0 → ((sy_ai F 25).getD ((sy_i F 4).toInt).toNat 0).toInt ≠ 15 → ∀ F1 : Nat → sy_d, iv_in F1 iv_B4 → (∀ j, j < 69 → j ∉ ([] : List Nat) → F1 j = F j) → (sy_i F1 4).toInt = (sy_i F 4).toInt → (sy_i F1 5).toInt = (sy_i F 5).toInt → (sy_i F1 6).toInt = (sy_i F 6).toInt → (sy_i F1 7).toInt = (sy_i F 7).toInt → (sy_i F1 11).toInt = (sy_i F 11).toInt → (sy_i F1 12).toInt = (sy_i F 12).toInt → (sy_i F1 14).toInt = (sy_i F 14).toInt → (sy_i F1 15).toInt = (sy_i F 15).toInt → (sy_i F1 16).toInt = (sy_i F 16).toInt → sy_ai F1 25 = sy_ai F 25 → sy_ai F1 26 = sy_ai F 26 → sy_ai F1 49 = sy_ai F 49 → sy_ai F1 50 = sy_ai F 50 → sy_ai F1 51 = sy_ai F 51 → (sy_i F1 69).toInt = (sy_i F 69).toInt → (sy_i F1 70).toInt = 0 → hd_W Ls xs d jm_M164 Q (234, sy_dL F1 [some (.inl (.ref 1000)), some (.inr (.inl 69)), some (.inl (.int 1))], sy_dS F1 [.inr (.inl 70), .inl (.ref 1000)], sy_dh F1 X1 X2 (iv_H 4), 0, 0))
    (k7 : (sy_i F 6).toInt = 0 → ((sy_ai F 25).getD ((sy_i F 4).toInt).toNat 0).toInt ≠ 7 → (sy_i F 6).toInt = 0 → ((sy_ai F 25).getD ((sy_i F 4).toInt).toNat 0).toInt = 8 → (sy_i F 6).toInt = 0 → ((sy_ai F 25).getD ((sy_i F 4).toInt).toNat 0).toInt ≠ 10 → (sy_i F 6).toInt = 0 → ((sy_ai F 25).getD ((sy_i F 4).toInt).toNat 0).toInt ≠ 15 → ∀ F1 : Nat → sy_d, iv_in F1 iv_B4 → (∀ j, j < 69 → j ∉ ([] : List Nat) → F1 j = F j) → (sy_i F1 4).toInt = (sy_i F 4).toInt → (sy_i F1 5).toInt = (sy_i F 5).toInt → (sy_i F1 6).toInt = (sy_i F 6).toInt → (sy_i F1 7).toInt = (sy_i F 7).toInt → (sy_i F1 11).toInt = (sy_i F 11).toInt → (sy_i F1 12).toInt = (sy_i F 12).toInt → (sy_i F1 14).toInt = (sy_i F 14).toInt → (sy_i F1 15).toInt = (sy_i F 15).toInt → (sy_i F1 16).toInt = (sy_i F 16).toInt → sy_ai F1 25 = sy_ai F 25 → sy_ai F1 26 = sy_ai F 26 → sy_ai F1 49 = sy_ai F 49 → sy_ai F1 50 = sy_ai F 50 → sy_ai F1 51 = sy_ai F 51 → (sy_i F1 69).toInt = (sy_i F 69).toInt → (sy_i F1 70).toInt = 0 → hd_W Ls xs d jm_M164 Q (234, sy_dL F1 [some (.inl (.ref 1000)), some (.inr (.inl 69)), some (.inl (.int 1))], sy_dS F1 [.inr (.inl 70), .inl (.ref 1000)], sy_dh F1 X1 X2 (iv_H 4), 0, 0))
    (k8 : (sy_i F 6).toInt = 0 → ((sy_ai F 25).getD ((sy_i F 4).toInt).toNat 0).toInt = 7 → (sy_i F 5).toInt ≤ (sy_i F 69).toInt → (sy_i F 6).toInt = 0 → ((sy_ai F 25).getD ((sy_i F 4).toInt).toNat 0).toInt ≠ 8 → (sy_i F 6).toInt = 0 → ((sy_ai F 25).getD ((sy_i F 4).toInt).toNat 0).toInt ≠ 9 → (sy_i F 6).toInt = 0 → ((sy_ai F 25).getD ((sy_i F 4).toInt).toNat 0).toInt ≠ 10 → (sy_i F 6).toInt = 0 → ((sy_ai F 25).getD ((sy_i F 4).toInt).toNat 0).toInt ≠ 15 → (sy_i F 5).toInt ≤ (sy_i F 69).toInt → ∀ F1 : Nat → sy_d, iv_in F1 iv_B4 → (∀ j, j < 69 → j ∉ ([] : List Nat) → F1 j = F j) → (sy_i F1 4).toInt = (sy_i F 4).toInt → (sy_i F1 5).toInt = (sy_i F 5).toInt → (sy_i F1 6).toInt = (sy_i F 6).toInt → (sy_i F1 7).toInt = (sy_i F 7).toInt → (sy_i F1 11).toInt = (sy_i F 11).toInt → (sy_i F1 12).toInt = (sy_i F 12).toInt → (sy_i F1 14).toInt = (sy_i F 14).toInt → (sy_i F1 15).toInt = (sy_i F 15).toInt → (sy_i F1 16).toInt = (sy_i F 16).toInt → sy_ai F1 25 = sy_ai F 25 → sy_ai F1 26 = sy_ai F 26 → sy_ai F1 49 = sy_ai F 49 → sy_ai F1 50 = sy_ai F 50 → sy_ai F1 51 = sy_ai F 51 → hd_W Ls xs d jm_M164 Q (206, sy_dL F1 [some (.inl (.ref 1000)), none, none], sy_dS F1 [.inl (.int 0), .inl (.ref 1000)], sy_dh F1 X1 X2 (iv_H 4), 0, 0))
    (k9 : (sy_i F 6).toInt = 0 → ((sy_ai F 25).getD ((sy_i F 4).toInt).toNat 0).toInt = 7 → (sy_i F 5).toInt ≤ (sy_i F 69).toInt → (sy_i F 6).toInt = 0 → ((sy_ai F 25).getD ((sy_i F 4).toInt).toNat 0).toInt ≠ 8 → (sy_i F 6).toInt = 0 → ((sy_ai F 25).getD ((sy_i F 4).toInt).toNat 0).toInt ≠ 9 → (sy_i F 6).toInt = 0 → ((sy_ai F 25).getD ((sy_i F 4).toInt).toNat 0).toInt ≠ 10 → (sy_i F 6).toInt = 0 → ((sy_ai F 25).getD ((sy_i F 4).toInt).toNat 0).toInt ≠ 15 → (sy_i F 69).toInt < (sy_i F 5).toInt → (sy_i F 6).toInt ≤ 0 → ∀ F1 : Nat → sy_d, iv_in F1 iv_B4 → (∀ j, j < 69 → j ∉ ([6, 7] : List Nat) → F1 j = F j) → (sy_i F1 4).toInt = (sy_i F 4).toInt → (sy_i F1 5).toInt = (sy_i F 5).toInt → (sy_i F1 6).toInt = 1 → (sy_i F1 7).toInt = ((sy_ai F 26).getD ((sy_i F 4).toInt).toNat 0).toInt → (sy_i F1 11).toInt = (sy_i F 11).toInt → (sy_i F1 12).toInt = (sy_i F 12).toInt → (sy_i F1 14).toInt = (sy_i F 14).toInt → (sy_i F1 15).toInt = (sy_i F 15).toInt → (sy_i F1 16).toInt = (sy_i F 16).toInt → sy_ai F1 25 = sy_ai F 25 → sy_ai F1 26 = sy_ai F 26 → sy_ai F1 49 = sy_ai F 49 → sy_ai F1 50 = sy_ai F 50 → sy_ai F1 51 = sy_ai F 51 → hd_W Ls xs d jm_M164 Q (206, sy_dL F1 [some (.inl (.ref 1000)), none, none], sy_dS F1 [.inl (.int 0), .inl (.ref 1000)], sy_dh F1 X1 X2 (iv_H 4), 0, 0))
    (k10 : (sy_i F 6).toInt = 0 → ((sy_ai F 25).getD ((sy_i F 4).toInt).toNat 0).toInt = 7 → (sy_i F 69).toInt < (sy_i F 5).toInt → ∀ F1 : Nat → sy_d, iv_in F1 iv_B4 → (∀ j, j < 69 → j ∉ ([] : List Nat) → F1 j = F j) → (sy_i F1 4).toInt = (sy_i F 4).toInt → (sy_i F1 5).toInt = (sy_i F 5).toInt → (sy_i F1 6).toInt = (sy_i F 6).toInt → (sy_i F1 7).toInt = (sy_i F 7).toInt → (sy_i F1 11).toInt = (sy_i F 11).toInt → (sy_i F1 12).toInt = (sy_i F 12).toInt → (sy_i F1 14).toInt = (sy_i F 14).toInt → (sy_i F1 15).toInt = (sy_i F 15).toInt → (sy_i F1 16).toInt = (sy_i F 16).toInt → sy_ai F1 25 = sy_ai F 25 → sy_ai F1 26 = sy_ai F 26 → sy_ai F1 49 = sy_ai F 49 → sy_ai F1 50 = sy_ai F 50 → sy_ai F1 51 = sy_ai F 51 → (sy_i F1 69).toInt = (sy_i F 69).toInt → hd_W Ls xs d jm_M164 Q (115, sy_dL F1 [some (.inl (.ref 1000)), some (.inr (.inl 69)), some (.inl (.int 1))], sy_dS F1 [.inl (.int 0), .inl (.ref 1000)], sy_dh F1 X1 X2 (iv_H 4), 0, 0)) :
    hd_W Ls xs d jm_M164 Q (96, sy_dL F [some (.inl (.ref 1000)), some (.inr (.inl 69)), some (.inl (.int 1))], sy_dS F [], sy_dh F X1 X2 (iv_H 4), 0, 0) := by
  by_cases g0 : (sy_i F 6).toInt ≠ 0
  · by_cases g1 : (sy_i F 6).toInt ≠ 0
    · by_cases g2 : (sy_i F 6).toInt ≠ 0
      · by_cases g3 : (sy_i F 6).toInt ≠ 0
        · by_cases g4 : (sy_i F 6).toInt ≠ 0
          · by_cases g5 : (sy_i F 5).toInt ≤ (sy_i F 69).toInt
            · have c6 := nz_bx hB (k := 6) (lo := 0) (hi := 2) rfl
              have c5 := nz_bx hB (k := 5) (lo := 0) (hi := 7) rfl
              exact ex_96_p0 hd F X1 X2 hB (by first | exact g0 | (simp only [nz_c]; exact g0)) (by first | exact g1 | (simp only [nz_c]; exact g1)) (by first | exact g2 | (simp only [nz_c]; exact g2)) (by first | exact g3 | (simp only [nz_c]; exact g3)) (by first | exact g4 | (simp only [nz_c]; exact g4)) (by first | exact g5 | (simp only [nz_c]; exact g5)) (fun F1 g  => k0 g0 g1 g2 g3 g4 g5 F1 (nz_in hB [] (fun j hj hn => g j hj (by simp only [List.mem_cons, List.not_mem_nil, or_false, not_or] at hn; exact trivial)) (List.forall_mem_nil _)) (fun j hj hn => g j hj (by simp only [List.mem_cons, List.not_mem_nil, or_false, not_or] at hn; exact trivial)) (nz_fi (g 4 (by decide) (by decide))) (nz_fi (g 5 (by decide) (by decide))) (nz_fi (g 6 (by decide) (by decide))) (nz_fi (g 7 (by decide) (by decide))) (nz_fi (g 11 (by decide) (by decide))) (nz_fi (g 12 (by decide) (by decide))) (nz_fi (g 14 (by decide) (by decide))) (nz_fi (g 15 (by decide) (by decide))) (nz_fi (g 16 (by decide) (by decide))) (nz_fa (g 25 (by decide) (by decide))) (nz_fa (g 26 (by decide) (by decide))) (nz_fa (g 49 (by decide) (by decide))) (nz_fa (g 50 (by decide) (by decide))) (nz_fa (g 51 (by decide) (by decide))))
            replace g5 : (sy_i F 69).toInt < (sy_i F 5).toInt := by omega
            by_cases g6 : (sy_i F 6).toInt ≤ 0
            · have c6 := nz_bx hB (k := 6) (lo := 0) (hi := 2) rfl
              have c5 := nz_bx hB (k := 5) (lo := 0) (hi := 7) rfl
              exfalso
              omega
            replace g6 : 0 < (sy_i F 6).toInt := by omega
            have c6 := nz_bx hB (k := 6) (lo := 0) (hi := 2) rfl
            have c5 := nz_bx hB (k := 5) (lo := 0) (hi := 7) rfl
            exact ex_96_p1 hd F X1 X2 hB (by first | exact g0 | (simp only [nz_c]; exact g0)) (by first | exact g1 | (simp only [nz_c]; exact g1)) (by first | exact g2 | (simp only [nz_c]; exact g2)) (by first | exact g3 | (simp only [nz_c]; exact g3)) (by first | exact g4 | (simp only [nz_c]; exact g4)) (by first | exact g5 | (simp only [nz_c]; exact g5)) (by first | exact g6 | (simp only [nz_c]; exact g6)) (fun F1 g  => k1 g0 g1 g2 g3 g4 g5 g6 F1 (nz_in hB [] (fun j hj hn => g j hj (by simp only [List.mem_cons, List.not_mem_nil, or_false, not_or] at hn; exact trivial)) (List.forall_mem_nil _)) (fun j hj hn => g j hj (by simp only [List.mem_cons, List.not_mem_nil, or_false, not_or] at hn; exact trivial)) (nz_fi (g 4 (by decide) (by decide))) (nz_fi (g 5 (by decide) (by decide))) (nz_fi (g 6 (by decide) (by decide))) (nz_fi (g 7 (by decide) (by decide))) (nz_fi (g 11 (by decide) (by decide))) (nz_fi (g 12 (by decide) (by decide))) (nz_fi (g 14 (by decide) (by decide))) (nz_fi (g 15 (by decide) (by decide))) (nz_fi (g 16 (by decide) (by decide))) (nz_fa (g 25 (by decide) (by decide))) (nz_fa (g 26 (by decide) (by decide))) (nz_fa (g 49 (by decide) (by decide))) (nz_fa (g 50 (by decide) (by decide))) (nz_fa (g 51 (by decide) (by decide))))
          replace g4 : (sy_i F 6).toInt = 0 := by omega
          have c6 := nz_bx hB (k := 6) (lo := 0) (hi := 2) rfl
          exfalso
          omega
        replace g3 : (sy_i F 6).toInt = 0 := by omega
        have c6 := nz_bx hB (k := 6) (lo := 0) (hi := 2) rfl
        exfalso
        omega
      replace g2 : (sy_i F 6).toInt = 0 := by omega
      have c6 := nz_bx hB (k := 6) (lo := 0) (hi := 2) rfl
      exfalso
      omega
    replace g1 : (sy_i F 6).toInt = 0 := by omega
    have c6 := nz_bx hB (k := 6) (lo := 0) (hi := 2) rfl
    exfalso
    omega
  replace g0 : (sy_i F 6).toInt = 0 := by omega
  by_cases g1 : ((sy_ai F 25).getD ((sy_i F 4).toInt).toNat 0).toInt ≠ 7
  · by_cases g2 : (sy_i F 6).toInt ≠ 0
    · have c6 := nz_bx hB (k := 6) (lo := 0) (hi := 2) rfl
      have c4 := nz_bx hB (k := 4) (lo := 0) (hi := 400) rfl
      have q70 : (sy_ai F 25).getD (sy_i F 4).toNatClampNeg 0 = (sy_ai F 25).getD ((sy_i F 4).toInt).toNat 0 := by simp only [nz_c]
      have n70 : ((sy_ai F 25).getD (sy_i F 4).toNatClampNeg 0).toInt = ((sy_ai F 25).getD ((sy_i F 4).toInt).toNat 0).toInt := congrArg Int32.toInt q70
      have r70 := nz_ba hB (k := 25) (lo := 0) (hi := 42) rfl ((sy_i F 4).toInt).toNat
      exfalso
      omega
    replace g2 : (sy_i F 6).toInt = 0 := by omega
    by_cases g3 : ((sy_ai F 25).getD ((sy_i F 4).toInt).toNat 0).toInt ≠ 8
    · by_cases g4 : (sy_i F 6).toInt ≠ 0
      · have c6 := nz_bx hB (k := 6) (lo := 0) (hi := 2) rfl
        have c4 := nz_bx hB (k := 4) (lo := 0) (hi := 400) rfl
        have q70 : (sy_ai F 25).getD (sy_i F 4).toNatClampNeg 0 = (sy_ai F 25).getD ((sy_i F 4).toInt).toNat 0 := by simp only [nz_c]
        have n70 : ((sy_ai F 25).getD (sy_i F 4).toNatClampNeg 0).toInt = ((sy_ai F 25).getD ((sy_i F 4).toInt).toNat 0).toInt := congrArg Int32.toInt q70
        have r70 := nz_ba hB (k := 25) (lo := 0) (hi := 42) rfl ((sy_i F 4).toInt).toNat
        have q71 : (sy_ai F 25).getD (sy_i F 4).toNatClampNeg 0 = (sy_ai F 25).getD ((sy_i F 4).toInt).toNat 0 := by simp only [nz_c]
        have n71 : ((sy_ai F 25).getD (sy_i F 4).toNatClampNeg 0).toInt = ((sy_ai F 25).getD ((sy_i F 4).toInt).toNat 0).toInt := congrArg Int32.toInt q71
        have r71 := nz_ba hB (k := 25) (lo := 0) (hi := 42) rfl ((sy_i F 4).toInt).toNat
        exfalso
        omega
      replace g4 : (sy_i F 6).toInt = 0 := by omega
      by_cases g5 : ((sy_ai F 25).getD ((sy_i F 4).toInt).toNat 0).toInt ≠ 9
      · by_cases g6 : (sy_i F 6).toInt ≠ 0
        · have c6 := nz_bx hB (k := 6) (lo := 0) (hi := 2) rfl
          have c4 := nz_bx hB (k := 4) (lo := 0) (hi := 400) rfl
          have q70 : (sy_ai F 25).getD (sy_i F 4).toNatClampNeg 0 = (sy_ai F 25).getD ((sy_i F 4).toInt).toNat 0 := by simp only [nz_c]
          have n70 : ((sy_ai F 25).getD (sy_i F 4).toNatClampNeg 0).toInt = ((sy_ai F 25).getD ((sy_i F 4).toInt).toNat 0).toInt := congrArg Int32.toInt q70
          have r70 := nz_ba hB (k := 25) (lo := 0) (hi := 42) rfl ((sy_i F 4).toInt).toNat
          have q71 : (sy_ai F 25).getD (sy_i F 4).toNatClampNeg 0 = (sy_ai F 25).getD ((sy_i F 4).toInt).toNat 0 := by simp only [nz_c]
          have n71 : ((sy_ai F 25).getD (sy_i F 4).toNatClampNeg 0).toInt = ((sy_ai F 25).getD ((sy_i F 4).toInt).toNat 0).toInt := congrArg Int32.toInt q71
          have r71 := nz_ba hB (k := 25) (lo := 0) (hi := 42) rfl ((sy_i F 4).toInt).toNat
          have q72 : (sy_ai F 25).getD (sy_i F 4).toNatClampNeg 0 = (sy_ai F 25).getD ((sy_i F 4).toInt).toNat 0 := by simp only [nz_c]
          have n72 : ((sy_ai F 25).getD (sy_i F 4).toNatClampNeg 0).toInt = ((sy_ai F 25).getD ((sy_i F 4).toInt).toNat 0).toInt := congrArg Int32.toInt q72
          have r72 := nz_ba hB (k := 25) (lo := 0) (hi := 42) rfl ((sy_i F 4).toInt).toNat
          exfalso
          omega
        replace g6 : (sy_i F 6).toInt = 0 := by omega
        by_cases g7 : ((sy_ai F 25).getD ((sy_i F 4).toInt).toNat 0).toInt ≠ 10
        · by_cases g8 : (sy_i F 6).toInt ≠ 0
          · have c6 := nz_bx hB (k := 6) (lo := 0) (hi := 2) rfl
            have c4 := nz_bx hB (k := 4) (lo := 0) (hi := 400) rfl
            have q70 : (sy_ai F 25).getD (sy_i F 4).toNatClampNeg 0 = (sy_ai F 25).getD ((sy_i F 4).toInt).toNat 0 := by simp only [nz_c]
            have n70 : ((sy_ai F 25).getD (sy_i F 4).toNatClampNeg 0).toInt = ((sy_ai F 25).getD ((sy_i F 4).toInt).toNat 0).toInt := congrArg Int32.toInt q70
            have r70 := nz_ba hB (k := 25) (lo := 0) (hi := 42) rfl ((sy_i F 4).toInt).toNat
            have q71 : (sy_ai F 25).getD (sy_i F 4).toNatClampNeg 0 = (sy_ai F 25).getD ((sy_i F 4).toInt).toNat 0 := by simp only [nz_c]
            have n71 : ((sy_ai F 25).getD (sy_i F 4).toNatClampNeg 0).toInt = ((sy_ai F 25).getD ((sy_i F 4).toInt).toNat 0).toInt := congrArg Int32.toInt q71
            have r71 := nz_ba hB (k := 25) (lo := 0) (hi := 42) rfl ((sy_i F 4).toInt).toNat
            have q72 : (sy_ai F 25).getD (sy_i F 4).toNatClampNeg 0 = (sy_ai F 25).getD ((sy_i F 4).toInt).toNat 0 := by simp only [nz_c]
            have n72 : ((sy_ai F 25).getD (sy_i F 4).toNatClampNeg 0).toInt = ((sy_ai F 25).getD ((sy_i F 4).toInt).toNat 0).toInt := congrArg Int32.toInt q72
            have r72 := nz_ba hB (k := 25) (lo := 0) (hi := 42) rfl ((sy_i F 4).toInt).toNat
            have q73 : (sy_ai F 25).getD (sy_i F 4).toNatClampNeg 0 = (sy_ai F 25).getD ((sy_i F 4).toInt).toNat 0 := by simp only [nz_c]
            have n73 : ((sy_ai F 25).getD (sy_i F 4).toNatClampNeg 0).toInt = ((sy_ai F 25).getD ((sy_i F 4).toInt).toNat 0).toInt := congrArg Int32.toInt q73
            have r73 := nz_ba hB (k := 25) (lo := 0) (hi := 42) rfl ((sy_i F 4).toInt).toNat
            exfalso
            omega
          replace g8 : (sy_i F 6).toInt = 0 := by omega
          by_cases g9 : ((sy_ai F 25).getD ((sy_i F 4).toInt).toNat 0).toInt ≠ 15
          · by_cases g10 : (sy_i F 5).toInt ≤ (sy_i F 69).toInt
            · have c6 := nz_bx hB (k := 6) (lo := 0) (hi := 2) rfl
              have c4 := nz_bx hB (k := 4) (lo := 0) (hi := 400) rfl
              have q70 : (sy_ai F 25).getD (sy_i F 4).toNatClampNeg 0 = (sy_ai F 25).getD ((sy_i F 4).toInt).toNat 0 := by simp only [nz_c]
              have n70 : ((sy_ai F 25).getD (sy_i F 4).toNatClampNeg 0).toInt = ((sy_ai F 25).getD ((sy_i F 4).toInt).toNat 0).toInt := congrArg Int32.toInt q70
              have r70 := nz_ba hB (k := 25) (lo := 0) (hi := 42) rfl ((sy_i F 4).toInt).toNat
              have q71 : (sy_ai F 25).getD (sy_i F 4).toNatClampNeg 0 = (sy_ai F 25).getD ((sy_i F 4).toInt).toNat 0 := by simp only [nz_c]
              have n71 : ((sy_ai F 25).getD (sy_i F 4).toNatClampNeg 0).toInt = ((sy_ai F 25).getD ((sy_i F 4).toInt).toNat 0).toInt := congrArg Int32.toInt q71
              have r71 := nz_ba hB (k := 25) (lo := 0) (hi := 42) rfl ((sy_i F 4).toInt).toNat
              have q72 : (sy_ai F 25).getD (sy_i F 4).toNatClampNeg 0 = (sy_ai F 25).getD ((sy_i F 4).toInt).toNat 0 := by simp only [nz_c]
              have n72 : ((sy_ai F 25).getD (sy_i F 4).toNatClampNeg 0).toInt = ((sy_ai F 25).getD ((sy_i F 4).toInt).toNat 0).toInt := congrArg Int32.toInt q72
              have r72 := nz_ba hB (k := 25) (lo := 0) (hi := 42) rfl ((sy_i F 4).toInt).toNat
              have q73 : (sy_ai F 25).getD (sy_i F 4).toNatClampNeg 0 = (sy_ai F 25).getD ((sy_i F 4).toInt).toNat 0 := by simp only [nz_c]
              have n73 : ((sy_ai F 25).getD (sy_i F 4).toNatClampNeg 0).toInt = ((sy_ai F 25).getD ((sy_i F 4).toInt).toNat 0).toInt := congrArg Int32.toInt q73
              have r73 := nz_ba hB (k := 25) (lo := 0) (hi := 42) rfl ((sy_i F 4).toInt).toNat
              have q74 : (sy_ai F 25).getD (sy_i F 4).toNatClampNeg 0 = (sy_ai F 25).getD ((sy_i F 4).toInt).toNat 0 := by simp only [nz_c]
              have n74 : ((sy_ai F 25).getD (sy_i F 4).toNatClampNeg 0).toInt = ((sy_ai F 25).getD ((sy_i F 4).toInt).toNat 0).toInt := congrArg Int32.toInt q74
              have r74 := nz_ba hB (k := 25) (lo := 0) (hi := 42) rfl ((sy_i F 4).toInt).toNat
              have c5 := nz_bx hB (k := 5) (lo := 0) (hi := 7) rfl
              exact ex_96_p2 hd F X1 X2 hB (by first | exact g0 | (simp only [nz_c]; exact g0)) (by first | exact ⟨by omega, by omega⟩ | (simp only [nz_c]; exact ⟨by omega, by omega⟩)) (by first | exact g1 | (simp only [nz_c]; exact g1) | (rw [n70]; exact g1)) (by first | exact g2 | (simp only [nz_c]; exact g2)) (by first | exact ⟨by omega, by omega⟩ | (simp only [nz_c]; exact ⟨by omega, by omega⟩)) (by first | exact g3 | (simp only [nz_c]; exact g3) | (rw [n71]; exact g3)) (by first | exact g4 | (simp only [nz_c]; exact g4)) (by first | exact ⟨by omega, by omega⟩ | (simp only [nz_c]; exact ⟨by omega, by omega⟩)) (by first | exact g5 | (simp only [nz_c]; exact g5) | (rw [n72]; exact g5)) (by first | exact g6 | (simp only [nz_c]; exact g6)) (by first | exact ⟨by omega, by omega⟩ | (simp only [nz_c]; exact ⟨by omega, by omega⟩)) (by first | exact g7 | (simp only [nz_c]; exact g7) | (rw [n73]; exact g7)) (by first | exact g8 | (simp only [nz_c]; exact g8)) (by first | exact ⟨by omega, by omega⟩ | (simp only [nz_c]; exact ⟨by omega, by omega⟩)) (by first | exact g9 | (simp only [nz_c]; exact g9) | (rw [n74]; exact g9)) (by first | exact g10 | (simp only [nz_c]; exact g10)) (fun F1 g  => k2 g0 g1 g2 g3 g4 g5 g6 g7 g8 g9 g10 F1 (nz_in hB [] (fun j hj hn => g j hj (by simp only [List.mem_cons, List.not_mem_nil, or_false, not_or] at hn; exact trivial)) (List.forall_mem_nil _)) (fun j hj hn => g j hj (by simp only [List.mem_cons, List.not_mem_nil, or_false, not_or] at hn; exact trivial)) (nz_fi (g 4 (by decide) (by decide))) (nz_fi (g 5 (by decide) (by decide))) (nz_fi (g 6 (by decide) (by decide))) (nz_fi (g 7 (by decide) (by decide))) (nz_fi (g 11 (by decide) (by decide))) (nz_fi (g 12 (by decide) (by decide))) (nz_fi (g 14 (by decide) (by decide))) (nz_fi (g 15 (by decide) (by decide))) (nz_fi (g 16 (by decide) (by decide))) (nz_fa (g 25 (by decide) (by decide))) (nz_fa (g 26 (by decide) (by decide))) (nz_fa (g 49 (by decide) (by decide))) (nz_fa (g 50 (by decide) (by decide))) (nz_fa (g 51 (by decide) (by decide))))
            replace g10 : (sy_i F 69).toInt < (sy_i F 5).toInt := by omega
            by_cases g11 : (sy_i F 6).toInt ≤ 0
            · have c6 := nz_bx hB (k := 6) (lo := 0) (hi := 2) rfl
              have c4 := nz_bx hB (k := 4) (lo := 0) (hi := 400) rfl
              have q70 : (sy_ai F 25).getD (sy_i F 4).toNatClampNeg 0 = (sy_ai F 25).getD ((sy_i F 4).toInt).toNat 0 := by simp only [nz_c]
              have n70 : ((sy_ai F 25).getD (sy_i F 4).toNatClampNeg 0).toInt = ((sy_ai F 25).getD ((sy_i F 4).toInt).toNat 0).toInt := congrArg Int32.toInt q70
              have r70 := nz_ba hB (k := 25) (lo := 0) (hi := 42) rfl ((sy_i F 4).toInt).toNat
              have q71 : (sy_ai F 25).getD (sy_i F 4).toNatClampNeg 0 = (sy_ai F 25).getD ((sy_i F 4).toInt).toNat 0 := by simp only [nz_c]
              have n71 : ((sy_ai F 25).getD (sy_i F 4).toNatClampNeg 0).toInt = ((sy_ai F 25).getD ((sy_i F 4).toInt).toNat 0).toInt := congrArg Int32.toInt q71
              have r71 := nz_ba hB (k := 25) (lo := 0) (hi := 42) rfl ((sy_i F 4).toInt).toNat
              have q72 : (sy_ai F 25).getD (sy_i F 4).toNatClampNeg 0 = (sy_ai F 25).getD ((sy_i F 4).toInt).toNat 0 := by simp only [nz_c]
              have n72 : ((sy_ai F 25).getD (sy_i F 4).toNatClampNeg 0).toInt = ((sy_ai F 25).getD ((sy_i F 4).toInt).toNat 0).toInt := congrArg Int32.toInt q72
              have r72 := nz_ba hB (k := 25) (lo := 0) (hi := 42) rfl ((sy_i F 4).toInt).toNat
              have q73 : (sy_ai F 25).getD (sy_i F 4).toNatClampNeg 0 = (sy_ai F 25).getD ((sy_i F 4).toInt).toNat 0 := by simp only [nz_c]
              have n73 : ((sy_ai F 25).getD (sy_i F 4).toNatClampNeg 0).toInt = ((sy_ai F 25).getD ((sy_i F 4).toInt).toNat 0).toInt := congrArg Int32.toInt q73
              have r73 := nz_ba hB (k := 25) (lo := 0) (hi := 42) rfl ((sy_i F 4).toInt).toNat
              have q74 : (sy_ai F 25).getD (sy_i F 4).toNatClampNeg 0 = (sy_ai F 25).getD ((sy_i F 4).toInt).toNat 0 := by simp only [nz_c]
              have n74 : ((sy_ai F 25).getD (sy_i F 4).toNatClampNeg 0).toInt = ((sy_ai F 25).getD ((sy_i F 4).toInt).toNat 0).toInt := congrArg Int32.toInt q74
              have r74 := nz_ba hB (k := 25) (lo := 0) (hi := 42) rfl ((sy_i F 4).toInt).toNat
              have c5 := nz_bx hB (k := 5) (lo := 0) (hi := 7) rfl
              have q75 : (sy_ai F 26).getD (sy_i F 4).toNatClampNeg 0 = (sy_ai F 26).getD ((sy_i F 4).toInt).toNat 0 := by simp only [nz_c]
              have n75 : ((sy_ai F 26).getD (sy_i F 4).toNatClampNeg 0).toInt = ((sy_ai F 26).getD ((sy_i F 4).toInt).toNat 0).toInt := congrArg Int32.toInt q75
              exact ex_96_p3 hd F X1 X2 hB (by first | exact g0 | (simp only [nz_c]; exact g0)) (by first | exact ⟨by omega, by omega⟩ | (simp only [nz_c]; exact ⟨by omega, by omega⟩)) (by first | exact g1 | (simp only [nz_c]; exact g1) | (rw [n70]; exact g1)) (by first | exact g2 | (simp only [nz_c]; exact g2)) (by first | exact ⟨by omega, by omega⟩ | (simp only [nz_c]; exact ⟨by omega, by omega⟩)) (by first | exact g3 | (simp only [nz_c]; exact g3) | (rw [n71]; exact g3)) (by first | exact g4 | (simp only [nz_c]; exact g4)) (by first | exact ⟨by omega, by omega⟩ | (simp only [nz_c]; exact ⟨by omega, by omega⟩)) (by first | exact g5 | (simp only [nz_c]; exact g5) | (rw [n72]; exact g5)) (by first | exact g6 | (simp only [nz_c]; exact g6)) (by first | exact ⟨by omega, by omega⟩ | (simp only [nz_c]; exact ⟨by omega, by omega⟩)) (by first | exact g7 | (simp only [nz_c]; exact g7) | (rw [n73]; exact g7)) (by first | exact g8 | (simp only [nz_c]; exact g8)) (by first | exact ⟨by omega, by omega⟩ | (simp only [nz_c]; exact ⟨by omega, by omega⟩)) (by first | exact g9 | (simp only [nz_c]; exact g9) | (rw [n74]; exact g9)) (by first | exact g10 | (simp only [nz_c]; exact g10)) (by first | exact g11 | (simp only [nz_c]; exact g11)) (by first | exact ⟨by omega, by omega⟩ | (simp only [nz_c]; exact ⟨by omega, by omega⟩)) (fun F1 g e6 e7 => k3 g0 g1 g2 g3 g4 g5 g6 g7 g8 g9 g10 g11 F1 (nz_in hB [6, 7] (fun j hj hn => g j hj (by simp only [List.mem_cons, List.not_mem_nil, or_false, not_or] at hn; omega)) (List.forall_mem_cons.mpr ⟨fun t ht => (Option.some.inj ht) ▸ (nz_hi e6 (by decide : ((1 : Int32)).toInt = 1) (by omega) (by omega)), List.forall_mem_cons.mpr ⟨fun t ht => (Option.some.inj ht) ▸ (nz_hz e7), List.forall_mem_nil _⟩⟩)) (fun j hj hn => g j hj (by simp only [List.mem_cons, List.not_mem_nil, or_false, not_or] at hn; omega)) (nz_fi (g 4 (by decide) (by decide))) (nz_fi (g 5 (by decide) (by decide))) ((congrArg Int32.toInt (zz_i e6)).trans (by decide : ((1 : Int32)).toInt = 1)) ((congrArg Int32.toInt (zz_i e7)).trans n75) (nz_fi (g 11 (by decide) (by decide))) (nz_fi (g 12 (by decide) (by decide))) (nz_fi (g 14 (by decide) (by decide))) (nz_fi (g 15 (by decide) (by decide))) (nz_fi (g 16 (by decide) (by decide))) (nz_fa (g 25 (by decide) (by decide))) (nz_fa (g 26 (by decide) (by decide))) (nz_fa (g 49 (by decide) (by decide))) (nz_fa (g 50 (by decide) (by decide))) (nz_fa (g 51 (by decide) (by decide))))
            replace g11 : 0 < (sy_i F 6).toInt := by omega
            have c6 := nz_bx hB (k := 6) (lo := 0) (hi := 2) rfl
            have c4 := nz_bx hB (k := 4) (lo := 0) (hi := 400) rfl
            have q70 : (sy_ai F 25).getD (sy_i F 4).toNatClampNeg 0 = (sy_ai F 25).getD ((sy_i F 4).toInt).toNat 0 := by simp only [nz_c]
            have n70 : ((sy_ai F 25).getD (sy_i F 4).toNatClampNeg 0).toInt = ((sy_ai F 25).getD ((sy_i F 4).toInt).toNat 0).toInt := congrArg Int32.toInt q70
            have r70 := nz_ba hB (k := 25) (lo := 0) (hi := 42) rfl ((sy_i F 4).toInt).toNat
            have q71 : (sy_ai F 25).getD (sy_i F 4).toNatClampNeg 0 = (sy_ai F 25).getD ((sy_i F 4).toInt).toNat 0 := by simp only [nz_c]
            have n71 : ((sy_ai F 25).getD (sy_i F 4).toNatClampNeg 0).toInt = ((sy_ai F 25).getD ((sy_i F 4).toInt).toNat 0).toInt := congrArg Int32.toInt q71
            have r71 := nz_ba hB (k := 25) (lo := 0) (hi := 42) rfl ((sy_i F 4).toInt).toNat
            have q72 : (sy_ai F 25).getD (sy_i F 4).toNatClampNeg 0 = (sy_ai F 25).getD ((sy_i F 4).toInt).toNat 0 := by simp only [nz_c]
            have n72 : ((sy_ai F 25).getD (sy_i F 4).toNatClampNeg 0).toInt = ((sy_ai F 25).getD ((sy_i F 4).toInt).toNat 0).toInt := congrArg Int32.toInt q72
            have r72 := nz_ba hB (k := 25) (lo := 0) (hi := 42) rfl ((sy_i F 4).toInt).toNat
            have q73 : (sy_ai F 25).getD (sy_i F 4).toNatClampNeg 0 = (sy_ai F 25).getD ((sy_i F 4).toInt).toNat 0 := by simp only [nz_c]
            have n73 : ((sy_ai F 25).getD (sy_i F 4).toNatClampNeg 0).toInt = ((sy_ai F 25).getD ((sy_i F 4).toInt).toNat 0).toInt := congrArg Int32.toInt q73
            have r73 := nz_ba hB (k := 25) (lo := 0) (hi := 42) rfl ((sy_i F 4).toInt).toNat
            have q74 : (sy_ai F 25).getD (sy_i F 4).toNatClampNeg 0 = (sy_ai F 25).getD ((sy_i F 4).toInt).toNat 0 := by simp only [nz_c]
            have n74 : ((sy_ai F 25).getD (sy_i F 4).toNatClampNeg 0).toInt = ((sy_ai F 25).getD ((sy_i F 4).toInt).toNat 0).toInt := congrArg Int32.toInt q74
            have r74 := nz_ba hB (k := 25) (lo := 0) (hi := 42) rfl ((sy_i F 4).toInt).toNat
            have c5 := nz_bx hB (k := 5) (lo := 0) (hi := 7) rfl
            exfalso
            omega
          replace g9 : ((sy_ai F 25).getD ((sy_i F 4).toInt).toNat 0).toInt = 15 := by omega
          by_cases g10 : (sy_i F 6).toInt ≠ 0
          · have c6 := nz_bx hB (k := 6) (lo := 0) (hi := 2) rfl
            have c4 := nz_bx hB (k := 4) (lo := 0) (hi := 400) rfl
            have q70 : (sy_ai F 25).getD (sy_i F 4).toNatClampNeg 0 = (sy_ai F 25).getD ((sy_i F 4).toInt).toNat 0 := by simp only [nz_c]
            have n70 : ((sy_ai F 25).getD (sy_i F 4).toNatClampNeg 0).toInt = ((sy_ai F 25).getD ((sy_i F 4).toInt).toNat 0).toInt := congrArg Int32.toInt q70
            have r70 := nz_ba hB (k := 25) (lo := 0) (hi := 42) rfl ((sy_i F 4).toInt).toNat
            have q71 : (sy_ai F 25).getD (sy_i F 4).toNatClampNeg 0 = (sy_ai F 25).getD ((sy_i F 4).toInt).toNat 0 := by simp only [nz_c]
            have n71 : ((sy_ai F 25).getD (sy_i F 4).toNatClampNeg 0).toInt = ((sy_ai F 25).getD ((sy_i F 4).toInt).toNat 0).toInt := congrArg Int32.toInt q71
            have r71 := nz_ba hB (k := 25) (lo := 0) (hi := 42) rfl ((sy_i F 4).toInt).toNat
            have q72 : (sy_ai F 25).getD (sy_i F 4).toNatClampNeg 0 = (sy_ai F 25).getD ((sy_i F 4).toInt).toNat 0 := by simp only [nz_c]
            have n72 : ((sy_ai F 25).getD (sy_i F 4).toNatClampNeg 0).toInt = ((sy_ai F 25).getD ((sy_i F 4).toInt).toNat 0).toInt := congrArg Int32.toInt q72
            have r72 := nz_ba hB (k := 25) (lo := 0) (hi := 42) rfl ((sy_i F 4).toInt).toNat
            have q73 : (sy_ai F 25).getD (sy_i F 4).toNatClampNeg 0 = (sy_ai F 25).getD ((sy_i F 4).toInt).toNat 0 := by simp only [nz_c]
            have n73 : ((sy_ai F 25).getD (sy_i F 4).toNatClampNeg 0).toInt = ((sy_ai F 25).getD ((sy_i F 4).toInt).toNat 0).toInt := congrArg Int32.toInt q73
            have r73 := nz_ba hB (k := 25) (lo := 0) (hi := 42) rfl ((sy_i F 4).toInt).toNat
            have q74 : (sy_ai F 25).getD (sy_i F 4).toNatClampNeg 0 = (sy_ai F 25).getD ((sy_i F 4).toInt).toNat 0 := by simp only [nz_c]
            have n74 : ((sy_ai F 25).getD (sy_i F 4).toNatClampNeg 0).toInt = ((sy_ai F 25).getD ((sy_i F 4).toInt).toNat 0).toInt := congrArg Int32.toInt q74
            have r74 := nz_ba hB (k := 25) (lo := 0) (hi := 42) rfl ((sy_i F 4).toInt).toNat
            exfalso
            omega
          replace g10 : (sy_i F 6).toInt = 0 := by omega
          by_cases g11 : ((sy_ai F 25).getD ((sy_i F 4).toInt).toNat 0).toInt ≠ 10
          · by_cases g12 : (sy_i F 6).toInt ≠ 0
            · have c6 := nz_bx hB (k := 6) (lo := 0) (hi := 2) rfl
              have c4 := nz_bx hB (k := 4) (lo := 0) (hi := 400) rfl
              have q70 : (sy_ai F 25).getD (sy_i F 4).toNatClampNeg 0 = (sy_ai F 25).getD ((sy_i F 4).toInt).toNat 0 := by simp only [nz_c]
              have n70 : ((sy_ai F 25).getD (sy_i F 4).toNatClampNeg 0).toInt = ((sy_ai F 25).getD ((sy_i F 4).toInt).toNat 0).toInt := congrArg Int32.toInt q70
              have r70 := nz_ba hB (k := 25) (lo := 0) (hi := 42) rfl ((sy_i F 4).toInt).toNat
              have q71 : (sy_ai F 25).getD (sy_i F 4).toNatClampNeg 0 = (sy_ai F 25).getD ((sy_i F 4).toInt).toNat 0 := by simp only [nz_c]
              have n71 : ((sy_ai F 25).getD (sy_i F 4).toNatClampNeg 0).toInt = ((sy_ai F 25).getD ((sy_i F 4).toInt).toNat 0).toInt := congrArg Int32.toInt q71
              have r71 := nz_ba hB (k := 25) (lo := 0) (hi := 42) rfl ((sy_i F 4).toInt).toNat
              have q72 : (sy_ai F 25).getD (sy_i F 4).toNatClampNeg 0 = (sy_ai F 25).getD ((sy_i F 4).toInt).toNat 0 := by simp only [nz_c]
              have n72 : ((sy_ai F 25).getD (sy_i F 4).toNatClampNeg 0).toInt = ((sy_ai F 25).getD ((sy_i F 4).toInt).toNat 0).toInt := congrArg Int32.toInt q72
              have r72 := nz_ba hB (k := 25) (lo := 0) (hi := 42) rfl ((sy_i F 4).toInt).toNat
              have q73 : (sy_ai F 25).getD (sy_i F 4).toNatClampNeg 0 = (sy_ai F 25).getD ((sy_i F 4).toInt).toNat 0 := by simp only [nz_c]
              have n73 : ((sy_ai F 25).getD (sy_i F 4).toNatClampNeg 0).toInt = ((sy_ai F 25).getD ((sy_i F 4).toInt).toNat 0).toInt := congrArg Int32.toInt q73
              have r73 := nz_ba hB (k := 25) (lo := 0) (hi := 42) rfl ((sy_i F 4).toInt).toNat
              have q74 : (sy_ai F 25).getD (sy_i F 4).toNatClampNeg 0 = (sy_ai F 25).getD ((sy_i F 4).toInt).toNat 0 := by simp only [nz_c]
              have n74 : ((sy_ai F 25).getD (sy_i F 4).toNatClampNeg 0).toInt = ((sy_ai F 25).getD ((sy_i F 4).toInt).toNat 0).toInt := congrArg Int32.toInt q74
              have r74 := nz_ba hB (k := 25) (lo := 0) (hi := 42) rfl ((sy_i F 4).toInt).toNat
              have q75 : (sy_ai F 25).getD (sy_i F 4).toNatClampNeg 0 = (sy_ai F 25).getD ((sy_i F 4).toInt).toNat 0 := by simp only [nz_c]
              have n75 : ((sy_ai F 25).getD (sy_i F 4).toNatClampNeg 0).toInt = ((sy_ai F 25).getD ((sy_i F 4).toInt).toNat 0).toInt := congrArg Int32.toInt q75
              have r75 := nz_ba hB (k := 25) (lo := 0) (hi := 42) rfl ((sy_i F 4).toInt).toNat
              exfalso
              omega
            replace g12 : (sy_i F 6).toInt = 0 := by omega
            by_cases g13 : ((sy_ai F 25).getD ((sy_i F 4).toInt).toNat 0).toInt ≠ 15
            · have c6 := nz_bx hB (k := 6) (lo := 0) (hi := 2) rfl
              have c4 := nz_bx hB (k := 4) (lo := 0) (hi := 400) rfl
              have q70 : (sy_ai F 25).getD (sy_i F 4).toNatClampNeg 0 = (sy_ai F 25).getD ((sy_i F 4).toInt).toNat 0 := by simp only [nz_c]
              have n70 : ((sy_ai F 25).getD (sy_i F 4).toNatClampNeg 0).toInt = ((sy_ai F 25).getD ((sy_i F 4).toInt).toNat 0).toInt := congrArg Int32.toInt q70
              have r70 := nz_ba hB (k := 25) (lo := 0) (hi := 42) rfl ((sy_i F 4).toInt).toNat
              have q71 : (sy_ai F 25).getD (sy_i F 4).toNatClampNeg 0 = (sy_ai F 25).getD ((sy_i F 4).toInt).toNat 0 := by simp only [nz_c]
              have n71 : ((sy_ai F 25).getD (sy_i F 4).toNatClampNeg 0).toInt = ((sy_ai F 25).getD ((sy_i F 4).toInt).toNat 0).toInt := congrArg Int32.toInt q71
              have r71 := nz_ba hB (k := 25) (lo := 0) (hi := 42) rfl ((sy_i F 4).toInt).toNat
              have q72 : (sy_ai F 25).getD (sy_i F 4).toNatClampNeg 0 = (sy_ai F 25).getD ((sy_i F 4).toInt).toNat 0 := by simp only [nz_c]
              have n72 : ((sy_ai F 25).getD (sy_i F 4).toNatClampNeg 0).toInt = ((sy_ai F 25).getD ((sy_i F 4).toInt).toNat 0).toInt := congrArg Int32.toInt q72
              have r72 := nz_ba hB (k := 25) (lo := 0) (hi := 42) rfl ((sy_i F 4).toInt).toNat
              have q73 : (sy_ai F 25).getD (sy_i F 4).toNatClampNeg 0 = (sy_ai F 25).getD ((sy_i F 4).toInt).toNat 0 := by simp only [nz_c]
              have n73 : ((sy_ai F 25).getD (sy_i F 4).toNatClampNeg 0).toInt = ((sy_ai F 25).getD ((sy_i F 4).toInt).toNat 0).toInt := congrArg Int32.toInt q73
              have r73 := nz_ba hB (k := 25) (lo := 0) (hi := 42) rfl ((sy_i F 4).toInt).toNat
              have q74 : (sy_ai F 25).getD (sy_i F 4).toNatClampNeg 0 = (sy_ai F 25).getD ((sy_i F 4).toInt).toNat 0 := by simp only [nz_c]
              have n74 : ((sy_ai F 25).getD (sy_i F 4).toNatClampNeg 0).toInt = ((sy_ai F 25).getD ((sy_i F 4).toInt).toNat 0).toInt := congrArg Int32.toInt q74
              have r74 := nz_ba hB (k := 25) (lo := 0) (hi := 42) rfl ((sy_i F 4).toInt).toNat
              have q75 : (sy_ai F 25).getD (sy_i F 4).toNatClampNeg 0 = (sy_ai F 25).getD ((sy_i F 4).toInt).toNat 0 := by simp only [nz_c]
              have n75 : ((sy_ai F 25).getD (sy_i F 4).toNatClampNeg 0).toInt = ((sy_ai F 25).getD ((sy_i F 4).toInt).toNat 0).toInt := congrArg Int32.toInt q75
              have r75 := nz_ba hB (k := 25) (lo := 0) (hi := 42) rfl ((sy_i F 4).toInt).toNat
              have q76 : (sy_ai F 25).getD (sy_i F 4).toNatClampNeg 0 = (sy_ai F 25).getD ((sy_i F 4).toInt).toNat 0 := by simp only [nz_c]
              have n76 : ((sy_ai F 25).getD (sy_i F 4).toNatClampNeg 0).toInt = ((sy_ai F 25).getD ((sy_i F 4).toInt).toNat 0).toInt := congrArg Int32.toInt q76
              have r76 := nz_ba hB (k := 25) (lo := 0) (hi := 42) rfl ((sy_i F 4).toInt).toNat
              exfalso
              omega
            replace g13 : ((sy_ai F 25).getD ((sy_i F 4).toInt).toNat 0).toInt = 15 := by omega
            have c6 := nz_bx hB (k := 6) (lo := 0) (hi := 2) rfl
            have c4 := nz_bx hB (k := 4) (lo := 0) (hi := 400) rfl
            have q70 : (sy_ai F 25).getD (sy_i F 4).toNatClampNeg 0 = (sy_ai F 25).getD ((sy_i F 4).toInt).toNat 0 := by simp only [nz_c]
            have n70 : ((sy_ai F 25).getD (sy_i F 4).toNatClampNeg 0).toInt = ((sy_ai F 25).getD ((sy_i F 4).toInt).toNat 0).toInt := congrArg Int32.toInt q70
            have r70 := nz_ba hB (k := 25) (lo := 0) (hi := 42) rfl ((sy_i F 4).toInt).toNat
            have q71 : (sy_ai F 25).getD (sy_i F 4).toNatClampNeg 0 = (sy_ai F 25).getD ((sy_i F 4).toInt).toNat 0 := by simp only [nz_c]
            have n71 : ((sy_ai F 25).getD (sy_i F 4).toNatClampNeg 0).toInt = ((sy_ai F 25).getD ((sy_i F 4).toInt).toNat 0).toInt := congrArg Int32.toInt q71
            have r71 := nz_ba hB (k := 25) (lo := 0) (hi := 42) rfl ((sy_i F 4).toInt).toNat
            have q72 : (sy_ai F 25).getD (sy_i F 4).toNatClampNeg 0 = (sy_ai F 25).getD ((sy_i F 4).toInt).toNat 0 := by simp only [nz_c]
            have n72 : ((sy_ai F 25).getD (sy_i F 4).toNatClampNeg 0).toInt = ((sy_ai F 25).getD ((sy_i F 4).toInt).toNat 0).toInt := congrArg Int32.toInt q72
            have r72 := nz_ba hB (k := 25) (lo := 0) (hi := 42) rfl ((sy_i F 4).toInt).toNat
            have q73 : (sy_ai F 25).getD (sy_i F 4).toNatClampNeg 0 = (sy_ai F 25).getD ((sy_i F 4).toInt).toNat 0 := by simp only [nz_c]
            have n73 : ((sy_ai F 25).getD (sy_i F 4).toNatClampNeg 0).toInt = ((sy_ai F 25).getD ((sy_i F 4).toInt).toNat 0).toInt := congrArg Int32.toInt q73
            have r73 := nz_ba hB (k := 25) (lo := 0) (hi := 42) rfl ((sy_i F 4).toInt).toNat
            have q74 : (sy_ai F 25).getD (sy_i F 4).toNatClampNeg 0 = (sy_ai F 25).getD ((sy_i F 4).toInt).toNat 0 := by simp only [nz_c]
            have n74 : ((sy_ai F 25).getD (sy_i F 4).toNatClampNeg 0).toInt = ((sy_ai F 25).getD ((sy_i F 4).toInt).toNat 0).toInt := congrArg Int32.toInt q74
            have r74 := nz_ba hB (k := 25) (lo := 0) (hi := 42) rfl ((sy_i F 4).toInt).toNat
            have q75 : (sy_ai F 25).getD (sy_i F 4).toNatClampNeg 0 = (sy_ai F 25).getD ((sy_i F 4).toInt).toNat 0 := by simp only [nz_c]
            have n75 : ((sy_ai F 25).getD (sy_i F 4).toNatClampNeg 0).toInt = ((sy_ai F 25).getD ((sy_i F 4).toInt).toNat 0).toInt := congrArg Int32.toInt q75
            have r75 := nz_ba hB (k := 25) (lo := 0) (hi := 42) rfl ((sy_i F 4).toInt).toNat
            have q76 : (sy_ai F 25).getD (sy_i F 4).toNatClampNeg 0 = (sy_ai F 25).getD ((sy_i F 4).toInt).toNat 0 := by simp only [nz_c]
            have n76 : ((sy_ai F 25).getD (sy_i F 4).toNatClampNeg 0).toInt = ((sy_ai F 25).getD ((sy_i F 4).toInt).toNat 0).toInt := congrArg Int32.toInt q76
            have r76 := nz_ba hB (k := 25) (lo := 0) (hi := 42) rfl ((sy_i F 4).toInt).toNat
            exact ex_96_p4 hd F X1 X2 hB (by first | exact g0 | (simp only [nz_c]; exact g0)) (by first | exact ⟨by omega, by omega⟩ | (simp only [nz_c]; exact ⟨by omega, by omega⟩)) (by first | exact g1 | (simp only [nz_c]; exact g1) | (rw [n70]; exact g1)) (by first | exact g2 | (simp only [nz_c]; exact g2)) (by first | exact ⟨by omega, by omega⟩ | (simp only [nz_c]; exact ⟨by omega, by omega⟩)) (by first | exact g3 | (simp only [nz_c]; exact g3) | (rw [n71]; exact g3)) (by first | exact g4 | (simp only [nz_c]; exact g4)) (by first | exact ⟨by omega, by omega⟩ | (simp only [nz_c]; exact ⟨by omega, by omega⟩)) (by first | exact g5 | (simp only [nz_c]; exact g5) | (rw [n72]; exact g5)) (by first | exact g6 | (simp only [nz_c]; exact g6)) (by first | exact ⟨by omega, by omega⟩ | (simp only [nz_c]; exact ⟨by omega, by omega⟩)) (by first | exact g7 | (simp only [nz_c]; exact g7) | (rw [n73]; exact g7)) (by first | exact g8 | (simp only [nz_c]; exact g8)) (by first | exact ⟨by omega, by omega⟩ | (simp only [nz_c]; exact ⟨by omega, by omega⟩)) (by first | exact g9 | (simp only [nz_c]; exact g9) | (rw [n74]; exact g9)) (by first | exact g10 | (simp only [nz_c]; exact g10)) (by first | exact ⟨by omega, by omega⟩ | (simp only [nz_c]; exact ⟨by omega, by omega⟩)) (by first | exact g11 | (simp only [nz_c]; exact g11) | (rw [n75]; exact g11)) (by first | exact g12 | (simp only [nz_c]; exact g12)) (by first | exact ⟨by omega, by omega⟩ | (simp only [nz_c]; exact ⟨by omega, by omega⟩)) (by first | exact g13 | (simp only [nz_c]; exact g13) | (rw [n76]; exact g13)) (fun F1 g e69 e70 => k4 g0 g1 g2 g3 g4 g5 g6 g7 g8 g9 g10 g11 g12 g13 F1 (nz_in hB [] (fun j hj hn => g j hj (by simp only [List.mem_cons, List.not_mem_nil, or_false, not_or] at hn; exact trivial)) (List.forall_mem_nil _)) (fun j hj hn => g j hj (by simp only [List.mem_cons, List.not_mem_nil, or_false, not_or] at hn; exact trivial)) (nz_fi (g 4 (by decide) (by decide))) (nz_fi (g 5 (by decide) (by decide))) (nz_fi (g 6 (by decide) (by decide))) (nz_fi (g 7 (by decide) (by decide))) (nz_fi (g 11 (by decide) (by decide))) (nz_fi (g 12 (by decide) (by decide))) (nz_fi (g 14 (by decide) (by decide))) (nz_fi (g 15 (by decide) (by decide))) (nz_fi (g 16 (by decide) (by decide))) (nz_fa (g 25 (by decide) (by decide))) (nz_fa (g 26 (by decide) (by decide))) (nz_fa (g 49 (by decide) (by decide))) (nz_fa (g 50 (by decide) (by decide))) (nz_fa (g 51 (by decide) (by decide))) ((congrArg Int32.toInt (zz_i e69)).trans (rfl : (sy_i F 69).toInt = (sy_i F 69).toInt)) ((congrArg Int32.toInt (zz_i e70)).trans (by decide : ((1 : Int32)).toInt = 1)))
          replace g11 : ((sy_ai F 25).getD ((sy_i F 4).toInt).toNat 0).toInt = 10 := by omega
          have c6 := nz_bx hB (k := 6) (lo := 0) (hi := 2) rfl
          have c4 := nz_bx hB (k := 4) (lo := 0) (hi := 400) rfl
          have q70 : (sy_ai F 25).getD (sy_i F 4).toNatClampNeg 0 = (sy_ai F 25).getD ((sy_i F 4).toInt).toNat 0 := by simp only [nz_c]
          have n70 : ((sy_ai F 25).getD (sy_i F 4).toNatClampNeg 0).toInt = ((sy_ai F 25).getD ((sy_i F 4).toInt).toNat 0).toInt := congrArg Int32.toInt q70
          have r70 := nz_ba hB (k := 25) (lo := 0) (hi := 42) rfl ((sy_i F 4).toInt).toNat
          have q71 : (sy_ai F 25).getD (sy_i F 4).toNatClampNeg 0 = (sy_ai F 25).getD ((sy_i F 4).toInt).toNat 0 := by simp only [nz_c]
          have n71 : ((sy_ai F 25).getD (sy_i F 4).toNatClampNeg 0).toInt = ((sy_ai F 25).getD ((sy_i F 4).toInt).toNat 0).toInt := congrArg Int32.toInt q71
          have r71 := nz_ba hB (k := 25) (lo := 0) (hi := 42) rfl ((sy_i F 4).toInt).toNat
          have q72 : (sy_ai F 25).getD (sy_i F 4).toNatClampNeg 0 = (sy_ai F 25).getD ((sy_i F 4).toInt).toNat 0 := by simp only [nz_c]
          have n72 : ((sy_ai F 25).getD (sy_i F 4).toNatClampNeg 0).toInt = ((sy_ai F 25).getD ((sy_i F 4).toInt).toNat 0).toInt := congrArg Int32.toInt q72
          have r72 := nz_ba hB (k := 25) (lo := 0) (hi := 42) rfl ((sy_i F 4).toInt).toNat
          have q73 : (sy_ai F 25).getD (sy_i F 4).toNatClampNeg 0 = (sy_ai F 25).getD ((sy_i F 4).toInt).toNat 0 := by simp only [nz_c]
          have n73 : ((sy_ai F 25).getD (sy_i F 4).toNatClampNeg 0).toInt = ((sy_ai F 25).getD ((sy_i F 4).toInt).toNat 0).toInt := congrArg Int32.toInt q73
          have r73 := nz_ba hB (k := 25) (lo := 0) (hi := 42) rfl ((sy_i F 4).toInt).toNat
          have q74 : (sy_ai F 25).getD (sy_i F 4).toNatClampNeg 0 = (sy_ai F 25).getD ((sy_i F 4).toInt).toNat 0 := by simp only [nz_c]
          have n74 : ((sy_ai F 25).getD (sy_i F 4).toNatClampNeg 0).toInt = ((sy_ai F 25).getD ((sy_i F 4).toInt).toNat 0).toInt := congrArg Int32.toInt q74
          have r74 := nz_ba hB (k := 25) (lo := 0) (hi := 42) rfl ((sy_i F 4).toInt).toNat
          have q75 : (sy_ai F 25).getD (sy_i F 4).toNatClampNeg 0 = (sy_ai F 25).getD ((sy_i F 4).toInt).toNat 0 := by simp only [nz_c]
          have n75 : ((sy_ai F 25).getD (sy_i F 4).toNatClampNeg 0).toInt = ((sy_ai F 25).getD ((sy_i F 4).toInt).toNat 0).toInt := congrArg Int32.toInt q75
          have r75 := nz_ba hB (k := 25) (lo := 0) (hi := 42) rfl ((sy_i F 4).toInt).toNat
          exfalso
          omega
        replace g7 : ((sy_ai F 25).getD ((sy_i F 4).toInt).toNat 0).toInt = 10 := by omega
        by_cases g8 : (sy_i F 6).toInt ≠ 0
        · have c6 := nz_bx hB (k := 6) (lo := 0) (hi := 2) rfl
          have c4 := nz_bx hB (k := 4) (lo := 0) (hi := 400) rfl
          have q70 : (sy_ai F 25).getD (sy_i F 4).toNatClampNeg 0 = (sy_ai F 25).getD ((sy_i F 4).toInt).toNat 0 := by simp only [nz_c]
          have n70 : ((sy_ai F 25).getD (sy_i F 4).toNatClampNeg 0).toInt = ((sy_ai F 25).getD ((sy_i F 4).toInt).toNat 0).toInt := congrArg Int32.toInt q70
          have r70 := nz_ba hB (k := 25) (lo := 0) (hi := 42) rfl ((sy_i F 4).toInt).toNat
          have q71 : (sy_ai F 25).getD (sy_i F 4).toNatClampNeg 0 = (sy_ai F 25).getD ((sy_i F 4).toInt).toNat 0 := by simp only [nz_c]
          have n71 : ((sy_ai F 25).getD (sy_i F 4).toNatClampNeg 0).toInt = ((sy_ai F 25).getD ((sy_i F 4).toInt).toNat 0).toInt := congrArg Int32.toInt q71
          have r71 := nz_ba hB (k := 25) (lo := 0) (hi := 42) rfl ((sy_i F 4).toInt).toNat
          have q72 : (sy_ai F 25).getD (sy_i F 4).toNatClampNeg 0 = (sy_ai F 25).getD ((sy_i F 4).toInt).toNat 0 := by simp only [nz_c]
          have n72 : ((sy_ai F 25).getD (sy_i F 4).toNatClampNeg 0).toInt = ((sy_ai F 25).getD ((sy_i F 4).toInt).toNat 0).toInt := congrArg Int32.toInt q72
          have r72 := nz_ba hB (k := 25) (lo := 0) (hi := 42) rfl ((sy_i F 4).toInt).toNat
          have q73 : (sy_ai F 25).getD (sy_i F 4).toNatClampNeg 0 = (sy_ai F 25).getD ((sy_i F 4).toInt).toNat 0 := by simp only [nz_c]
          have n73 : ((sy_ai F 25).getD (sy_i F 4).toNatClampNeg 0).toInt = ((sy_ai F 25).getD ((sy_i F 4).toInt).toNat 0).toInt := congrArg Int32.toInt q73
          have r73 := nz_ba hB (k := 25) (lo := 0) (hi := 42) rfl ((sy_i F 4).toInt).toNat
          exfalso
          omega
        replace g8 : (sy_i F 6).toInt = 0 := by omega
        by_cases g9 : ((sy_ai F 25).getD ((sy_i F 4).toInt).toNat 0).toInt ≠ 10
        · have c6 := nz_bx hB (k := 6) (lo := 0) (hi := 2) rfl
          have c4 := nz_bx hB (k := 4) (lo := 0) (hi := 400) rfl
          have q70 : (sy_ai F 25).getD (sy_i F 4).toNatClampNeg 0 = (sy_ai F 25).getD ((sy_i F 4).toInt).toNat 0 := by simp only [nz_c]
          have n70 : ((sy_ai F 25).getD (sy_i F 4).toNatClampNeg 0).toInt = ((sy_ai F 25).getD ((sy_i F 4).toInt).toNat 0).toInt := congrArg Int32.toInt q70
          have r70 := nz_ba hB (k := 25) (lo := 0) (hi := 42) rfl ((sy_i F 4).toInt).toNat
          have q71 : (sy_ai F 25).getD (sy_i F 4).toNatClampNeg 0 = (sy_ai F 25).getD ((sy_i F 4).toInt).toNat 0 := by simp only [nz_c]
          have n71 : ((sy_ai F 25).getD (sy_i F 4).toNatClampNeg 0).toInt = ((sy_ai F 25).getD ((sy_i F 4).toInt).toNat 0).toInt := congrArg Int32.toInt q71
          have r71 := nz_ba hB (k := 25) (lo := 0) (hi := 42) rfl ((sy_i F 4).toInt).toNat
          have q72 : (sy_ai F 25).getD (sy_i F 4).toNatClampNeg 0 = (sy_ai F 25).getD ((sy_i F 4).toInt).toNat 0 := by simp only [nz_c]
          have n72 : ((sy_ai F 25).getD (sy_i F 4).toNatClampNeg 0).toInt = ((sy_ai F 25).getD ((sy_i F 4).toInt).toNat 0).toInt := congrArg Int32.toInt q72
          have r72 := nz_ba hB (k := 25) (lo := 0) (hi := 42) rfl ((sy_i F 4).toInt).toNat
          have q73 : (sy_ai F 25).getD (sy_i F 4).toNatClampNeg 0 = (sy_ai F 25).getD ((sy_i F 4).toInt).toNat 0 := by simp only [nz_c]
          have n73 : ((sy_ai F 25).getD (sy_i F 4).toNatClampNeg 0).toInt = ((sy_ai F 25).getD ((sy_i F 4).toInt).toNat 0).toInt := congrArg Int32.toInt q73
          have r73 := nz_ba hB (k := 25) (lo := 0) (hi := 42) rfl ((sy_i F 4).toInt).toNat
          have q74 : (sy_ai F 25).getD (sy_i F 4).toNatClampNeg 0 = (sy_ai F 25).getD ((sy_i F 4).toInt).toNat 0 := by simp only [nz_c]
          have n74 : ((sy_ai F 25).getD (sy_i F 4).toNatClampNeg 0).toInt = ((sy_ai F 25).getD ((sy_i F 4).toInt).toNat 0).toInt := congrArg Int32.toInt q74
          have r74 := nz_ba hB (k := 25) (lo := 0) (hi := 42) rfl ((sy_i F 4).toInt).toNat
          exfalso
          omega
        replace g9 : ((sy_ai F 25).getD ((sy_i F 4).toInt).toNat 0).toInt = 10 := by omega
        have c6 := nz_bx hB (k := 6) (lo := 0) (hi := 2) rfl
        have c4 := nz_bx hB (k := 4) (lo := 0) (hi := 400) rfl
        have q70 : (sy_ai F 25).getD (sy_i F 4).toNatClampNeg 0 = (sy_ai F 25).getD ((sy_i F 4).toInt).toNat 0 := by simp only [nz_c]
        have n70 : ((sy_ai F 25).getD (sy_i F 4).toNatClampNeg 0).toInt = ((sy_ai F 25).getD ((sy_i F 4).toInt).toNat 0).toInt := congrArg Int32.toInt q70
        have r70 := nz_ba hB (k := 25) (lo := 0) (hi := 42) rfl ((sy_i F 4).toInt).toNat
        have q71 : (sy_ai F 25).getD (sy_i F 4).toNatClampNeg 0 = (sy_ai F 25).getD ((sy_i F 4).toInt).toNat 0 := by simp only [nz_c]
        have n71 : ((sy_ai F 25).getD (sy_i F 4).toNatClampNeg 0).toInt = ((sy_ai F 25).getD ((sy_i F 4).toInt).toNat 0).toInt := congrArg Int32.toInt q71
        have r71 := nz_ba hB (k := 25) (lo := 0) (hi := 42) rfl ((sy_i F 4).toInt).toNat
        have q72 : (sy_ai F 25).getD (sy_i F 4).toNatClampNeg 0 = (sy_ai F 25).getD ((sy_i F 4).toInt).toNat 0 := by simp only [nz_c]
        have n72 : ((sy_ai F 25).getD (sy_i F 4).toNatClampNeg 0).toInt = ((sy_ai F 25).getD ((sy_i F 4).toInt).toNat 0).toInt := congrArg Int32.toInt q72
        have r72 := nz_ba hB (k := 25) (lo := 0) (hi := 42) rfl ((sy_i F 4).toInt).toNat
        have q73 : (sy_ai F 25).getD (sy_i F 4).toNatClampNeg 0 = (sy_ai F 25).getD ((sy_i F 4).toInt).toNat 0 := by simp only [nz_c]
        have n73 : ((sy_ai F 25).getD (sy_i F 4).toNatClampNeg 0).toInt = ((sy_ai F 25).getD ((sy_i F 4).toInt).toNat 0).toInt := congrArg Int32.toInt q73
        have r73 := nz_ba hB (k := 25) (lo := 0) (hi := 42) rfl ((sy_i F 4).toInt).toNat
        have q74 : (sy_ai F 25).getD (sy_i F 4).toNatClampNeg 0 = (sy_ai F 25).getD ((sy_i F 4).toInt).toNat 0 := by simp only [nz_c]
        have n74 : ((sy_ai F 25).getD (sy_i F 4).toNatClampNeg 0).toInt = ((sy_ai F 25).getD ((sy_i F 4).toInt).toNat 0).toInt := congrArg Int32.toInt q74
        have r74 := nz_ba hB (k := 25) (lo := 0) (hi := 42) rfl ((sy_i F 4).toInt).toNat
        exact ex_96_p5 hd F X1 X2 hB (by first | exact g0 | (simp only [nz_c]; exact g0)) (by first | exact ⟨by omega, by omega⟩ | (simp only [nz_c]; exact ⟨by omega, by omega⟩)) (by first | exact g1 | (simp only [nz_c]; exact g1) | (rw [n70]; exact g1)) (by first | exact g2 | (simp only [nz_c]; exact g2)) (by first | exact ⟨by omega, by omega⟩ | (simp only [nz_c]; exact ⟨by omega, by omega⟩)) (by first | exact g3 | (simp only [nz_c]; exact g3) | (rw [n71]; exact g3)) (by first | exact g4 | (simp only [nz_c]; exact g4)) (by first | exact ⟨by omega, by omega⟩ | (simp only [nz_c]; exact ⟨by omega, by omega⟩)) (by first | exact g5 | (simp only [nz_c]; exact g5) | (rw [n72]; exact g5)) (by first | exact g6 | (simp only [nz_c]; exact g6)) (by first | exact ⟨by omega, by omega⟩ | (simp only [nz_c]; exact ⟨by omega, by omega⟩)) (by first | exact g7 | (simp only [nz_c]; exact g7) | (rw [n73]; exact g7)) (by first | exact g8 | (simp only [nz_c]; exact g8)) (by first | exact ⟨by omega, by omega⟩ | (simp only [nz_c]; exact ⟨by omega, by omega⟩)) (by first | exact g9 | (simp only [nz_c]; exact g9) | (rw [n74]; exact g9)) (fun F1 g e69 e70 => k5 g0 g1 g2 g3 g4 g5 g6 g7 g8 g9 F1 (nz_in hB [] (fun j hj hn => g j hj (by simp only [List.mem_cons, List.not_mem_nil, or_false, not_or] at hn; exact trivial)) (List.forall_mem_nil _)) (fun j hj hn => g j hj (by simp only [List.mem_cons, List.not_mem_nil, or_false, not_or] at hn; exact trivial)) (nz_fi (g 4 (by decide) (by decide))) (nz_fi (g 5 (by decide) (by decide))) (nz_fi (g 6 (by decide) (by decide))) (nz_fi (g 7 (by decide) (by decide))) (nz_fi (g 11 (by decide) (by decide))) (nz_fi (g 12 (by decide) (by decide))) (nz_fi (g 14 (by decide) (by decide))) (nz_fi (g 15 (by decide) (by decide))) (nz_fi (g 16 (by decide) (by decide))) (nz_fa (g 25 (by decide) (by decide))) (nz_fa (g 26 (by decide) (by decide))) (nz_fa (g 49 (by decide) (by decide))) (nz_fa (g 50 (by decide) (by decide))) (nz_fa (g 51 (by decide) (by decide))) ((congrArg Int32.toInt (zz_i e69)).trans (rfl : (sy_i F 69).toInt = (sy_i F 69).toInt)) ((congrArg Int32.toInt (zz_i e70)).trans (by decide : ((1 : Int32)).toInt = 1)))
      replace g5 : ((sy_ai F 25).getD ((sy_i F 4).toInt).toNat 0).toInt = 9 := by omega
      by_cases g6 : (sy_i F 6).toInt ≠ 0
      · have c6 := nz_bx hB (k := 6) (lo := 0) (hi := 2) rfl
        have c4 := nz_bx hB (k := 4) (lo := 0) (hi := 400) rfl
        have q70 : (sy_ai F 25).getD (sy_i F 4).toNatClampNeg 0 = (sy_ai F 25).getD ((sy_i F 4).toInt).toNat 0 := by simp only [nz_c]
        have n70 : ((sy_ai F 25).getD (sy_i F 4).toNatClampNeg 0).toInt = ((sy_ai F 25).getD ((sy_i F 4).toInt).toNat 0).toInt := congrArg Int32.toInt q70
        have r70 := nz_ba hB (k := 25) (lo := 0) (hi := 42) rfl ((sy_i F 4).toInt).toNat
        have q71 : (sy_ai F 25).getD (sy_i F 4).toNatClampNeg 0 = (sy_ai F 25).getD ((sy_i F 4).toInt).toNat 0 := by simp only [nz_c]
        have n71 : ((sy_ai F 25).getD (sy_i F 4).toNatClampNeg 0).toInt = ((sy_ai F 25).getD ((sy_i F 4).toInt).toNat 0).toInt := congrArg Int32.toInt q71
        have r71 := nz_ba hB (k := 25) (lo := 0) (hi := 42) rfl ((sy_i F 4).toInt).toNat
        have q72 : (sy_ai F 25).getD (sy_i F 4).toNatClampNeg 0 = (sy_ai F 25).getD ((sy_i F 4).toInt).toNat 0 := by simp only [nz_c]
        have n72 : ((sy_ai F 25).getD (sy_i F 4).toNatClampNeg 0).toInt = ((sy_ai F 25).getD ((sy_i F 4).toInt).toNat 0).toInt := congrArg Int32.toInt q72
        have r72 := nz_ba hB (k := 25) (lo := 0) (hi := 42) rfl ((sy_i F 4).toInt).toNat
        exfalso
        omega
      replace g6 : (sy_i F 6).toInt = 0 := by omega
      by_cases g7 : ((sy_ai F 25).getD ((sy_i F 4).toInt).toNat 0).toInt ≠ 10
      · by_cases g8 : (sy_i F 6).toInt ≠ 0
        · have c6 := nz_bx hB (k := 6) (lo := 0) (hi := 2) rfl
          have c4 := nz_bx hB (k := 4) (lo := 0) (hi := 400) rfl
          have q70 : (sy_ai F 25).getD (sy_i F 4).toNatClampNeg 0 = (sy_ai F 25).getD ((sy_i F 4).toInt).toNat 0 := by simp only [nz_c]
          have n70 : ((sy_ai F 25).getD (sy_i F 4).toNatClampNeg 0).toInt = ((sy_ai F 25).getD ((sy_i F 4).toInt).toNat 0).toInt := congrArg Int32.toInt q70
          have r70 := nz_ba hB (k := 25) (lo := 0) (hi := 42) rfl ((sy_i F 4).toInt).toNat
          have q71 : (sy_ai F 25).getD (sy_i F 4).toNatClampNeg 0 = (sy_ai F 25).getD ((sy_i F 4).toInt).toNat 0 := by simp only [nz_c]
          have n71 : ((sy_ai F 25).getD (sy_i F 4).toNatClampNeg 0).toInt = ((sy_ai F 25).getD ((sy_i F 4).toInt).toNat 0).toInt := congrArg Int32.toInt q71
          have r71 := nz_ba hB (k := 25) (lo := 0) (hi := 42) rfl ((sy_i F 4).toInt).toNat
          have q72 : (sy_ai F 25).getD (sy_i F 4).toNatClampNeg 0 = (sy_ai F 25).getD ((sy_i F 4).toInt).toNat 0 := by simp only [nz_c]
          have n72 : ((sy_ai F 25).getD (sy_i F 4).toNatClampNeg 0).toInt = ((sy_ai F 25).getD ((sy_i F 4).toInt).toNat 0).toInt := congrArg Int32.toInt q72
          have r72 := nz_ba hB (k := 25) (lo := 0) (hi := 42) rfl ((sy_i F 4).toInt).toNat
          have q73 : (sy_ai F 25).getD (sy_i F 4).toNatClampNeg 0 = (sy_ai F 25).getD ((sy_i F 4).toInt).toNat 0 := by simp only [nz_c]
          have n73 : ((sy_ai F 25).getD (sy_i F 4).toNatClampNeg 0).toInt = ((sy_ai F 25).getD ((sy_i F 4).toInt).toNat 0).toInt := congrArg Int32.toInt q73
          have r73 := nz_ba hB (k := 25) (lo := 0) (hi := 42) rfl ((sy_i F 4).toInt).toNat
          exfalso
          omega
        replace g8 : (sy_i F 6).toInt = 0 := by omega
        by_cases g9 : ((sy_ai F 25).getD ((sy_i F 4).toInt).toNat 0).toInt ≠ 15
        · have c6 := nz_bx hB (k := 6) (lo := 0) (hi := 2) rfl
          have c4 := nz_bx hB (k := 4) (lo := 0) (hi := 400) rfl
          have q70 : (sy_ai F 25).getD (sy_i F 4).toNatClampNeg 0 = (sy_ai F 25).getD ((sy_i F 4).toInt).toNat 0 := by simp only [nz_c]
          have n70 : ((sy_ai F 25).getD (sy_i F 4).toNatClampNeg 0).toInt = ((sy_ai F 25).getD ((sy_i F 4).toInt).toNat 0).toInt := congrArg Int32.toInt q70
          have r70 := nz_ba hB (k := 25) (lo := 0) (hi := 42) rfl ((sy_i F 4).toInt).toNat
          have q71 : (sy_ai F 25).getD (sy_i F 4).toNatClampNeg 0 = (sy_ai F 25).getD ((sy_i F 4).toInt).toNat 0 := by simp only [nz_c]
          have n71 : ((sy_ai F 25).getD (sy_i F 4).toNatClampNeg 0).toInt = ((sy_ai F 25).getD ((sy_i F 4).toInt).toNat 0).toInt := congrArg Int32.toInt q71
          have r71 := nz_ba hB (k := 25) (lo := 0) (hi := 42) rfl ((sy_i F 4).toInt).toNat
          have q72 : (sy_ai F 25).getD (sy_i F 4).toNatClampNeg 0 = (sy_ai F 25).getD ((sy_i F 4).toInt).toNat 0 := by simp only [nz_c]
          have n72 : ((sy_ai F 25).getD (sy_i F 4).toNatClampNeg 0).toInt = ((sy_ai F 25).getD ((sy_i F 4).toInt).toNat 0).toInt := congrArg Int32.toInt q72
          have r72 := nz_ba hB (k := 25) (lo := 0) (hi := 42) rfl ((sy_i F 4).toInt).toNat
          have q73 : (sy_ai F 25).getD (sy_i F 4).toNatClampNeg 0 = (sy_ai F 25).getD ((sy_i F 4).toInt).toNat 0 := by simp only [nz_c]
          have n73 : ((sy_ai F 25).getD (sy_i F 4).toNatClampNeg 0).toInt = ((sy_ai F 25).getD ((sy_i F 4).toInt).toNat 0).toInt := congrArg Int32.toInt q73
          have r73 := nz_ba hB (k := 25) (lo := 0) (hi := 42) rfl ((sy_i F 4).toInt).toNat
          have q74 : (sy_ai F 25).getD (sy_i F 4).toNatClampNeg 0 = (sy_ai F 25).getD ((sy_i F 4).toInt).toNat 0 := by simp only [nz_c]
          have n74 : ((sy_ai F 25).getD (sy_i F 4).toNatClampNeg 0).toInt = ((sy_ai F 25).getD ((sy_i F 4).toInt).toNat 0).toInt := congrArg Int32.toInt q74
          have r74 := nz_ba hB (k := 25) (lo := 0) (hi := 42) rfl ((sy_i F 4).toInt).toNat
          exact ex_96_p6 hd F X1 X2 hB (by first | exact g0 | (simp only [nz_c]; exact g0)) (by first | exact ⟨by omega, by omega⟩ | (simp only [nz_c]; exact ⟨by omega, by omega⟩)) (by first | exact g1 | (simp only [nz_c]; exact g1) | (rw [n70]; exact g1)) (by first | exact g2 | (simp only [nz_c]; exact g2)) (by first | exact ⟨by omega, by omega⟩ | (simp only [nz_c]; exact ⟨by omega, by omega⟩)) (by first | exact g3 | (simp only [nz_c]; exact g3) | (rw [n71]; exact g3)) (by first | exact g4 | (simp only [nz_c]; exact g4)) (by first | exact ⟨by omega, by omega⟩ | (simp only [nz_c]; exact ⟨by omega, by omega⟩)) (by first | exact g5 | (simp only [nz_c]; exact g5) | (rw [n72]; exact g5)) (by first | exact g6 | (simp only [nz_c]; exact g6)) (by first | exact ⟨by omega, by omega⟩ | (simp only [nz_c]; exact ⟨by omega, by omega⟩)) (by first | exact g7 | (simp only [nz_c]; exact g7) | (rw [n73]; exact g7)) (by first | exact g8 | (simp only [nz_c]; exact g8)) (by first | exact ⟨by omega, by omega⟩ | (simp only [nz_c]; exact ⟨by omega, by omega⟩)) (by first | exact g9 | (simp only [nz_c]; exact g9) | (rw [n74]; exact g9)) (fun F1 g e69 e70 => k6 g0 g1 g2 g3 g4 g5 g6 g7 g8 g9 F1 (nz_in hB [] (fun j hj hn => g j hj (by simp only [List.mem_cons, List.not_mem_nil, or_false, not_or] at hn; exact trivial)) (List.forall_mem_nil _)) (fun j hj hn => g j hj (by simp only [List.mem_cons, List.not_mem_nil, or_false, not_or] at hn; exact trivial)) (nz_fi (g 4 (by decide) (by decide))) (nz_fi (g 5 (by decide) (by decide))) (nz_fi (g 6 (by decide) (by decide))) (nz_fi (g 7 (by decide) (by decide))) (nz_fi (g 11 (by decide) (by decide))) (nz_fi (g 12 (by decide) (by decide))) (nz_fi (g 14 (by decide) (by decide))) (nz_fi (g 15 (by decide) (by decide))) (nz_fi (g 16 (by decide) (by decide))) (nz_fa (g 25 (by decide) (by decide))) (nz_fa (g 26 (by decide) (by decide))) (nz_fa (g 49 (by decide) (by decide))) (nz_fa (g 50 (by decide) (by decide))) (nz_fa (g 51 (by decide) (by decide))) ((congrArg Int32.toInt (zz_i e69)).trans (rfl : (sy_i F 69).toInt = (sy_i F 69).toInt)) ((congrArg Int32.toInt (zz_i e70)).trans (by decide : ((0 : Int32)).toInt = 0)))
        replace g9 : ((sy_ai F 25).getD ((sy_i F 4).toInt).toNat 0).toInt = 15 := by omega
        have c6 := nz_bx hB (k := 6) (lo := 0) (hi := 2) rfl
        have c4 := nz_bx hB (k := 4) (lo := 0) (hi := 400) rfl
        have q70 : (sy_ai F 25).getD (sy_i F 4).toNatClampNeg 0 = (sy_ai F 25).getD ((sy_i F 4).toInt).toNat 0 := by simp only [nz_c]
        have n70 : ((sy_ai F 25).getD (sy_i F 4).toNatClampNeg 0).toInt = ((sy_ai F 25).getD ((sy_i F 4).toInt).toNat 0).toInt := congrArg Int32.toInt q70
        have r70 := nz_ba hB (k := 25) (lo := 0) (hi := 42) rfl ((sy_i F 4).toInt).toNat
        have q71 : (sy_ai F 25).getD (sy_i F 4).toNatClampNeg 0 = (sy_ai F 25).getD ((sy_i F 4).toInt).toNat 0 := by simp only [nz_c]
        have n71 : ((sy_ai F 25).getD (sy_i F 4).toNatClampNeg 0).toInt = ((sy_ai F 25).getD ((sy_i F 4).toInt).toNat 0).toInt := congrArg Int32.toInt q71
        have r71 := nz_ba hB (k := 25) (lo := 0) (hi := 42) rfl ((sy_i F 4).toInt).toNat
        have q72 : (sy_ai F 25).getD (sy_i F 4).toNatClampNeg 0 = (sy_ai F 25).getD ((sy_i F 4).toInt).toNat 0 := by simp only [nz_c]
        have n72 : ((sy_ai F 25).getD (sy_i F 4).toNatClampNeg 0).toInt = ((sy_ai F 25).getD ((sy_i F 4).toInt).toNat 0).toInt := congrArg Int32.toInt q72
        have r72 := nz_ba hB (k := 25) (lo := 0) (hi := 42) rfl ((sy_i F 4).toInt).toNat
        have q73 : (sy_ai F 25).getD (sy_i F 4).toNatClampNeg 0 = (sy_ai F 25).getD ((sy_i F 4).toInt).toNat 0 := by simp only [nz_c]
        have n73 : ((sy_ai F 25).getD (sy_i F 4).toNatClampNeg 0).toInt = ((sy_ai F 25).getD ((sy_i F 4).toInt).toNat 0).toInt := congrArg Int32.toInt q73
        have r73 := nz_ba hB (k := 25) (lo := 0) (hi := 42) rfl ((sy_i F 4).toInt).toNat
        have q74 : (sy_ai F 25).getD (sy_i F 4).toNatClampNeg 0 = (sy_ai F 25).getD ((sy_i F 4).toInt).toNat 0 := by simp only [nz_c]
        have n74 : ((sy_ai F 25).getD (sy_i F 4).toNatClampNeg 0).toInt = ((sy_ai F 25).getD ((sy_i F 4).toInt).toNat 0).toInt := congrArg Int32.toInt q74
        have r74 := nz_ba hB (k := 25) (lo := 0) (hi := 42) rfl ((sy_i F 4).toInt).toNat
        exfalso
        omega
      replace g7 : ((sy_ai F 25).getD ((sy_i F 4).toInt).toNat 0).toInt = 10 := by omega
      have c6 := nz_bx hB (k := 6) (lo := 0) (hi := 2) rfl
      have c4 := nz_bx hB (k := 4) (lo := 0) (hi := 400) rfl
      have q70 : (sy_ai F 25).getD (sy_i F 4).toNatClampNeg 0 = (sy_ai F 25).getD ((sy_i F 4).toInt).toNat 0 := by simp only [nz_c]
      have n70 : ((sy_ai F 25).getD (sy_i F 4).toNatClampNeg 0).toInt = ((sy_ai F 25).getD ((sy_i F 4).toInt).toNat 0).toInt := congrArg Int32.toInt q70
      have r70 := nz_ba hB (k := 25) (lo := 0) (hi := 42) rfl ((sy_i F 4).toInt).toNat
      have q71 : (sy_ai F 25).getD (sy_i F 4).toNatClampNeg 0 = (sy_ai F 25).getD ((sy_i F 4).toInt).toNat 0 := by simp only [nz_c]
      have n71 : ((sy_ai F 25).getD (sy_i F 4).toNatClampNeg 0).toInt = ((sy_ai F 25).getD ((sy_i F 4).toInt).toNat 0).toInt := congrArg Int32.toInt q71
      have r71 := nz_ba hB (k := 25) (lo := 0) (hi := 42) rfl ((sy_i F 4).toInt).toNat
      have q72 : (sy_ai F 25).getD (sy_i F 4).toNatClampNeg 0 = (sy_ai F 25).getD ((sy_i F 4).toInt).toNat 0 := by simp only [nz_c]
      have n72 : ((sy_ai F 25).getD (sy_i F 4).toNatClampNeg 0).toInt = ((sy_ai F 25).getD ((sy_i F 4).toInt).toNat 0).toInt := congrArg Int32.toInt q72
      have r72 := nz_ba hB (k := 25) (lo := 0) (hi := 42) rfl ((sy_i F 4).toInt).toNat
      have q73 : (sy_ai F 25).getD (sy_i F 4).toNatClampNeg 0 = (sy_ai F 25).getD ((sy_i F 4).toInt).toNat 0 := by simp only [nz_c]
      have n73 : ((sy_ai F 25).getD (sy_i F 4).toNatClampNeg 0).toInt = ((sy_ai F 25).getD ((sy_i F 4).toInt).toNat 0).toInt := congrArg Int32.toInt q73
      have r73 := nz_ba hB (k := 25) (lo := 0) (hi := 42) rfl ((sy_i F 4).toInt).toNat
      exfalso
      omega
    replace g3 : ((sy_ai F 25).getD ((sy_i F 4).toInt).toNat 0).toInt = 8 := by omega
    by_cases g4 : (sy_i F 6).toInt ≠ 0
    · have c6 := nz_bx hB (k := 6) (lo := 0) (hi := 2) rfl
      have c4 := nz_bx hB (k := 4) (lo := 0) (hi := 400) rfl
      have q70 : (sy_ai F 25).getD (sy_i F 4).toNatClampNeg 0 = (sy_ai F 25).getD ((sy_i F 4).toInt).toNat 0 := by simp only [nz_c]
      have n70 : ((sy_ai F 25).getD (sy_i F 4).toNatClampNeg 0).toInt = ((sy_ai F 25).getD ((sy_i F 4).toInt).toNat 0).toInt := congrArg Int32.toInt q70
      have r70 := nz_ba hB (k := 25) (lo := 0) (hi := 42) rfl ((sy_i F 4).toInt).toNat
      have q71 : (sy_ai F 25).getD (sy_i F 4).toNatClampNeg 0 = (sy_ai F 25).getD ((sy_i F 4).toInt).toNat 0 := by simp only [nz_c]
      have n71 : ((sy_ai F 25).getD (sy_i F 4).toNatClampNeg 0).toInt = ((sy_ai F 25).getD ((sy_i F 4).toInt).toNat 0).toInt := congrArg Int32.toInt q71
      have r71 := nz_ba hB (k := 25) (lo := 0) (hi := 42) rfl ((sy_i F 4).toInt).toNat
      exfalso
      omega
    replace g4 : (sy_i F 6).toInt = 0 := by omega
    by_cases g5 : ((sy_ai F 25).getD ((sy_i F 4).toInt).toNat 0).toInt ≠ 10
    · by_cases g6 : (sy_i F 6).toInt ≠ 0
      · have c6 := nz_bx hB (k := 6) (lo := 0) (hi := 2) rfl
        have c4 := nz_bx hB (k := 4) (lo := 0) (hi := 400) rfl
        have q70 : (sy_ai F 25).getD (sy_i F 4).toNatClampNeg 0 = (sy_ai F 25).getD ((sy_i F 4).toInt).toNat 0 := by simp only [nz_c]
        have n70 : ((sy_ai F 25).getD (sy_i F 4).toNatClampNeg 0).toInt = ((sy_ai F 25).getD ((sy_i F 4).toInt).toNat 0).toInt := congrArg Int32.toInt q70
        have r70 := nz_ba hB (k := 25) (lo := 0) (hi := 42) rfl ((sy_i F 4).toInt).toNat
        have q71 : (sy_ai F 25).getD (sy_i F 4).toNatClampNeg 0 = (sy_ai F 25).getD ((sy_i F 4).toInt).toNat 0 := by simp only [nz_c]
        have n71 : ((sy_ai F 25).getD (sy_i F 4).toNatClampNeg 0).toInt = ((sy_ai F 25).getD ((sy_i F 4).toInt).toNat 0).toInt := congrArg Int32.toInt q71
        have r71 := nz_ba hB (k := 25) (lo := 0) (hi := 42) rfl ((sy_i F 4).toInt).toNat
        have q72 : (sy_ai F 25).getD (sy_i F 4).toNatClampNeg 0 = (sy_ai F 25).getD ((sy_i F 4).toInt).toNat 0 := by simp only [nz_c]
        have n72 : ((sy_ai F 25).getD (sy_i F 4).toNatClampNeg 0).toInt = ((sy_ai F 25).getD ((sy_i F 4).toInt).toNat 0).toInt := congrArg Int32.toInt q72
        have r72 := nz_ba hB (k := 25) (lo := 0) (hi := 42) rfl ((sy_i F 4).toInt).toNat
        exfalso
        omega
      replace g6 : (sy_i F 6).toInt = 0 := by omega
      by_cases g7 : ((sy_ai F 25).getD ((sy_i F 4).toInt).toNat 0).toInt ≠ 15
      · have c6 := nz_bx hB (k := 6) (lo := 0) (hi := 2) rfl
        have c4 := nz_bx hB (k := 4) (lo := 0) (hi := 400) rfl
        have q70 : (sy_ai F 25).getD (sy_i F 4).toNatClampNeg 0 = (sy_ai F 25).getD ((sy_i F 4).toInt).toNat 0 := by simp only [nz_c]
        have n70 : ((sy_ai F 25).getD (sy_i F 4).toNatClampNeg 0).toInt = ((sy_ai F 25).getD ((sy_i F 4).toInt).toNat 0).toInt := congrArg Int32.toInt q70
        have r70 := nz_ba hB (k := 25) (lo := 0) (hi := 42) rfl ((sy_i F 4).toInt).toNat
        have q71 : (sy_ai F 25).getD (sy_i F 4).toNatClampNeg 0 = (sy_ai F 25).getD ((sy_i F 4).toInt).toNat 0 := by simp only [nz_c]
        have n71 : ((sy_ai F 25).getD (sy_i F 4).toNatClampNeg 0).toInt = ((sy_ai F 25).getD ((sy_i F 4).toInt).toNat 0).toInt := congrArg Int32.toInt q71
        have r71 := nz_ba hB (k := 25) (lo := 0) (hi := 42) rfl ((sy_i F 4).toInt).toNat
        have q72 : (sy_ai F 25).getD (sy_i F 4).toNatClampNeg 0 = (sy_ai F 25).getD ((sy_i F 4).toInt).toNat 0 := by simp only [nz_c]
        have n72 : ((sy_ai F 25).getD (sy_i F 4).toNatClampNeg 0).toInt = ((sy_ai F 25).getD ((sy_i F 4).toInt).toNat 0).toInt := congrArg Int32.toInt q72
        have r72 := nz_ba hB (k := 25) (lo := 0) (hi := 42) rfl ((sy_i F 4).toInt).toNat
        have q73 : (sy_ai F 25).getD (sy_i F 4).toNatClampNeg 0 = (sy_ai F 25).getD ((sy_i F 4).toInt).toNat 0 := by simp only [nz_c]
        have n73 : ((sy_ai F 25).getD (sy_i F 4).toNatClampNeg 0).toInt = ((sy_ai F 25).getD ((sy_i F 4).toInt).toNat 0).toInt := congrArg Int32.toInt q73
        have r73 := nz_ba hB (k := 25) (lo := 0) (hi := 42) rfl ((sy_i F 4).toInt).toNat
        exact ex_96_p7 hd F X1 X2 hB (by first | exact g0 | (simp only [nz_c]; exact g0)) (by first | exact ⟨by omega, by omega⟩ | (simp only [nz_c]; exact ⟨by omega, by omega⟩)) (by first | exact g1 | (simp only [nz_c]; exact g1) | (rw [n70]; exact g1)) (by first | exact g2 | (simp only [nz_c]; exact g2)) (by first | exact ⟨by omega, by omega⟩ | (simp only [nz_c]; exact ⟨by omega, by omega⟩)) (by first | exact g3 | (simp only [nz_c]; exact g3) | (rw [n71]; exact g3)) (by first | exact g4 | (simp only [nz_c]; exact g4)) (by first | exact ⟨by omega, by omega⟩ | (simp only [nz_c]; exact ⟨by omega, by omega⟩)) (by first | exact g5 | (simp only [nz_c]; exact g5) | (rw [n72]; exact g5)) (by first | exact g6 | (simp only [nz_c]; exact g6)) (by first | exact ⟨by omega, by omega⟩ | (simp only [nz_c]; exact ⟨by omega, by omega⟩)) (by first | exact g7 | (simp only [nz_c]; exact g7) | (rw [n73]; exact g7)) (fun F1 g e69 e70 => k7 g0 g1 g2 g3 g4 g5 g6 g7 F1 (nz_in hB [] (fun j hj hn => g j hj (by simp only [List.mem_cons, List.not_mem_nil, or_false, not_or] at hn; exact trivial)) (List.forall_mem_nil _)) (fun j hj hn => g j hj (by simp only [List.mem_cons, List.not_mem_nil, or_false, not_or] at hn; exact trivial)) (nz_fi (g 4 (by decide) (by decide))) (nz_fi (g 5 (by decide) (by decide))) (nz_fi (g 6 (by decide) (by decide))) (nz_fi (g 7 (by decide) (by decide))) (nz_fi (g 11 (by decide) (by decide))) (nz_fi (g 12 (by decide) (by decide))) (nz_fi (g 14 (by decide) (by decide))) (nz_fi (g 15 (by decide) (by decide))) (nz_fi (g 16 (by decide) (by decide))) (nz_fa (g 25 (by decide) (by decide))) (nz_fa (g 26 (by decide) (by decide))) (nz_fa (g 49 (by decide) (by decide))) (nz_fa (g 50 (by decide) (by decide))) (nz_fa (g 51 (by decide) (by decide))) ((congrArg Int32.toInt (zz_i e69)).trans (rfl : (sy_i F 69).toInt = (sy_i F 69).toInt)) ((congrArg Int32.toInt (zz_i e70)).trans (by decide : ((0 : Int32)).toInt = 0)))
      replace g7 : ((sy_ai F 25).getD ((sy_i F 4).toInt).toNat 0).toInt = 15 := by omega
      have c6 := nz_bx hB (k := 6) (lo := 0) (hi := 2) rfl
      have c4 := nz_bx hB (k := 4) (lo := 0) (hi := 400) rfl
      have q70 : (sy_ai F 25).getD (sy_i F 4).toNatClampNeg 0 = (sy_ai F 25).getD ((sy_i F 4).toInt).toNat 0 := by simp only [nz_c]
      have n70 : ((sy_ai F 25).getD (sy_i F 4).toNatClampNeg 0).toInt = ((sy_ai F 25).getD ((sy_i F 4).toInt).toNat 0).toInt := congrArg Int32.toInt q70
      have r70 := nz_ba hB (k := 25) (lo := 0) (hi := 42) rfl ((sy_i F 4).toInt).toNat
      have q71 : (sy_ai F 25).getD (sy_i F 4).toNatClampNeg 0 = (sy_ai F 25).getD ((sy_i F 4).toInt).toNat 0 := by simp only [nz_c]
      have n71 : ((sy_ai F 25).getD (sy_i F 4).toNatClampNeg 0).toInt = ((sy_ai F 25).getD ((sy_i F 4).toInt).toNat 0).toInt := congrArg Int32.toInt q71
      have r71 := nz_ba hB (k := 25) (lo := 0) (hi := 42) rfl ((sy_i F 4).toInt).toNat
      have q72 : (sy_ai F 25).getD (sy_i F 4).toNatClampNeg 0 = (sy_ai F 25).getD ((sy_i F 4).toInt).toNat 0 := by simp only [nz_c]
      have n72 : ((sy_ai F 25).getD (sy_i F 4).toNatClampNeg 0).toInt = ((sy_ai F 25).getD ((sy_i F 4).toInt).toNat 0).toInt := congrArg Int32.toInt q72
      have r72 := nz_ba hB (k := 25) (lo := 0) (hi := 42) rfl ((sy_i F 4).toInt).toNat
      have q73 : (sy_ai F 25).getD (sy_i F 4).toNatClampNeg 0 = (sy_ai F 25).getD ((sy_i F 4).toInt).toNat 0 := by simp only [nz_c]
      have n73 : ((sy_ai F 25).getD (sy_i F 4).toNatClampNeg 0).toInt = ((sy_ai F 25).getD ((sy_i F 4).toInt).toNat 0).toInt := congrArg Int32.toInt q73
      have r73 := nz_ba hB (k := 25) (lo := 0) (hi := 42) rfl ((sy_i F 4).toInt).toNat
      exfalso
      omega
    replace g5 : ((sy_ai F 25).getD ((sy_i F 4).toInt).toNat 0).toInt = 10 := by omega
    have c6 := nz_bx hB (k := 6) (lo := 0) (hi := 2) rfl
    have c4 := nz_bx hB (k := 4) (lo := 0) (hi := 400) rfl
    have q70 : (sy_ai F 25).getD (sy_i F 4).toNatClampNeg 0 = (sy_ai F 25).getD ((sy_i F 4).toInt).toNat 0 := by simp only [nz_c]
    have n70 : ((sy_ai F 25).getD (sy_i F 4).toNatClampNeg 0).toInt = ((sy_ai F 25).getD ((sy_i F 4).toInt).toNat 0).toInt := congrArg Int32.toInt q70
    have r70 := nz_ba hB (k := 25) (lo := 0) (hi := 42) rfl ((sy_i F 4).toInt).toNat
    have q71 : (sy_ai F 25).getD (sy_i F 4).toNatClampNeg 0 = (sy_ai F 25).getD ((sy_i F 4).toInt).toNat 0 := by simp only [nz_c]
    have n71 : ((sy_ai F 25).getD (sy_i F 4).toNatClampNeg 0).toInt = ((sy_ai F 25).getD ((sy_i F 4).toInt).toNat 0).toInt := congrArg Int32.toInt q71
    have r71 := nz_ba hB (k := 25) (lo := 0) (hi := 42) rfl ((sy_i F 4).toInt).toNat
    have q72 : (sy_ai F 25).getD (sy_i F 4).toNatClampNeg 0 = (sy_ai F 25).getD ((sy_i F 4).toInt).toNat 0 := by simp only [nz_c]
    have n72 : ((sy_ai F 25).getD (sy_i F 4).toNatClampNeg 0).toInt = ((sy_ai F 25).getD ((sy_i F 4).toInt).toNat 0).toInt := congrArg Int32.toInt q72
    have r72 := nz_ba hB (k := 25) (lo := 0) (hi := 42) rfl ((sy_i F 4).toInt).toNat
    exfalso
    omega
  replace g1 : ((sy_ai F 25).getD ((sy_i F 4).toInt).toNat 0).toInt = 7 := by omega
  by_cases g2 : (sy_i F 5).toInt ≤ (sy_i F 69).toInt
  · by_cases g3 : (sy_i F 6).toInt ≠ 0
    · have c6 := nz_bx hB (k := 6) (lo := 0) (hi := 2) rfl
      have c4 := nz_bx hB (k := 4) (lo := 0) (hi := 400) rfl
      have q70 : (sy_ai F 25).getD (sy_i F 4).toNatClampNeg 0 = (sy_ai F 25).getD ((sy_i F 4).toInt).toNat 0 := by simp only [nz_c]
      have n70 : ((sy_ai F 25).getD (sy_i F 4).toNatClampNeg 0).toInt = ((sy_ai F 25).getD ((sy_i F 4).toInt).toNat 0).toInt := congrArg Int32.toInt q70
      have r70 := nz_ba hB (k := 25) (lo := 0) (hi := 42) rfl ((sy_i F 4).toInt).toNat
      have c5 := nz_bx hB (k := 5) (lo := 0) (hi := 7) rfl
      exfalso
      omega
    replace g3 : (sy_i F 6).toInt = 0 := by omega
    by_cases g4 : ((sy_ai F 25).getD ((sy_i F 4).toInt).toNat 0).toInt ≠ 8
    · by_cases g5 : (sy_i F 6).toInt ≠ 0
      · have c6 := nz_bx hB (k := 6) (lo := 0) (hi := 2) rfl
        have c4 := nz_bx hB (k := 4) (lo := 0) (hi := 400) rfl
        have q70 : (sy_ai F 25).getD (sy_i F 4).toNatClampNeg 0 = (sy_ai F 25).getD ((sy_i F 4).toInt).toNat 0 := by simp only [nz_c]
        have n70 : ((sy_ai F 25).getD (sy_i F 4).toNatClampNeg 0).toInt = ((sy_ai F 25).getD ((sy_i F 4).toInt).toNat 0).toInt := congrArg Int32.toInt q70
        have r70 := nz_ba hB (k := 25) (lo := 0) (hi := 42) rfl ((sy_i F 4).toInt).toNat
        have c5 := nz_bx hB (k := 5) (lo := 0) (hi := 7) rfl
        have q71 : (sy_ai F 25).getD (sy_i F 4).toNatClampNeg 0 = (sy_ai F 25).getD ((sy_i F 4).toInt).toNat 0 := by simp only [nz_c]
        have n71 : ((sy_ai F 25).getD (sy_i F 4).toNatClampNeg 0).toInt = ((sy_ai F 25).getD ((sy_i F 4).toInt).toNat 0).toInt := congrArg Int32.toInt q71
        have r71 := nz_ba hB (k := 25) (lo := 0) (hi := 42) rfl ((sy_i F 4).toInt).toNat
        exfalso
        omega
      replace g5 : (sy_i F 6).toInt = 0 := by omega
      by_cases g6 : ((sy_ai F 25).getD ((sy_i F 4).toInt).toNat 0).toInt ≠ 9
      · by_cases g7 : (sy_i F 6).toInt ≠ 0
        · have c6 := nz_bx hB (k := 6) (lo := 0) (hi := 2) rfl
          have c4 := nz_bx hB (k := 4) (lo := 0) (hi := 400) rfl
          have q70 : (sy_ai F 25).getD (sy_i F 4).toNatClampNeg 0 = (sy_ai F 25).getD ((sy_i F 4).toInt).toNat 0 := by simp only [nz_c]
          have n70 : ((sy_ai F 25).getD (sy_i F 4).toNatClampNeg 0).toInt = ((sy_ai F 25).getD ((sy_i F 4).toInt).toNat 0).toInt := congrArg Int32.toInt q70
          have r70 := nz_ba hB (k := 25) (lo := 0) (hi := 42) rfl ((sy_i F 4).toInt).toNat
          have c5 := nz_bx hB (k := 5) (lo := 0) (hi := 7) rfl
          have q71 : (sy_ai F 25).getD (sy_i F 4).toNatClampNeg 0 = (sy_ai F 25).getD ((sy_i F 4).toInt).toNat 0 := by simp only [nz_c]
          have n71 : ((sy_ai F 25).getD (sy_i F 4).toNatClampNeg 0).toInt = ((sy_ai F 25).getD ((sy_i F 4).toInt).toNat 0).toInt := congrArg Int32.toInt q71
          have r71 := nz_ba hB (k := 25) (lo := 0) (hi := 42) rfl ((sy_i F 4).toInt).toNat
          have q72 : (sy_ai F 25).getD (sy_i F 4).toNatClampNeg 0 = (sy_ai F 25).getD ((sy_i F 4).toInt).toNat 0 := by simp only [nz_c]
          have n72 : ((sy_ai F 25).getD (sy_i F 4).toNatClampNeg 0).toInt = ((sy_ai F 25).getD ((sy_i F 4).toInt).toNat 0).toInt := congrArg Int32.toInt q72
          have r72 := nz_ba hB (k := 25) (lo := 0) (hi := 42) rfl ((sy_i F 4).toInt).toNat
          exfalso
          omega
        replace g7 : (sy_i F 6).toInt = 0 := by omega
        by_cases g8 : ((sy_ai F 25).getD ((sy_i F 4).toInt).toNat 0).toInt ≠ 10
        · by_cases g9 : (sy_i F 6).toInt ≠ 0
          · have c6 := nz_bx hB (k := 6) (lo := 0) (hi := 2) rfl
            have c4 := nz_bx hB (k := 4) (lo := 0) (hi := 400) rfl
            have q70 : (sy_ai F 25).getD (sy_i F 4).toNatClampNeg 0 = (sy_ai F 25).getD ((sy_i F 4).toInt).toNat 0 := by simp only [nz_c]
            have n70 : ((sy_ai F 25).getD (sy_i F 4).toNatClampNeg 0).toInt = ((sy_ai F 25).getD ((sy_i F 4).toInt).toNat 0).toInt := congrArg Int32.toInt q70
            have r70 := nz_ba hB (k := 25) (lo := 0) (hi := 42) rfl ((sy_i F 4).toInt).toNat
            have c5 := nz_bx hB (k := 5) (lo := 0) (hi := 7) rfl
            have q71 : (sy_ai F 25).getD (sy_i F 4).toNatClampNeg 0 = (sy_ai F 25).getD ((sy_i F 4).toInt).toNat 0 := by simp only [nz_c]
            have n71 : ((sy_ai F 25).getD (sy_i F 4).toNatClampNeg 0).toInt = ((sy_ai F 25).getD ((sy_i F 4).toInt).toNat 0).toInt := congrArg Int32.toInt q71
            have r71 := nz_ba hB (k := 25) (lo := 0) (hi := 42) rfl ((sy_i F 4).toInt).toNat
            have q72 : (sy_ai F 25).getD (sy_i F 4).toNatClampNeg 0 = (sy_ai F 25).getD ((sy_i F 4).toInt).toNat 0 := by simp only [nz_c]
            have n72 : ((sy_ai F 25).getD (sy_i F 4).toNatClampNeg 0).toInt = ((sy_ai F 25).getD ((sy_i F 4).toInt).toNat 0).toInt := congrArg Int32.toInt q72
            have r72 := nz_ba hB (k := 25) (lo := 0) (hi := 42) rfl ((sy_i F 4).toInt).toNat
            have q73 : (sy_ai F 25).getD (sy_i F 4).toNatClampNeg 0 = (sy_ai F 25).getD ((sy_i F 4).toInt).toNat 0 := by simp only [nz_c]
            have n73 : ((sy_ai F 25).getD (sy_i F 4).toNatClampNeg 0).toInt = ((sy_ai F 25).getD ((sy_i F 4).toInt).toNat 0).toInt := congrArg Int32.toInt q73
            have r73 := nz_ba hB (k := 25) (lo := 0) (hi := 42) rfl ((sy_i F 4).toInt).toNat
            exfalso
            omega
          replace g9 : (sy_i F 6).toInt = 0 := by omega
          by_cases g10 : ((sy_ai F 25).getD ((sy_i F 4).toInt).toNat 0).toInt ≠ 15
          · by_cases g11 : (sy_i F 5).toInt ≤ (sy_i F 69).toInt
            · have c6 := nz_bx hB (k := 6) (lo := 0) (hi := 2) rfl
              have c4 := nz_bx hB (k := 4) (lo := 0) (hi := 400) rfl
              have q70 : (sy_ai F 25).getD (sy_i F 4).toNatClampNeg 0 = (sy_ai F 25).getD ((sy_i F 4).toInt).toNat 0 := by simp only [nz_c]
              have n70 : ((sy_ai F 25).getD (sy_i F 4).toNatClampNeg 0).toInt = ((sy_ai F 25).getD ((sy_i F 4).toInt).toNat 0).toInt := congrArg Int32.toInt q70
              have r70 := nz_ba hB (k := 25) (lo := 0) (hi := 42) rfl ((sy_i F 4).toInt).toNat
              have c5 := nz_bx hB (k := 5) (lo := 0) (hi := 7) rfl
              have q71 : (sy_ai F 25).getD (sy_i F 4).toNatClampNeg 0 = (sy_ai F 25).getD ((sy_i F 4).toInt).toNat 0 := by simp only [nz_c]
              have n71 : ((sy_ai F 25).getD (sy_i F 4).toNatClampNeg 0).toInt = ((sy_ai F 25).getD ((sy_i F 4).toInt).toNat 0).toInt := congrArg Int32.toInt q71
              have r71 := nz_ba hB (k := 25) (lo := 0) (hi := 42) rfl ((sy_i F 4).toInt).toNat
              have q72 : (sy_ai F 25).getD (sy_i F 4).toNatClampNeg 0 = (sy_ai F 25).getD ((sy_i F 4).toInt).toNat 0 := by simp only [nz_c]
              have n72 : ((sy_ai F 25).getD (sy_i F 4).toNatClampNeg 0).toInt = ((sy_ai F 25).getD ((sy_i F 4).toInt).toNat 0).toInt := congrArg Int32.toInt q72
              have r72 := nz_ba hB (k := 25) (lo := 0) (hi := 42) rfl ((sy_i F 4).toInt).toNat
              have q73 : (sy_ai F 25).getD (sy_i F 4).toNatClampNeg 0 = (sy_ai F 25).getD ((sy_i F 4).toInt).toNat 0 := by simp only [nz_c]
              have n73 : ((sy_ai F 25).getD (sy_i F 4).toNatClampNeg 0).toInt = ((sy_ai F 25).getD ((sy_i F 4).toInt).toNat 0).toInt := congrArg Int32.toInt q73
              have r73 := nz_ba hB (k := 25) (lo := 0) (hi := 42) rfl ((sy_i F 4).toInt).toNat
              have q74 : (sy_ai F 25).getD (sy_i F 4).toNatClampNeg 0 = (sy_ai F 25).getD ((sy_i F 4).toInt).toNat 0 := by simp only [nz_c]
              have n74 : ((sy_ai F 25).getD (sy_i F 4).toNatClampNeg 0).toInt = ((sy_ai F 25).getD ((sy_i F 4).toInt).toNat 0).toInt := congrArg Int32.toInt q74
              have r74 := nz_ba hB (k := 25) (lo := 0) (hi := 42) rfl ((sy_i F 4).toInt).toNat
              exact ex_96_p8 hd F X1 X2 hB (by first | exact g0 | (simp only [nz_c]; exact g0)) (by first | exact ⟨by omega, by omega⟩ | (simp only [nz_c]; exact ⟨by omega, by omega⟩)) (by first | exact g1 | (simp only [nz_c]; exact g1) | (rw [n70]; exact g1)) (by first | exact g2 | (simp only [nz_c]; exact g2)) (by first | exact g3 | (simp only [nz_c]; exact g3)) (by first | exact ⟨by omega, by omega⟩ | (simp only [nz_c]; exact ⟨by omega, by omega⟩)) (by first | exact g4 | (simp only [nz_c]; exact g4) | (rw [n71]; exact g4)) (by first | exact g5 | (simp only [nz_c]; exact g5)) (by first | exact ⟨by omega, by omega⟩ | (simp only [nz_c]; exact ⟨by omega, by omega⟩)) (by first | exact g6 | (simp only [nz_c]; exact g6) | (rw [n72]; exact g6)) (by first | exact g7 | (simp only [nz_c]; exact g7)) (by first | exact ⟨by omega, by omega⟩ | (simp only [nz_c]; exact ⟨by omega, by omega⟩)) (by first | exact g8 | (simp only [nz_c]; exact g8) | (rw [n73]; exact g8)) (by first | exact g9 | (simp only [nz_c]; exact g9)) (by first | exact ⟨by omega, by omega⟩ | (simp only [nz_c]; exact ⟨by omega, by omega⟩)) (by first | exact g10 | (simp only [nz_c]; exact g10) | (rw [n74]; exact g10)) (by first | exact g11 | (simp only [nz_c]; exact g11)) (fun F1 g  => k8 g0 g1 g2 g3 g4 g5 g6 g7 g8 g9 g10 g11 F1 (nz_in hB [] (fun j hj hn => g j hj (by simp only [List.mem_cons, List.not_mem_nil, or_false, not_or] at hn; exact trivial)) (List.forall_mem_nil _)) (fun j hj hn => g j hj (by simp only [List.mem_cons, List.not_mem_nil, or_false, not_or] at hn; exact trivial)) (nz_fi (g 4 (by decide) (by decide))) (nz_fi (g 5 (by decide) (by decide))) (nz_fi (g 6 (by decide) (by decide))) (nz_fi (g 7 (by decide) (by decide))) (nz_fi (g 11 (by decide) (by decide))) (nz_fi (g 12 (by decide) (by decide))) (nz_fi (g 14 (by decide) (by decide))) (nz_fi (g 15 (by decide) (by decide))) (nz_fi (g 16 (by decide) (by decide))) (nz_fa (g 25 (by decide) (by decide))) (nz_fa (g 26 (by decide) (by decide))) (nz_fa (g 49 (by decide) (by decide))) (nz_fa (g 50 (by decide) (by decide))) (nz_fa (g 51 (by decide) (by decide))))
            replace g11 : (sy_i F 69).toInt < (sy_i F 5).toInt := by omega
            by_cases g12 : (sy_i F 6).toInt ≤ 0
            · have c6 := nz_bx hB (k := 6) (lo := 0) (hi := 2) rfl
              have c4 := nz_bx hB (k := 4) (lo := 0) (hi := 400) rfl
              have q70 : (sy_ai F 25).getD (sy_i F 4).toNatClampNeg 0 = (sy_ai F 25).getD ((sy_i F 4).toInt).toNat 0 := by simp only [nz_c]
              have n70 : ((sy_ai F 25).getD (sy_i F 4).toNatClampNeg 0).toInt = ((sy_ai F 25).getD ((sy_i F 4).toInt).toNat 0).toInt := congrArg Int32.toInt q70
              have r70 := nz_ba hB (k := 25) (lo := 0) (hi := 42) rfl ((sy_i F 4).toInt).toNat
              have c5 := nz_bx hB (k := 5) (lo := 0) (hi := 7) rfl
              have q71 : (sy_ai F 25).getD (sy_i F 4).toNatClampNeg 0 = (sy_ai F 25).getD ((sy_i F 4).toInt).toNat 0 := by simp only [nz_c]
              have n71 : ((sy_ai F 25).getD (sy_i F 4).toNatClampNeg 0).toInt = ((sy_ai F 25).getD ((sy_i F 4).toInt).toNat 0).toInt := congrArg Int32.toInt q71
              have r71 := nz_ba hB (k := 25) (lo := 0) (hi := 42) rfl ((sy_i F 4).toInt).toNat
              have q72 : (sy_ai F 25).getD (sy_i F 4).toNatClampNeg 0 = (sy_ai F 25).getD ((sy_i F 4).toInt).toNat 0 := by simp only [nz_c]
              have n72 : ((sy_ai F 25).getD (sy_i F 4).toNatClampNeg 0).toInt = ((sy_ai F 25).getD ((sy_i F 4).toInt).toNat 0).toInt := congrArg Int32.toInt q72
              have r72 := nz_ba hB (k := 25) (lo := 0) (hi := 42) rfl ((sy_i F 4).toInt).toNat
              have q73 : (sy_ai F 25).getD (sy_i F 4).toNatClampNeg 0 = (sy_ai F 25).getD ((sy_i F 4).toInt).toNat 0 := by simp only [nz_c]
              have n73 : ((sy_ai F 25).getD (sy_i F 4).toNatClampNeg 0).toInt = ((sy_ai F 25).getD ((sy_i F 4).toInt).toNat 0).toInt := congrArg Int32.toInt q73
              have r73 := nz_ba hB (k := 25) (lo := 0) (hi := 42) rfl ((sy_i F 4).toInt).toNat
              have q74 : (sy_ai F 25).getD (sy_i F 4).toNatClampNeg 0 = (sy_ai F 25).getD ((sy_i F 4).toInt).toNat 0 := by simp only [nz_c]
              have n74 : ((sy_ai F 25).getD (sy_i F 4).toNatClampNeg 0).toInt = ((sy_ai F 25).getD ((sy_i F 4).toInt).toNat 0).toInt := congrArg Int32.toInt q74
              have r74 := nz_ba hB (k := 25) (lo := 0) (hi := 42) rfl ((sy_i F 4).toInt).toNat
              have q75 : (sy_ai F 26).getD (sy_i F 4).toNatClampNeg 0 = (sy_ai F 26).getD ((sy_i F 4).toInt).toNat 0 := by simp only [nz_c]
              have n75 : ((sy_ai F 26).getD (sy_i F 4).toNatClampNeg 0).toInt = ((sy_ai F 26).getD ((sy_i F 4).toInt).toNat 0).toInt := congrArg Int32.toInt q75
              exact ex_96_p9 hd F X1 X2 hB (by first | exact g0 | (simp only [nz_c]; exact g0)) (by first | exact ⟨by omega, by omega⟩ | (simp only [nz_c]; exact ⟨by omega, by omega⟩)) (by first | exact g1 | (simp only [nz_c]; exact g1) | (rw [n70]; exact g1)) (by first | exact g2 | (simp only [nz_c]; exact g2)) (by first | exact g3 | (simp only [nz_c]; exact g3)) (by first | exact ⟨by omega, by omega⟩ | (simp only [nz_c]; exact ⟨by omega, by omega⟩)) (by first | exact g4 | (simp only [nz_c]; exact g4) | (rw [n71]; exact g4)) (by first | exact g5 | (simp only [nz_c]; exact g5)) (by first | exact ⟨by omega, by omega⟩ | (simp only [nz_c]; exact ⟨by omega, by omega⟩)) (by first | exact g6 | (simp only [nz_c]; exact g6) | (rw [n72]; exact g6)) (by first | exact g7 | (simp only [nz_c]; exact g7)) (by first | exact ⟨by omega, by omega⟩ | (simp only [nz_c]; exact ⟨by omega, by omega⟩)) (by first | exact g8 | (simp only [nz_c]; exact g8) | (rw [n73]; exact g8)) (by first | exact g9 | (simp only [nz_c]; exact g9)) (by first | exact ⟨by omega, by omega⟩ | (simp only [nz_c]; exact ⟨by omega, by omega⟩)) (by first | exact g10 | (simp only [nz_c]; exact g10) | (rw [n74]; exact g10)) (by first | exact g11 | (simp only [nz_c]; exact g11)) (by first | exact g12 | (simp only [nz_c]; exact g12)) (by first | exact ⟨by omega, by omega⟩ | (simp only [nz_c]; exact ⟨by omega, by omega⟩)) (fun F1 g e6 e7 => k9 g0 g1 g2 g3 g4 g5 g6 g7 g8 g9 g10 g11 g12 F1 (nz_in hB [6, 7] (fun j hj hn => g j hj (by simp only [List.mem_cons, List.not_mem_nil, or_false, not_or] at hn; omega)) (List.forall_mem_cons.mpr ⟨fun t ht => (Option.some.inj ht) ▸ (nz_hi e6 (by decide : ((1 : Int32)).toInt = 1) (by omega) (by omega)), List.forall_mem_cons.mpr ⟨fun t ht => (Option.some.inj ht) ▸ (nz_hz e7), List.forall_mem_nil _⟩⟩)) (fun j hj hn => g j hj (by simp only [List.mem_cons, List.not_mem_nil, or_false, not_or] at hn; omega)) (nz_fi (g 4 (by decide) (by decide))) (nz_fi (g 5 (by decide) (by decide))) ((congrArg Int32.toInt (zz_i e6)).trans (by decide : ((1 : Int32)).toInt = 1)) ((congrArg Int32.toInt (zz_i e7)).trans n75) (nz_fi (g 11 (by decide) (by decide))) (nz_fi (g 12 (by decide) (by decide))) (nz_fi (g 14 (by decide) (by decide))) (nz_fi (g 15 (by decide) (by decide))) (nz_fi (g 16 (by decide) (by decide))) (nz_fa (g 25 (by decide) (by decide))) (nz_fa (g 26 (by decide) (by decide))) (nz_fa (g 49 (by decide) (by decide))) (nz_fa (g 50 (by decide) (by decide))) (nz_fa (g 51 (by decide) (by decide))))
            replace g12 : 0 < (sy_i F 6).toInt := by omega
            have c6 := nz_bx hB (k := 6) (lo := 0) (hi := 2) rfl
            have c4 := nz_bx hB (k := 4) (lo := 0) (hi := 400) rfl
            have q70 : (sy_ai F 25).getD (sy_i F 4).toNatClampNeg 0 = (sy_ai F 25).getD ((sy_i F 4).toInt).toNat 0 := by simp only [nz_c]
            have n70 : ((sy_ai F 25).getD (sy_i F 4).toNatClampNeg 0).toInt = ((sy_ai F 25).getD ((sy_i F 4).toInt).toNat 0).toInt := congrArg Int32.toInt q70
            have r70 := nz_ba hB (k := 25) (lo := 0) (hi := 42) rfl ((sy_i F 4).toInt).toNat
            have c5 := nz_bx hB (k := 5) (lo := 0) (hi := 7) rfl
            have q71 : (sy_ai F 25).getD (sy_i F 4).toNatClampNeg 0 = (sy_ai F 25).getD ((sy_i F 4).toInt).toNat 0 := by simp only [nz_c]
            have n71 : ((sy_ai F 25).getD (sy_i F 4).toNatClampNeg 0).toInt = ((sy_ai F 25).getD ((sy_i F 4).toInt).toNat 0).toInt := congrArg Int32.toInt q71
            have r71 := nz_ba hB (k := 25) (lo := 0) (hi := 42) rfl ((sy_i F 4).toInt).toNat
            have q72 : (sy_ai F 25).getD (sy_i F 4).toNatClampNeg 0 = (sy_ai F 25).getD ((sy_i F 4).toInt).toNat 0 := by simp only [nz_c]
            have n72 : ((sy_ai F 25).getD (sy_i F 4).toNatClampNeg 0).toInt = ((sy_ai F 25).getD ((sy_i F 4).toInt).toNat 0).toInt := congrArg Int32.toInt q72
            have r72 := nz_ba hB (k := 25) (lo := 0) (hi := 42) rfl ((sy_i F 4).toInt).toNat
            have q73 : (sy_ai F 25).getD (sy_i F 4).toNatClampNeg 0 = (sy_ai F 25).getD ((sy_i F 4).toInt).toNat 0 := by simp only [nz_c]
            have n73 : ((sy_ai F 25).getD (sy_i F 4).toNatClampNeg 0).toInt = ((sy_ai F 25).getD ((sy_i F 4).toInt).toNat 0).toInt := congrArg Int32.toInt q73
            have r73 := nz_ba hB (k := 25) (lo := 0) (hi := 42) rfl ((sy_i F 4).toInt).toNat
            have q74 : (sy_ai F 25).getD (sy_i F 4).toNatClampNeg 0 = (sy_ai F 25).getD ((sy_i F 4).toInt).toNat 0 := by simp only [nz_c]
            have n74 : ((sy_ai F 25).getD (sy_i F 4).toNatClampNeg 0).toInt = ((sy_ai F 25).getD ((sy_i F 4).toInt).toNat 0).toInt := congrArg Int32.toInt q74
            have r74 := nz_ba hB (k := 25) (lo := 0) (hi := 42) rfl ((sy_i F 4).toInt).toNat
            exfalso
            omega
          replace g10 : ((sy_ai F 25).getD ((sy_i F 4).toInt).toNat 0).toInt = 15 := by omega
          have c6 := nz_bx hB (k := 6) (lo := 0) (hi := 2) rfl
          have c4 := nz_bx hB (k := 4) (lo := 0) (hi := 400) rfl
          have q70 : (sy_ai F 25).getD (sy_i F 4).toNatClampNeg 0 = (sy_ai F 25).getD ((sy_i F 4).toInt).toNat 0 := by simp only [nz_c]
          have n70 : ((sy_ai F 25).getD (sy_i F 4).toNatClampNeg 0).toInt = ((sy_ai F 25).getD ((sy_i F 4).toInt).toNat 0).toInt := congrArg Int32.toInt q70
          have r70 := nz_ba hB (k := 25) (lo := 0) (hi := 42) rfl ((sy_i F 4).toInt).toNat
          have c5 := nz_bx hB (k := 5) (lo := 0) (hi := 7) rfl
          have q71 : (sy_ai F 25).getD (sy_i F 4).toNatClampNeg 0 = (sy_ai F 25).getD ((sy_i F 4).toInt).toNat 0 := by simp only [nz_c]
          have n71 : ((sy_ai F 25).getD (sy_i F 4).toNatClampNeg 0).toInt = ((sy_ai F 25).getD ((sy_i F 4).toInt).toNat 0).toInt := congrArg Int32.toInt q71
          have r71 := nz_ba hB (k := 25) (lo := 0) (hi := 42) rfl ((sy_i F 4).toInt).toNat
          have q72 : (sy_ai F 25).getD (sy_i F 4).toNatClampNeg 0 = (sy_ai F 25).getD ((sy_i F 4).toInt).toNat 0 := by simp only [nz_c]
          have n72 : ((sy_ai F 25).getD (sy_i F 4).toNatClampNeg 0).toInt = ((sy_ai F 25).getD ((sy_i F 4).toInt).toNat 0).toInt := congrArg Int32.toInt q72
          have r72 := nz_ba hB (k := 25) (lo := 0) (hi := 42) rfl ((sy_i F 4).toInt).toNat
          have q73 : (sy_ai F 25).getD (sy_i F 4).toNatClampNeg 0 = (sy_ai F 25).getD ((sy_i F 4).toInt).toNat 0 := by simp only [nz_c]
          have n73 : ((sy_ai F 25).getD (sy_i F 4).toNatClampNeg 0).toInt = ((sy_ai F 25).getD ((sy_i F 4).toInt).toNat 0).toInt := congrArg Int32.toInt q73
          have r73 := nz_ba hB (k := 25) (lo := 0) (hi := 42) rfl ((sy_i F 4).toInt).toNat
          have q74 : (sy_ai F 25).getD (sy_i F 4).toNatClampNeg 0 = (sy_ai F 25).getD ((sy_i F 4).toInt).toNat 0 := by simp only [nz_c]
          have n74 : ((sy_ai F 25).getD (sy_i F 4).toNatClampNeg 0).toInt = ((sy_ai F 25).getD ((sy_i F 4).toInt).toNat 0).toInt := congrArg Int32.toInt q74
          have r74 := nz_ba hB (k := 25) (lo := 0) (hi := 42) rfl ((sy_i F 4).toInt).toNat
          exfalso
          omega
        replace g8 : ((sy_ai F 25).getD ((sy_i F 4).toInt).toNat 0).toInt = 10 := by omega
        have c6 := nz_bx hB (k := 6) (lo := 0) (hi := 2) rfl
        have c4 := nz_bx hB (k := 4) (lo := 0) (hi := 400) rfl
        have q70 : (sy_ai F 25).getD (sy_i F 4).toNatClampNeg 0 = (sy_ai F 25).getD ((sy_i F 4).toInt).toNat 0 := by simp only [nz_c]
        have n70 : ((sy_ai F 25).getD (sy_i F 4).toNatClampNeg 0).toInt = ((sy_ai F 25).getD ((sy_i F 4).toInt).toNat 0).toInt := congrArg Int32.toInt q70
        have r70 := nz_ba hB (k := 25) (lo := 0) (hi := 42) rfl ((sy_i F 4).toInt).toNat
        have c5 := nz_bx hB (k := 5) (lo := 0) (hi := 7) rfl
        have q71 : (sy_ai F 25).getD (sy_i F 4).toNatClampNeg 0 = (sy_ai F 25).getD ((sy_i F 4).toInt).toNat 0 := by simp only [nz_c]
        have n71 : ((sy_ai F 25).getD (sy_i F 4).toNatClampNeg 0).toInt = ((sy_ai F 25).getD ((sy_i F 4).toInt).toNat 0).toInt := congrArg Int32.toInt q71
        have r71 := nz_ba hB (k := 25) (lo := 0) (hi := 42) rfl ((sy_i F 4).toInt).toNat
        have q72 : (sy_ai F 25).getD (sy_i F 4).toNatClampNeg 0 = (sy_ai F 25).getD ((sy_i F 4).toInt).toNat 0 := by simp only [nz_c]
        have n72 : ((sy_ai F 25).getD (sy_i F 4).toNatClampNeg 0).toInt = ((sy_ai F 25).getD ((sy_i F 4).toInt).toNat 0).toInt := congrArg Int32.toInt q72
        have r72 := nz_ba hB (k := 25) (lo := 0) (hi := 42) rfl ((sy_i F 4).toInt).toNat
        have q73 : (sy_ai F 25).getD (sy_i F 4).toNatClampNeg 0 = (sy_ai F 25).getD ((sy_i F 4).toInt).toNat 0 := by simp only [nz_c]
        have n73 : ((sy_ai F 25).getD (sy_i F 4).toNatClampNeg 0).toInt = ((sy_ai F 25).getD ((sy_i F 4).toInt).toNat 0).toInt := congrArg Int32.toInt q73
        have r73 := nz_ba hB (k := 25) (lo := 0) (hi := 42) rfl ((sy_i F 4).toInt).toNat
        exfalso
        omega
      replace g6 : ((sy_ai F 25).getD ((sy_i F 4).toInt).toNat 0).toInt = 9 := by omega
      have c6 := nz_bx hB (k := 6) (lo := 0) (hi := 2) rfl
      have c4 := nz_bx hB (k := 4) (lo := 0) (hi := 400) rfl
      have q70 : (sy_ai F 25).getD (sy_i F 4).toNatClampNeg 0 = (sy_ai F 25).getD ((sy_i F 4).toInt).toNat 0 := by simp only [nz_c]
      have n70 : ((sy_ai F 25).getD (sy_i F 4).toNatClampNeg 0).toInt = ((sy_ai F 25).getD ((sy_i F 4).toInt).toNat 0).toInt := congrArg Int32.toInt q70
      have r70 := nz_ba hB (k := 25) (lo := 0) (hi := 42) rfl ((sy_i F 4).toInt).toNat
      have c5 := nz_bx hB (k := 5) (lo := 0) (hi := 7) rfl
      have q71 : (sy_ai F 25).getD (sy_i F 4).toNatClampNeg 0 = (sy_ai F 25).getD ((sy_i F 4).toInt).toNat 0 := by simp only [nz_c]
      have n71 : ((sy_ai F 25).getD (sy_i F 4).toNatClampNeg 0).toInt = ((sy_ai F 25).getD ((sy_i F 4).toInt).toNat 0).toInt := congrArg Int32.toInt q71
      have r71 := nz_ba hB (k := 25) (lo := 0) (hi := 42) rfl ((sy_i F 4).toInt).toNat
      have q72 : (sy_ai F 25).getD (sy_i F 4).toNatClampNeg 0 = (sy_ai F 25).getD ((sy_i F 4).toInt).toNat 0 := by simp only [nz_c]
      have n72 : ((sy_ai F 25).getD (sy_i F 4).toNatClampNeg 0).toInt = ((sy_ai F 25).getD ((sy_i F 4).toInt).toNat 0).toInt := congrArg Int32.toInt q72
      have r72 := nz_ba hB (k := 25) (lo := 0) (hi := 42) rfl ((sy_i F 4).toInt).toNat
      exfalso
      omega
    replace g4 : ((sy_ai F 25).getD ((sy_i F 4).toInt).toNat 0).toInt = 8 := by omega
    have c6 := nz_bx hB (k := 6) (lo := 0) (hi := 2) rfl
    have c4 := nz_bx hB (k := 4) (lo := 0) (hi := 400) rfl
    have q70 : (sy_ai F 25).getD (sy_i F 4).toNatClampNeg 0 = (sy_ai F 25).getD ((sy_i F 4).toInt).toNat 0 := by simp only [nz_c]
    have n70 : ((sy_ai F 25).getD (sy_i F 4).toNatClampNeg 0).toInt = ((sy_ai F 25).getD ((sy_i F 4).toInt).toNat 0).toInt := congrArg Int32.toInt q70
    have r70 := nz_ba hB (k := 25) (lo := 0) (hi := 42) rfl ((sy_i F 4).toInt).toNat
    have c5 := nz_bx hB (k := 5) (lo := 0) (hi := 7) rfl
    have q71 : (sy_ai F 25).getD (sy_i F 4).toNatClampNeg 0 = (sy_ai F 25).getD ((sy_i F 4).toInt).toNat 0 := by simp only [nz_c]
    have n71 : ((sy_ai F 25).getD (sy_i F 4).toNatClampNeg 0).toInt = ((sy_ai F 25).getD ((sy_i F 4).toInt).toNat 0).toInt := congrArg Int32.toInt q71
    have r71 := nz_ba hB (k := 25) (lo := 0) (hi := 42) rfl ((sy_i F 4).toInt).toNat
    exfalso
    omega
  replace g2 : (sy_i F 69).toInt < (sy_i F 5).toInt := by omega
  have c6 := nz_bx hB (k := 6) (lo := 0) (hi := 2) rfl
  have c4 := nz_bx hB (k := 4) (lo := 0) (hi := 400) rfl
  have q70 : (sy_ai F 25).getD (sy_i F 4).toNatClampNeg 0 = (sy_ai F 25).getD ((sy_i F 4).toInt).toNat 0 := by simp only [nz_c]
  have n70 : ((sy_ai F 25).getD (sy_i F 4).toNatClampNeg 0).toInt = ((sy_ai F 25).getD ((sy_i F 4).toInt).toNat 0).toInt := congrArg Int32.toInt q70
  have r70 := nz_ba hB (k := 25) (lo := 0) (hi := 42) rfl ((sy_i F 4).toInt).toNat
  have c5 := nz_bx hB (k := 5) (lo := 0) (hi := 7) rfl
  exact ex_96_p10 hd F X1 X2 hB (by first | exact g0 | (simp only [nz_c]; exact g0)) (by first | exact ⟨by omega, by omega⟩ | (simp only [nz_c]; exact ⟨by omega, by omega⟩)) (by first | exact g1 | (simp only [nz_c]; exact g1) | (rw [n70]; exact g1)) (by first | exact g2 | (simp only [nz_c]; exact g2)) (fun F1 g e69 => k10 g0 g1 g2 F1 (nz_in hB [] (fun j hj hn => g j hj (by simp only [List.mem_cons, List.not_mem_nil, or_false, not_or] at hn; exact trivial)) (List.forall_mem_nil _)) (fun j hj hn => g j hj (by simp only [List.mem_cons, List.not_mem_nil, or_false, not_or] at hn; exact trivial)) (nz_fi (g 4 (by decide) (by decide))) (nz_fi (g 5 (by decide) (by decide))) (nz_fi (g 6 (by decide) (by decide))) (nz_fi (g 7 (by decide) (by decide))) (nz_fi (g 11 (by decide) (by decide))) (nz_fi (g 12 (by decide) (by decide))) (nz_fi (g 14 (by decide) (by decide))) (nz_fi (g 15 (by decide) (by decide))) (nz_fi (g 16 (by decide) (by decide))) (nz_fa (g 25 (by decide) (by decide))) (nz_fa (g 26 (by decide) (by decide))) (nz_fa (g 49 (by decide) (by decide))) (nz_fa (g 50 (by decide) (by decide))) (nz_fa (g 51 (by decide) (by decide))) ((congrArg Int32.toInt (zz_i e69)).trans (rfl : (sy_i F 69).toInt = (sy_i F 69).toInt)))
theorem exy_118 {Ls : Nat} {xs : Nat → Int32} {d : Nat} {Q : Option Value → jm_h → Prop} (hd : 4 ≤ d) (F : Nat → sy_d) (X1 X2 : List jm_c) (hB : iv_in F iv_B4)
    (o0 : (sy_i F 4).toInt ≠ 400 → (0 ≤ ((sy_i F 5).toInt - 1) ∧ ((sy_i F 5).toInt - 1) ≤ 7))
    (o1 : (sy_i F 4).toInt ≠ 400 → (0 ≤ ((sy_i F 16).toInt - 1) ∧ ((sy_i F 16).toInt - 1) ≤ 64))
    (o2 : (sy_i F 4).toInt = 400 → (sy_i F 6).toInt ≤ 0 → (0 ≤ ((sy_i F 5).toInt - 1) ∧ ((sy_i F 5).toInt - 1) ≤ 7))
    (o3 : (sy_i F 4).toInt = 400 → (sy_i F 6).toInt ≤ 0 → (0 ≤ ((sy_i F 16).toInt - 1) ∧ ((sy_i F 16).toInt - 1) ≤ 64))
    (o4 : (sy_i F 4).toInt = 400 → 0 < (sy_i F 6).toInt → (0 ≤ ((sy_i F 5).toInt - 1) ∧ ((sy_i F 5).toInt - 1) ≤ 7))
    (o5 : (sy_i F 4).toInt = 400 → 0 < (sy_i F 6).toInt → (0 ≤ ((sy_i F 16).toInt - 1) ∧ ((sy_i F 16).toInt - 1) ≤ 64))
    (k0 : (sy_i F 4).toInt ≠ 400 → ∀ F1 : Nat → sy_d, iv_in F1 iv_B4 → (∀ j, j < 69 → j ∉ ([4, 5, 16] : List Nat) → F1 j = F j) → (sy_i F1 4).toInt = ((sy_i F 4).toInt + 1) → (sy_i F1 5).toInt = ((sy_i F 5).toInt - 1) → (sy_i F1 6).toInt = (sy_i F 6).toInt → (sy_i F1 7).toInt = (sy_i F 7).toInt → (sy_i F1 11).toInt = (sy_i F 11).toInt → (sy_i F1 12).toInt = (sy_i F 12).toInt → (sy_i F1 14).toInt = (sy_i F 14).toInt → (sy_i F1 15).toInt = (sy_i F 15).toInt → (sy_i F1 16).toInt = ((sy_i F 16).toInt - 1) → sy_ai F1 25 = sy_ai F 25 → sy_ai F1 26 = sy_ai F 26 → sy_ai F1 49 = sy_ai F 49 → sy_ai F1 50 = sy_ai F 50 → sy_ai F1 51 = sy_ai F 51 → (sy_i F1 69).toInt = (sy_i F 69).toInt → hd_W Ls xs d jm_M164 Q (96, sy_dL F1 [some (.inl (.ref 1000)), some (.inr (.inl 69)), some (.inl (.int 1))], sy_dS F1 [], sy_dh F1 X1 X2 (iv_H 4), 0, 0))
    (k1 : (sy_i F 4).toInt = 400 → (sy_i F 6).toInt ≤ 0 → ∀ F1 : Nat → sy_d, iv_in F1 iv_B4 → (∀ j, j < 69 → j ∉ ([5, 6, 7, 16] : List Nat) → F1 j = F j) → (sy_i F1 4).toInt = (sy_i F 4).toInt → (sy_i F1 5).toInt = ((sy_i F 5).toInt - 1) → (sy_i F1 6).toInt = 2 → (sy_i F1 7).toInt = ((sy_ai F 26).getD ((sy_i F 4).toInt).toNat 0).toInt → (sy_i F1 11).toInt = (sy_i F 11).toInt → (sy_i F1 12).toInt = (sy_i F 12).toInt → (sy_i F1 14).toInt = (sy_i F 14).toInt → (sy_i F1 15).toInt = (sy_i F 15).toInt → (sy_i F1 16).toInt = ((sy_i F 16).toInt - 1) → sy_ai F1 25 = sy_ai F 25 → sy_ai F1 26 = sy_ai F 26 → sy_ai F1 49 = sy_ai F 49 → sy_ai F1 50 = sy_ai F 50 → sy_ai F1 51 = sy_ai F 51 → (sy_i F1 69).toInt = (sy_i F 69).toInt → hd_W Ls xs d jm_M164 Q (96, sy_dL F1 [some (.inl (.ref 1000)), some (.inr (.inl 69)), some (.inl (.int 1))], sy_dS F1 [], sy_dh F1 X1 X2 (iv_H 4), 0, 0))
    (k2 : (sy_i F 4).toInt = 400 → 0 < (sy_i F 6).toInt → ∀ F1 : Nat → sy_d, iv_in F1 iv_B4 → (∀ j, j < 69 → j ∉ ([5, 16] : List Nat) → F1 j = F j) → (sy_i F1 4).toInt = (sy_i F 4).toInt → (sy_i F1 5).toInt = ((sy_i F 5).toInt - 1) → (sy_i F1 6).toInt = (sy_i F 6).toInt → (sy_i F1 7).toInt = (sy_i F 7).toInt → (sy_i F1 11).toInt = (sy_i F 11).toInt → (sy_i F1 12).toInt = (sy_i F 12).toInt → (sy_i F1 14).toInt = (sy_i F 14).toInt → (sy_i F1 15).toInt = (sy_i F 15).toInt → (sy_i F1 16).toInt = ((sy_i F 16).toInt - 1) → sy_ai F1 25 = sy_ai F 25 → sy_ai F1 26 = sy_ai F 26 → sy_ai F1 49 = sy_ai F 49 → sy_ai F1 50 = sy_ai F 50 → sy_ai F1 51 = sy_ai F 51 → (sy_i F1 69).toInt = (sy_i F 69).toInt → hd_W Ls xs d jm_M164 Q (96, sy_dL F1 [some (.inl (.ref 1000)), some (.inr (.inl 69)), some (.inl (.int 1))], sy_dS F1 [], sy_dh F1 X1 X2 (iv_H 4), 0, 0)) :
    hd_W Ls xs d jm_M164 Q (118, sy_dL F [some (.inl (.ref 1000)), some (.inr (.inl 69)), some (.inl (.int 1))], sy_dS F [], sy_dh F X1 X2 (iv_H 4), 0, 0) := by
  by_cases g0 : (sy_i F 4).toInt ≠ 400
  · have c4 := nz_bx hB (k := 4) (lo := 0) (hi := 400) rfl
    have n72 : ((sy_i F 4) + ((1 : Int32))).toInt = ((sy_i F 4).toInt + 1) := nz_add (rfl : (sy_i F 4).toInt = (sy_i F 4).toInt) (by decide : ((1 : Int32)).toInt = 1) (by omega) (by omega)
    have c5 := nz_bx hB (k := 5) (lo := 0) (hi := 7) rfl
    have n71 : ((sy_i F 5) - ((1 : Int32))).toInt = ((sy_i F 5).toInt - 1) := nz_sub (rfl : (sy_i F 5).toInt = (sy_i F 5).toInt) (by decide : ((1 : Int32)).toInt = 1) (by omega) (by omega)
    have c16 := nz_bx hB (k := 16) (lo := 0) (hi := 64) rfl
    have n70 : ((sy_i F 16) - ((1 : Int32))).toInt = ((sy_i F 16).toInt - 1) := nz_sub (rfl : (sy_i F 16).toInt = (sy_i F 16).toInt) (by decide : ((1 : Int32)).toInt = 1) (by omega) (by omega)
    exact ex_118_p0 hd F X1 X2 hB (by first | exact g0 | (simp only [nz_c]; exact g0)) (fun F1 g e4 e5 e16 e69 => k0 g0 F1 (nz_in hB [4, 5, 16] (fun j hj hn => g j hj (by simp only [List.mem_cons, List.not_mem_nil, or_false, not_or] at hn; omega)) (List.forall_mem_cons.mpr ⟨fun t ht => (Option.some.inj ht) ▸ (nz_hi e4 n72 (by omega) (by omega)), List.forall_mem_cons.mpr ⟨fun t ht => (Option.some.inj ht) ▸ (nz_hi e5 n71 (o0 g0).1 (o0 g0).2), List.forall_mem_cons.mpr ⟨fun t ht => (Option.some.inj ht) ▸ (nz_hi e16 n70 (o1 g0).1 (o1 g0).2), List.forall_mem_nil _⟩⟩⟩)) (fun j hj hn => g j hj (by simp only [List.mem_cons, List.not_mem_nil, or_false, not_or] at hn; omega)) ((congrArg Int32.toInt (zz_i e4)).trans n72) ((congrArg Int32.toInt (zz_i e5)).trans n71) (nz_fi (g 6 (by decide) (by decide))) (nz_fi (g 7 (by decide) (by decide))) (nz_fi (g 11 (by decide) (by decide))) (nz_fi (g 12 (by decide) (by decide))) (nz_fi (g 14 (by decide) (by decide))) (nz_fi (g 15 (by decide) (by decide))) ((congrArg Int32.toInt (zz_i e16)).trans n70) (nz_fa (g 25 (by decide) (by decide))) (nz_fa (g 26 (by decide) (by decide))) (nz_fa (g 49 (by decide) (by decide))) (nz_fa (g 50 (by decide) (by decide))) (nz_fa (g 51 (by decide) (by decide))) ((congrArg Int32.toInt (zz_i e69)).trans (rfl : (sy_i F 69).toInt = (sy_i F 69).toInt)))
  replace g0 : (sy_i F 4).toInt = 400 := by omega
  by_cases g1 : (sy_i F 6).toInt ≤ 0
  · have c4 := nz_bx hB (k := 4) (lo := 0) (hi := 400) rfl
    have c6 := nz_bx hB (k := 6) (lo := 0) (hi := 2) rfl
    have c5 := nz_bx hB (k := 5) (lo := 0) (hi := 7) rfl
    have n71 : ((sy_i F 5) - ((1 : Int32))).toInt = ((sy_i F 5).toInt - 1) := nz_sub (rfl : (sy_i F 5).toInt = (sy_i F 5).toInt) (by decide : ((1 : Int32)).toInt = 1) (by omega) (by omega)
    have q72 : (sy_ai F 26).getD (sy_i F 4).toNatClampNeg 0 = (sy_ai F 26).getD ((sy_i F 4).toInt).toNat 0 := by simp only [nz_c]
    have n72 : ((sy_ai F 26).getD (sy_i F 4).toNatClampNeg 0).toInt = ((sy_ai F 26).getD ((sy_i F 4).toInt).toNat 0).toInt := congrArg Int32.toInt q72
    have c16 := nz_bx hB (k := 16) (lo := 0) (hi := 64) rfl
    have n70 : ((sy_i F 16) - ((1 : Int32))).toInt = ((sy_i F 16).toInt - 1) := nz_sub (rfl : (sy_i F 16).toInt = (sy_i F 16).toInt) (by decide : ((1 : Int32)).toInt = 1) (by omega) (by omega)
    exact ex_118_p1 hd F X1 X2 hB (by first | exact g0 | (simp only [nz_c]; exact g0)) (by first | exact g1 | (simp only [nz_c]; exact g1)) (by first | exact ⟨by omega, by omega⟩ | (simp only [nz_c]; exact ⟨by omega, by omega⟩)) (fun F1 g e5 e6 e7 e16 e69 => k1 g0 g1 F1 (nz_in hB [5, 6, 7, 16] (fun j hj hn => g j hj (by simp only [List.mem_cons, List.not_mem_nil, or_false, not_or] at hn; omega)) (List.forall_mem_cons.mpr ⟨fun t ht => (Option.some.inj ht) ▸ (nz_hi e5 n71 (o2 g0 g1).1 (o2 g0 g1).2), List.forall_mem_cons.mpr ⟨fun t ht => (Option.some.inj ht) ▸ (nz_hi e6 (by decide : ((2 : Int32)).toInt = 2) (by omega) (by omega)), List.forall_mem_cons.mpr ⟨fun t ht => (Option.some.inj ht) ▸ (nz_hz e7), List.forall_mem_cons.mpr ⟨fun t ht => (Option.some.inj ht) ▸ (nz_hi e16 n70 (o3 g0 g1).1 (o3 g0 g1).2), List.forall_mem_nil _⟩⟩⟩⟩)) (fun j hj hn => g j hj (by simp only [List.mem_cons, List.not_mem_nil, or_false, not_or] at hn; omega)) (nz_fi (g 4 (by decide) (by decide))) ((congrArg Int32.toInt (zz_i e5)).trans n71) ((congrArg Int32.toInt (zz_i e6)).trans (by decide : ((2 : Int32)).toInt = 2)) ((congrArg Int32.toInt (zz_i e7)).trans n72) (nz_fi (g 11 (by decide) (by decide))) (nz_fi (g 12 (by decide) (by decide))) (nz_fi (g 14 (by decide) (by decide))) (nz_fi (g 15 (by decide) (by decide))) ((congrArg Int32.toInt (zz_i e16)).trans n70) (nz_fa (g 25 (by decide) (by decide))) (nz_fa (g 26 (by decide) (by decide))) (nz_fa (g 49 (by decide) (by decide))) (nz_fa (g 50 (by decide) (by decide))) (nz_fa (g 51 (by decide) (by decide))) ((congrArg Int32.toInt (zz_i e69)).trans (rfl : (sy_i F 69).toInt = (sy_i F 69).toInt)))
  replace g1 : 0 < (sy_i F 6).toInt := by omega
  have c4 := nz_bx hB (k := 4) (lo := 0) (hi := 400) rfl
  have c6 := nz_bx hB (k := 6) (lo := 0) (hi := 2) rfl
  have c5 := nz_bx hB (k := 5) (lo := 0) (hi := 7) rfl
  have n71 : ((sy_i F 5) - ((1 : Int32))).toInt = ((sy_i F 5).toInt - 1) := nz_sub (rfl : (sy_i F 5).toInt = (sy_i F 5).toInt) (by decide : ((1 : Int32)).toInt = 1) (by omega) (by omega)
  have c16 := nz_bx hB (k := 16) (lo := 0) (hi := 64) rfl
  have n70 : ((sy_i F 16) - ((1 : Int32))).toInt = ((sy_i F 16).toInt - 1) := nz_sub (rfl : (sy_i F 16).toInt = (sy_i F 16).toInt) (by decide : ((1 : Int32)).toInt = 1) (by omega) (by omega)
  exact ex_118_p2 hd F X1 X2 hB (by first | exact g0 | (simp only [nz_c]; exact g0)) (by first | exact g1 | (simp only [nz_c]; exact g1)) (fun F1 g e5 e16 e69 => k2 g0 g1 F1 (nz_in hB [5, 16] (fun j hj hn => g j hj (by simp only [List.mem_cons, List.not_mem_nil, or_false, not_or] at hn; omega)) (List.forall_mem_cons.mpr ⟨fun t ht => (Option.some.inj ht) ▸ (nz_hi e5 n71 (o4 g0 g1).1 (o4 g0 g1).2), List.forall_mem_cons.mpr ⟨fun t ht => (Option.some.inj ht) ▸ (nz_hi e16 n70 (o5 g0 g1).1 (o5 g0 g1).2), List.forall_mem_nil _⟩⟩)) (fun j hj hn => g j hj (by simp only [List.mem_cons, List.not_mem_nil, or_false, not_or] at hn; omega)) (nz_fi (g 4 (by decide) (by decide))) ((congrArg Int32.toInt (zz_i e5)).trans n71) (nz_fi (g 6 (by decide) (by decide))) (nz_fi (g 7 (by decide) (by decide))) (nz_fi (g 11 (by decide) (by decide))) (nz_fi (g 12 (by decide) (by decide))) (nz_fi (g 14 (by decide) (by decide))) (nz_fi (g 15 (by decide) (by decide))) ((congrArg Int32.toInt (zz_i e16)).trans n70) (nz_fa (g 25 (by decide) (by decide))) (nz_fa (g 26 (by decide) (by decide))) (nz_fa (g 49 (by decide) (by decide))) (nz_fa (g 50 (by decide) (by decide))) (nz_fa (g 51 (by decide) (by decide))) ((congrArg Int32.toInt (zz_i e69)).trans (rfl : (sy_i F 69).toInt = (sy_i F 69).toInt)))
theorem exy_209 {Ls : Nat} {xs : Nat → Int32} {d : Nat} {Q : Option Value → jm_h → Prop} (hd : 4 ≤ d) (F : Nat → sy_d) (X1 X2 : List jm_c) (hB : iv_in F iv_B4)
    (k0 : ∀ F1 : Nat → sy_d, iv_in F1 iv_B4 → (∀ j, j < 69 → j ∉ ([] : List Nat) → F1 j = F j) → (sy_i F1 4).toInt = (sy_i F 4).toInt → (sy_i F1 5).toInt = (sy_i F 5).toInt → (sy_i F1 6).toInt = (sy_i F 6).toInt → (sy_i F1 7).toInt = (sy_i F 7).toInt → (sy_i F1 11).toInt = (sy_i F 11).toInt → (sy_i F1 12).toInt = (sy_i F 12).toInt → (sy_i F1 14).toInt = (sy_i F 14).toInt → (sy_i F1 15).toInt = (sy_i F 15).toInt → (sy_i F1 16).toInt = (sy_i F 16).toInt → sy_ai F1 25 = sy_ai F 25 → sy_ai F1 26 = sy_ai F 26 → sy_ai F1 49 = sy_ai F 49 → sy_ai F1 50 = sy_ai F 50 → sy_ai F1 51 = sy_ai F 51 → Q (none) (sy_dh F1 X1 X2 (iv_H 4))) :
    hd_W Ls xs d jm_M164 Q (209, sy_dL F [some (.inl (.ref 1000)), none, none], sy_dS F [], sy_dh F X1 X2 (iv_H 4), 0, 0) := by
  exact ex_209_p0 hd F X1 X2 hB  (fun F1 g  => k0 F1 (nz_in hB [] (fun j hj hn => g j hj (by simp only [List.mem_cons, List.not_mem_nil, or_false, not_or] at hn; exact trivial)) (List.forall_mem_nil _)) (fun j hj hn => g j hj (by simp only [List.mem_cons, List.not_mem_nil, or_false, not_or] at hn; exact trivial)) (nz_fi (g 4 (by decide) (by decide))) (nz_fi (g 5 (by decide) (by decide))) (nz_fi (g 6 (by decide) (by decide))) (nz_fi (g 7 (by decide) (by decide))) (nz_fi (g 11 (by decide) (by decide))) (nz_fi (g 12 (by decide) (by decide))) (nz_fi (g 14 (by decide) (by decide))) (nz_fi (g 15 (by decide) (by decide))) (nz_fi (g 16 (by decide) (by decide))) (nz_fa (g 25 (by decide) (by decide))) (nz_fa (g 26 (by decide) (by decide))) (nz_fa (g 49 (by decide) (by decide))) (nz_fa (g 50 (by decide) (by decide))) (nz_fa (g 51 (by decide) (by decide))))
theorem exy_237 {Ls : Nat} {xs : Nat → Int32} {d : Nat} {Q : Option Value → jm_h → Prop} (hd : 4 ≤ d) (F : Nat → sy_d) (X1 X2 : List jm_c) (hB : iv_in F iv_B4)
    (o0 : (0 ≤ (sy_i F 16).toInt ∧ (sy_i F 16).toInt < 64))
    (o1 : (sy_i F 4).toInt ≠ 400 → (0 ≤ ((sy_i F 16).toInt + 1) ∧ ((sy_i F 16).toInt + 1) ≤ 64))
    (o2 : (sy_i F 4).toInt = 400 → (sy_i F 6).toInt ≤ 0 → (0 ≤ ((sy_i F 16).toInt + 1) ∧ ((sy_i F 16).toInt + 1) ≤ 64))
    (o3 : (sy_i F 4).toInt = 400 → 0 < (sy_i F 6).toInt → (0 ≤ ((sy_i F 16).toInt + 1) ∧ ((sy_i F 16).toInt + 1) ≤ 64))
    (k0 : (sy_i F 4).toInt ≠ 400 → ∀ F1 : Nat → sy_d, iv_in F1 iv_B4 → (∀ j, j < 69 → j ∉ ([4, 16, 51] : List Nat) → F1 j = F j) → (sy_i F1 4).toInt = ((sy_i F 4).toInt + 1) → (sy_i F1 5).toInt = (sy_i F 5).toInt → (sy_i F1 6).toInt = (sy_i F 6).toInt → (sy_i F1 7).toInt = (sy_i F 7).toInt → (sy_i F1 11).toInt = (sy_i F 11).toInt → (sy_i F1 12).toInt = (sy_i F 12).toInt → (sy_i F1 14).toInt = (sy_i F 14).toInt → (sy_i F1 15).toInt = (sy_i F 15).toInt → (sy_i F1 16).toInt = ((sy_i F 16).toInt + 1) → sy_ai F1 25 = sy_ai F 25 → sy_ai F1 26 = sy_ai F 26 → sy_ai F1 49 = sy_ai F 49 → sy_ai F1 50 = sy_ai F 50 → sy_ai F1 51 = jm_upd (sy_ai F 51) ((sy_i F 16).toInt).toNat ((sy_ai F 25).getD ((sy_i F 4).toInt).toNat 0) → (sy_i F1 69).toInt = (sy_i F 69).toInt → hd_W Ls xs d jm_M164 Q (12, sy_dL F1 [some (.inl (.ref 1000)), some (.inr (.inl 69)), some (.inl (.int 1))], sy_dS F1 [], sy_dh F1 X1 X2 (iv_H 4), 0, 0))
    (k1 : (sy_i F 4).toInt = 400 → (sy_i F 6).toInt ≤ 0 → ∀ F1 : Nat → sy_d, iv_in F1 iv_B4 → (∀ j, j < 69 → j ∉ ([6, 7, 16, 51] : List Nat) → F1 j = F j) → (sy_i F1 4).toInt = (sy_i F 4).toInt → (sy_i F1 5).toInt = (sy_i F 5).toInt → (sy_i F1 6).toInt = 2 → (sy_i F1 7).toInt = ((sy_ai F 26).getD ((sy_i F 4).toInt).toNat 0).toInt → (sy_i F1 11).toInt = (sy_i F 11).toInt → (sy_i F1 12).toInt = (sy_i F 12).toInt → (sy_i F1 14).toInt = (sy_i F 14).toInt → (sy_i F1 15).toInt = (sy_i F 15).toInt → (sy_i F1 16).toInt = ((sy_i F 16).toInt + 1) → sy_ai F1 25 = sy_ai F 25 → sy_ai F1 26 = sy_ai F 26 → sy_ai F1 49 = sy_ai F 49 → sy_ai F1 50 = sy_ai F 50 → sy_ai F1 51 = jm_upd (sy_ai F 51) ((sy_i F 16).toInt).toNat ((sy_ai F 25).getD ((sy_i F 4).toInt).toNat 0) → (sy_i F1 69).toInt = (sy_i F 69).toInt → hd_W Ls xs d jm_M164 Q (12, sy_dL F1 [some (.inl (.ref 1000)), some (.inr (.inl 69)), some (.inl (.int 1))], sy_dS F1 [], sy_dh F1 X1 X2 (iv_H 4), 0, 0))
    (k2 : (sy_i F 4).toInt = 400 → 0 < (sy_i F 6).toInt → ∀ F1 : Nat → sy_d, iv_in F1 iv_B4 → (∀ j, j < 69 → j ∉ ([16, 51] : List Nat) → F1 j = F j) → (sy_i F1 4).toInt = (sy_i F 4).toInt → (sy_i F1 5).toInt = (sy_i F 5).toInt → (sy_i F1 6).toInt = (sy_i F 6).toInt → (sy_i F1 7).toInt = (sy_i F 7).toInt → (sy_i F1 11).toInt = (sy_i F 11).toInt → (sy_i F1 12).toInt = (sy_i F 12).toInt → (sy_i F1 14).toInt = (sy_i F 14).toInt → (sy_i F1 15).toInt = (sy_i F 15).toInt → (sy_i F1 16).toInt = ((sy_i F 16).toInt + 1) → sy_ai F1 25 = sy_ai F 25 → sy_ai F1 26 = sy_ai F 26 → sy_ai F1 49 = sy_ai F 49 → sy_ai F1 50 = sy_ai F 50 → sy_ai F1 51 = jm_upd (sy_ai F 51) ((sy_i F 16).toInt).toNat ((sy_ai F 25).getD ((sy_i F 4).toInt).toNat 0) → (sy_i F1 69).toInt = (sy_i F 69).toInt → hd_W Ls xs d jm_M164 Q (12, sy_dL F1 [some (.inl (.ref 1000)), some (.inr (.inl 69)), some (.inl (.int 1))], sy_dS F1 [], sy_dh F1 X1 X2 (iv_H 4), 0, 0)) :
    hd_W Ls xs d jm_M164 Q (237, sy_dL F [some (.inl (.ref 1000)), some (.inr (.inl 69)), some (.inl (.int 1))], sy_dS F [], sy_dh F X1 X2 (iv_H 4), 0, 0) := by
  by_cases g0 : (sy_i F 4).toInt ≠ 400
  · have c4 := nz_bx hB (k := 4) (lo := 0) (hi := 400) rfl
    have c16 := nz_bx hB (k := 16) (lo := 0) (hi := 64) rfl
    have n74 : ((sy_i F 4) + ((1 : Int32))).toInt = ((sy_i F 4).toInt + 1) := nz_add (rfl : (sy_i F 4).toInt = (sy_i F 4).toInt) (by decide : ((1 : Int32)).toInt = 1) (by omega) (by omega)
    have n73 : ((sy_i F 16) + ((1 : Int32))).toInt = ((sy_i F 16).toInt + 1) := nz_add (rfl : (sy_i F 16).toInt = (sy_i F 16).toInt) (by decide : ((1 : Int32)).toInt = 1) (by omega) (by omega)
    have w72 : jm_upd (sy_ai F 51) (sy_i F 16).toNatClampNeg ((sy_ai F 25).getD (sy_i F 4).toNatClampNeg 0) = jm_upd (sy_ai F 51) ((sy_i F 16).toInt).toNat ((sy_ai F 25).getD ((sy_i F 4).toInt).toNat 0) := by simp only [nz_c]
    exact ex_237_p0 hd F X1 X2 hB (by first | exact ⟨by omega, by omega⟩ | (simp only [nz_c]; exact ⟨by omega, by omega⟩)) (by first | exact (o0) | (simp only [nz_c]; exact (o0))) (by first | exact g0 | (simp only [nz_c]; exact g0)) (fun F1 g e4 e16 e51 e69 => k0 g0 F1 (nz_in hB [4, 16, 51] (fun j hj hn => g j hj (by simp only [List.mem_cons, List.not_mem_nil, or_false, not_or] at hn; omega)) (List.forall_mem_cons.mpr ⟨fun t ht => (Option.some.inj ht) ▸ (nz_hi e4 n74 (by omega) (by omega)), List.forall_mem_cons.mpr ⟨fun t ht => (Option.some.inj ht) ▸ (nz_hi e16 n73 (o1 g0).1 (o1 g0).2), List.forall_mem_cons.mpr ⟨fun t ht => (Option.some.inj ht) ▸ (nz_hz2 e51), List.forall_mem_nil _⟩⟩⟩)) (fun j hj hn => g j hj (by simp only [List.mem_cons, List.not_mem_nil, or_false, not_or] at hn; omega)) ((congrArg Int32.toInt (zz_i e4)).trans n74) (nz_fi (g 5 (by decide) (by decide))) (nz_fi (g 6 (by decide) (by decide))) (nz_fi (g 7 (by decide) (by decide))) (nz_fi (g 11 (by decide) (by decide))) (nz_fi (g 12 (by decide) (by decide))) (nz_fi (g 14 (by decide) (by decide))) (nz_fi (g 15 (by decide) (by decide))) ((congrArg Int32.toInt (zz_i e16)).trans n73) (nz_fa (g 25 (by decide) (by decide))) (nz_fa (g 26 (by decide) (by decide))) (nz_fa (g 49 (by decide) (by decide))) (nz_fa (g 50 (by decide) (by decide))) ((zz_ai e51).trans w72) ((congrArg Int32.toInt (zz_i e69)).trans (rfl : (sy_i F 69).toInt = (sy_i F 69).toInt)))
  replace g0 : (sy_i F 4).toInt = 400 := by omega
  by_cases g1 : (sy_i F 6).toInt ≤ 0
  · have c4 := nz_bx hB (k := 4) (lo := 0) (hi := 400) rfl
    have c16 := nz_bx hB (k := 16) (lo := 0) (hi := 64) rfl
    have c6 := nz_bx hB (k := 6) (lo := 0) (hi := 2) rfl
    have q74 : (sy_ai F 26).getD (sy_i F 4).toNatClampNeg 0 = (sy_ai F 26).getD ((sy_i F 4).toInt).toNat 0 := by simp only [nz_c]
    have n74 : ((sy_ai F 26).getD (sy_i F 4).toNatClampNeg 0).toInt = ((sy_ai F 26).getD ((sy_i F 4).toInt).toNat 0).toInt := congrArg Int32.toInt q74
    have n73 : ((sy_i F 16) + ((1 : Int32))).toInt = ((sy_i F 16).toInt + 1) := nz_add (rfl : (sy_i F 16).toInt = (sy_i F 16).toInt) (by decide : ((1 : Int32)).toInt = 1) (by omega) (by omega)
    have w72 : jm_upd (sy_ai F 51) (sy_i F 16).toNatClampNeg ((sy_ai F 25).getD (sy_i F 4).toNatClampNeg 0) = jm_upd (sy_ai F 51) ((sy_i F 16).toInt).toNat ((sy_ai F 25).getD ((sy_i F 4).toInt).toNat 0) := by simp only [nz_c]
    exact ex_237_p1 hd F X1 X2 hB (by first | exact ⟨by omega, by omega⟩ | (simp only [nz_c]; exact ⟨by omega, by omega⟩)) (by first | exact (o0) | (simp only [nz_c]; exact (o0))) (by first | exact g0 | (simp only [nz_c]; exact g0)) (by first | exact g1 | (simp only [nz_c]; exact g1)) (by first | exact ⟨by omega, by omega⟩ | (simp only [nz_c]; exact ⟨by omega, by omega⟩)) (fun F1 g e6 e7 e16 e51 e69 => k1 g0 g1 F1 (nz_in hB [6, 7, 16, 51] (fun j hj hn => g j hj (by simp only [List.mem_cons, List.not_mem_nil, or_false, not_or] at hn; omega)) (List.forall_mem_cons.mpr ⟨fun t ht => (Option.some.inj ht) ▸ (nz_hi e6 (by decide : ((2 : Int32)).toInt = 2) (by omega) (by omega)), List.forall_mem_cons.mpr ⟨fun t ht => (Option.some.inj ht) ▸ (nz_hz e7), List.forall_mem_cons.mpr ⟨fun t ht => (Option.some.inj ht) ▸ (nz_hi e16 n73 (o2 g0 g1).1 (o2 g0 g1).2), List.forall_mem_cons.mpr ⟨fun t ht => (Option.some.inj ht) ▸ (nz_hz2 e51), List.forall_mem_nil _⟩⟩⟩⟩)) (fun j hj hn => g j hj (by simp only [List.mem_cons, List.not_mem_nil, or_false, not_or] at hn; omega)) (nz_fi (g 4 (by decide) (by decide))) (nz_fi (g 5 (by decide) (by decide))) ((congrArg Int32.toInt (zz_i e6)).trans (by decide : ((2 : Int32)).toInt = 2)) ((congrArg Int32.toInt (zz_i e7)).trans n74) (nz_fi (g 11 (by decide) (by decide))) (nz_fi (g 12 (by decide) (by decide))) (nz_fi (g 14 (by decide) (by decide))) (nz_fi (g 15 (by decide) (by decide))) ((congrArg Int32.toInt (zz_i e16)).trans n73) (nz_fa (g 25 (by decide) (by decide))) (nz_fa (g 26 (by decide) (by decide))) (nz_fa (g 49 (by decide) (by decide))) (nz_fa (g 50 (by decide) (by decide))) ((zz_ai e51).trans w72) ((congrArg Int32.toInt (zz_i e69)).trans (rfl : (sy_i F 69).toInt = (sy_i F 69).toInt)))
  replace g1 : 0 < (sy_i F 6).toInt := by omega
  have c4 := nz_bx hB (k := 4) (lo := 0) (hi := 400) rfl
  have c16 := nz_bx hB (k := 16) (lo := 0) (hi := 64) rfl
  have c6 := nz_bx hB (k := 6) (lo := 0) (hi := 2) rfl
  have n73 : ((sy_i F 16) + ((1 : Int32))).toInt = ((sy_i F 16).toInt + 1) := nz_add (rfl : (sy_i F 16).toInt = (sy_i F 16).toInt) (by decide : ((1 : Int32)).toInt = 1) (by omega) (by omega)
  have w72 : jm_upd (sy_ai F 51) (sy_i F 16).toNatClampNeg ((sy_ai F 25).getD (sy_i F 4).toNatClampNeg 0) = jm_upd (sy_ai F 51) ((sy_i F 16).toInt).toNat ((sy_ai F 25).getD ((sy_i F 4).toInt).toNat 0) := by simp only [nz_c]
  exact ex_237_p2 hd F X1 X2 hB (by first | exact ⟨by omega, by omega⟩ | (simp only [nz_c]; exact ⟨by omega, by omega⟩)) (by first | exact (o0) | (simp only [nz_c]; exact (o0))) (by first | exact g0 | (simp only [nz_c]; exact g0)) (by first | exact g1 | (simp only [nz_c]; exact g1)) (fun F1 g e16 e51 e69 => k2 g0 g1 F1 (nz_in hB [16, 51] (fun j hj hn => g j hj (by simp only [List.mem_cons, List.not_mem_nil, or_false, not_or] at hn; omega)) (List.forall_mem_cons.mpr ⟨fun t ht => (Option.some.inj ht) ▸ (nz_hi e16 n73 (o3 g0 g1).1 (o3 g0 g1).2), List.forall_mem_cons.mpr ⟨fun t ht => (Option.some.inj ht) ▸ (nz_hz2 e51), List.forall_mem_nil _⟩⟩)) (fun j hj hn => g j hj (by simp only [List.mem_cons, List.not_mem_nil, or_false, not_or] at hn; omega)) (nz_fi (g 4 (by decide) (by decide))) (nz_fi (g 5 (by decide) (by decide))) (nz_fi (g 6 (by decide) (by decide))) (nz_fi (g 7 (by decide) (by decide))) (nz_fi (g 11 (by decide) (by decide))) (nz_fi (g 12 (by decide) (by decide))) (nz_fi (g 14 (by decide) (by decide))) (nz_fi (g 15 (by decide) (by decide))) ((congrArg Int32.toInt (zz_i e16)).trans n73) (nz_fa (g 25 (by decide) (by decide))) (nz_fa (g 26 (by decide) (by decide))) (nz_fa (g 49 (by decide) (by decide))) (nz_fa (g 50 (by decide) (by decide))) ((zz_ai e51).trans w72) ((congrArg Int32.toInt (zz_i e69)).trans (rfl : (sy_i F 69).toInt = (sy_i F 69).toInt)))
