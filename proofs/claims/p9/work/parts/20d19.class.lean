/-! ===== the class parses, way by way (shape 0) ===== -/
theorem k0ta_0_p0 {Ls : Nat} {xs : Nat → Int32} {d : Nat} {Q : Option Value → jm_h → Prop} (hd : 3 ≤ d) (F : Nat → sy_d) (X1 X2 : List jm_c) (hB : iv_in F iv_B0)
    (h0 : 0 ≤ (sy_i F 33).toInt)
    (h1 : (sy_i F 33).toInt ≤ 400)
    (h2 : 0 ≤ (sy_i F 33).toInt ∧ (sy_i F 33).toInt < 401)
    (h3 : ((sy_ai F 39).getD (sy_i F 33).toNatClampNeg 0).toInt = (sy_i F 82).toInt)
    (h4 : (sy_i F 33).toInt < 400)
    (k : ∀ F1 : Nat → sy_d, (∀ j, j < 82 → j ≠ 33 → F1 j = F j) → F1 33 = .inl (.int ((sy_i F 33) + ((1 : Int32)))) → Q (some (.int ((1 : Int32)))) (sy_dh F1 X1 X2 (iv_H 0))) :
    hd_W Ls xs d jm_M43 Q (0, sy_dL F [some (.inl (.ref 30)), some (.inr (.inl 82))], sy_dS F [], sy_dh F X1 X2 (iv_H 0), 0, 0) := by
  refine hd_ret (s := 0) (nv := 83) (v := some (.inl (.int 1))) (uh := hd_ov (iv_id 0 iv_B0) [(33, .inl (.inr (.inl 84)))]) (f := true) (sp := []) (d0 := 2) (O := [false, false, true, true]) (T := [(30, [.inr (.inl 33)], [.inr (.inl 39)]), (0, [.inr (.inl 33), .inl (.int 1)], [])]) (P := [(3, .inr (.inl 33), .inl (.int 0)), (3, .inl (.int 400), .inr (.inl 33)), (6, .inr (.inl 33), .inl (.ref 401)), (0, .inr (.inl 83), .inr (.inl 82)), (2, .inr (.inl 33), .inl (.int 400))]) jm_ok43 (by decide +kernel) (by decide +kernel) hd F X1 X2 (fun F' hF hs => ?_)
  have b33 := hd_b (F := F) (F' := F') (k := 33) (hF 33 (by decide))
  have a39 := hd_ba (F := F) (F' := F') (k := 39) (hF 39 (by decide))
  have t83 : sy_dv F' (.inr (.inl 83)) = .int ((sy_ai F 39).getD (sy_i F 33).toNatClampNeg 0) := hd_rd (hs 0 _ rfl) b33 a39
  have b82 := hd_b (F := F) (F' := F') (k := 82) (hF 82 (by decide))
  have t84 : sy_dv F' (.inr (.inl 84)) = .int ((sy_i F 33) + ((1 : Int32))) := hd_o (hs 1 _ rfl) b33 rfl rfl
  have hB' : iv_in F' iv_B0 := iv_in_eq hB (fun j hj => hF j (Nat.lt_of_lt_of_le hj (by decide +kernel)))
  refine ⟨List.forall_mem_cons.mpr ⟨hd_p3 b33 rfl (by have hc : ((0) : Int32).toInt = 0 := (by decide); omega), List.forall_mem_cons.mpr ⟨hd_p3 rfl b33 (by have hc : ((400) : Int32).toInt = 400 := (by decide); omega), List.forall_mem_cons.mpr ⟨hd_pb b33 (by first | exact h2 | exact h2), List.forall_mem_cons.mpr ⟨hd_p0 t83 b82 h3, List.forall_mem_cons.mpr ⟨hd_p2 b33 rfl (by have hc : ((400) : Int32).toInt = 400 := (by decide); omega), fun _ h => absurd h List.not_mem_nil⟩⟩⟩⟩⟩, ?_⟩
  refine k _ ?_ ?_
  · exact fun j hj hn => (hd_keep hB' (Nat.lt_of_lt_of_le hj (by decide +kernel)) (by simp; omega)).trans (hF j (by omega))
  · exact hd_gi (x := .inr (.inl 84)) (by decide +kernel) t84
theorem k0ta_0_p1 {Ls : Nat} {xs : Nat → Int32} {d : Nat} {Q : Option Value → jm_h → Prop} (hd : 3 ≤ d) (F : Nat → sy_d) (X1 X2 : List jm_c) (hB : iv_in F iv_B0)
    (h0 : 0 ≤ (sy_i F 33).toInt)
    (h1 : (sy_i F 33).toInt ≤ 400)
    (h2 : 0 ≤ (sy_i F 33).toInt ∧ (sy_i F 33).toInt < 401)
    (h3 : ((sy_ai F 39).getD (sy_i F 33).toNatClampNeg 0).toInt = (sy_i F 82).toInt)
    (h4 : 400 ≤ (sy_i F 33).toInt)
    (k : ∀ F1 : Nat → sy_d, (∀ j, j < 82 → j ≠ 34 → F1 j = F j) → F1 34 = .inl (.int ((2 : Int32))) → Q (some (.int ((0 : Int32)))) (sy_dh F1 X1 X2 (iv_H 0))) :
    hd_W Ls xs d jm_M43 Q (0, sy_dL F [some (.inl (.ref 30)), some (.inr (.inl 82))], sy_dS F [], sy_dh F X1 X2 (iv_H 0), 0, 0) := by
  refine hd_ret (s := 0) (nv := 83) (v := some (.inl (.int 0))) (uh := hd_ov (iv_id 0 iv_B0) [(34, .inl (.inl (.int 2)))]) (f := true) (sp := []) (d0 := 2) (O := [false, false, true, false]) (T := [(30, [.inr (.inl 33)], [.inr (.inl 39)])]) (P := [(3, .inr (.inl 33), .inl (.int 0)), (3, .inl (.int 400), .inr (.inl 33)), (6, .inr (.inl 33), .inl (.ref 401)), (0, .inr (.inl 83), .inr (.inl 82)), (3, .inr (.inl 33), .inl (.int 400))]) jm_ok43 (by decide +kernel) (by decide +kernel) hd F X1 X2 (fun F' hF hs => ?_)
  have b33 := hd_b (F := F) (F' := F') (k := 33) (hF 33 (by decide))
  have a39 := hd_ba (F := F) (F' := F') (k := 39) (hF 39 (by decide))
  have t83 : sy_dv F' (.inr (.inl 83)) = .int ((sy_ai F 39).getD (sy_i F 33).toNatClampNeg 0) := hd_rd (hs 0 _ rfl) b33 a39
  have b82 := hd_b (F := F) (F' := F') (k := 82) (hF 82 (by decide))
  have hB' : iv_in F' iv_B0 := iv_in_eq hB (fun j hj => hF j (Nat.lt_of_lt_of_le hj (by decide +kernel)))
  refine ⟨List.forall_mem_cons.mpr ⟨hd_p3 b33 rfl (by have hc : ((0) : Int32).toInt = 0 := (by decide); omega), List.forall_mem_cons.mpr ⟨hd_p3 rfl b33 (by have hc : ((400) : Int32).toInt = 400 := (by decide); omega), List.forall_mem_cons.mpr ⟨hd_pb b33 (by first | exact h2 | exact h2), List.forall_mem_cons.mpr ⟨hd_p0 t83 b82 h3, List.forall_mem_cons.mpr ⟨hd_p3 b33 rfl (by have hc : ((400) : Int32).toInt = 400 := (by decide); omega), fun _ h => absurd h List.not_mem_nil⟩⟩⟩⟩⟩, ?_⟩
  refine k _ ?_ ?_
  · exact fun j hj hn => (hd_keep hB' (Nat.lt_of_lt_of_le hj (by decide +kernel)) (by simp; omega)).trans (hF j (by omega))
  · exact hd_gi (x := .inl (.int 2)) (by decide +kernel) rfl
theorem k0ta_0_p2 {Ls : Nat} {xs : Nat → Int32} {d : Nat} {Q : Option Value → jm_h → Prop} (hd : 3 ≤ d) (F : Nat → sy_d) (X1 X2 : List jm_c) (hB : iv_in F iv_B0)
    (h0 : 0 ≤ (sy_i F 33).toInt)
    (h1 : (sy_i F 33).toInt ≤ 400)
    (h2 : 0 ≤ (sy_i F 33).toInt ∧ (sy_i F 33).toInt < 401)
    (h3 : ((sy_ai F 39).getD (sy_i F 33).toNatClampNeg 0).toInt ≠ (sy_i F 82).toInt)
    (k : ∀ F1 : Nat → sy_d, (∀ j, j < 82 → j ≠ 34 → F1 j = F j) → F1 34 = .inl (.int ((1 : Int32))) → Q (some (.int ((0 : Int32)))) (sy_dh F1 X1 X2 (iv_H 0))) :
    hd_W Ls xs d jm_M43 Q (0, sy_dL F [some (.inl (.ref 30)), some (.inr (.inl 82))], sy_dS F [], sy_dh F X1 X2 (iv_H 0), 0, 0) := by
  refine hd_ret (s := 0) (nv := 83) (v := some (.inl (.int 0))) (uh := hd_ov (iv_id 0 iv_B0) [(34, .inl (.inl (.int 1)))]) (f := true) (sp := []) (d0 := 2) (O := [false, false, false]) (T := [(30, [.inr (.inl 33)], [.inr (.inl 39)])]) (P := [(3, .inr (.inl 33), .inl (.int 0)), (3, .inl (.int 400), .inr (.inl 33)), (6, .inr (.inl 33), .inl (.ref 401)), (1, .inr (.inl 83), .inr (.inl 82))]) jm_ok43 (by decide +kernel) (by decide +kernel) hd F X1 X2 (fun F' hF hs => ?_)
  have b33 := hd_b (F := F) (F' := F') (k := 33) (hF 33 (by decide))
  have a39 := hd_ba (F := F) (F' := F') (k := 39) (hF 39 (by decide))
  have t83 : sy_dv F' (.inr (.inl 83)) = .int ((sy_ai F 39).getD (sy_i F 33).toNatClampNeg 0) := hd_rd (hs 0 _ rfl) b33 a39
  have b82 := hd_b (F := F) (F' := F') (k := 82) (hF 82 (by decide))
  have hB' : iv_in F' iv_B0 := iv_in_eq hB (fun j hj => hF j (Nat.lt_of_lt_of_le hj (by decide +kernel)))
  refine ⟨List.forall_mem_cons.mpr ⟨hd_p3 b33 rfl (by have hc : ((0) : Int32).toInt = 0 := (by decide); omega), List.forall_mem_cons.mpr ⟨hd_p3 rfl b33 (by have hc : ((400) : Int32).toInt = 400 := (by decide); omega), List.forall_mem_cons.mpr ⟨hd_pb b33 (by first | exact h2 | exact h2), List.forall_mem_cons.mpr ⟨hd_p1 t83 b82 h3, fun _ h => absurd h List.not_mem_nil⟩⟩⟩⟩, ?_⟩
  refine k _ ?_ ?_
  · exact fun j hj hn => (hd_keep hB' (Nat.lt_of_lt_of_le hj (by decide +kernel)) (by simp; omega)).trans (hF j (by omega))
  · exact hd_gi (x := .inl (.int 1)) (by decide +kernel) rfl
theorem k0ta_0 {Ls : Nat} {xs : Nat → Int32} {d : Nat} {Q : Option Value → jm_h → Prop} (hd : 3 ≤ d) (F : Nat → sy_d) (X1 X2 : List jm_c) (hB : iv_in F iv_B0)
    (k0 : 0 ≤ (sy_i F 33).toInt → (sy_i F 33).toInt ≤ 400 → ((sy_ai F 39).getD ((sy_i F 33).toInt).toNat 0).toInt = (sy_i F 82).toInt → (sy_i F 33).toInt < 400 → ∀ F1 : Nat → sy_d, iv_in F1 iv_B0 → (∀ j, j < 82 → j ∉ ([33] : List Nat) → F1 j = F j) → (sy_i F1 33).toInt = ((sy_i F 33).toInt + 1) → (sy_i F1 34).toInt = (sy_i F 34).toInt → (sy_i F1 36).toInt = (sy_i F 36).toInt → (sy_i F1 37).toInt = (sy_i F 37).toInt → (sy_i F1 38).toInt = (sy_i F 38).toInt → sy_ai F1 39 = sy_ai F 39 → sy_ai F1 40 = sy_ai F 40 → Q (some (.int ((1 : Int32)))) (sy_dh F1 X1 X2 (iv_H 0)))
    (k1 : 0 ≤ (sy_i F 33).toInt → (sy_i F 33).toInt ≤ 400 → ((sy_ai F 39).getD ((sy_i F 33).toInt).toNat 0).toInt = (sy_i F 82).toInt → 400 ≤ (sy_i F 33).toInt → ∀ F1 : Nat → sy_d, iv_in F1 iv_B0 → (∀ j, j < 82 → j ∉ ([34] : List Nat) → F1 j = F j) → (sy_i F1 33).toInt = (sy_i F 33).toInt → (sy_i F1 34).toInt = 2 → (sy_i F1 36).toInt = (sy_i F 36).toInt → (sy_i F1 37).toInt = (sy_i F 37).toInt → (sy_i F1 38).toInt = (sy_i F 38).toInt → sy_ai F1 39 = sy_ai F 39 → sy_ai F1 40 = sy_ai F 40 → Q (some (.int ((0 : Int32)))) (sy_dh F1 X1 X2 (iv_H 0)))
    (k2 : 0 ≤ (sy_i F 33).toInt → (sy_i F 33).toInt ≤ 400 → ((sy_ai F 39).getD ((sy_i F 33).toInt).toNat 0).toInt ≠ (sy_i F 82).toInt → ∀ F1 : Nat → sy_d, iv_in F1 iv_B0 → (∀ j, j < 82 → j ∉ ([34] : List Nat) → F1 j = F j) → (sy_i F1 33).toInt = (sy_i F 33).toInt → (sy_i F1 34).toInt = 1 → (sy_i F1 36).toInt = (sy_i F 36).toInt → (sy_i F1 37).toInt = (sy_i F 37).toInt → (sy_i F1 38).toInt = (sy_i F 38).toInt → sy_ai F1 39 = sy_ai F 39 → sy_ai F1 40 = sy_ai F 40 → Q (some (.int ((0 : Int32)))) (sy_dh F1 X1 X2 (iv_H 0))) :
    hd_W Ls xs d jm_M43 Q (0, sy_dL F [some (.inl (.ref 30)), some (.inr (.inl 82))], sy_dS F [], sy_dh F X1 X2 (iv_H 0), 0, 0) := by
  by_cases g0 : (sy_i F 33).toInt < 0
  · have c33 := nz_bx hB (k := 33) (lo := 0) (hi := 400) rfl
    exfalso
    omega
  replace g0 : 0 ≤ (sy_i F 33).toInt := by omega
  by_cases g1 : 400 < (sy_i F 33).toInt
  · have c33 := nz_bx hB (k := 33) (lo := 0) (hi := 400) rfl
    exfalso
    omega
  replace g1 : (sy_i F 33).toInt ≤ 400 := by omega
  by_cases g2 : ((sy_ai F 39).getD ((sy_i F 33).toInt).toNat 0).toInt = (sy_i F 82).toInt
  · by_cases g3 : (sy_i F 33).toInt < 400
    · have c33 := nz_bx hB (k := 33) (lo := 0) (hi := 400) rfl
      have q83 : (sy_ai F 39).getD (sy_i F 33).toNatClampNeg 0 = (sy_ai F 39).getD ((sy_i F 33).toInt).toNat 0 := by simp only [nz_c]
      have n83 : ((sy_ai F 39).getD (sy_i F 33).toNatClampNeg 0).toInt = ((sy_ai F 39).getD ((sy_i F 33).toInt).toNat 0).toInt := congrArg Int32.toInt q83
      have n84 : ((sy_i F 33) + ((1 : Int32))).toInt = ((sy_i F 33).toInt + 1) := nz_add (rfl : (sy_i F 33).toInt = (sy_i F 33).toInt) (by decide : ((1 : Int32)).toInt = 1) (by omega) (by omega)
      exact k0ta_0_p0 hd F X1 X2 hB (by first | exact g0 | (simp only [nz_c]; exact g0)) (by first | exact g1 | (simp only [nz_c]; exact g1)) (by first | exact ⟨by omega, by omega⟩ | (simp only [nz_c]; exact ⟨by omega, by omega⟩)) (by first | exact g2 | (simp only [nz_c]; exact g2) | (rw [n83]; exact g2)) (by first | exact g3 | (simp only [nz_c]; exact g3)) (fun F1 g e33 => k0 g0 g1 g2 g3 F1 (nz_in0 hB [33] (fun j hj hn => g j hj (by simp only [List.mem_cons, List.not_mem_nil, or_false, not_or] at hn; omega)) (List.forall_mem_cons.mpr ⟨fun t ht => (Option.some.inj ht) ▸ (nz_hi e33 n84 (by omega) (by omega)), List.forall_mem_nil _⟩)) (fun j hj hn => g j hj (by simp only [List.mem_cons, List.not_mem_nil, or_false, not_or] at hn; omega)) ((congrArg Int32.toInt (zz_i e33)).trans n84) (nz_fi (g 34 (by decide) (by decide))) (nz_fi (g 36 (by decide) (by decide))) (nz_fi (g 37 (by decide) (by decide))) (nz_fi (g 38 (by decide) (by decide))) (nz_fa (g 39 (by decide) (by decide))) (nz_fa (g 40 (by decide) (by decide))))
    replace g3 : 400 ≤ (sy_i F 33).toInt := by omega
    have c33 := nz_bx hB (k := 33) (lo := 0) (hi := 400) rfl
    have q83 : (sy_ai F 39).getD (sy_i F 33).toNatClampNeg 0 = (sy_ai F 39).getD ((sy_i F 33).toInt).toNat 0 := by simp only [nz_c]
    have n83 : ((sy_ai F 39).getD (sy_i F 33).toNatClampNeg 0).toInt = ((sy_ai F 39).getD ((sy_i F 33).toInt).toNat 0).toInt := congrArg Int32.toInt q83
    exact k0ta_0_p1 hd F X1 X2 hB (by first | exact g0 | (simp only [nz_c]; exact g0)) (by first | exact g1 | (simp only [nz_c]; exact g1)) (by first | exact ⟨by omega, by omega⟩ | (simp only [nz_c]; exact ⟨by omega, by omega⟩)) (by first | exact g2 | (simp only [nz_c]; exact g2) | (rw [n83]; exact g2)) (by first | exact g3 | (simp only [nz_c]; exact g3)) (fun F1 g e34 => k1 g0 g1 g2 g3 F1 (nz_in0 hB [34] (fun j hj hn => g j hj (by simp only [List.mem_cons, List.not_mem_nil, or_false, not_or] at hn; omega)) (List.forall_mem_cons.mpr ⟨fun t ht => (Option.some.inj ht) ▸ (nz_hz e34), List.forall_mem_nil _⟩)) (fun j hj hn => g j hj (by simp only [List.mem_cons, List.not_mem_nil, or_false, not_or] at hn; omega)) (nz_fi (g 33 (by decide) (by decide))) ((congrArg Int32.toInt (zz_i e34)).trans (by decide : ((2 : Int32)).toInt = 2)) (nz_fi (g 36 (by decide) (by decide))) (nz_fi (g 37 (by decide) (by decide))) (nz_fi (g 38 (by decide) (by decide))) (nz_fa (g 39 (by decide) (by decide))) (nz_fa (g 40 (by decide) (by decide))))
  replace g2 : ((sy_ai F 39).getD ((sy_i F 33).toInt).toNat 0).toInt ≠ (sy_i F 82).toInt := by omega
  have c33 := nz_bx hB (k := 33) (lo := 0) (hi := 400) rfl
  have q83 : (sy_ai F 39).getD (sy_i F 33).toNatClampNeg 0 = (sy_ai F 39).getD ((sy_i F 33).toInt).toNat 0 := by simp only [nz_c]
  have n83 : ((sy_ai F 39).getD (sy_i F 33).toNatClampNeg 0).toInt = ((sy_ai F 39).getD ((sy_i F 33).toInt).toNat 0).toInt := congrArg Int32.toInt q83
  exact k0ta_0_p2 hd F X1 X2 hB (by first | exact g0 | (simp only [nz_c]; exact g0)) (by first | exact g1 | (simp only [nz_c]; exact g1)) (by first | exact ⟨by omega, by omega⟩ | (simp only [nz_c]; exact ⟨by omega, by omega⟩)) (by first | exact g2 | (simp only [nz_c]; exact g2) | (rw [n83]; exact g2)) (fun F1 g e34 => k2 g0 g1 g2 F1 (nz_in0 hB [34] (fun j hj hn => g j hj (by simp only [List.mem_cons, List.not_mem_nil, or_false, not_or] at hn; omega)) (List.forall_mem_cons.mpr ⟨fun t ht => (Option.some.inj ht) ▸ (nz_hz e34), List.forall_mem_nil _⟩)) (fun j hj hn => g j hj (by simp only [List.mem_cons, List.not_mem_nil, or_false, not_or] at hn; omega)) (nz_fi (g 33 (by decide) (by decide))) ((congrArg Int32.toInt (zz_i e34)).trans (by decide : ((1 : Int32)).toInt = 1)) (nz_fi (g 36 (by decide) (by decide))) (nz_fi (g 37 (by decide) (by decide))) (nz_fi (g 38 (by decide) (by decide))) (nz_fa (g 39 (by decide) (by decide))) (nz_fa (g 40 (by decide) (by decide))))
theorem k0tn_0_p0 {Ls : Nat} {xs : Nat → Int32} {d : Nat} {Q : Option Value → jm_h → Prop} (hd : 4 ≤ d) (F : Nat → sy_d) (X1 X2 : List jm_c) (hB : iv_in F iv_B0)
    (h0 : 0 ≤ (sy_i F 33).toInt)
    (h1 : (sy_i F 33).toInt ≤ 400)
    (h2 : 0 ≤ (sy_i F 33).toInt ∧ (sy_i F 33).toInt < 401)
    (h3 : ((sy_ai F 39).getD (sy_i F 33).toNatClampNeg 0).toInt = 24)
    (h4 : (sy_i F 33).toInt < 400)
    (h5 : 0 ≤ (((sy_i F 33) + ((1 : Int32))) - ((1 : Int32))).toInt)
    (h6 : (((sy_i F 33) + ((1 : Int32))) - ((1 : Int32))).toInt ≤ 400)
    (h7 : 0 ≤ (((sy_i F 33) + ((1 : Int32))) - ((1 : Int32))).toInt ∧ (((sy_i F 33) + ((1 : Int32))) - ((1 : Int32))).toInt < 401)
    (h8 : (((sy_al F 41).getD (((sy_i F 33) + ((1 : Int32))) - ((1 : Int32))).toNatClampNeg 0).toInt32).toInt < (sy_i F 83).toInt)
    (h9 : (sy_i F 36).toInt ≠ 0)
    (h10 : 0 ≤ (sy_i F 82).toInt)
    (h11 : (sy_i F 82).toInt ≤ 2)
    (h12 : 0 ≤ (sy_i F 82).toInt ∧ (sy_i F 82).toInt < 3)
    (k : ∀ F1 : Nat → sy_d, (∀ j, j < 82 → j ≠ 33 ∧ j ≠ 44 → F1 j = F j) → F1 33 = .inl (.int ((sy_i F 33) + ((1 : Int32)))) → F1 44 = .inr (.inl (jm_upd (sy_ai F 44) (sy_i F 82).toNatClampNeg (((sy_al F 41).getD (((sy_i F 33) + ((1 : Int32))) - ((1 : Int32))).toNatClampNeg 0).toInt32))) → Q (some (.int ((1 : Int32)))) (sy_dh F1 X1 X2 (iv_H 0))) :
    hd_W Ls xs d jm_M42 Q (0, sy_dL F [some (.inl (.ref 30)), some (.inr (.inl 82)), some (.inr (.inl 83)), some (.inr (.inl 84)), none], sy_dS F [], sy_dh F X1 X2 (iv_H 0), 0, 0) := by
  refine hd_ret (s := 0) (nv := 85) (v := some (.inl (.int 1))) (uh := hd_ov (iv_id 0 iv_B0) [(33, .inl (.inr (.inl 86))), (44, .inr (.inr (.inl 90)))]) (f := true) (sp := []) (d0 := 3) (O := [false, false, true, true, false, false, true, true, false, false]) (T := [(30, [.inr (.inl 33)], [.inr (.inl 39)]), (0, [.inr (.inl 33), .inl (.int 1)], []), (1, [.inr (.inl 86), .inl (.int 1)], []), (30, [.inr (.inl 87)], [.inr (.inr 41)]), (25, [.inr (.inr 88)], []), (40, [.inr (.inl 82), .inr (.inl 89)], [.inr (.inl 44)])]) (P := [(3, .inr (.inl 33), .inl (.int 0)), (3, .inl (.int 400), .inr (.inl 33)), (6, .inr (.inl 33), .inl (.ref 401)), (0, .inr (.inl 85), .inl (.int 24)), (2, .inr (.inl 33), .inl (.int 400)), (3, .inr (.inl 87), .inl (.int 0)), (3, .inl (.int 400), .inr (.inl 87)), (6, .inr (.inl 87), .inl (.ref 401)), (2, .inr (.inl 89), .inr (.inl 83)), (1, .inr (.inl 36), .inl (.int 0)), (3, .inr (.inl 82), .inl (.int 0)), (3, .inl (.int 2), .inr (.inl 82)), (6, .inr (.inl 82), .inl (.ref 3))]) jm_ok42 (by decide +kernel) (by decide +kernel) hd F X1 X2 (fun F' hF hs => ?_)
  have b33 := hd_b (F := F) (F' := F') (k := 33) (hF 33 (by decide))
  have a39 := hd_ba (F := F) (F' := F') (k := 39) (hF 39 (by decide))
  have t85 : sy_dv F' (.inr (.inl 85)) = .int ((sy_ai F 39).getD (sy_i F 33).toNatClampNeg 0) := hd_rd (hs 0 _ rfl) b33 a39
  have t86 : sy_dv F' (.inr (.inl 86)) = .int ((sy_i F 33) + ((1 : Int32))) := hd_o (hs 1 _ rfl) b33 rfl rfl
  have t87 : sy_dv F' (.inr (.inl 87)) = .int (((sy_i F 33) + ((1 : Int32))) - ((1 : Int32))) := hd_o (hs 2 _ rfl) t86 rfl rfl
  have a41 := hd_bA (F := F) (F' := F') (k := 41) (hF 41 (by decide))
  have t88 : sy_dv F' (.inr (.inr 88)) = .long ((sy_al F 41).getD (((sy_i F 33) + ((1 : Int32))) - ((1 : Int32))).toNatClampNeg 0) := hd_rL (hs 3 _ rfl) t87 a41
  have t89 : sy_dv F' (.inr (.inl 89)) = .int (((sy_al F 41).getD (((sy_i F 33) + ((1 : Int32))) - ((1 : Int32))).toNatClampNeg 0).toInt32) := hd_uI (hs 4 _ rfl) t88
  have b83 := hd_b (F := F) (F' := F') (k := 83) (hF 83 (by decide))
  have b36 := hd_b (F := F) (F' := F') (k := 36) (hF 36 (by decide))
  have b82 := hd_b (F := F) (F' := F') (k := 82) (hF 82 (by decide))
  have a44 := hd_ba (F := F) (F' := F') (k := 44) (hF 44 (by decide))
  have t90 : sy_da F' (.inr (.inl 90)) = .inl (jm_upd (sy_ai F 44) (sy_i F 82).toNatClampNeg (((sy_al F 41).getD (((sy_i F 33) + ((1 : Int32))) - ((1 : Int32))).toNatClampNeg 0).toInt32)) := hd_up (hs 5 _ rfl) b82 t89 a44
  have hB' : iv_in F' iv_B0 := iv_in_eq hB (fun j hj => hF j (Nat.lt_of_lt_of_le hj (by decide +kernel)))
  refine ⟨List.forall_mem_cons.mpr ⟨hd_p3 b33 rfl (by have hc : ((0) : Int32).toInt = 0 := (by decide); omega), List.forall_mem_cons.mpr ⟨hd_p3 rfl b33 (by have hc : ((400) : Int32).toInt = 400 := (by decide); omega), List.forall_mem_cons.mpr ⟨hd_pb b33 (by first | exact h2 | exact h2), List.forall_mem_cons.mpr ⟨hd_p0 t85 rfl (by have hc : ((24) : Int32).toInt = 24 := (by decide); omega), List.forall_mem_cons.mpr ⟨hd_p2 b33 rfl (by have hc : ((400) : Int32).toInt = 400 := (by decide); omega), List.forall_mem_cons.mpr ⟨hd_p3 t87 rfl (by have hc : ((0) : Int32).toInt = 0 := (by decide); omega), List.forall_mem_cons.mpr ⟨hd_p3 rfl t87 (by have hc : ((400) : Int32).toInt = 400 := (by decide); omega), List.forall_mem_cons.mpr ⟨hd_pb t87 (by first | exact h7 | exact h7), List.forall_mem_cons.mpr ⟨hd_p2 t89 b83 h8, List.forall_mem_cons.mpr ⟨hd_p1 b36 rfl (by have hc : ((0) : Int32).toInt = 0 := (by decide); omega), List.forall_mem_cons.mpr ⟨hd_p3 b82 rfl (by have hc : ((0) : Int32).toInt = 0 := (by decide); omega), List.forall_mem_cons.mpr ⟨hd_p3 rfl b82 (by have hc : ((2) : Int32).toInt = 2 := (by decide); omega), List.forall_mem_cons.mpr ⟨hd_pb b82 (by first | exact h12 | exact h12), fun _ h => absurd h List.not_mem_nil⟩⟩⟩⟩⟩⟩⟩⟩⟩⟩⟩⟩⟩, ?_⟩
  refine k _ ?_ ?_ ?_
  · exact fun j hj hn => (hd_keep hB' (Nat.lt_of_lt_of_le hj (by decide +kernel)) (by simp; omega)).trans (hF j (by omega))
  · exact hd_gi (x := .inr (.inl 86)) (by decide +kernel) t86
  · exact hd_ga (a := .inr (.inl 90)) (by decide +kernel) t90
theorem k0tn_0_p1 {Ls : Nat} {xs : Nat → Int32} {d : Nat} {Q : Option Value → jm_h → Prop} (hd : 4 ≤ d) (F : Nat → sy_d) (X1 X2 : List jm_c) (hB : iv_in F iv_B0)
    (h0 : 0 ≤ (sy_i F 33).toInt)
    (h1 : (sy_i F 33).toInt ≤ 400)
    (h2 : 0 ≤ (sy_i F 33).toInt ∧ (sy_i F 33).toInt < 401)
    (h3 : ((sy_ai F 39).getD (sy_i F 33).toNatClampNeg 0).toInt = 24)
    (h4 : (sy_i F 33).toInt < 400)
    (h5 : 0 ≤ (((sy_i F 33) + ((1 : Int32))) - ((1 : Int32))).toInt)
    (h6 : (((sy_i F 33) + ((1 : Int32))) - ((1 : Int32))).toInt ≤ 400)
    (h7 : 0 ≤ (((sy_i F 33) + ((1 : Int32))) - ((1 : Int32))).toInt ∧ (((sy_i F 33) + ((1 : Int32))) - ((1 : Int32))).toInt < 401)
    (h8 : (((sy_al F 41).getD (((sy_i F 33) + ((1 : Int32))) - ((1 : Int32))).toNatClampNeg 0).toInt32).toInt < (sy_i F 83).toInt)
    (h9 : (sy_i F 36).toInt = 0)
    (h10 : 0 ≤ (((sy_i F 33) + ((1 : Int32))) - ((1 : Int32))).toInt)
    (h11 : (((sy_i F 33) + ((1 : Int32))) - ((1 : Int32))).toInt ≤ 400)
    (h12 : 0 ≤ (((sy_i F 33) + ((1 : Int32))) - ((1 : Int32))).toInt ∧ (((sy_i F 33) + ((1 : Int32))) - ((1 : Int32))).toInt < 401)
    (h13 : 0 ≤ (sy_i F 82).toInt)
    (h14 : (sy_i F 82).toInt ≤ 2)
    (h15 : 0 ≤ (sy_i F 82).toInt ∧ (sy_i F 82).toInt < 3)
    (k : ∀ F1 : Nat → sy_d, (∀ j, j < 82 → j ≠ 33 ∧ j ≠ 36 ∧ j ≠ 37 ∧ j ≠ 44 → F1 j = F j) → F1 33 = .inl (.int ((sy_i F 33) + ((1 : Int32)))) → F1 36 = .inl (.int ((5 : Int32))) → F1 37 = .inl (.int ((sy_ai F 40).getD (((sy_i F 33) + ((1 : Int32))) - ((1 : Int32))).toNatClampNeg 0)) → F1 44 = .inr (.inl (jm_upd (sy_ai F 44) (sy_i F 82).toNatClampNeg (((sy_al F 41).getD (((sy_i F 33) + ((1 : Int32))) - ((1 : Int32))).toNatClampNeg 0).toInt32))) → Q (some (.int ((1 : Int32)))) (sy_dh F1 X1 X2 (iv_H 0))) :
    hd_W Ls xs d jm_M42 Q (0, sy_dL F [some (.inl (.ref 30)), some (.inr (.inl 82)), some (.inr (.inl 83)), some (.inr (.inl 84)), none], sy_dS F [], sy_dh F X1 X2 (iv_H 0), 0, 0) := by
  refine hd_ret (s := 0) (nv := 85) (v := some (.inl (.int 1))) (uh := hd_ov (iv_id 0 iv_B0) [(33, .inl (.inr (.inl 86))), (36, .inl (.inl (.int 5))), (37, .inl (.inr (.inl 91))), (44, .inr (.inr (.inl 92)))]) (f := true) (sp := []) (d0 := 3) (O := [false, false, true, true, false, false, true, false, false, false, false, false]) (T := [(30, [.inr (.inl 33)], [.inr (.inl 39)]), (0, [.inr (.inl 33), .inl (.int 1)], []), (1, [.inr (.inl 86), .inl (.int 1)], []), (30, [.inr (.inl 87)], [.inr (.inr 41)]), (25, [.inr (.inr 88)], []), (1, [.inr (.inl 86), .inl (.int 1)], []), (30, [.inr (.inl 90)], [.inr (.inl 40)]), (40, [.inr (.inl 82), .inr (.inl 89)], [.inr (.inl 44)])]) (P := [(3, .inr (.inl 33), .inl (.int 0)), (3, .inl (.int 400), .inr (.inl 33)), (6, .inr (.inl 33), .inl (.ref 401)), (0, .inr (.inl 85), .inl (.int 24)), (2, .inr (.inl 33), .inl (.int 400)), (3, .inr (.inl 87), .inl (.int 0)), (3, .inl (.int 400), .inr (.inl 87)), (6, .inr (.inl 87), .inl (.ref 401)), (2, .inr (.inl 89), .inr (.inl 83)), (0, .inr (.inl 36), .inl (.int 0)), (3, .inr (.inl 90), .inl (.int 0)), (3, .inl (.int 400), .inr (.inl 90)), (6, .inr (.inl 90), .inl (.ref 401)), (3, .inr (.inl 82), .inl (.int 0)), (3, .inl (.int 2), .inr (.inl 82)), (6, .inr (.inl 82), .inl (.ref 3))]) jm_ok42 (by decide +kernel) (by decide +kernel) hd F X1 X2 (fun F' hF hs => ?_)
  have b33 := hd_b (F := F) (F' := F') (k := 33) (hF 33 (by decide))
  have a39 := hd_ba (F := F) (F' := F') (k := 39) (hF 39 (by decide))
  have t85 : sy_dv F' (.inr (.inl 85)) = .int ((sy_ai F 39).getD (sy_i F 33).toNatClampNeg 0) := hd_rd (hs 0 _ rfl) b33 a39
  have t86 : sy_dv F' (.inr (.inl 86)) = .int ((sy_i F 33) + ((1 : Int32))) := hd_o (hs 1 _ rfl) b33 rfl rfl
  have t87 : sy_dv F' (.inr (.inl 87)) = .int (((sy_i F 33) + ((1 : Int32))) - ((1 : Int32))) := hd_o (hs 2 _ rfl) t86 rfl rfl
  have a41 := hd_bA (F := F) (F' := F') (k := 41) (hF 41 (by decide))
  have t88 : sy_dv F' (.inr (.inr 88)) = .long ((sy_al F 41).getD (((sy_i F 33) + ((1 : Int32))) - ((1 : Int32))).toNatClampNeg 0) := hd_rL (hs 3 _ rfl) t87 a41
  have t89 : sy_dv F' (.inr (.inl 89)) = .int (((sy_al F 41).getD (((sy_i F 33) + ((1 : Int32))) - ((1 : Int32))).toNatClampNeg 0).toInt32) := hd_uI (hs 4 _ rfl) t88
  have b83 := hd_b (F := F) (F' := F') (k := 83) (hF 83 (by decide))
  have b36 := hd_b (F := F) (F' := F') (k := 36) (hF 36 (by decide))
  have t90 : sy_dv F' (.inr (.inl 90)) = .int (((sy_i F 33) + ((1 : Int32))) - ((1 : Int32))) := hd_o (hs 5 _ rfl) t86 rfl rfl
  have b82 := hd_b (F := F) (F' := F') (k := 82) (hF 82 (by decide))
  have a40 := hd_ba (F := F) (F' := F') (k := 40) (hF 40 (by decide))
  have t91 : sy_dv F' (.inr (.inl 91)) = .int ((sy_ai F 40).getD (((sy_i F 33) + ((1 : Int32))) - ((1 : Int32))).toNatClampNeg 0) := hd_rd (hs 6 _ rfl) t90 a40
  have a44 := hd_ba (F := F) (F' := F') (k := 44) (hF 44 (by decide))
  have t92 : sy_da F' (.inr (.inl 92)) = .inl (jm_upd (sy_ai F 44) (sy_i F 82).toNatClampNeg (((sy_al F 41).getD (((sy_i F 33) + ((1 : Int32))) - ((1 : Int32))).toNatClampNeg 0).toInt32)) := hd_up (hs 7 _ rfl) b82 t89 a44
  have hB' : iv_in F' iv_B0 := iv_in_eq hB (fun j hj => hF j (Nat.lt_of_lt_of_le hj (by decide +kernel)))
  refine ⟨List.forall_mem_cons.mpr ⟨hd_p3 b33 rfl (by have hc : ((0) : Int32).toInt = 0 := (by decide); omega), List.forall_mem_cons.mpr ⟨hd_p3 rfl b33 (by have hc : ((400) : Int32).toInt = 400 := (by decide); omega), List.forall_mem_cons.mpr ⟨hd_pb b33 (by first | exact h2 | exact h2), List.forall_mem_cons.mpr ⟨hd_p0 t85 rfl (by have hc : ((24) : Int32).toInt = 24 := (by decide); omega), List.forall_mem_cons.mpr ⟨hd_p2 b33 rfl (by have hc : ((400) : Int32).toInt = 400 := (by decide); omega), List.forall_mem_cons.mpr ⟨hd_p3 t87 rfl (by have hc : ((0) : Int32).toInt = 0 := (by decide); omega), List.forall_mem_cons.mpr ⟨hd_p3 rfl t87 (by have hc : ((400) : Int32).toInt = 400 := (by decide); omega), List.forall_mem_cons.mpr ⟨hd_pb t87 (by first | exact h7 | exact h7), List.forall_mem_cons.mpr ⟨hd_p2 t89 b83 h8, List.forall_mem_cons.mpr ⟨hd_p0 b36 rfl (by have hc : ((0) : Int32).toInt = 0 := (by decide); omega), List.forall_mem_cons.mpr ⟨hd_p3 t90 rfl (by have hc : ((0) : Int32).toInt = 0 := (by decide); omega), List.forall_mem_cons.mpr ⟨hd_p3 rfl t90 (by have hc : ((400) : Int32).toInt = 400 := (by decide); omega), List.forall_mem_cons.mpr ⟨hd_pb t90 (by first | exact h12 | exact h12), List.forall_mem_cons.mpr ⟨hd_p3 b82 rfl (by have hc : ((0) : Int32).toInt = 0 := (by decide); omega), List.forall_mem_cons.mpr ⟨hd_p3 rfl b82 (by have hc : ((2) : Int32).toInt = 2 := (by decide); omega), List.forall_mem_cons.mpr ⟨hd_pb b82 (by first | exact h15 | exact h15), fun _ h => absurd h List.not_mem_nil⟩⟩⟩⟩⟩⟩⟩⟩⟩⟩⟩⟩⟩⟩⟩⟩, ?_⟩
  refine k _ ?_ ?_ ?_ ?_ ?_
  · exact fun j hj hn => (hd_keep hB' (Nat.lt_of_lt_of_le hj (by decide +kernel)) (by simp; omega)).trans (hF j (by omega))
  · exact hd_gi (x := .inr (.inl 86)) (by decide +kernel) t86
  · exact hd_gi (x := .inl (.int 5)) (by decide +kernel) rfl
  · exact hd_gi (x := .inr (.inl 91)) (by decide +kernel) t91
  · exact hd_ga (a := .inr (.inl 92)) (by decide +kernel) t92
theorem k0tn_0_p2 {Ls : Nat} {xs : Nat → Int32} {d : Nat} {Q : Option Value → jm_h → Prop} (hd : 4 ≤ d) (F : Nat → sy_d) (X1 X2 : List jm_c) (hB : iv_in F iv_B0)
    (h0 : 0 ≤ (sy_i F 33).toInt)
    (h1 : (sy_i F 33).toInt ≤ 400)
    (h2 : 0 ≤ (sy_i F 33).toInt ∧ (sy_i F 33).toInt < 401)
    (h3 : ((sy_ai F 39).getD (sy_i F 33).toNatClampNeg 0).toInt = 24)
    (h4 : (sy_i F 33).toInt < 400)
    (h5 : 0 ≤ (((sy_i F 33) + ((1 : Int32))) - ((1 : Int32))).toInt)
    (h6 : (((sy_i F 33) + ((1 : Int32))) - ((1 : Int32))).toInt ≤ 400)
    (h7 : 0 ≤ (((sy_i F 33) + ((1 : Int32))) - ((1 : Int32))).toInt ∧ (((sy_i F 33) + ((1 : Int32))) - ((1 : Int32))).toInt < 401)
    (h8 : (sy_i F 83).toInt ≤ (((sy_al F 41).getD (((sy_i F 33) + ((1 : Int32))) - ((1 : Int32))).toNatClampNeg 0).toInt32).toInt)
    (h9 : (sy_i F 84).toInt < (((sy_al F 41).getD (((sy_i F 33) + ((1 : Int32))) - ((1 : Int32))).toNatClampNeg 0).toInt32).toInt)
    (h10 : (sy_i F 36).toInt ≠ 0)
    (h11 : 0 ≤ (sy_i F 82).toInt)
    (h12 : (sy_i F 82).toInt ≤ 2)
    (h13 : 0 ≤ (sy_i F 82).toInt ∧ (sy_i F 82).toInt < 3)
    (k : ∀ F1 : Nat → sy_d, (∀ j, j < 82 → j ≠ 33 ∧ j ≠ 44 → F1 j = F j) → F1 33 = .inl (.int ((sy_i F 33) + ((1 : Int32)))) → F1 44 = .inr (.inl (jm_upd (sy_ai F 44) (sy_i F 82).toNatClampNeg (((sy_al F 41).getD (((sy_i F 33) + ((1 : Int32))) - ((1 : Int32))).toNatClampNeg 0).toInt32))) → Q (some (.int ((1 : Int32)))) (sy_dh F1 X1 X2 (iv_H 0))) :
    hd_W Ls xs d jm_M42 Q (0, sy_dL F [some (.inl (.ref 30)), some (.inr (.inl 82)), some (.inr (.inl 83)), some (.inr (.inl 84)), none], sy_dS F [], sy_dh F X1 X2 (iv_H 0), 0, 0) := by
  refine hd_ret (s := 0) (nv := 85) (v := some (.inl (.int 1))) (uh := hd_ov (iv_id 0 iv_B0) [(33, .inl (.inr (.inl 86))), (44, .inr (.inr (.inl 90)))]) (f := true) (sp := []) (d0 := 3) (O := [false, false, true, true, false, false, false, true, true, false, false]) (T := [(30, [.inr (.inl 33)], [.inr (.inl 39)]), (0, [.inr (.inl 33), .inl (.int 1)], []), (1, [.inr (.inl 86), .inl (.int 1)], []), (30, [.inr (.inl 87)], [.inr (.inr 41)]), (25, [.inr (.inr 88)], []), (40, [.inr (.inl 82), .inr (.inl 89)], [.inr (.inl 44)])]) (P := [(3, .inr (.inl 33), .inl (.int 0)), (3, .inl (.int 400), .inr (.inl 33)), (6, .inr (.inl 33), .inl (.ref 401)), (0, .inr (.inl 85), .inl (.int 24)), (2, .inr (.inl 33), .inl (.int 400)), (3, .inr (.inl 87), .inl (.int 0)), (3, .inl (.int 400), .inr (.inl 87)), (6, .inr (.inl 87), .inl (.ref 401)), (3, .inr (.inl 89), .inr (.inl 83)), (2, .inr (.inl 84), .inr (.inl 89)), (1, .inr (.inl 36), .inl (.int 0)), (3, .inr (.inl 82), .inl (.int 0)), (3, .inl (.int 2), .inr (.inl 82)), (6, .inr (.inl 82), .inl (.ref 3))]) jm_ok42 (by decide +kernel) (by decide +kernel) hd F X1 X2 (fun F' hF hs => ?_)
  have b33 := hd_b (F := F) (F' := F') (k := 33) (hF 33 (by decide))
  have a39 := hd_ba (F := F) (F' := F') (k := 39) (hF 39 (by decide))
  have t85 : sy_dv F' (.inr (.inl 85)) = .int ((sy_ai F 39).getD (sy_i F 33).toNatClampNeg 0) := hd_rd (hs 0 _ rfl) b33 a39
  have t86 : sy_dv F' (.inr (.inl 86)) = .int ((sy_i F 33) + ((1 : Int32))) := hd_o (hs 1 _ rfl) b33 rfl rfl
  have t87 : sy_dv F' (.inr (.inl 87)) = .int (((sy_i F 33) + ((1 : Int32))) - ((1 : Int32))) := hd_o (hs 2 _ rfl) t86 rfl rfl
  have a41 := hd_bA (F := F) (F' := F') (k := 41) (hF 41 (by decide))
  have t88 : sy_dv F' (.inr (.inr 88)) = .long ((sy_al F 41).getD (((sy_i F 33) + ((1 : Int32))) - ((1 : Int32))).toNatClampNeg 0) := hd_rL (hs 3 _ rfl) t87 a41
  have t89 : sy_dv F' (.inr (.inl 89)) = .int (((sy_al F 41).getD (((sy_i F 33) + ((1 : Int32))) - ((1 : Int32))).toNatClampNeg 0).toInt32) := hd_uI (hs 4 _ rfl) t88
  have b83 := hd_b (F := F) (F' := F') (k := 83) (hF 83 (by decide))
  have b84 := hd_b (F := F) (F' := F') (k := 84) (hF 84 (by decide))
  have b36 := hd_b (F := F) (F' := F') (k := 36) (hF 36 (by decide))
  have b82 := hd_b (F := F) (F' := F') (k := 82) (hF 82 (by decide))
  have a44 := hd_ba (F := F) (F' := F') (k := 44) (hF 44 (by decide))
  have t90 : sy_da F' (.inr (.inl 90)) = .inl (jm_upd (sy_ai F 44) (sy_i F 82).toNatClampNeg (((sy_al F 41).getD (((sy_i F 33) + ((1 : Int32))) - ((1 : Int32))).toNatClampNeg 0).toInt32)) := hd_up (hs 5 _ rfl) b82 t89 a44
  have hB' : iv_in F' iv_B0 := iv_in_eq hB (fun j hj => hF j (Nat.lt_of_lt_of_le hj (by decide +kernel)))
  refine ⟨List.forall_mem_cons.mpr ⟨hd_p3 b33 rfl (by have hc : ((0) : Int32).toInt = 0 := (by decide); omega), List.forall_mem_cons.mpr ⟨hd_p3 rfl b33 (by have hc : ((400) : Int32).toInt = 400 := (by decide); omega), List.forall_mem_cons.mpr ⟨hd_pb b33 (by first | exact h2 | exact h2), List.forall_mem_cons.mpr ⟨hd_p0 t85 rfl (by have hc : ((24) : Int32).toInt = 24 := (by decide); omega), List.forall_mem_cons.mpr ⟨hd_p2 b33 rfl (by have hc : ((400) : Int32).toInt = 400 := (by decide); omega), List.forall_mem_cons.mpr ⟨hd_p3 t87 rfl (by have hc : ((0) : Int32).toInt = 0 := (by decide); omega), List.forall_mem_cons.mpr ⟨hd_p3 rfl t87 (by have hc : ((400) : Int32).toInt = 400 := (by decide); omega), List.forall_mem_cons.mpr ⟨hd_pb t87 (by first | exact h7 | exact h7), List.forall_mem_cons.mpr ⟨hd_p3 t89 b83 h8, List.forall_mem_cons.mpr ⟨hd_p2 b84 t89 h9, List.forall_mem_cons.mpr ⟨hd_p1 b36 rfl (by have hc : ((0) : Int32).toInt = 0 := (by decide); omega), List.forall_mem_cons.mpr ⟨hd_p3 b82 rfl (by have hc : ((0) : Int32).toInt = 0 := (by decide); omega), List.forall_mem_cons.mpr ⟨hd_p3 rfl b82 (by have hc : ((2) : Int32).toInt = 2 := (by decide); omega), List.forall_mem_cons.mpr ⟨hd_pb b82 (by first | exact h13 | exact h13), fun _ h => absurd h List.not_mem_nil⟩⟩⟩⟩⟩⟩⟩⟩⟩⟩⟩⟩⟩⟩, ?_⟩
  refine k _ ?_ ?_ ?_
  · exact fun j hj hn => (hd_keep hB' (Nat.lt_of_lt_of_le hj (by decide +kernel)) (by simp; omega)).trans (hF j (by omega))
  · exact hd_gi (x := .inr (.inl 86)) (by decide +kernel) t86
  · exact hd_ga (a := .inr (.inl 90)) (by decide +kernel) t90
theorem k0tn_0_p3 {Ls : Nat} {xs : Nat → Int32} {d : Nat} {Q : Option Value → jm_h → Prop} (hd : 4 ≤ d) (F : Nat → sy_d) (X1 X2 : List jm_c) (hB : iv_in F iv_B0)
    (h0 : 0 ≤ (sy_i F 33).toInt)
    (h1 : (sy_i F 33).toInt ≤ 400)
    (h2 : 0 ≤ (sy_i F 33).toInt ∧ (sy_i F 33).toInt < 401)
    (h3 : ((sy_ai F 39).getD (sy_i F 33).toNatClampNeg 0).toInt = 24)
    (h4 : (sy_i F 33).toInt < 400)
    (h5 : 0 ≤ (((sy_i F 33) + ((1 : Int32))) - ((1 : Int32))).toInt)
    (h6 : (((sy_i F 33) + ((1 : Int32))) - ((1 : Int32))).toInt ≤ 400)
    (h7 : 0 ≤ (((sy_i F 33) + ((1 : Int32))) - ((1 : Int32))).toInt ∧ (((sy_i F 33) + ((1 : Int32))) - ((1 : Int32))).toInt < 401)
    (h8 : (sy_i F 83).toInt ≤ (((sy_al F 41).getD (((sy_i F 33) + ((1 : Int32))) - ((1 : Int32))).toNatClampNeg 0).toInt32).toInt)
    (h9 : (sy_i F 84).toInt < (((sy_al F 41).getD (((sy_i F 33) + ((1 : Int32))) - ((1 : Int32))).toNatClampNeg 0).toInt32).toInt)
    (h10 : (sy_i F 36).toInt = 0)
    (h11 : 0 ≤ (((sy_i F 33) + ((1 : Int32))) - ((1 : Int32))).toInt)
    (h12 : (((sy_i F 33) + ((1 : Int32))) - ((1 : Int32))).toInt ≤ 400)
    (h13 : 0 ≤ (((sy_i F 33) + ((1 : Int32))) - ((1 : Int32))).toInt ∧ (((sy_i F 33) + ((1 : Int32))) - ((1 : Int32))).toInt < 401)
    (h14 : 0 ≤ (sy_i F 82).toInt)
    (h15 : (sy_i F 82).toInt ≤ 2)
    (h16 : 0 ≤ (sy_i F 82).toInt ∧ (sy_i F 82).toInt < 3)
    (k : ∀ F1 : Nat → sy_d, (∀ j, j < 82 → j ≠ 33 ∧ j ≠ 36 ∧ j ≠ 37 ∧ j ≠ 44 → F1 j = F j) → F1 33 = .inl (.int ((sy_i F 33) + ((1 : Int32)))) → F1 36 = .inl (.int ((5 : Int32))) → F1 37 = .inl (.int ((sy_ai F 40).getD (((sy_i F 33) + ((1 : Int32))) - ((1 : Int32))).toNatClampNeg 0)) → F1 44 = .inr (.inl (jm_upd (sy_ai F 44) (sy_i F 82).toNatClampNeg (((sy_al F 41).getD (((sy_i F 33) + ((1 : Int32))) - ((1 : Int32))).toNatClampNeg 0).toInt32))) → Q (some (.int ((1 : Int32)))) (sy_dh F1 X1 X2 (iv_H 0))) :
    hd_W Ls xs d jm_M42 Q (0, sy_dL F [some (.inl (.ref 30)), some (.inr (.inl 82)), some (.inr (.inl 83)), some (.inr (.inl 84)), none], sy_dS F [], sy_dh F X1 X2 (iv_H 0), 0, 0) := by
  refine hd_ret (s := 0) (nv := 85) (v := some (.inl (.int 1))) (uh := hd_ov (iv_id 0 iv_B0) [(33, .inl (.inr (.inl 86))), (36, .inl (.inl (.int 5))), (37, .inl (.inr (.inl 91))), (44, .inr (.inr (.inl 92)))]) (f := true) (sp := []) (d0 := 3) (O := [false, false, true, true, false, false, false, true, false, false, false, false, false]) (T := [(30, [.inr (.inl 33)], [.inr (.inl 39)]), (0, [.inr (.inl 33), .inl (.int 1)], []), (1, [.inr (.inl 86), .inl (.int 1)], []), (30, [.inr (.inl 87)], [.inr (.inr 41)]), (25, [.inr (.inr 88)], []), (1, [.inr (.inl 86), .inl (.int 1)], []), (30, [.inr (.inl 90)], [.inr (.inl 40)]), (40, [.inr (.inl 82), .inr (.inl 89)], [.inr (.inl 44)])]) (P := [(3, .inr (.inl 33), .inl (.int 0)), (3, .inl (.int 400), .inr (.inl 33)), (6, .inr (.inl 33), .inl (.ref 401)), (0, .inr (.inl 85), .inl (.int 24)), (2, .inr (.inl 33), .inl (.int 400)), (3, .inr (.inl 87), .inl (.int 0)), (3, .inl (.int 400), .inr (.inl 87)), (6, .inr (.inl 87), .inl (.ref 401)), (3, .inr (.inl 89), .inr (.inl 83)), (2, .inr (.inl 84), .inr (.inl 89)), (0, .inr (.inl 36), .inl (.int 0)), (3, .inr (.inl 90), .inl (.int 0)), (3, .inl (.int 400), .inr (.inl 90)), (6, .inr (.inl 90), .inl (.ref 401)), (3, .inr (.inl 82), .inl (.int 0)), (3, .inl (.int 2), .inr (.inl 82)), (6, .inr (.inl 82), .inl (.ref 3))]) jm_ok42 (by decide +kernel) (by decide +kernel) hd F X1 X2 (fun F' hF hs => ?_)
  have b33 := hd_b (F := F) (F' := F') (k := 33) (hF 33 (by decide))
  have a39 := hd_ba (F := F) (F' := F') (k := 39) (hF 39 (by decide))
  have t85 : sy_dv F' (.inr (.inl 85)) = .int ((sy_ai F 39).getD (sy_i F 33).toNatClampNeg 0) := hd_rd (hs 0 _ rfl) b33 a39
  have t86 : sy_dv F' (.inr (.inl 86)) = .int ((sy_i F 33) + ((1 : Int32))) := hd_o (hs 1 _ rfl) b33 rfl rfl
  have t87 : sy_dv F' (.inr (.inl 87)) = .int (((sy_i F 33) + ((1 : Int32))) - ((1 : Int32))) := hd_o (hs 2 _ rfl) t86 rfl rfl
  have a41 := hd_bA (F := F) (F' := F') (k := 41) (hF 41 (by decide))
  have t88 : sy_dv F' (.inr (.inr 88)) = .long ((sy_al F 41).getD (((sy_i F 33) + ((1 : Int32))) - ((1 : Int32))).toNatClampNeg 0) := hd_rL (hs 3 _ rfl) t87 a41
  have t89 : sy_dv F' (.inr (.inl 89)) = .int (((sy_al F 41).getD (((sy_i F 33) + ((1 : Int32))) - ((1 : Int32))).toNatClampNeg 0).toInt32) := hd_uI (hs 4 _ rfl) t88
  have b83 := hd_b (F := F) (F' := F') (k := 83) (hF 83 (by decide))
  have b84 := hd_b (F := F) (F' := F') (k := 84) (hF 84 (by decide))
  have b36 := hd_b (F := F) (F' := F') (k := 36) (hF 36 (by decide))
  have t90 : sy_dv F' (.inr (.inl 90)) = .int (((sy_i F 33) + ((1 : Int32))) - ((1 : Int32))) := hd_o (hs 5 _ rfl) t86 rfl rfl
  have b82 := hd_b (F := F) (F' := F') (k := 82) (hF 82 (by decide))
  have a40 := hd_ba (F := F) (F' := F') (k := 40) (hF 40 (by decide))
  have t91 : sy_dv F' (.inr (.inl 91)) = .int ((sy_ai F 40).getD (((sy_i F 33) + ((1 : Int32))) - ((1 : Int32))).toNatClampNeg 0) := hd_rd (hs 6 _ rfl) t90 a40
  have a44 := hd_ba (F := F) (F' := F') (k := 44) (hF 44 (by decide))
  have t92 : sy_da F' (.inr (.inl 92)) = .inl (jm_upd (sy_ai F 44) (sy_i F 82).toNatClampNeg (((sy_al F 41).getD (((sy_i F 33) + ((1 : Int32))) - ((1 : Int32))).toNatClampNeg 0).toInt32)) := hd_up (hs 7 _ rfl) b82 t89 a44
  have hB' : iv_in F' iv_B0 := iv_in_eq hB (fun j hj => hF j (Nat.lt_of_lt_of_le hj (by decide +kernel)))
  refine ⟨List.forall_mem_cons.mpr ⟨hd_p3 b33 rfl (by have hc : ((0) : Int32).toInt = 0 := (by decide); omega), List.forall_mem_cons.mpr ⟨hd_p3 rfl b33 (by have hc : ((400) : Int32).toInt = 400 := (by decide); omega), List.forall_mem_cons.mpr ⟨hd_pb b33 (by first | exact h2 | exact h2), List.forall_mem_cons.mpr ⟨hd_p0 t85 rfl (by have hc : ((24) : Int32).toInt = 24 := (by decide); omega), List.forall_mem_cons.mpr ⟨hd_p2 b33 rfl (by have hc : ((400) : Int32).toInt = 400 := (by decide); omega), List.forall_mem_cons.mpr ⟨hd_p3 t87 rfl (by have hc : ((0) : Int32).toInt = 0 := (by decide); omega), List.forall_mem_cons.mpr ⟨hd_p3 rfl t87 (by have hc : ((400) : Int32).toInt = 400 := (by decide); omega), List.forall_mem_cons.mpr ⟨hd_pb t87 (by first | exact h7 | exact h7), List.forall_mem_cons.mpr ⟨hd_p3 t89 b83 h8, List.forall_mem_cons.mpr ⟨hd_p2 b84 t89 h9, List.forall_mem_cons.mpr ⟨hd_p0 b36 rfl (by have hc : ((0) : Int32).toInt = 0 := (by decide); omega), List.forall_mem_cons.mpr ⟨hd_p3 t90 rfl (by have hc : ((0) : Int32).toInt = 0 := (by decide); omega), List.forall_mem_cons.mpr ⟨hd_p3 rfl t90 (by have hc : ((400) : Int32).toInt = 400 := (by decide); omega), List.forall_mem_cons.mpr ⟨hd_pb t90 (by first | exact h13 | exact h13), List.forall_mem_cons.mpr ⟨hd_p3 b82 rfl (by have hc : ((0) : Int32).toInt = 0 := (by decide); omega), List.forall_mem_cons.mpr ⟨hd_p3 rfl b82 (by have hc : ((2) : Int32).toInt = 2 := (by decide); omega), List.forall_mem_cons.mpr ⟨hd_pb b82 (by first | exact h16 | exact h16), fun _ h => absurd h List.not_mem_nil⟩⟩⟩⟩⟩⟩⟩⟩⟩⟩⟩⟩⟩⟩⟩⟩⟩, ?_⟩
  refine k _ ?_ ?_ ?_ ?_ ?_
  · exact fun j hj hn => (hd_keep hB' (Nat.lt_of_lt_of_le hj (by decide +kernel)) (by simp; omega)).trans (hF j (by omega))
  · exact hd_gi (x := .inr (.inl 86)) (by decide +kernel) t86
  · exact hd_gi (x := .inl (.int 5)) (by decide +kernel) rfl
  · exact hd_gi (x := .inr (.inl 91)) (by decide +kernel) t91
  · exact hd_ga (a := .inr (.inl 92)) (by decide +kernel) t92
theorem k0tn_0_p4 {Ls : Nat} {xs : Nat → Int32} {d : Nat} {Q : Option Value → jm_h → Prop} (hd : 4 ≤ d) (F : Nat → sy_d) (X1 X2 : List jm_c) (hB : iv_in F iv_B0)
    (h0 : 0 ≤ (sy_i F 33).toInt)
    (h1 : (sy_i F 33).toInt ≤ 400)
    (h2 : 0 ≤ (sy_i F 33).toInt ∧ (sy_i F 33).toInt < 401)
    (h3 : ((sy_ai F 39).getD (sy_i F 33).toNatClampNeg 0).toInt = 24)
    (h4 : (sy_i F 33).toInt < 400)
    (h5 : 0 ≤ (((sy_i F 33) + ((1 : Int32))) - ((1 : Int32))).toInt)
    (h6 : (((sy_i F 33) + ((1 : Int32))) - ((1 : Int32))).toInt ≤ 400)
    (h7 : 0 ≤ (((sy_i F 33) + ((1 : Int32))) - ((1 : Int32))).toInt ∧ (((sy_i F 33) + ((1 : Int32))) - ((1 : Int32))).toInt < 401)
    (h8 : (sy_i F 83).toInt ≤ (((sy_al F 41).getD (((sy_i F 33) + ((1 : Int32))) - ((1 : Int32))).toNatClampNeg 0).toInt32).toInt)
    (h9 : (((sy_al F 41).getD (((sy_i F 33) + ((1 : Int32))) - ((1 : Int32))).toNatClampNeg 0).toInt32).toInt ≤ (sy_i F 84).toInt)
    (h10 : 0 ≤ (sy_i F 82).toInt)
    (h11 : (sy_i F 82).toInt ≤ 2)
    (h12 : 0 ≤ (sy_i F 82).toInt ∧ (sy_i F 82).toInt < 3)
    (k : ∀ F1 : Nat → sy_d, (∀ j, j < 82 → j ≠ 33 ∧ j ≠ 44 → F1 j = F j) → F1 33 = .inl (.int ((sy_i F 33) + ((1 : Int32)))) → F1 44 = .inr (.inl (jm_upd (sy_ai F 44) (sy_i F 82).toNatClampNeg (((sy_al F 41).getD (((sy_i F 33) + ((1 : Int32))) - ((1 : Int32))).toNatClampNeg 0).toInt32))) → Q (some (.int ((1 : Int32)))) (sy_dh F1 X1 X2 (iv_H 0))) :
    hd_W Ls xs d jm_M42 Q (0, sy_dL F [some (.inl (.ref 30)), some (.inr (.inl 82)), some (.inr (.inl 83)), some (.inr (.inl 84)), none], sy_dS F [], sy_dh F X1 X2 (iv_H 0), 0, 0) := by
  refine hd_ret (s := 0) (nv := 85) (v := some (.inl (.int 1))) (uh := hd_ov (iv_id 0 iv_B0) [(33, .inl (.inr (.inl 86))), (44, .inr (.inr (.inl 90)))]) (f := true) (sp := []) (d0 := 3) (O := [false, false, true, true, false, false, false, false, false, false]) (T := [(30, [.inr (.inl 33)], [.inr (.inl 39)]), (0, [.inr (.inl 33), .inl (.int 1)], []), (1, [.inr (.inl 86), .inl (.int 1)], []), (30, [.inr (.inl 87)], [.inr (.inr 41)]), (25, [.inr (.inr 88)], []), (40, [.inr (.inl 82), .inr (.inl 89)], [.inr (.inl 44)])]) (P := [(3, .inr (.inl 33), .inl (.int 0)), (3, .inl (.int 400), .inr (.inl 33)), (6, .inr (.inl 33), .inl (.ref 401)), (0, .inr (.inl 85), .inl (.int 24)), (2, .inr (.inl 33), .inl (.int 400)), (3, .inr (.inl 87), .inl (.int 0)), (3, .inl (.int 400), .inr (.inl 87)), (6, .inr (.inl 87), .inl (.ref 401)), (3, .inr (.inl 89), .inr (.inl 83)), (3, .inr (.inl 84), .inr (.inl 89)), (3, .inr (.inl 82), .inl (.int 0)), (3, .inl (.int 2), .inr (.inl 82)), (6, .inr (.inl 82), .inl (.ref 3))]) jm_ok42 (by decide +kernel) (by decide +kernel) hd F X1 X2 (fun F' hF hs => ?_)
  have b33 := hd_b (F := F) (F' := F') (k := 33) (hF 33 (by decide))
  have a39 := hd_ba (F := F) (F' := F') (k := 39) (hF 39 (by decide))
  have t85 : sy_dv F' (.inr (.inl 85)) = .int ((sy_ai F 39).getD (sy_i F 33).toNatClampNeg 0) := hd_rd (hs 0 _ rfl) b33 a39
  have t86 : sy_dv F' (.inr (.inl 86)) = .int ((sy_i F 33) + ((1 : Int32))) := hd_o (hs 1 _ rfl) b33 rfl rfl
  have t87 : sy_dv F' (.inr (.inl 87)) = .int (((sy_i F 33) + ((1 : Int32))) - ((1 : Int32))) := hd_o (hs 2 _ rfl) t86 rfl rfl
  have a41 := hd_bA (F := F) (F' := F') (k := 41) (hF 41 (by decide))
  have t88 : sy_dv F' (.inr (.inr 88)) = .long ((sy_al F 41).getD (((sy_i F 33) + ((1 : Int32))) - ((1 : Int32))).toNatClampNeg 0) := hd_rL (hs 3 _ rfl) t87 a41
  have t89 : sy_dv F' (.inr (.inl 89)) = .int (((sy_al F 41).getD (((sy_i F 33) + ((1 : Int32))) - ((1 : Int32))).toNatClampNeg 0).toInt32) := hd_uI (hs 4 _ rfl) t88
  have b83 := hd_b (F := F) (F' := F') (k := 83) (hF 83 (by decide))
  have b84 := hd_b (F := F) (F' := F') (k := 84) (hF 84 (by decide))
  have b82 := hd_b (F := F) (F' := F') (k := 82) (hF 82 (by decide))
  have a44 := hd_ba (F := F) (F' := F') (k := 44) (hF 44 (by decide))
  have t90 : sy_da F' (.inr (.inl 90)) = .inl (jm_upd (sy_ai F 44) (sy_i F 82).toNatClampNeg (((sy_al F 41).getD (((sy_i F 33) + ((1 : Int32))) - ((1 : Int32))).toNatClampNeg 0).toInt32)) := hd_up (hs 5 _ rfl) b82 t89 a44
  have hB' : iv_in F' iv_B0 := iv_in_eq hB (fun j hj => hF j (Nat.lt_of_lt_of_le hj (by decide +kernel)))
  refine ⟨List.forall_mem_cons.mpr ⟨hd_p3 b33 rfl (by have hc : ((0) : Int32).toInt = 0 := (by decide); omega), List.forall_mem_cons.mpr ⟨hd_p3 rfl b33 (by have hc : ((400) : Int32).toInt = 400 := (by decide); omega), List.forall_mem_cons.mpr ⟨hd_pb b33 (by first | exact h2 | exact h2), List.forall_mem_cons.mpr ⟨hd_p0 t85 rfl (by have hc : ((24) : Int32).toInt = 24 := (by decide); omega), List.forall_mem_cons.mpr ⟨hd_p2 b33 rfl (by have hc : ((400) : Int32).toInt = 400 := (by decide); omega), List.forall_mem_cons.mpr ⟨hd_p3 t87 rfl (by have hc : ((0) : Int32).toInt = 0 := (by decide); omega), List.forall_mem_cons.mpr ⟨hd_p3 rfl t87 (by have hc : ((400) : Int32).toInt = 400 := (by decide); omega), List.forall_mem_cons.mpr ⟨hd_pb t87 (by first | exact h7 | exact h7), List.forall_mem_cons.mpr ⟨hd_p3 t89 b83 h8, List.forall_mem_cons.mpr ⟨hd_p3 b84 t89 h9, List.forall_mem_cons.mpr ⟨hd_p3 b82 rfl (by have hc : ((0) : Int32).toInt = 0 := (by decide); omega), List.forall_mem_cons.mpr ⟨hd_p3 rfl b82 (by have hc : ((2) : Int32).toInt = 2 := (by decide); omega), List.forall_mem_cons.mpr ⟨hd_pb b82 (by first | exact h12 | exact h12), fun _ h => absurd h List.not_mem_nil⟩⟩⟩⟩⟩⟩⟩⟩⟩⟩⟩⟩⟩, ?_⟩
  refine k _ ?_ ?_ ?_
  · exact fun j hj hn => (hd_keep hB' (Nat.lt_of_lt_of_le hj (by decide +kernel)) (by simp; omega)).trans (hF j (by omega))
  · exact hd_gi (x := .inr (.inl 86)) (by decide +kernel) t86
  · exact hd_ga (a := .inr (.inl 90)) (by decide +kernel) t90
theorem k0tn_0_p5 {Ls : Nat} {xs : Nat → Int32} {d : Nat} {Q : Option Value → jm_h → Prop} (hd : 4 ≤ d) (F : Nat → sy_d) (X1 X2 : List jm_c) (hB : iv_in F iv_B0)
    (h0 : 0 ≤ (sy_i F 33).toInt)
    (h1 : (sy_i F 33).toInt ≤ 400)
    (h2 : 0 ≤ (sy_i F 33).toInt ∧ (sy_i F 33).toInt < 401)
    (h3 : ((sy_ai F 39).getD (sy_i F 33).toNatClampNeg 0).toInt = 24)
    (h4 : 400 ≤ (sy_i F 33).toInt)
    (k : ∀ F1 : Nat → sy_d, (∀ j, j < 82 → j ≠ 34 → F1 j = F j) → F1 34 = .inl (.int ((2 : Int32))) → Q (some (.int ((0 : Int32)))) (sy_dh F1 X1 X2 (iv_H 0))) :
    hd_W Ls xs d jm_M42 Q (0, sy_dL F [some (.inl (.ref 30)), some (.inr (.inl 82)), some (.inr (.inl 83)), some (.inr (.inl 84)), none], sy_dS F [], sy_dh F X1 X2 (iv_H 0), 0, 0) := by
  refine hd_ret (s := 0) (nv := 85) (v := some (.inl (.int 0))) (uh := hd_ov (iv_id 0 iv_B0) [(34, .inl (.inl (.int 2)))]) (f := true) (sp := []) (d0 := 3) (O := [false, false, true, false]) (T := [(30, [.inr (.inl 33)], [.inr (.inl 39)])]) (P := [(3, .inr (.inl 33), .inl (.int 0)), (3, .inl (.int 400), .inr (.inl 33)), (6, .inr (.inl 33), .inl (.ref 401)), (0, .inr (.inl 85), .inl (.int 24)), (3, .inr (.inl 33), .inl (.int 400))]) jm_ok42 (by decide +kernel) (by decide +kernel) hd F X1 X2 (fun F' hF hs => ?_)
  have b33 := hd_b (F := F) (F' := F') (k := 33) (hF 33 (by decide))
  have a39 := hd_ba (F := F) (F' := F') (k := 39) (hF 39 (by decide))
  have t85 : sy_dv F' (.inr (.inl 85)) = .int ((sy_ai F 39).getD (sy_i F 33).toNatClampNeg 0) := hd_rd (hs 0 _ rfl) b33 a39
  have hB' : iv_in F' iv_B0 := iv_in_eq hB (fun j hj => hF j (Nat.lt_of_lt_of_le hj (by decide +kernel)))
  refine ⟨List.forall_mem_cons.mpr ⟨hd_p3 b33 rfl (by have hc : ((0) : Int32).toInt = 0 := (by decide); omega), List.forall_mem_cons.mpr ⟨hd_p3 rfl b33 (by have hc : ((400) : Int32).toInt = 400 := (by decide); omega), List.forall_mem_cons.mpr ⟨hd_pb b33 (by first | exact h2 | exact h2), List.forall_mem_cons.mpr ⟨hd_p0 t85 rfl (by have hc : ((24) : Int32).toInt = 24 := (by decide); omega), List.forall_mem_cons.mpr ⟨hd_p3 b33 rfl (by have hc : ((400) : Int32).toInt = 400 := (by decide); omega), fun _ h => absurd h List.not_mem_nil⟩⟩⟩⟩⟩, ?_⟩
  refine k _ ?_ ?_
  · exact fun j hj hn => (hd_keep hB' (Nat.lt_of_lt_of_le hj (by decide +kernel)) (by simp; omega)).trans (hF j (by omega))
  · exact hd_gi (x := .inl (.int 2)) (by decide +kernel) rfl
theorem k0tn_0_p6 {Ls : Nat} {xs : Nat → Int32} {d : Nat} {Q : Option Value → jm_h → Prop} (hd : 4 ≤ d) (F : Nat → sy_d) (X1 X2 : List jm_c) (hB : iv_in F iv_B0)
    (h0 : 0 ≤ (sy_i F 33).toInt)
    (h1 : (sy_i F 33).toInt ≤ 400)
    (h2 : 0 ≤ (sy_i F 33).toInt ∧ (sy_i F 33).toInt < 401)
    (h3 : ((sy_ai F 39).getD (sy_i F 33).toNatClampNeg 0).toInt ≠ 24)
    (k : ∀ F1 : Nat → sy_d, (∀ j, j < 82 → j ≠ 34 → F1 j = F j) → F1 34 = .inl (.int ((1 : Int32))) → Q (some (.int ((0 : Int32)))) (sy_dh F1 X1 X2 (iv_H 0))) :
    hd_W Ls xs d jm_M42 Q (0, sy_dL F [some (.inl (.ref 30)), some (.inr (.inl 82)), some (.inr (.inl 83)), some (.inr (.inl 84)), none], sy_dS F [], sy_dh F X1 X2 (iv_H 0), 0, 0) := by
  refine hd_ret (s := 0) (nv := 85) (v := some (.inl (.int 0))) (uh := hd_ov (iv_id 0 iv_B0) [(34, .inl (.inl (.int 1)))]) (f := true) (sp := []) (d0 := 3) (O := [false, false, false]) (T := [(30, [.inr (.inl 33)], [.inr (.inl 39)])]) (P := [(3, .inr (.inl 33), .inl (.int 0)), (3, .inl (.int 400), .inr (.inl 33)), (6, .inr (.inl 33), .inl (.ref 401)), (1, .inr (.inl 85), .inl (.int 24))]) jm_ok42 (by decide +kernel) (by decide +kernel) hd F X1 X2 (fun F' hF hs => ?_)
  have b33 := hd_b (F := F) (F' := F') (k := 33) (hF 33 (by decide))
  have a39 := hd_ba (F := F) (F' := F') (k := 39) (hF 39 (by decide))
  have t85 : sy_dv F' (.inr (.inl 85)) = .int ((sy_ai F 39).getD (sy_i F 33).toNatClampNeg 0) := hd_rd (hs 0 _ rfl) b33 a39
  have hB' : iv_in F' iv_B0 := iv_in_eq hB (fun j hj => hF j (Nat.lt_of_lt_of_le hj (by decide +kernel)))
  refine ⟨List.forall_mem_cons.mpr ⟨hd_p3 b33 rfl (by have hc : ((0) : Int32).toInt = 0 := (by decide); omega), List.forall_mem_cons.mpr ⟨hd_p3 rfl b33 (by have hc : ((400) : Int32).toInt = 400 := (by decide); omega), List.forall_mem_cons.mpr ⟨hd_pb b33 (by first | exact h2 | exact h2), List.forall_mem_cons.mpr ⟨hd_p1 t85 rfl (by have hc : ((24) : Int32).toInt = 24 := (by decide); omega), fun _ h => absurd h List.not_mem_nil⟩⟩⟩⟩, ?_⟩
  refine k _ ?_ ?_
  · exact fun j hj hn => (hd_keep hB' (Nat.lt_of_lt_of_le hj (by decide +kernel)) (by simp; omega)).trans (hF j (by omega))
  · exact hd_gi (x := .inl (.int 1)) (by decide +kernel) rfl
theorem k0tm_0_p0 {Ls : Nat} {xs : Nat → Int32} {d : Nat} {Q : Option Value → jm_h → Prop} (hd : 4 ≤ d) (F : Nat → sy_d) (X1 X2 : List jm_c) (hB : iv_in F iv_B0)
    (h0 : 0 ≤ (sy_i F 33).toInt)
    (h1 : (sy_i F 33).toInt ≤ 400)
    (h2 : 0 ≤ (sy_i F 33).toInt ∧ (sy_i F 33).toInt < 401)
    (h3 : ((sy_ai F 39).getD (sy_i F 33).toNatClampNeg 0).toInt = 23)
    (h4 : (sy_i F 33).toInt < 400)
    (h5 : 0 ≤ (((sy_i F 33) + ((1 : Int32))) - ((1 : Int32))).toInt)
    (h6 : (((sy_i F 33) + ((1 : Int32))) - ((1 : Int32))).toInt ≤ 400)
    (h7 : 0 ≤ (((sy_i F 33) + ((1 : Int32))) - ((1 : Int32))).toInt ∧ (((sy_i F 33) + ((1 : Int32))) - ((1 : Int32))).toInt < 401)
    (k : ∀ F1 : Nat → sy_d, (∀ j, j < 82 → j ≠ 33 → F1 j = F j) → F1 33 = .inl (.int ((sy_i F 33) + ((1 : Int32)))) → F1 82 = .inl (.long ((sy_al F 41).getD (((sy_i F 33) + ((1 : Int32))) - ((1 : Int32))).toNatClampNeg 0)) → F1 83 = .inl (.int ((0 : Int32))) → hd_W Ls xs d jm_M41 Q (27, sy_dL F1 [some (.inl (.ref 30)), some (.inr (.inr 82)), none, some (.inr (.inl 83))], sy_dS F1 [], sy_dh F1 X1 X2 (iv_H 0), 0, 0)) :
    hd_W Ls xs d jm_M41 Q (0, sy_dL F [some (.inl (.ref 30)), none, none, none], sy_dS F [], sy_dh F X1 X2 (iv_H 0), 0, 0) := by
  refine hd_run (s := 0) (nv := 82) (pc := 27) (L := [some (.inl (.ref 30)), some (.inr (.inr 82)), none, some (.inr (.inl 83))]) (S := []) (uh := hd_ov (iv_id 0 iv_B0) [(33, .inl (.inr (.inl 83)))]) (ul := [.inl (.inr (.inr 85)), .inl (.inl (.int 0))]) (f := true) (sp := [27]) (d0 := 3) (O := [false, false, true, true, false, false]) (T := [(30, [.inr (.inl 33)], [.inr (.inl 39)]), (0, [.inr (.inl 33), .inl (.int 1)], []), (1, [.inr (.inl 83), .inl (.int 1)], []), (30, [.inr (.inl 84)], [.inr (.inr 41)])]) (P := [(3, .inr (.inl 33), .inl (.int 0)), (3, .inl (.int 400), .inr (.inl 33)), (6, .inr (.inl 33), .inl (.ref 401)), (0, .inr (.inl 82), .inl (.int 23)), (2, .inr (.inl 33), .inl (.int 400)), (3, .inr (.inl 84), .inl (.int 0)), (3, .inl (.int 400), .inr (.inl 84)), (6, .inr (.inl 84), .inl (.ref 401))]) jm_ok41 (by decide +kernel) (by decide +kernel) hd F X1 X2 (fun F' hF hs => ?_)
  have b33 := hd_b (F := F) (F' := F') (k := 33) (hF 33 (by decide))
  have a39 := hd_ba (F := F) (F' := F') (k := 39) (hF 39 (by decide))
  have t82 : sy_dv F' (.inr (.inl 82)) = .int ((sy_ai F 39).getD (sy_i F 33).toNatClampNeg 0) := hd_rd (hs 0 _ rfl) b33 a39
  have t83 : sy_dv F' (.inr (.inl 83)) = .int ((sy_i F 33) + ((1 : Int32))) := hd_o (hs 1 _ rfl) b33 rfl rfl
  have t84 : sy_dv F' (.inr (.inl 84)) = .int (((sy_i F 33) + ((1 : Int32))) - ((1 : Int32))) := hd_o (hs 2 _ rfl) t83 rfl rfl
  have a41 := hd_bA (F := F) (F' := F') (k := 41) (hF 41 (by decide))
  have t85 : sy_dv F' (.inr (.inr 85)) = .long ((sy_al F 41).getD (((sy_i F 33) + ((1 : Int32))) - ((1 : Int32))).toNatClampNeg 0) := hd_rL (hs 3 _ rfl) t84 a41
  have hB' : iv_in F' iv_B0 := iv_in_eq hB (fun j hj => hF j (Nat.lt_of_lt_of_le hj (by decide +kernel)))
  refine ⟨List.forall_mem_cons.mpr ⟨hd_p3 b33 rfl (by have hc : ((0) : Int32).toInt = 0 := (by decide); omega), List.forall_mem_cons.mpr ⟨hd_p3 rfl b33 (by have hc : ((400) : Int32).toInt = 400 := (by decide); omega), List.forall_mem_cons.mpr ⟨hd_pb b33 (by first | exact h2 | exact h2), List.forall_mem_cons.mpr ⟨hd_p0 t82 rfl (by have hc : ((23) : Int32).toInt = 23 := (by decide); omega), List.forall_mem_cons.mpr ⟨hd_p2 b33 rfl (by have hc : ((400) : Int32).toInt = 400 := (by decide); omega), List.forall_mem_cons.mpr ⟨hd_p3 t84 rfl (by have hc : ((0) : Int32).toInt = 0 := (by decide); omega), List.forall_mem_cons.mpr ⟨hd_p3 rfl t84 (by have hc : ((400) : Int32).toInt = 400 := (by decide); omega), List.forall_mem_cons.mpr ⟨hd_pb t84 (by first | exact h7 | exact h7), fun _ h => absurd h List.not_mem_nil⟩⟩⟩⟩⟩⟩⟩⟩, ?_⟩
  refine k _ ?_ ?_ ?_ ?_
  · exact fun j hj hn => (hd_keep hB' (Nat.lt_of_lt_of_le hj (by decide +kernel)) (by simp; omega)).trans (hF j (by omega))
  · exact hd_gi (x := .inr (.inl 83)) (by decide +kernel) t83
  · exact hd_gl (x := .inr (.inr 85)) (by decide +kernel) t85
  · exact hd_gi (x := .inl (.int 0)) (by decide +kernel) rfl
theorem k0tm_0_p1 {Ls : Nat} {xs : Nat → Int32} {d : Nat} {Q : Option Value → jm_h → Prop} (hd : 4 ≤ d) (F : Nat → sy_d) (X1 X2 : List jm_c) (hB : iv_in F iv_B0)
    (h0 : 0 ≤ (sy_i F 33).toInt)
    (h1 : (sy_i F 33).toInt ≤ 400)
    (h2 : 0 ≤ (sy_i F 33).toInt ∧ (sy_i F 33).toInt < 401)
    (h3 : ((sy_ai F 39).getD (sy_i F 33).toNatClampNeg 0).toInt = 23)
    (h4 : 400 ≤ (sy_i F 33).toInt)
    (k : ∀ F1 : Nat → sy_d, (∀ j, j < 82 → j ≠ 34 → F1 j = F j) → F1 34 = .inl (.int ((2 : Int32))) → Q (some (.int ((0 : Int32)))) (sy_dh F1 X1 X2 (iv_H 0))) :
    hd_W Ls xs d jm_M41 Q (0, sy_dL F [some (.inl (.ref 30)), none, none, none], sy_dS F [], sy_dh F X1 X2 (iv_H 0), 0, 0) := by
  refine hd_ret (s := 0) (nv := 82) (v := some (.inl (.int 0))) (uh := hd_ov (iv_id 0 iv_B0) [(34, .inl (.inl (.int 2)))]) (f := true) (sp := [27]) (d0 := 3) (O := [false, false, true, false]) (T := [(30, [.inr (.inl 33)], [.inr (.inl 39)])]) (P := [(3, .inr (.inl 33), .inl (.int 0)), (3, .inl (.int 400), .inr (.inl 33)), (6, .inr (.inl 33), .inl (.ref 401)), (0, .inr (.inl 82), .inl (.int 23)), (3, .inr (.inl 33), .inl (.int 400))]) jm_ok41 (by decide +kernel) (by decide +kernel) hd F X1 X2 (fun F' hF hs => ?_)
  have b33 := hd_b (F := F) (F' := F') (k := 33) (hF 33 (by decide))
  have a39 := hd_ba (F := F) (F' := F') (k := 39) (hF 39 (by decide))
  have t82 : sy_dv F' (.inr (.inl 82)) = .int ((sy_ai F 39).getD (sy_i F 33).toNatClampNeg 0) := hd_rd (hs 0 _ rfl) b33 a39
  have hB' : iv_in F' iv_B0 := iv_in_eq hB (fun j hj => hF j (Nat.lt_of_lt_of_le hj (by decide +kernel)))
  refine ⟨List.forall_mem_cons.mpr ⟨hd_p3 b33 rfl (by have hc : ((0) : Int32).toInt = 0 := (by decide); omega), List.forall_mem_cons.mpr ⟨hd_p3 rfl b33 (by have hc : ((400) : Int32).toInt = 400 := (by decide); omega), List.forall_mem_cons.mpr ⟨hd_pb b33 (by first | exact h2 | exact h2), List.forall_mem_cons.mpr ⟨hd_p0 t82 rfl (by have hc : ((23) : Int32).toInt = 23 := (by decide); omega), List.forall_mem_cons.mpr ⟨hd_p3 b33 rfl (by have hc : ((400) : Int32).toInt = 400 := (by decide); omega), fun _ h => absurd h List.not_mem_nil⟩⟩⟩⟩⟩, ?_⟩
  refine k _ ?_ ?_
  · exact fun j hj hn => (hd_keep hB' (Nat.lt_of_lt_of_le hj (by decide +kernel)) (by simp; omega)).trans (hF j (by omega))
  · exact hd_gi (x := .inl (.int 2)) (by decide +kernel) rfl
theorem k0tm_0_p2 {Ls : Nat} {xs : Nat → Int32} {d : Nat} {Q : Option Value → jm_h → Prop} (hd : 4 ≤ d) (F : Nat → sy_d) (X1 X2 : List jm_c) (hB : iv_in F iv_B0)
    (h0 : 0 ≤ (sy_i F 33).toInt)
    (h1 : (sy_i F 33).toInt ≤ 400)
    (h2 : 0 ≤ (sy_i F 33).toInt ∧ (sy_i F 33).toInt < 401)
    (h3 : ((sy_ai F 39).getD (sy_i F 33).toNatClampNeg 0).toInt ≠ 23)
    (k : ∀ F1 : Nat → sy_d, (∀ j, j < 82 → j ≠ 34 → F1 j = F j) → F1 34 = .inl (.int ((1 : Int32))) → Q (some (.int ((0 : Int32)))) (sy_dh F1 X1 X2 (iv_H 0))) :
    hd_W Ls xs d jm_M41 Q (0, sy_dL F [some (.inl (.ref 30)), none, none, none], sy_dS F [], sy_dh F X1 X2 (iv_H 0), 0, 0) := by
  refine hd_ret (s := 0) (nv := 82) (v := some (.inl (.int 0))) (uh := hd_ov (iv_id 0 iv_B0) [(34, .inl (.inl (.int 1)))]) (f := true) (sp := [27]) (d0 := 3) (O := [false, false, false]) (T := [(30, [.inr (.inl 33)], [.inr (.inl 39)])]) (P := [(3, .inr (.inl 33), .inl (.int 0)), (3, .inl (.int 400), .inr (.inl 33)), (6, .inr (.inl 33), .inl (.ref 401)), (1, .inr (.inl 82), .inl (.int 23))]) jm_ok41 (by decide +kernel) (by decide +kernel) hd F X1 X2 (fun F' hF hs => ?_)
  have b33 := hd_b (F := F) (F' := F') (k := 33) (hF 33 (by decide))
  have a39 := hd_ba (F := F) (F' := F') (k := 39) (hF 39 (by decide))
  have t82 : sy_dv F' (.inr (.inl 82)) = .int ((sy_ai F 39).getD (sy_i F 33).toNatClampNeg 0) := hd_rd (hs 0 _ rfl) b33 a39
  have hB' : iv_in F' iv_B0 := iv_in_eq hB (fun j hj => hF j (Nat.lt_of_lt_of_le hj (by decide +kernel)))
  refine ⟨List.forall_mem_cons.mpr ⟨hd_p3 b33 rfl (by have hc : ((0) : Int32).toInt = 0 := (by decide); omega), List.forall_mem_cons.mpr ⟨hd_p3 rfl b33 (by have hc : ((400) : Int32).toInt = 400 := (by decide); omega), List.forall_mem_cons.mpr ⟨hd_pb b33 (by first | exact h2 | exact h2), List.forall_mem_cons.mpr ⟨hd_p1 t82 rfl (by have hc : ((23) : Int32).toInt = 23 := (by decide); omega), fun _ h => absurd h List.not_mem_nil⟩⟩⟩⟩, ?_⟩
  refine k _ ?_ ?_
  · exact fun j hj hn => (hd_keep hB' (Nat.lt_of_lt_of_le hj (by decide +kernel)) (by simp; omega)).trans (hF j (by omega))
  · exact hd_gi (x := .inl (.int 1)) (by decide +kernel) rfl
theorem k0tm_0 {Ls : Nat} {xs : Nat → Int32} {d : Nat} {Q : Option Value → jm_h → Prop} (hd : 4 ≤ d) (F : Nat → sy_d) (X1 X2 : List jm_c) (hB : iv_in F iv_B0)
    (k0 : 0 ≤ (sy_i F 33).toInt → (sy_i F 33).toInt ≤ 400 → ((sy_ai F 39).getD ((sy_i F 33).toInt).toNat 0).toInt = 23 → (sy_i F 33).toInt < 400 → 0 ≤ (((sy_i F 33).toInt + 1) - 1) → (((sy_i F 33).toInt + 1) - 1) ≤ 400 → ∀ F1 : Nat → sy_d, iv_in F1 iv_B0 → (∀ j, j < 82 → j ∉ ([33] : List Nat) → F1 j = F j) → (sy_i F1 33).toInt = ((sy_i F 33).toInt + 1) → (sy_i F1 34).toInt = (sy_i F 34).toInt → (sy_i F1 36).toInt = (sy_i F 36).toInt → (sy_i F1 37).toInt = (sy_i F 37).toInt → (sy_i F1 38).toInt = (sy_i F 38).toInt → sy_ai F1 39 = sy_ai F 39 → sy_ai F1 40 = sy_ai F 40 → sy_al F1 43 = sy_al F 43 → sy_l F1 82 = (sy_al F 41).getD ((((sy_i F 33).toInt + 1) - 1)).toNat 0 → (sy_i F1 83).toInt = 0 → hd_W Ls xs d jm_M41 Q (27, sy_dL F1 [some (.inl (.ref 30)), some (.inr (.inr 82)), none, some (.inr (.inl 83))], sy_dS F1 [], sy_dh F1 X1 X2 (iv_H 0), 0, 0))
    (k1 : 0 ≤ (sy_i F 33).toInt → (sy_i F 33).toInt ≤ 400 → ((sy_ai F 39).getD ((sy_i F 33).toInt).toNat 0).toInt = 23 → 400 ≤ (sy_i F 33).toInt → ∀ F1 : Nat → sy_d, iv_in F1 iv_B0 → (∀ j, j < 82 → j ∉ ([34] : List Nat) → F1 j = F j) → (sy_i F1 33).toInt = (sy_i F 33).toInt → (sy_i F1 34).toInt = 2 → (sy_i F1 36).toInt = (sy_i F 36).toInt → (sy_i F1 37).toInt = (sy_i F 37).toInt → (sy_i F1 38).toInt = (sy_i F 38).toInt → sy_ai F1 39 = sy_ai F 39 → sy_ai F1 40 = sy_ai F 40 → sy_al F1 43 = sy_al F 43 → Q (some (.int ((0 : Int32)))) (sy_dh F1 X1 X2 (iv_H 0)))
    (k2 : 0 ≤ (sy_i F 33).toInt → (sy_i F 33).toInt ≤ 400 → ((sy_ai F 39).getD ((sy_i F 33).toInt).toNat 0).toInt ≠ 23 → ∀ F1 : Nat → sy_d, iv_in F1 iv_B0 → (∀ j, j < 82 → j ∉ ([34] : List Nat) → F1 j = F j) → (sy_i F1 33).toInt = (sy_i F 33).toInt → (sy_i F1 34).toInt = 1 → (sy_i F1 36).toInt = (sy_i F 36).toInt → (sy_i F1 37).toInt = (sy_i F 37).toInt → (sy_i F1 38).toInt = (sy_i F 38).toInt → sy_ai F1 39 = sy_ai F 39 → sy_ai F1 40 = sy_ai F 40 → sy_al F1 43 = sy_al F 43 → Q (some (.int ((0 : Int32)))) (sy_dh F1 X1 X2 (iv_H 0))) :
    hd_W Ls xs d jm_M41 Q (0, sy_dL F [some (.inl (.ref 30)), none, none, none], sy_dS F [], sy_dh F X1 X2 (iv_H 0), 0, 0) := by
  by_cases g0 : (sy_i F 33).toInt < 0
  · have c33 := nz_bx hB (k := 33) (lo := 0) (hi := 400) rfl
    exfalso
    omega
  replace g0 : 0 ≤ (sy_i F 33).toInt := by omega
  by_cases g1 : 400 < (sy_i F 33).toInt
  · have c33 := nz_bx hB (k := 33) (lo := 0) (hi := 400) rfl
    exfalso
    omega
  replace g1 : (sy_i F 33).toInt ≤ 400 := by omega
  by_cases g2 : ((sy_ai F 39).getD ((sy_i F 33).toInt).toNat 0).toInt = 23
  · by_cases g3 : (sy_i F 33).toInt < 400
    · by_cases g4 : (((sy_i F 33).toInt + 1) - 1) < 0
      · have c33 := nz_bx hB (k := 33) (lo := 0) (hi := 400) rfl
        have q82 : (sy_ai F 39).getD (sy_i F 33).toNatClampNeg 0 = (sy_ai F 39).getD ((sy_i F 33).toInt).toNat 0 := by simp only [nz_c]
        have n82 : ((sy_ai F 39).getD (sy_i F 33).toNatClampNeg 0).toInt = ((sy_ai F 39).getD ((sy_i F 33).toInt).toNat 0).toInt := congrArg Int32.toInt q82
        have n83 : ((sy_i F 33) + ((1 : Int32))).toInt = ((sy_i F 33).toInt + 1) := nz_add (rfl : (sy_i F 33).toInt = (sy_i F 33).toInt) (by decide : ((1 : Int32)).toInt = 1) (by omega) (by omega)
        have n84 : (((sy_i F 33) + ((1 : Int32))) - ((1 : Int32))).toInt = (((sy_i F 33).toInt + 1) - 1) := nz_sub n83 (by decide : ((1 : Int32)).toInt = 1) (by omega) (by omega)
        exfalso
        omega
      replace g4 : 0 ≤ (((sy_i F 33).toInt + 1) - 1) := by omega
      by_cases g5 : 400 < (((sy_i F 33).toInt + 1) - 1)
      · have c33 := nz_bx hB (k := 33) (lo := 0) (hi := 400) rfl
        have q82 : (sy_ai F 39).getD (sy_i F 33).toNatClampNeg 0 = (sy_ai F 39).getD ((sy_i F 33).toInt).toNat 0 := by simp only [nz_c]
        have n82 : ((sy_ai F 39).getD (sy_i F 33).toNatClampNeg 0).toInt = ((sy_ai F 39).getD ((sy_i F 33).toInt).toNat 0).toInt := congrArg Int32.toInt q82
        have n83 : ((sy_i F 33) + ((1 : Int32))).toInt = ((sy_i F 33).toInt + 1) := nz_add (rfl : (sy_i F 33).toInt = (sy_i F 33).toInt) (by decide : ((1 : Int32)).toInt = 1) (by omega) (by omega)
        have n84 : (((sy_i F 33) + ((1 : Int32))) - ((1 : Int32))).toInt = (((sy_i F 33).toInt + 1) - 1) := nz_sub n83 (by decide : ((1 : Int32)).toInt = 1) (by omega) (by omega)
        exfalso
        omega
      replace g5 : (((sy_i F 33).toInt + 1) - 1) ≤ 400 := by omega
      have c33 := nz_bx hB (k := 33) (lo := 0) (hi := 400) rfl
      have q82 : (sy_ai F 39).getD (sy_i F 33).toNatClampNeg 0 = (sy_ai F 39).getD ((sy_i F 33).toInt).toNat 0 := by simp only [nz_c]
      have n82 : ((sy_ai F 39).getD (sy_i F 33).toNatClampNeg 0).toInt = ((sy_ai F 39).getD ((sy_i F 33).toInt).toNat 0).toInt := congrArg Int32.toInt q82
      have n83 : ((sy_i F 33) + ((1 : Int32))).toInt = ((sy_i F 33).toInt + 1) := nz_add (rfl : (sy_i F 33).toInt = (sy_i F 33).toInt) (by decide : ((1 : Int32)).toInt = 1) (by omega) (by omega)
      have n84 : (((sy_i F 33) + ((1 : Int32))) - ((1 : Int32))).toInt = (((sy_i F 33).toInt + 1) - 1) := nz_sub n83 (by decide : ((1 : Int32)).toInt = 1) (by omega) (by omega)
      have q85 : (sy_al F 41).getD (((sy_i F 33) + ((1 : Int32))) - ((1 : Int32))).toNatClampNeg 0 = (sy_al F 41).getD ((((sy_i F 33).toInt + 1) - 1)).toNat 0 := by simp only [nz_c, n83, n84, (by decide : ((1 : Int32)).toInt = 1)]
      exact k0tm_0_p0 hd F X1 X2 hB (by first | exact g0 | (simp only [nz_c]; exact g0)) (by first | exact g1 | (simp only [nz_c]; exact g1)) (by first | exact ⟨by omega, by omega⟩ | (simp only [nz_c]; exact ⟨by omega, by omega⟩)) (by first | exact g2 | (simp only [nz_c]; exact g2) | (rw [n82]; exact g2)) (by first | exact g3 | (simp only [nz_c]; exact g3)) (by first | exact g4 | (simp only [nz_c, n83, n84]; exact g4) | (rw [n84]; exact g4)) (by first | exact g5 | (simp only [nz_c, n83, n84]; exact g5) | (rw [n84]; exact g5)) (by first | exact ⟨by omega, by omega⟩ | (simp only [nz_c, n83, n84]; exact ⟨by omega, by omega⟩) | (rw [n84]; exact ⟨by omega, by omega⟩)) (fun F1 g e33 e82 e83 => k0 g0 g1 g2 g3 g4 g5 F1 (nz_in0 hB [33] (fun j hj hn => g j hj (by simp only [List.mem_cons, List.not_mem_nil, or_false, not_or] at hn; omega)) (List.forall_mem_cons.mpr ⟨fun t ht => (Option.some.inj ht) ▸ (nz_hi e33 n83 (by omega) (by omega)), List.forall_mem_nil _⟩)) (fun j hj hn => g j hj (by simp only [List.mem_cons, List.not_mem_nil, or_false, not_or] at hn; omega)) ((congrArg Int32.toInt (zz_i e33)).trans n83) (nz_fi (g 34 (by decide) (by decide))) (nz_fi (g 36 (by decide) (by decide))) (nz_fi (g 37 (by decide) (by decide))) (nz_fi (g 38 (by decide) (by decide))) (nz_fa (g 39 (by decide) (by decide))) (nz_fa (g 40 (by decide) (by decide))) (nz_fl (g 43 (by decide) (by decide))) ((zz_l e82).trans q85) ((congrArg Int32.toInt (zz_i e83)).trans (by decide : ((0 : Int32)).toInt = 0)))
    replace g3 : 400 ≤ (sy_i F 33).toInt := by omega
    have c33 := nz_bx hB (k := 33) (lo := 0) (hi := 400) rfl
    have q82 : (sy_ai F 39).getD (sy_i F 33).toNatClampNeg 0 = (sy_ai F 39).getD ((sy_i F 33).toInt).toNat 0 := by simp only [nz_c]
    have n82 : ((sy_ai F 39).getD (sy_i F 33).toNatClampNeg 0).toInt = ((sy_ai F 39).getD ((sy_i F 33).toInt).toNat 0).toInt := congrArg Int32.toInt q82
    exact k0tm_0_p1 hd F X1 X2 hB (by first | exact g0 | (simp only [nz_c]; exact g0)) (by first | exact g1 | (simp only [nz_c]; exact g1)) (by first | exact ⟨by omega, by omega⟩ | (simp only [nz_c]; exact ⟨by omega, by omega⟩)) (by first | exact g2 | (simp only [nz_c]; exact g2) | (rw [n82]; exact g2)) (by first | exact g3 | (simp only [nz_c]; exact g3)) (fun F1 g e34 => k1 g0 g1 g2 g3 F1 (nz_in0 hB [34] (fun j hj hn => g j hj (by simp only [List.mem_cons, List.not_mem_nil, or_false, not_or] at hn; omega)) (List.forall_mem_cons.mpr ⟨fun t ht => (Option.some.inj ht) ▸ (nz_hz e34), List.forall_mem_nil _⟩)) (fun j hj hn => g j hj (by simp only [List.mem_cons, List.not_mem_nil, or_false, not_or] at hn; omega)) (nz_fi (g 33 (by decide) (by decide))) ((congrArg Int32.toInt (zz_i e34)).trans (by decide : ((2 : Int32)).toInt = 2)) (nz_fi (g 36 (by decide) (by decide))) (nz_fi (g 37 (by decide) (by decide))) (nz_fi (g 38 (by decide) (by decide))) (nz_fa (g 39 (by decide) (by decide))) (nz_fa (g 40 (by decide) (by decide))) (nz_fl (g 43 (by decide) (by decide))))
  replace g2 : ((sy_ai F 39).getD ((sy_i F 33).toInt).toNat 0).toInt ≠ 23 := by omega
  have c33 := nz_bx hB (k := 33) (lo := 0) (hi := 400) rfl
  have q82 : (sy_ai F 39).getD (sy_i F 33).toNatClampNeg 0 = (sy_ai F 39).getD ((sy_i F 33).toInt).toNat 0 := by simp only [nz_c]
  have n82 : ((sy_ai F 39).getD (sy_i F 33).toNatClampNeg 0).toInt = ((sy_ai F 39).getD ((sy_i F 33).toInt).toNat 0).toInt := congrArg Int32.toInt q82
  exact k0tm_0_p2 hd F X1 X2 hB (by first | exact g0 | (simp only [nz_c]; exact g0)) (by first | exact g1 | (simp only [nz_c]; exact g1)) (by first | exact ⟨by omega, by omega⟩ | (simp only [nz_c]; exact ⟨by omega, by omega⟩)) (by first | exact g2 | (simp only [nz_c]; exact g2) | (rw [n82]; exact g2)) (fun F1 g e34 => k2 g0 g1 g2 F1 (nz_in0 hB [34] (fun j hj hn => g j hj (by simp only [List.mem_cons, List.not_mem_nil, or_false, not_or] at hn; omega)) (List.forall_mem_cons.mpr ⟨fun t ht => (Option.some.inj ht) ▸ (nz_hz e34), List.forall_mem_nil _⟩)) (fun j hj hn => g j hj (by simp only [List.mem_cons, List.not_mem_nil, or_false, not_or] at hn; omega)) (nz_fi (g 33 (by decide) (by decide))) ((congrArg Int32.toInt (zz_i e34)).trans (by decide : ((1 : Int32)).toInt = 1)) (nz_fi (g 36 (by decide) (by decide))) (nz_fi (g 37 (by decide) (by decide))) (nz_fi (g 38 (by decide) (by decide))) (nz_fa (g 39 (by decide) (by decide))) (nz_fa (g 40 (by decide) (by decide))) (nz_fl (g 43 (by decide) (by decide))))
theorem k0tm_27_p0 {Ls : Nat} {xs : Nat → Int32} {d : Nat} {Q : Option Value → jm_h → Prop} (hd : 4 ≤ d) (F : Nat → sy_d) (X1 X2 : List jm_c) (hB : iv_in F iv_B0)
    (h0 : (sy_i F 38).toInt ≤ (sy_i F 83).toInt)
    (h1 : 11 ≤ (sy_i F 38).toInt)
    (k : ∀ F1 : Nat → sy_d, (∀ j, j < 82 → True → F1 j = F j) → Q (some (.int ((1 : Int32)))) (sy_dh F1 X1 X2 (iv_H 0))) :
    hd_W Ls xs d jm_M41 Q (27, sy_dL F [some (.inl (.ref 30)), some (.inr (.inr 82)), none, some (.inr (.inl 83))], sy_dS F [], sy_dh F X1 X2 (iv_H 0), 0, 0) := by
  refine hd_ret (s := 0) (nv := 84) (v := some (.inl (.int 1))) (uh := hd_ov (iv_id 0 iv_B0) []) (f := true) (sp := [27]) (d0 := 3) (O := [true, true]) (T := []) (P := [(4, .inr (.inl 38), .inr (.inl 83)), (4, .inl (.int 11), .inr (.inl 38))]) jm_ok41 (by decide +kernel) (by decide +kernel) hd F X1 X2 (fun F' hF hs => ?_)
  have b38 := hd_b (F := F) (F' := F') (k := 38) (hF 38 (by decide))
  have b83 := hd_b (F := F) (F' := F') (k := 83) (hF 83 (by decide))
  have hB' : iv_in F' iv_B0 := iv_in_eq hB (fun j hj => hF j (Nat.lt_of_lt_of_le hj (by decide +kernel)))
  refine ⟨List.forall_mem_cons.mpr ⟨hd_p4 b38 b83 h0, List.forall_mem_cons.mpr ⟨hd_p4 rfl b38 (by have hc : ((11) : Int32).toInt = 11 := (by decide); omega), fun _ h => absurd h List.not_mem_nil⟩⟩, ?_⟩
  refine k _ ?_
  · exact fun j hj _ => (hd_keep hB' (Nat.lt_of_lt_of_le hj (by decide +kernel)) (by simp)).trans (hF j (by omega))
theorem k0tm_27_p1 {Ls : Nat} {xs : Nat → Int32} {d : Nat} {Q : Option Value → jm_h → Prop} (hd : 4 ≤ d) (F : Nat → sy_d) (X1 X2 : List jm_c) (hB : iv_in F iv_B0)
    (h0 : (sy_i F 38).toInt ≤ (sy_i F 83).toInt)
    (h1 : (sy_i F 38).toInt < 11)
    (h2 : 0 ≤ (sy_i F 38).toInt ∧ (sy_i F 38).toInt < 11)
    (k : ∀ F1 : Nat → sy_d, (∀ j, j < 82 → j ≠ 38 ∧ j ≠ 43 → F1 j = F j) → F1 38 = .inl (.int ((sy_i F 38) + ((1 : Int32)))) → F1 43 = .inr (.inr (jm_updL (sy_al F 43) (sy_i F 38).toNatClampNeg (sy_l F 82))) → Q (some (.int ((1 : Int32)))) (sy_dh F1 X1 X2 (iv_H 0))) :
    hd_W Ls xs d jm_M41 Q (27, sy_dL F [some (.inl (.ref 30)), some (.inr (.inr 82)), none, some (.inr (.inl 83))], sy_dS F [], sy_dh F X1 X2 (iv_H 0), 0, 0) := by
  refine hd_ret (s := 0) (nv := 84) (v := some (.inl (.int 1))) (uh := hd_ov (iv_id 0 iv_B0) [(38, .inl (.inr (.inl 85))), (43, .inr (.inr (.inr 84)))]) (f := true) (sp := [27]) (d0 := 3) (O := [true, false]) (T := [(40, [.inr (.inl 38), .inr (.inr 82)], [.inr (.inr 43)]), (0, [.inr (.inl 38), .inl (.int 1)], [])]) (P := [(4, .inr (.inl 38), .inr (.inl 83)), (5, .inl (.int 11), .inr (.inl 38)), (6, .inr (.inl 38), .inl (.ref 11))]) jm_ok41 (by decide +kernel) (by decide +kernel) hd F X1 X2 (fun F' hF hs => ?_)
  have b38 := hd_b (F := F) (F' := F') (k := 38) (hF 38 (by decide))
  have b83 := hd_b (F := F) (F' := F') (k := 83) (hF 83 (by decide))
  have t85 : sy_dv F' (.inr (.inl 85)) = .int ((sy_i F 38) + ((1 : Int32))) := hd_o (hs 1 _ rfl) b38 rfl rfl
  have b82 := hd_bl (F := F) (F' := F') (k := 82) (hF 82 (by decide))
  have a43 := hd_bA (F := F) (F' := F') (k := 43) (hF 43 (by decide))
  have t84 : sy_da F' (.inr (.inr 84)) = .inr (jm_updL (sy_al F 43) (sy_i F 38).toNatClampNeg (sy_l F 82)) := hd_uA (hs 0 _ rfl) b38 b82 a43
  have hB' : iv_in F' iv_B0 := iv_in_eq hB (fun j hj => hF j (Nat.lt_of_lt_of_le hj (by decide +kernel)))
  refine ⟨List.forall_mem_cons.mpr ⟨hd_p4 b38 b83 h0, List.forall_mem_cons.mpr ⟨hd_p5 rfl b38 (by have hc : ((11) : Int32).toInt = 11 := (by decide); omega), List.forall_mem_cons.mpr ⟨hd_pb b38 (by first | exact h2 | exact h2), fun _ h => absurd h List.not_mem_nil⟩⟩⟩, ?_⟩
  refine k _ ?_ ?_ ?_
  · exact fun j hj hn => (hd_keep hB' (Nat.lt_of_lt_of_le hj (by decide +kernel)) (by simp; omega)).trans (hF j (by omega))
  · exact hd_gi (x := .inr (.inl 85)) (by decide +kernel) t85
  · exact hd_gA (a := .inr (.inr 84)) (by decide +kernel) t84
theorem k0tm_27_p2 {Ls : Nat} {xs : Nat → Int32} {d : Nat} {Q : Option Value → jm_h → Prop} (hd : 4 ≤ d) (F : Nat → sy_d) (X1 X2 : List jm_c) (hB : iv_in F iv_B0)
    (h0 : (sy_i F 83).toInt < (sy_i F 38).toInt)
    (h1 : 0 ≤ (sy_i F 83).toInt ∧ (sy_i F 83).toInt < 11)
    (h2 : (lg_cmp ((sy_al F 43).getD (sy_i F 83).toNatClampNeg 0) (sy_l F 82)).toInt ≠ 0)
    (k : ∀ F1 : Nat → sy_d, (∀ j, j < 82 → True → F1 j = F j) → F1 82 = .inl (.long (sy_l F 82)) → F1 83 = .inl (.int ((sy_i F 83) + ((1 : Int32)))) → hd_W Ls xs d jm_M41 Q (27, sy_dL F1 [some (.inl (.ref 30)), some (.inr (.inr 82)), none, some (.inr (.inl 83))], sy_dS F1 [], sy_dh F1 X1 X2 (iv_H 0), 0, 0)) :
    hd_W Ls xs d jm_M41 Q (27, sy_dL F [some (.inl (.ref 30)), some (.inr (.inr 82)), none, some (.inr (.inl 83))], sy_dS F [], sy_dh F X1 X2 (iv_H 0), 0, 0) := by
  refine hd_run (s := 0) (nv := 84) (pc := 27) (L := [some (.inl (.ref 30)), some (.inr (.inr 82)), none, some (.inr (.inl 83))]) (S := []) (uh := hd_ov (iv_id 0 iv_B0) []) (ul := [.inl (.inr (.inr 82)), .inl (.inr (.inl 86))]) (f := true) (sp := [27]) (d0 := 3) (O := [false, true]) (T := [(30, [.inr (.inl 83)], [.inr (.inr 43)]), (17, [.inr (.inr 84), .inr (.inr 82)], []), (0, [.inr (.inl 83), .inl (.int 1)], [])]) (P := [(5, .inr (.inl 38), .inr (.inl 83)), (6, .inr (.inl 83), .inl (.ref 11)), (1, .inr (.inl 85), .inl (.int 0))]) jm_ok41 (by decide +kernel) (by decide +kernel) hd F X1 X2 (fun F' hF hs => ?_)
  have b38 := hd_b (F := F) (F' := F') (k := 38) (hF 38 (by decide))
  have b83 := hd_b (F := F) (F' := F') (k := 83) (hF 83 (by decide))
  have a43 := hd_bA (F := F) (F' := F') (k := 43) (hF 43 (by decide))
  have t84 : sy_dv F' (.inr (.inr 84)) = .long ((sy_al F 43).getD (sy_i F 83).toNatClampNeg 0) := hd_rL (hs 0 _ rfl) b83 a43
  have b82 := hd_bl (F := F) (F' := F') (k := 82) (hF 82 (by decide))
  have t85 : sy_dv F' (.inr (.inl 85)) = .int (lg_cmp ((sy_al F 43).getD (sy_i F 83).toNatClampNeg 0) (sy_l F 82)) := hd_oc (hs 1 _ rfl) t84 b82 rfl
  have t86 : sy_dv F' (.inr (.inl 86)) = .int ((sy_i F 83) + ((1 : Int32))) := hd_o (hs 2 _ rfl) b83 rfl rfl
  have hB' : iv_in F' iv_B0 := iv_in_eq hB (fun j hj => hF j (Nat.lt_of_lt_of_le hj (by decide +kernel)))
  refine ⟨List.forall_mem_cons.mpr ⟨hd_p5 b38 b83 h0, List.forall_mem_cons.mpr ⟨hd_pb b83 (by first | exact h1 | exact h1), List.forall_mem_cons.mpr ⟨hd_p1 t85 rfl (by have hc : ((0) : Int32).toInt = 0 := (by decide); omega), fun _ h => absurd h List.not_mem_nil⟩⟩⟩, ?_⟩
  refine k _ ?_ ?_ ?_
  · exact fun j hj _ => (hd_keep hB' (Nat.lt_of_lt_of_le hj (by decide +kernel)) (by simp)).trans (hF j (by omega))
  · exact hd_gl (x := .inr (.inr 82)) (by decide +kernel) b82
  · exact hd_gi (x := .inr (.inl 86)) (by decide +kernel) t86
theorem k0tm_27_p3 {Ls : Nat} {xs : Nat → Int32} {d : Nat} {Q : Option Value → jm_h → Prop} (hd : 4 ≤ d) (F : Nat → sy_d) (X1 X2 : List jm_c) (hB : iv_in F iv_B0)
    (h0 : (sy_i F 83).toInt < (sy_i F 38).toInt)
    (h1 : 0 ≤ (sy_i F 83).toInt ∧ (sy_i F 83).toInt < 11)
    (h2 : (lg_cmp ((sy_al F 43).getD (sy_i F 83).toNatClampNeg 0) (sy_l F 82)).toInt = 0)
    (h3 : (sy_i F 36).toInt ≠ 0)
    (k : ∀ F1 : Nat → sy_d, (∀ j, j < 82 → True → F1 j = F j) → Q (some (.int ((1 : Int32)))) (sy_dh F1 X1 X2 (iv_H 0))) :
    hd_W Ls xs d jm_M41 Q (27, sy_dL F [some (.inl (.ref 30)), some (.inr (.inr 82)), none, some (.inr (.inl 83))], sy_dS F [], sy_dh F X1 X2 (iv_H 0), 0, 0) := by
  refine hd_ret (s := 0) (nv := 84) (v := some (.inl (.int 1))) (uh := hd_ov (iv_id 0 iv_B0) []) (f := true) (sp := [27]) (d0 := 3) (O := [false, false, true]) (T := [(30, [.inr (.inl 83)], [.inr (.inr 43)]), (17, [.inr (.inr 84), .inr (.inr 82)], [])]) (P := [(5, .inr (.inl 38), .inr (.inl 83)), (6, .inr (.inl 83), .inl (.ref 11)), (0, .inr (.inl 85), .inl (.int 0)), (1, .inr (.inl 36), .inl (.int 0))]) jm_ok41 (by decide +kernel) (by decide +kernel) hd F X1 X2 (fun F' hF hs => ?_)
  have b38 := hd_b (F := F) (F' := F') (k := 38) (hF 38 (by decide))
  have b83 := hd_b (F := F) (F' := F') (k := 83) (hF 83 (by decide))
  have a43 := hd_bA (F := F) (F' := F') (k := 43) (hF 43 (by decide))
  have t84 : sy_dv F' (.inr (.inr 84)) = .long ((sy_al F 43).getD (sy_i F 83).toNatClampNeg 0) := hd_rL (hs 0 _ rfl) b83 a43
  have b82 := hd_bl (F := F) (F' := F') (k := 82) (hF 82 (by decide))
  have t85 : sy_dv F' (.inr (.inl 85)) = .int (lg_cmp ((sy_al F 43).getD (sy_i F 83).toNatClampNeg 0) (sy_l F 82)) := hd_oc (hs 1 _ rfl) t84 b82 rfl
  have b36 := hd_b (F := F) (F' := F') (k := 36) (hF 36 (by decide))
  have hB' : iv_in F' iv_B0 := iv_in_eq hB (fun j hj => hF j (Nat.lt_of_lt_of_le hj (by decide +kernel)))
  refine ⟨List.forall_mem_cons.mpr ⟨hd_p5 b38 b83 h0, List.forall_mem_cons.mpr ⟨hd_pb b83 (by first | exact h1 | exact h1), List.forall_mem_cons.mpr ⟨hd_p0 t85 rfl (by have hc : ((0) : Int32).toInt = 0 := (by decide); omega), List.forall_mem_cons.mpr ⟨hd_p1 b36 rfl (by have hc : ((0) : Int32).toInt = 0 := (by decide); omega), fun _ h => absurd h List.not_mem_nil⟩⟩⟩⟩, ?_⟩
  refine k _ ?_
  · exact fun j hj _ => (hd_keep hB' (Nat.lt_of_lt_of_le hj (by decide +kernel)) (by simp)).trans (hF j (by omega))
theorem k0tm_27_p4 {Ls : Nat} {xs : Nat → Int32} {d : Nat} {Q : Option Value → jm_h → Prop} (hd : 4 ≤ d) (F : Nat → sy_d) (X1 X2 : List jm_c) (hB : iv_in F iv_B0)
    (h0 : (sy_i F 83).toInt < (sy_i F 38).toInt)
    (h1 : 0 ≤ (sy_i F 83).toInt ∧ (sy_i F 83).toInt < 11)
    (h2 : (lg_cmp ((sy_al F 43).getD (sy_i F 83).toNatClampNeg 0) (sy_l F 82)).toInt = 0)
    (h3 : (sy_i F 36).toInt = 0)
    (h4 : ((sy_i F 33) - ((1 : Int32))).toInt < 0)
    (k : ∀ F1 : Nat → sy_d, (∀ j, j < 82 → j ≠ 36 ∧ j ≠ 37 → F1 j = F j) → F1 36 = .inl (.int ((3 : Int32))) → F1 37 = .inl (.int ((0 : Int32))) → Q (some (.int ((1 : Int32)))) (sy_dh F1 X1 X2 (iv_H 0))) :
    hd_W Ls xs d jm_M41 Q (27, sy_dL F [some (.inl (.ref 30)), some (.inr (.inr 82)), none, some (.inr (.inl 83))], sy_dS F [], sy_dh F X1 X2 (iv_H 0), 0, 0) := by
  refine hd_ret (s := 0) (nv := 84) (v := some (.inl (.int 1))) (uh := hd_ov (iv_id 0 iv_B0) [(36, .inl (.inl (.int 3))), (37, .inl (.inl (.int 0)))]) (f := true) (sp := [27]) (d0 := 3) (O := [false, false, false, true]) (T := [(30, [.inr (.inl 83)], [.inr (.inr 43)]), (17, [.inr (.inr 84), .inr (.inr 82)], []), (1, [.inr (.inl 33), .inl (.int 1)], [])]) (P := [(5, .inr (.inl 38), .inr (.inl 83)), (6, .inr (.inl 83), .inl (.ref 11)), (0, .inr (.inl 85), .inl (.int 0)), (0, .inr (.inl 36), .inl (.int 0)), (2, .inr (.inl 86), .inl (.int 0))]) jm_ok41 (by decide +kernel) (by decide +kernel) hd F X1 X2 (fun F' hF hs => ?_)
  have b38 := hd_b (F := F) (F' := F') (k := 38) (hF 38 (by decide))
  have b83 := hd_b (F := F) (F' := F') (k := 83) (hF 83 (by decide))
  have a43 := hd_bA (F := F) (F' := F') (k := 43) (hF 43 (by decide))
  have t84 : sy_dv F' (.inr (.inr 84)) = .long ((sy_al F 43).getD (sy_i F 83).toNatClampNeg 0) := hd_rL (hs 0 _ rfl) b83 a43
  have b82 := hd_bl (F := F) (F' := F') (k := 82) (hF 82 (by decide))
  have t85 : sy_dv F' (.inr (.inl 85)) = .int (lg_cmp ((sy_al F 43).getD (sy_i F 83).toNatClampNeg 0) (sy_l F 82)) := hd_oc (hs 1 _ rfl) t84 b82 rfl
  have b36 := hd_b (F := F) (F' := F') (k := 36) (hF 36 (by decide))
  have b33 := hd_b (F := F) (F' := F') (k := 33) (hF 33 (by decide))
  have t86 : sy_dv F' (.inr (.inl 86)) = .int ((sy_i F 33) - ((1 : Int32))) := hd_o (hs 2 _ rfl) b33 rfl rfl
  have hB' : iv_in F' iv_B0 := iv_in_eq hB (fun j hj => hF j (Nat.lt_of_lt_of_le hj (by decide +kernel)))
  refine ⟨List.forall_mem_cons.mpr ⟨hd_p5 b38 b83 h0, List.forall_mem_cons.mpr ⟨hd_pb b83 (by first | exact h1 | exact h1), List.forall_mem_cons.mpr ⟨hd_p0 t85 rfl (by have hc : ((0) : Int32).toInt = 0 := (by decide); omega), List.forall_mem_cons.mpr ⟨hd_p0 b36 rfl (by have hc : ((0) : Int32).toInt = 0 := (by decide); omega), List.forall_mem_cons.mpr ⟨hd_p2 t86 rfl (by have hc : ((0) : Int32).toInt = 0 := (by decide); omega), fun _ h => absurd h List.not_mem_nil⟩⟩⟩⟩⟩, ?_⟩
  refine k _ ?_ ?_ ?_
  · exact fun j hj hn => (hd_keep hB' (Nat.lt_of_lt_of_le hj (by decide +kernel)) (by simp; omega)).trans (hF j (by omega))
  · exact hd_gi (x := .inl (.int 3)) (by decide +kernel) rfl
  · exact hd_gi (x := .inl (.int 0)) (by decide +kernel) rfl
theorem k0tm_27_p5 {Ls : Nat} {xs : Nat → Int32} {d : Nat} {Q : Option Value → jm_h → Prop} (hd : 4 ≤ d) (F : Nat → sy_d) (X1 X2 : List jm_c) (hB : iv_in F iv_B0)
    (h0 : (sy_i F 83).toInt < (sy_i F 38).toInt)
    (h1 : 0 ≤ (sy_i F 83).toInt ∧ (sy_i F 83).toInt < 11)
    (h2 : (lg_cmp ((sy_al F 43).getD (sy_i F 83).toNatClampNeg 0) (sy_l F 82)).toInt = 0)
    (h3 : (sy_i F 36).toInt = 0)
    (h4 : 0 ≤ ((sy_i F 33) - ((1 : Int32))).toInt)
    (h5 : ((sy_i F 33) - ((1 : Int32))).toInt ≤ 400)
    (h6 : 0 ≤ ((sy_i F 33) - ((1 : Int32))).toInt ∧ ((sy_i F 33) - ((1 : Int32))).toInt < 401)
    (k : ∀ F1 : Nat → sy_d, (∀ j, j < 82 → j ≠ 36 ∧ j ≠ 37 → F1 j = F j) → F1 36 = .inl (.int ((3 : Int32))) → F1 37 = .inl (.int ((sy_ai F 40).getD ((sy_i F 33) - ((1 : Int32))).toNatClampNeg 0)) → Q (some (.int ((1 : Int32)))) (sy_dh F1 X1 X2 (iv_H 0))) :
    hd_W Ls xs d jm_M41 Q (27, sy_dL F [some (.inl (.ref 30)), some (.inr (.inr 82)), none, some (.inr (.inl 83))], sy_dS F [], sy_dh F X1 X2 (iv_H 0), 0, 0) := by
  refine hd_ret (s := 0) (nv := 84) (v := some (.inl (.int 1))) (uh := hd_ov (iv_id 0 iv_B0) [(36, .inl (.inl (.int 3))), (37, .inl (.inr (.inl 87)))]) (f := true) (sp := [27]) (d0 := 3) (O := [false, false, false, false, false]) (T := [(30, [.inr (.inl 83)], [.inr (.inr 43)]), (17, [.inr (.inr 84), .inr (.inr 82)], []), (1, [.inr (.inl 33), .inl (.int 1)], []), (30, [.inr (.inl 86)], [.inr (.inl 40)])]) (P := [(5, .inr (.inl 38), .inr (.inl 83)), (6, .inr (.inl 83), .inl (.ref 11)), (0, .inr (.inl 85), .inl (.int 0)), (0, .inr (.inl 36), .inl (.int 0)), (3, .inr (.inl 86), .inl (.int 0)), (3, .inl (.int 400), .inr (.inl 86)), (6, .inr (.inl 86), .inl (.ref 401))]) jm_ok41 (by decide +kernel) (by decide +kernel) hd F X1 X2 (fun F' hF hs => ?_)
  have b38 := hd_b (F := F) (F' := F') (k := 38) (hF 38 (by decide))
  have b83 := hd_b (F := F) (F' := F') (k := 83) (hF 83 (by decide))
  have a43 := hd_bA (F := F) (F' := F') (k := 43) (hF 43 (by decide))
  have t84 : sy_dv F' (.inr (.inr 84)) = .long ((sy_al F 43).getD (sy_i F 83).toNatClampNeg 0) := hd_rL (hs 0 _ rfl) b83 a43
  have b82 := hd_bl (F := F) (F' := F') (k := 82) (hF 82 (by decide))
  have t85 : sy_dv F' (.inr (.inl 85)) = .int (lg_cmp ((sy_al F 43).getD (sy_i F 83).toNatClampNeg 0) (sy_l F 82)) := hd_oc (hs 1 _ rfl) t84 b82 rfl
  have b36 := hd_b (F := F) (F' := F') (k := 36) (hF 36 (by decide))
  have b33 := hd_b (F := F) (F' := F') (k := 33) (hF 33 (by decide))
  have t86 : sy_dv F' (.inr (.inl 86)) = .int ((sy_i F 33) - ((1 : Int32))) := hd_o (hs 2 _ rfl) b33 rfl rfl
  have a40 := hd_ba (F := F) (F' := F') (k := 40) (hF 40 (by decide))
  have t87 : sy_dv F' (.inr (.inl 87)) = .int ((sy_ai F 40).getD ((sy_i F 33) - ((1 : Int32))).toNatClampNeg 0) := hd_rd (hs 3 _ rfl) t86 a40
  have hB' : iv_in F' iv_B0 := iv_in_eq hB (fun j hj => hF j (Nat.lt_of_lt_of_le hj (by decide +kernel)))
  refine ⟨List.forall_mem_cons.mpr ⟨hd_p5 b38 b83 h0, List.forall_mem_cons.mpr ⟨hd_pb b83 (by first | exact h1 | exact h1), List.forall_mem_cons.mpr ⟨hd_p0 t85 rfl (by have hc : ((0) : Int32).toInt = 0 := (by decide); omega), List.forall_mem_cons.mpr ⟨hd_p0 b36 rfl (by have hc : ((0) : Int32).toInt = 0 := (by decide); omega), List.forall_mem_cons.mpr ⟨hd_p3 t86 rfl (by have hc : ((0) : Int32).toInt = 0 := (by decide); omega), List.forall_mem_cons.mpr ⟨hd_p3 rfl t86 (by have hc : ((400) : Int32).toInt = 400 := (by decide); omega), List.forall_mem_cons.mpr ⟨hd_pb t86 (by first | exact h6 | exact h6), fun _ h => absurd h List.not_mem_nil⟩⟩⟩⟩⟩⟩⟩, ?_⟩
  refine k _ ?_ ?_ ?_
  · exact fun j hj hn => (hd_keep hB' (Nat.lt_of_lt_of_le hj (by decide +kernel)) (by simp; omega)).trans (hF j (by omega))
  · exact hd_gi (x := .inl (.int 3)) (by decide +kernel) rfl
  · exact hd_gi (x := .inr (.inl 87)) (by decide +kernel) t87
theorem k0tm_27 {Ls : Nat} {xs : Nat → Int32} {d : Nat} {Q : Option Value → jm_h → Prop} (hd : 4 ≤ d) (F : Nat → sy_d) (X1 X2 : List jm_c) (hB : iv_in F iv_B0)
    (a83 : 0 ≤ (sy_i F 83).toInt ∧ (sy_i F 83).toInt ≤ 11)
    (k0 : (sy_i F 38).toInt ≤ (sy_i F 83).toInt → 11 ≤ (sy_i F 38).toInt → ∀ F1 : Nat → sy_d, iv_in F1 iv_B0 → (∀ j, j < 82 → j ∉ ([] : List Nat) → F1 j = F j) → (sy_i F1 33).toInt = (sy_i F 33).toInt → (sy_i F1 34).toInt = (sy_i F 34).toInt → (sy_i F1 36).toInt = (sy_i F 36).toInt → (sy_i F1 37).toInt = (sy_i F 37).toInt → (sy_i F1 38).toInt = (sy_i F 38).toInt → sy_ai F1 39 = sy_ai F 39 → sy_ai F1 40 = sy_ai F 40 → sy_al F1 43 = sy_al F 43 → Q (some (.int ((1 : Int32)))) (sy_dh F1 X1 X2 (iv_H 0)))
    (k1 : (sy_i F 38).toInt ≤ (sy_i F 83).toInt → (sy_i F 38).toInt < 11 → ∀ F1 : Nat → sy_d, iv_in F1 iv_B0 → (∀ j, j < 82 → j ∉ ([38, 43] : List Nat) → F1 j = F j) → (sy_i F1 33).toInt = (sy_i F 33).toInt → (sy_i F1 34).toInt = (sy_i F 34).toInt → (sy_i F1 36).toInt = (sy_i F 36).toInt → (sy_i F1 37).toInt = (sy_i F 37).toInt → (sy_i F1 38).toInt = ((sy_i F 38).toInt + 1) → sy_ai F1 39 = sy_ai F 39 → sy_ai F1 40 = sy_ai F 40 → sy_al F1 43 = jm_updL (sy_al F 43) ((sy_i F 38).toInt).toNat (sy_l F 82) → Q (some (.int ((1 : Int32)))) (sy_dh F1 X1 X2 (iv_H 0)))
    (k2 : (sy_i F 83).toInt < (sy_i F 38).toInt → (lg_cmp ((sy_al F 43).getD ((sy_i F 83).toInt).toNat 0) (sy_l F 82)).toInt ≠ 0 → ∀ F1 : Nat → sy_d, iv_in F1 iv_B0 → (∀ j, j < 82 → j ∉ ([] : List Nat) → F1 j = F j) → (sy_i F1 33).toInt = (sy_i F 33).toInt → (sy_i F1 34).toInt = (sy_i F 34).toInt → (sy_i F1 36).toInt = (sy_i F 36).toInt → (sy_i F1 37).toInt = (sy_i F 37).toInt → (sy_i F1 38).toInt = (sy_i F 38).toInt → sy_ai F1 39 = sy_ai F 39 → sy_ai F1 40 = sy_ai F 40 → sy_al F1 43 = sy_al F 43 → sy_l F1 82 = sy_l F 82 → (sy_i F1 83).toInt = ((sy_i F 83).toInt + 1) → hd_W Ls xs d jm_M41 Q (27, sy_dL F1 [some (.inl (.ref 30)), some (.inr (.inr 82)), none, some (.inr (.inl 83))], sy_dS F1 [], sy_dh F1 X1 X2 (iv_H 0), 0, 0))
    (k3 : (sy_i F 83).toInt < (sy_i F 38).toInt → (lg_cmp ((sy_al F 43).getD ((sy_i F 83).toInt).toNat 0) (sy_l F 82)).toInt = 0 → (sy_i F 36).toInt ≠ 0 → ∀ F1 : Nat → sy_d, iv_in F1 iv_B0 → (∀ j, j < 82 → j ∉ ([] : List Nat) → F1 j = F j) → (sy_i F1 33).toInt = (sy_i F 33).toInt → (sy_i F1 34).toInt = (sy_i F 34).toInt → (sy_i F1 36).toInt = (sy_i F 36).toInt → (sy_i F1 37).toInt = (sy_i F 37).toInt → (sy_i F1 38).toInt = (sy_i F 38).toInt → sy_ai F1 39 = sy_ai F 39 → sy_ai F1 40 = sy_ai F 40 → sy_al F1 43 = sy_al F 43 → Q (some (.int ((1 : Int32)))) (sy_dh F1 X1 X2 (iv_H 0)))
    (k4 : (sy_i F 83).toInt < (sy_i F 38).toInt → (lg_cmp ((sy_al F 43).getD ((sy_i F 83).toInt).toNat 0) (sy_l F 82)).toInt = 0 → (sy_i F 36).toInt = 0 → ((sy_i F 33).toInt - 1) < 0 → ∀ F1 : Nat → sy_d, iv_in F1 iv_B0 → (∀ j, j < 82 → j ∉ ([36, 37] : List Nat) → F1 j = F j) → (sy_i F1 33).toInt = (sy_i F 33).toInt → (sy_i F1 34).toInt = (sy_i F 34).toInt → (sy_i F1 36).toInt = 3 → (sy_i F1 37).toInt = 0 → (sy_i F1 38).toInt = (sy_i F 38).toInt → sy_ai F1 39 = sy_ai F 39 → sy_ai F1 40 = sy_ai F 40 → sy_al F1 43 = sy_al F 43 → Q (some (.int ((1 : Int32)))) (sy_dh F1 X1 X2 (iv_H 0)))
    (k5 : (sy_i F 83).toInt < (sy_i F 38).toInt → (lg_cmp ((sy_al F 43).getD ((sy_i F 83).toInt).toNat 0) (sy_l F 82)).toInt = 0 → (sy_i F 36).toInt = 0 → 0 ≤ ((sy_i F 33).toInt - 1) → ((sy_i F 33).toInt - 1) ≤ 400 → ∀ F1 : Nat → sy_d, iv_in F1 iv_B0 → (∀ j, j < 82 → j ∉ ([36, 37] : List Nat) → F1 j = F j) → (sy_i F1 33).toInt = (sy_i F 33).toInt → (sy_i F1 34).toInt = (sy_i F 34).toInt → (sy_i F1 36).toInt = 3 → (sy_i F1 37).toInt = ((sy_ai F 40).getD (((sy_i F 33).toInt - 1)).toNat 0).toInt → (sy_i F1 38).toInt = (sy_i F 38).toInt → sy_ai F1 39 = sy_ai F 39 → sy_ai F1 40 = sy_ai F 40 → sy_al F1 43 = sy_al F 43 → Q (some (.int ((1 : Int32)))) (sy_dh F1 X1 X2 (iv_H 0))) :
    hd_W Ls xs d jm_M41 Q (27, sy_dL F [some (.inl (.ref 30)), some (.inr (.inr 82)), none, some (.inr (.inl 83))], sy_dS F [], sy_dh F X1 X2 (iv_H 0), 0, 0) := by
  by_cases g0 : (sy_i F 38).toInt ≤ (sy_i F 83).toInt
  · by_cases g1 : 11 ≤ (sy_i F 38).toInt
    · have c38 := nz_bx hB (k := 38) (lo := 0) (hi := 11) rfl
      exact k0tm_27_p0 hd F X1 X2 hB (by first | exact g0 | (simp only [nz_c]; exact g0)) (by first | exact g1 | (simp only [nz_c]; exact g1)) (fun F1 g  => k0 g0 g1 F1 (nz_in0 hB [] (fun j hj hn => g j hj (by simp only [List.mem_cons, List.not_mem_nil, or_false, not_or] at hn; exact trivial)) (List.forall_mem_nil _)) (fun j hj hn => g j hj (by simp only [List.mem_cons, List.not_mem_nil, or_false, not_or] at hn; exact trivial)) (nz_fi (g 33 (by decide) (by decide))) (nz_fi (g 34 (by decide) (by decide))) (nz_fi (g 36 (by decide) (by decide))) (nz_fi (g 37 (by decide) (by decide))) (nz_fi (g 38 (by decide) (by decide))) (nz_fa (g 39 (by decide) (by decide))) (nz_fa (g 40 (by decide) (by decide))) (nz_fl (g 43 (by decide) (by decide))))
    replace g1 : (sy_i F 38).toInt < 11 := by omega
    have c38 := nz_bx hB (k := 38) (lo := 0) (hi := 11) rfl
    have n85 : ((sy_i F 38) + ((1 : Int32))).toInt = ((sy_i F 38).toInt + 1) := nz_add (rfl : (sy_i F 38).toInt = (sy_i F 38).toInt) (by decide : ((1 : Int32)).toInt = 1) (by omega) (by omega)
    have w84 : jm_updL (sy_al F 43) (sy_i F 38).toNatClampNeg (sy_l F 82) = jm_updL (sy_al F 43) ((sy_i F 38).toInt).toNat (sy_l F 82) := by simp only [nz_c]
    exact k0tm_27_p1 hd F X1 X2 hB (by first | exact g0 | (simp only [nz_c]; exact g0)) (by first | exact g1 | (simp only [nz_c]; exact g1)) (by first | exact ⟨by omega, by omega⟩ | (simp only [nz_c]; exact ⟨by omega, by omega⟩)) (fun F1 g e38 e43 => k1 g0 g1 F1 (nz_in0 hB [38, 43] (fun j hj hn => g j hj (by simp only [List.mem_cons, List.not_mem_nil, or_false, not_or] at hn; omega)) (List.forall_mem_cons.mpr ⟨fun t ht => (Option.some.inj ht) ▸ (nz_hi e38 n85 (by omega) (by omega)), List.forall_mem_cons.mpr ⟨fun t ht => (Option.some.inj ht) ▸ (nz_hz3 e43), List.forall_mem_nil _⟩⟩)) (fun j hj hn => g j hj (by simp only [List.mem_cons, List.not_mem_nil, or_false, not_or] at hn; omega)) (nz_fi (g 33 (by decide) (by decide))) (nz_fi (g 34 (by decide) (by decide))) (nz_fi (g 36 (by decide) (by decide))) (nz_fi (g 37 (by decide) (by decide))) ((congrArg Int32.toInt (zz_i e38)).trans n85) (nz_fa (g 39 (by decide) (by decide))) (nz_fa (g 40 (by decide) (by decide))) ((zz_al e43).trans w84))
  replace g0 : (sy_i F 83).toInt < (sy_i F 38).toInt := by omega
  by_cases g1 : (lg_cmp ((sy_al F 43).getD ((sy_i F 83).toInt).toNat 0) (sy_l F 82)).toInt ≠ 0
  · have c38 := nz_bx hB (k := 38) (lo := 0) (hi := 11) rfl
    have q85 : lg_cmp ((sy_al F 43).getD (sy_i F 83).toNatClampNeg 0) (sy_l F 82) = lg_cmp ((sy_al F 43).getD ((sy_i F 83).toInt).toNat 0) (sy_l F 82) := by simp only [nz_c]
    have n85 : (lg_cmp ((sy_al F 43).getD (sy_i F 83).toNatClampNeg 0) (sy_l F 82)).toInt = (lg_cmp ((sy_al F 43).getD ((sy_i F 83).toInt).toNat 0) (sy_l F 82)).toInt := congrArg Int32.toInt q85
    have n86 : ((sy_i F 83) + ((1 : Int32))).toInt = ((sy_i F 83).toInt + 1) := nz_add (rfl : (sy_i F 83).toInt = (sy_i F 83).toInt) (by decide : ((1 : Int32)).toInt = 1) (by omega) (by omega)
    exact k0tm_27_p2 hd F X1 X2 hB (by first | exact g0 | (simp only [nz_c]; exact g0)) (by first | exact ⟨by omega, by omega⟩ | (simp only [nz_c]; exact ⟨by omega, by omega⟩)) (by first | exact g1 | (simp only [nz_c]; exact g1) | (rw [n85]; exact g1)) (fun F1 g e82 e83 => k2 g0 g1 F1 (nz_in0 hB [] (fun j hj hn => g j hj (by simp only [List.mem_cons, List.not_mem_nil, or_false, not_or] at hn; exact trivial)) (List.forall_mem_nil _)) (fun j hj hn => g j hj (by simp only [List.mem_cons, List.not_mem_nil, or_false, not_or] at hn; exact trivial)) (nz_fi (g 33 (by decide) (by decide))) (nz_fi (g 34 (by decide) (by decide))) (nz_fi (g 36 (by decide) (by decide))) (nz_fi (g 37 (by decide) (by decide))) (nz_fi (g 38 (by decide) (by decide))) (nz_fa (g 39 (by decide) (by decide))) (nz_fa (g 40 (by decide) (by decide))) (nz_fl (g 43 (by decide) (by decide))) ((zz_l e82).trans (rfl : sy_l F 82 = sy_l F 82)) ((congrArg Int32.toInt (zz_i e83)).trans n86))
  replace g1 : (lg_cmp ((sy_al F 43).getD ((sy_i F 83).toInt).toNat 0) (sy_l F 82)).toInt = 0 := by omega
  by_cases g2 : (sy_i F 36).toInt ≠ 0
  · have c38 := nz_bx hB (k := 38) (lo := 0) (hi := 11) rfl
    have q85 : lg_cmp ((sy_al F 43).getD (sy_i F 83).toNatClampNeg 0) (sy_l F 82) = lg_cmp ((sy_al F 43).getD ((sy_i F 83).toInt).toNat 0) (sy_l F 82) := by simp only [nz_c]
    have n85 : (lg_cmp ((sy_al F 43).getD (sy_i F 83).toNatClampNeg 0) (sy_l F 82)).toInt = (lg_cmp ((sy_al F 43).getD ((sy_i F 83).toInt).toNat 0) (sy_l F 82)).toInt := congrArg Int32.toInt q85
    exact k0tm_27_p3 hd F X1 X2 hB (by first | exact g0 | (simp only [nz_c]; exact g0)) (by first | exact ⟨by omega, by omega⟩ | (simp only [nz_c]; exact ⟨by omega, by omega⟩)) (by first | exact g1 | (simp only [nz_c]; exact g1) | (rw [n85]; exact g1)) (by first | exact g2 | (simp only [nz_c]; exact g2)) (fun F1 g  => k3 g0 g1 g2 F1 (nz_in0 hB [] (fun j hj hn => g j hj (by simp only [List.mem_cons, List.not_mem_nil, or_false, not_or] at hn; exact trivial)) (List.forall_mem_nil _)) (fun j hj hn => g j hj (by simp only [List.mem_cons, List.not_mem_nil, or_false, not_or] at hn; exact trivial)) (nz_fi (g 33 (by decide) (by decide))) (nz_fi (g 34 (by decide) (by decide))) (nz_fi (g 36 (by decide) (by decide))) (nz_fi (g 37 (by decide) (by decide))) (nz_fi (g 38 (by decide) (by decide))) (nz_fa (g 39 (by decide) (by decide))) (nz_fa (g 40 (by decide) (by decide))) (nz_fl (g 43 (by decide) (by decide))))
  replace g2 : (sy_i F 36).toInt = 0 := by omega
  by_cases g3 : ((sy_i F 33).toInt - 1) < 0
  · have c38 := nz_bx hB (k := 38) (lo := 0) (hi := 11) rfl
    have q85 : lg_cmp ((sy_al F 43).getD (sy_i F 83).toNatClampNeg 0) (sy_l F 82) = lg_cmp ((sy_al F 43).getD ((sy_i F 83).toInt).toNat 0) (sy_l F 82) := by simp only [nz_c]
    have n85 : (lg_cmp ((sy_al F 43).getD (sy_i F 83).toNatClampNeg 0) (sy_l F 82)).toInt = (lg_cmp ((sy_al F 43).getD ((sy_i F 83).toInt).toNat 0) (sy_l F 82)).toInt := congrArg Int32.toInt q85
    have c33 := nz_bx hB (k := 33) (lo := 0) (hi := 400) rfl
    have n86 : ((sy_i F 33) - ((1 : Int32))).toInt = ((sy_i F 33).toInt - 1) := nz_sub (rfl : (sy_i F 33).toInt = (sy_i F 33).toInt) (by decide : ((1 : Int32)).toInt = 1) (by omega) (by omega)
    exact k0tm_27_p4 hd F X1 X2 hB (by first | exact g0 | (simp only [nz_c]; exact g0)) (by first | exact ⟨by omega, by omega⟩ | (simp only [nz_c]; exact ⟨by omega, by omega⟩)) (by first | exact g1 | (simp only [nz_c]; exact g1) | (rw [n85]; exact g1)) (by first | exact g2 | (simp only [nz_c]; exact g2)) (by first | exact g3 | (simp only [nz_c, n86]; exact g3) | (rw [n86]; exact g3)) (fun F1 g e36 e37 => k4 g0 g1 g2 g3 F1 (nz_in0 hB [36, 37] (fun j hj hn => g j hj (by simp only [List.mem_cons, List.not_mem_nil, or_false, not_or] at hn; omega)) (List.forall_mem_cons.mpr ⟨fun t ht => (Option.some.inj ht) ▸ (nz_hz e36), List.forall_mem_cons.mpr ⟨fun t ht => (Option.some.inj ht) ▸ (nz_hz e37), List.forall_mem_nil _⟩⟩)) (fun j hj hn => g j hj (by simp only [List.mem_cons, List.not_mem_nil, or_false, not_or] at hn; omega)) (nz_fi (g 33 (by decide) (by decide))) (nz_fi (g 34 (by decide) (by decide))) ((congrArg Int32.toInt (zz_i e36)).trans (by decide : ((3 : Int32)).toInt = 3)) ((congrArg Int32.toInt (zz_i e37)).trans (by decide : ((0 : Int32)).toInt = 0)) (nz_fi (g 38 (by decide) (by decide))) (nz_fa (g 39 (by decide) (by decide))) (nz_fa (g 40 (by decide) (by decide))) (nz_fl (g 43 (by decide) (by decide))))
  replace g3 : 0 ≤ ((sy_i F 33).toInt - 1) := by omega
  by_cases g4 : 400 < ((sy_i F 33).toInt - 1)
  · have c38 := nz_bx hB (k := 38) (lo := 0) (hi := 11) rfl
    have q85 : lg_cmp ((sy_al F 43).getD (sy_i F 83).toNatClampNeg 0) (sy_l F 82) = lg_cmp ((sy_al F 43).getD ((sy_i F 83).toInt).toNat 0) (sy_l F 82) := by simp only [nz_c]
    have n85 : (lg_cmp ((sy_al F 43).getD (sy_i F 83).toNatClampNeg 0) (sy_l F 82)).toInt = (lg_cmp ((sy_al F 43).getD ((sy_i F 83).toInt).toNat 0) (sy_l F 82)).toInt := congrArg Int32.toInt q85
    have c33 := nz_bx hB (k := 33) (lo := 0) (hi := 400) rfl
    have n86 : ((sy_i F 33) - ((1 : Int32))).toInt = ((sy_i F 33).toInt - 1) := nz_sub (rfl : (sy_i F 33).toInt = (sy_i F 33).toInt) (by decide : ((1 : Int32)).toInt = 1) (by omega) (by omega)
    exfalso
    omega
  replace g4 : ((sy_i F 33).toInt - 1) ≤ 400 := by omega
  have c38 := nz_bx hB (k := 38) (lo := 0) (hi := 11) rfl
  have q85 : lg_cmp ((sy_al F 43).getD (sy_i F 83).toNatClampNeg 0) (sy_l F 82) = lg_cmp ((sy_al F 43).getD ((sy_i F 83).toInt).toNat 0) (sy_l F 82) := by simp only [nz_c]
  have n85 : (lg_cmp ((sy_al F 43).getD (sy_i F 83).toNatClampNeg 0) (sy_l F 82)).toInt = (lg_cmp ((sy_al F 43).getD ((sy_i F 83).toInt).toNat 0) (sy_l F 82)).toInt := congrArg Int32.toInt q85
  have c33 := nz_bx hB (k := 33) (lo := 0) (hi := 400) rfl
  have n86 : ((sy_i F 33) - ((1 : Int32))).toInt = ((sy_i F 33).toInt - 1) := nz_sub (rfl : (sy_i F 33).toInt = (sy_i F 33).toInt) (by decide : ((1 : Int32)).toInt = 1) (by omega) (by omega)
  have q87 : (sy_ai F 40).getD ((sy_i F 33) - ((1 : Int32))).toNatClampNeg 0 = (sy_ai F 40).getD (((sy_i F 33).toInt - 1)).toNat 0 := by simp only [nz_c, n86, (by decide : ((1 : Int32)).toInt = 1)]
  have n87 : ((sy_ai F 40).getD ((sy_i F 33) - ((1 : Int32))).toNatClampNeg 0).toInt = ((sy_ai F 40).getD (((sy_i F 33).toInt - 1)).toNat 0).toInt := congrArg Int32.toInt q87
  exact k0tm_27_p5 hd F X1 X2 hB (by first | exact g0 | (simp only [nz_c]; exact g0)) (by first | exact ⟨by omega, by omega⟩ | (simp only [nz_c]; exact ⟨by omega, by omega⟩)) (by first | exact g1 | (simp only [nz_c]; exact g1) | (rw [n85]; exact g1)) (by first | exact g2 | (simp only [nz_c]; exact g2)) (by first | exact g3 | (simp only [nz_c, n86]; exact g3) | (rw [n86]; exact g3)) (by first | exact g4 | (simp only [nz_c, n86]; exact g4) | (rw [n86]; exact g4)) (by first | exact ⟨by omega, by omega⟩ | (simp only [nz_c, n86]; exact ⟨by omega, by omega⟩) | (rw [n86]; exact ⟨by omega, by omega⟩)) (fun F1 g e36 e37 => k5 g0 g1 g2 g3 g4 F1 (nz_in0 hB [36, 37] (fun j hj hn => g j hj (by simp only [List.mem_cons, List.not_mem_nil, or_false, not_or] at hn; omega)) (List.forall_mem_cons.mpr ⟨fun t ht => (Option.some.inj ht) ▸ (nz_hz e36), List.forall_mem_cons.mpr ⟨fun t ht => (Option.some.inj ht) ▸ (nz_hz e37), List.forall_mem_nil _⟩⟩)) (fun j hj hn => g j hj (by simp only [List.mem_cons, List.not_mem_nil, or_false, not_or] at hn; omega)) (nz_fi (g 33 (by decide) (by decide))) (nz_fi (g 34 (by decide) (by decide))) ((congrArg Int32.toInt (zz_i e36)).trans (by decide : ((3 : Int32)).toInt = 3)) ((congrArg Int32.toInt (zz_i e37)).trans n87) (nz_fi (g 38 (by decide) (by decide))) (nz_fa (g 39 (by decide) (by decide))) (nz_fa (g 40 (by decide) (by decide))) (nz_fl (g 43 (by decide) (by decide))))
