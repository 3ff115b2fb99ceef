section
/-! ===== the reference: hours, way by way ===== -/
theorem yfa_0_p0 {Ls : Nat} {xs : Nat → Int32} {d : Nat} {Q : Option Value → jm_h → Prop} (hd : 1 ≤ d) (F : Nat → sy_d) (X1 X2 : List jm_c) (hB : iv_in F iv_B4)
    (h0 : 0 ≤ (sy_i F 69).toInt ∧ (sy_i F 69).toInt < 7)
    (k : ∀ F1 : Nat → sy_d, (∀ j, j < 69 → True → F1 j = F j) → F1 69 = .inl (.int (sy_i F 69)) → F1 70 = .inl (.int ((sy_ai F 58).getD (sy_i F 69).toNatClampNeg 0)) → hd_W Ls xs d jm_M191 Q (8, sy_dL F1 [some (.inl (.ref 1000)), some (.inr (.inl 69)), none], sy_dS F1 [.inr (.inl 70), .inr (.inl 69), .inl (.ref 1000)], sy_dh F1 X1 X2 (iv_H 4), 0, 0)) :
    hd_W Ls xs d jm_M191 Q (0, sy_dL F [some (.inl (.ref 1000)), some (.inr (.inl 69)), none], sy_dS F [], sy_dh F X1 X2 (iv_H 4), 0, 0) := by
  refine hd_run (s := 4) (nv := 70) (pc := 8) (L := [some (.inl (.ref 1000)), some (.inr (.inl 69)), none]) (S := [.inr (.inl 70), .inr (.inl 69), .inl (.ref 1000)]) (uh := hd_ov (iv_id 0 iv_B4) []) (ul := [.inl (.inr (.inl 69)), .inl (.inr (.inl 70))]) (f := true) (sp := [8]) (d0 := 0) (O := []) (T := [(30, [.inr (.inl 69)], [.inr (.inl 58)])]) (P := [(6, .inr (.inl 69), .inl (.ref 7))]) jm_ok191 (by decide +kernel) (by decide +kernel) hd F X1 X2 (fun F' hF hs => ?_)
  have b69 := hd_b (F := F) (F' := F') (k := 69) (hF 69 (by decide))
  have a58 := hd_ba (F := F) (F' := F') (k := 58) (hF 58 (by decide))
  have t70 : sy_dv F' (.inr (.inl 70)) = .int ((sy_ai F 58).getD (sy_i F 69).toNatClampNeg 0) := hd_rd (hs 0 _ rfl) b69 a58
  have hB' : iv_in F' iv_B4 := iv_in_eq hB (fun j hj => hF j (Nat.lt_of_lt_of_le hj (by decide +kernel)))
  refine ⟨List.forall_mem_cons.mpr ⟨hd_pb b69 (by first | exact h0 | exact h0), fun _ h => absurd h List.not_mem_nil⟩, ?_⟩
  refine k _ ?_ ?_ ?_
  · exact fun j hj _ => (hd_keep hB' (Nat.lt_of_lt_of_le hj (by decide +kernel)) (by simp)).trans (hF j (Nat.lt_of_lt_of_le hj (by decide)))
  · exact hd_gi (x := .inr (.inl 69)) (by decide +kernel) b69
  · exact hd_gi (x := .inr (.inl 70)) (by decide +kernel) t70
theorem yfa_0 {Ls : Nat} {xs : Nat → Int32} {d : Nat} {Q : Option Value → jm_h → Prop} (hd : 1 ≤ d) (F : Nat → sy_d) (X1 X2 : List jm_c) (hB : iv_in F iv_B4)
    (a69 : 0 ≤ (sy_i F 69).toInt ∧ (sy_i F 69).toInt ≤ 6)
    (k0 : ∀ F1 : Nat → sy_d, iv_in F1 iv_B4 → (∀ j, j < 69 → j ∉ ([] : List Nat) → F1 j = F j) → (sy_i F1 69).toInt = (sy_i F 69).toInt → sy_i F1 69 = sy_i F 69 → (sy_i F1 70).toInt = ((sy_ai F 58).getD ((sy_i F 69).toInt).toNat 0).toInt → sy_i F1 70 = (sy_ai F 58).getD ((sy_i F 69).toInt).toNat 0 → hd_W Ls xs d jm_M191 Q (8, sy_dL F1 [some (.inl (.ref 1000)), some (.inr (.inl 69)), none], sy_dS F1 [.inr (.inl 70), .inr (.inl 69), .inl (.ref 1000)], sy_dh F1 X1 X2 (iv_H 4), 0, 0)) :
    hd_W Ls xs d jm_M191 Q (0, sy_dL F [some (.inl (.ref 1000)), some (.inr (.inl 69)), none], sy_dS F [], sy_dh F X1 X2 (iv_H 4), 0, 0) := by
  have q70 : (sy_ai F 58).getD (sy_i F 69).toNatClampNeg 0 = (sy_ai F 58).getD ((sy_i F 69).toInt).toNat 0 := by simp only [nz_c]
  have n70 : nzI ((sy_ai F 58).getD (sy_i F 69).toNatClampNeg 0) (((sy_ai F 58).getD ((sy_i F 69).toInt).toNat 0).toInt) := congrArg Int32.toInt q70
  exact yfa_0_p0 hd F X1 X2 hB (by first | exact ⟨by omega, by omega⟩ | (simp only [nz_c]; exact ⟨by omega, by omega⟩)) (fun F1 g e69 e70 => k0 F1 (nz_in hB [] (fun j hj hn => g j hj (by simp only [List.mem_cons, List.not_mem_nil, or_false, not_or] at hn; exact trivial)) (List.forall_mem_nil _)) (fun j hj hn => g j hj (by simp only [List.mem_cons, List.not_mem_nil, or_false, not_or] at hn; exact trivial)) ((congrArg Int32.toInt (zz_i e69)).trans (rfl : (sy_i F 69).toInt = (sy_i F 69).toInt)) ((zz_i e69).trans (rfl : sy_i F 69 = sy_i F 69)) ((congrArg Int32.toInt (zz_i e70)).trans (nzE n70)) ((zz_i e70).trans q70))
theorem yfa_11_p0 {Ls : Nat} {xs : Nat → Int32} {d : Nat} {Q : Option Value → jm_h → Prop} (hd : 2 ≤ d) (F : Nat → sy_d) (X1 X2 : List jm_c) (hB : iv_in F iv_B4)
    (h0 : (sy_i F 70).toInt < 0)
    (h1 : 0 ≤ (((14 : Int32)) + (sy_i F 69)).toInt ∧ (((14 : Int32)) + (sy_i F 69)).toInt < 61)
    (h2 : 0 ≤ (sy_i F 69).toInt ∧ (sy_i F 69).toInt < 61)
    (h3 : 0 ≤ (sy_i F 69).toInt ∧ (sy_i F 69).toInt < 7)
    (h4 : 0 ≤ (((jm_upd (sy_ai F 55) (((14 : Int32)) + (sy_i F 69)).toNatClampNeg ((1 : Int32))).getD (sy_i F 69).toNatClampNeg 0) + ((sy_ai F 59).getD (sy_i F 69).toNatClampNeg 0)).toInt)
    (h5 : (((jm_upd (sy_ai F 55) (((14 : Int32)) + (sy_i F 69)).toNatClampNeg ((1 : Int32))).getD (sy_i F 69).toNatClampNeg 0) + ((sy_ai F 59).getD (sy_i F 69).toNatClampNeg 0)).toInt ≤ 9)
    (h6 : 0 ≤ (sy_i F 69).toInt ∧ (sy_i F 69).toInt < 61)
    (k : ∀ F1 : Nat → sy_d, (∀ j, j < 69 → j ≠ 55 → F1 j = F j) → F1 55 = .inr (.inl (jm_upd (jm_upd (sy_ai F 55) (((14 : Int32)) + (sy_i F 69)).toNatClampNeg ((1 : Int32))) (sy_i F 69).toNatClampNeg (((jm_upd (sy_ai F 55) (((14 : Int32)) + (sy_i F 69)).toNatClampNeg ((1 : Int32))).getD (sy_i F 69).toNatClampNeg 0) + ((sy_ai F 59).getD (sy_i F 69).toNatClampNeg 0)))) → Q (none) (sy_dh F1 X1 X2 (iv_H 4))) :
    hd_W Ls xs d jm_M191 Q (11, sy_dL F [some (.inl (.ref 1000)), some (.inr (.inl 69)), none], sy_dS F [.inr (.inl 70)], sy_dh F X1 X2 (iv_H 4), 0, 0) := by
  refine hd_ret (s := 4) (nv := 71) (v := none) (uh := hd_ov (iv_id 0 iv_B4) [(55, .inr (.inr (.inl 76)))]) (f := false) (sp := []) (d0 := 1) (O := [true, true, true]) (T := [(0, [.inl (.int 14), .inr (.inl 69)], []), (40, [.inr (.inl 71), .inl (.int 1)], [.inr (.inl 55)]), (30, [.inr (.inl 69)], [.inr (.inl 72)]), (30, [.inr (.inl 69)], [.inr (.inl 59)]), (0, [.inr (.inl 73), .inr (.inl 74)], []), (40, [.inr (.inl 69), .inr (.inl 75)], [.inr (.inl 72)])]) (P := [(2, .inr (.inl 70), .inl (.int 0)), (6, .inr (.inl 71), .inl (.ref 61)), (6, .inr (.inl 69), .inl (.ref 61)), (6, .inr (.inl 69), .inl (.ref 7)), (4, .inl (.int 0), .inr (.inl 75)), (4, .inr (.inl 75), .inl (.int 9)), (6, .inr (.inl 69), .inl (.ref 61))]) jm_ok191 (by decide +kernel) (by decide +kernel) hd F X1 X2 (fun F' hF hs => ?_)
  have b70 := hd_b (F := F) (F' := F') (k := 70) (hF 70 (by decide))
  have b69 := hd_b (F := F) (F' := F') (k := 69) (hF 69 (by decide))
  have t71 : sy_dv F' (.inr (.inl 71)) = .int (((14 : Int32)) + (sy_i F 69)) := hd_o (hs 0 _ rfl) rfl b69 rfl
  have a55 := hd_ba (F := F) (F' := F') (k := 55) (hF 55 (by decide))
  have t72 : sy_da F' (.inr (.inl 72)) = .inl (jm_upd (sy_ai F 55) (((14 : Int32)) + (sy_i F 69)).toNatClampNeg ((1 : Int32))) := hd_up (hs 1 _ rfl) t71 rfl a55
  have t73 : sy_dv F' (.inr (.inl 73)) = .int ((jm_upd (sy_ai F 55) (((14 : Int32)) + (sy_i F 69)).toNatClampNeg ((1 : Int32))).getD (sy_i F 69).toNatClampNeg 0) := hd_rd (hs 2 _ rfl) b69 t72
  have a59 := hd_ba (F := F) (F' := F') (k := 59) (hF 59 (by decide))
  have t74 : sy_dv F' (.inr (.inl 74)) = .int ((sy_ai F 59).getD (sy_i F 69).toNatClampNeg 0) := hd_rd (hs 3 _ rfl) b69 a59
  have t75 : sy_dv F' (.inr (.inl 75)) = .int (((jm_upd (sy_ai F 55) (((14 : Int32)) + (sy_i F 69)).toNatClampNeg ((1 : Int32))).getD (sy_i F 69).toNatClampNeg 0) + ((sy_ai F 59).getD (sy_i F 69).toNatClampNeg 0)) := hd_o (hs 4 _ rfl) t73 t74 rfl
  have t76 : sy_da F' (.inr (.inl 76)) = .inl (jm_upd (jm_upd (sy_ai F 55) (((14 : Int32)) + (sy_i F 69)).toNatClampNeg ((1 : Int32))) (sy_i F 69).toNatClampNeg (((jm_upd (sy_ai F 55) (((14 : Int32)) + (sy_i F 69)).toNatClampNeg ((1 : Int32))).getD (sy_i F 69).toNatClampNeg 0) + ((sy_ai F 59).getD (sy_i F 69).toNatClampNeg 0))) := hd_up (hs 5 _ rfl) b69 t75 t72
  have hB' : iv_in F' iv_B4 := iv_in_eq hB (fun j hj => hF j (Nat.lt_of_lt_of_le hj (by decide +kernel)))
  refine ⟨List.forall_mem_cons.mpr ⟨hd_p2 b70 rfl (by have hc : ((0) : Int32).toInt = 0 := (by decide); omega), List.forall_mem_cons.mpr ⟨hd_pb t71 (by first | exact h1 | exact h1), List.forall_mem_cons.mpr ⟨hd_pb b69 (by first | exact h2 | exact h2), List.forall_mem_cons.mpr ⟨hd_pb b69 (by first | exact h3 | exact h3), List.forall_mem_cons.mpr ⟨hd_p4 rfl t75 (by have hc : ((0) : Int32).toInt = 0 := (by decide); omega), List.forall_mem_cons.mpr ⟨hd_p4 t75 rfl (by have hc : ((9) : Int32).toInt = 9 := (by decide); omega), List.forall_mem_cons.mpr ⟨hd_pb b69 (by first | exact h6 | exact h6), fun _ h => absurd h List.not_mem_nil⟩⟩⟩⟩⟩⟩⟩, ?_⟩
  refine k _ ?_ ?_
  · exact fun j hj hn => (hd_keep hB' (Nat.lt_of_lt_of_le hj (by decide +kernel)) (by simp; omega)).trans (hF j (Nat.lt_of_lt_of_le hj (by decide)))
  · exact hd_ga (a := .inr (.inl 76)) (by decide +kernel) t76
theorem yfa_11_p1 {Ls : Nat} {xs : Nat → Int32} {d : Nat} {Q : Option Value → jm_h → Prop} (hd : 2 ≤ d) (F : Nat → sy_d) (X1 X2 : List jm_c) (hB : iv_in F iv_B4)
    (h0 : (sy_i F 70).toInt < 0)
    (h1 : 0 ≤ (((14 : Int32)) + (sy_i F 69)).toInt ∧ (((14 : Int32)) + (sy_i F 69)).toInt < 61)
    (h2 : 0 ≤ (sy_i F 69).toInt ∧ (sy_i F 69).toInt < 61)
    (h3 : 0 ≤ (sy_i F 69).toInt ∧ (sy_i F 69).toInt < 7)
    (h4 : 0 ≤ (((jm_upd (sy_ai F 55) (((14 : Int32)) + (sy_i F 69)).toNatClampNeg ((1 : Int32))).getD (sy_i F 69).toNatClampNeg 0) + ((sy_ai F 59).getD (sy_i F 69).toNatClampNeg 0)).toInt)
    (h5 : 9 < (((jm_upd (sy_ai F 55) (((14 : Int32)) + (sy_i F 69)).toNatClampNeg ((1 : Int32))).getD (sy_i F 69).toNatClampNeg 0) + ((sy_ai F 59).getD (sy_i F 69).toNatClampNeg 0)).toInt)
    (h6 : 0 ≤ (sy_i F 69).toInt ∧ (sy_i F 69).toInt < 61)
    (k : ∀ F1 : Nat → sy_d, (∀ j, j < 69 → j ≠ 55 → F1 j = F j) → F1 55 = .inr (.inl (jm_upd (jm_upd (sy_ai F 55) (((14 : Int32)) + (sy_i F 69)).toNatClampNeg ((1 : Int32))) (sy_i F 69).toNatClampNeg ((9 : Int32)))) → Q (none) (sy_dh F1 X1 X2 (iv_H 4))) :
    hd_W Ls xs d jm_M191 Q (11, sy_dL F [some (.inl (.ref 1000)), some (.inr (.inl 69)), none], sy_dS F [.inr (.inl 70)], sy_dh F X1 X2 (iv_H 4), 0, 0) := by
  refine hd_ret (s := 4) (nv := 71) (v := none) (uh := hd_ov (iv_id 0 iv_B4) [(55, .inr (.inr (.inl 76)))]) (f := false) (sp := []) (d0 := 1) (O := [true, true, false]) (T := [(0, [.inl (.int 14), .inr (.inl 69)], []), (40, [.inr (.inl 71), .inl (.int 1)], [.inr (.inl 55)]), (30, [.inr (.inl 69)], [.inr (.inl 72)]), (30, [.inr (.inl 69)], [.inr (.inl 59)]), (0, [.inr (.inl 73), .inr (.inl 74)], []), (40, [.inr (.inl 69), .inl (.int 9)], [.inr (.inl 72)])]) (P := [(2, .inr (.inl 70), .inl (.int 0)), (6, .inr (.inl 71), .inl (.ref 61)), (6, .inr (.inl 69), .inl (.ref 61)), (6, .inr (.inl 69), .inl (.ref 7)), (4, .inl (.int 0), .inr (.inl 75)), (5, .inr (.inl 75), .inl (.int 9)), (6, .inr (.inl 69), .inl (.ref 61))]) jm_ok191 (by decide +kernel) (by decide +kernel) hd F X1 X2 (fun F' hF hs => ?_)
  have b70 := hd_b (F := F) (F' := F') (k := 70) (hF 70 (by decide))
  have b69 := hd_b (F := F) (F' := F') (k := 69) (hF 69 (by decide))
  have t71 : sy_dv F' (.inr (.inl 71)) = .int (((14 : Int32)) + (sy_i F 69)) := hd_o (hs 0 _ rfl) rfl b69 rfl
  have a55 := hd_ba (F := F) (F' := F') (k := 55) (hF 55 (by decide))
  have t72 : sy_da F' (.inr (.inl 72)) = .inl (jm_upd (sy_ai F 55) (((14 : Int32)) + (sy_i F 69)).toNatClampNeg ((1 : Int32))) := hd_up (hs 1 _ rfl) t71 rfl a55
  have t73 : sy_dv F' (.inr (.inl 73)) = .int ((jm_upd (sy_ai F 55) (((14 : Int32)) + (sy_i F 69)).toNatClampNeg ((1 : Int32))).getD (sy_i F 69).toNatClampNeg 0) := hd_rd (hs 2 _ rfl) b69 t72
  have a59 := hd_ba (F := F) (F' := F') (k := 59) (hF 59 (by decide))
  have t74 : sy_dv F' (.inr (.inl 74)) = .int ((sy_ai F 59).getD (sy_i F 69).toNatClampNeg 0) := hd_rd (hs 3 _ rfl) b69 a59
  have t75 : sy_dv F' (.inr (.inl 75)) = .int (((jm_upd (sy_ai F 55) (((14 : Int32)) + (sy_i F 69)).toNatClampNeg ((1 : Int32))).getD (sy_i F 69).toNatClampNeg 0) + ((sy_ai F 59).getD (sy_i F 69).toNatClampNeg 0)) := hd_o (hs 4 _ rfl) t73 t74 rfl
  have t76 : sy_da F' (.inr (.inl 76)) = .inl (jm_upd (jm_upd (sy_ai F 55) (((14 : Int32)) + (sy_i F 69)).toNatClampNeg ((1 : Int32))) (sy_i F 69).toNatClampNeg ((9 : Int32))) := hd_up (hs 5 _ rfl) b69 rfl t72
  have hB' : iv_in F' iv_B4 := iv_in_eq hB (fun j hj => hF j (Nat.lt_of_lt_of_le hj (by decide +kernel)))
  refine ⟨List.forall_mem_cons.mpr ⟨hd_p2 b70 rfl (by have hc : ((0) : Int32).toInt = 0 := (by decide); omega), List.forall_mem_cons.mpr ⟨hd_pb t71 (by first | exact h1 | exact h1), List.forall_mem_cons.mpr ⟨hd_pb b69 (by first | exact h2 | exact h2), List.forall_mem_cons.mpr ⟨hd_pb b69 (by first | exact h3 | exact h3), List.forall_mem_cons.mpr ⟨hd_p4 rfl t75 (by have hc : ((0) : Int32).toInt = 0 := (by decide); omega), List.forall_mem_cons.mpr ⟨hd_p5 t75 rfl (by have hc : ((9) : Int32).toInt = 9 := (by decide); omega), List.forall_mem_cons.mpr ⟨hd_pb b69 (by first | exact h6 | exact h6), fun _ h => absurd h List.not_mem_nil⟩⟩⟩⟩⟩⟩⟩, ?_⟩
  refine k _ ?_ ?_
  · exact fun j hj hn => (hd_keep hB' (Nat.lt_of_lt_of_le hj (by decide +kernel)) (by simp; omega)).trans (hF j (Nat.lt_of_lt_of_le hj (by decide)))
  · exact hd_ga (a := .inr (.inl 76)) (by decide +kernel) t76
theorem yfa_11_p2 {Ls : Nat} {xs : Nat → Int32} {d : Nat} {Q : Option Value → jm_h → Prop} (hd : 2 ≤ d) (F : Nat → sy_d) (X1 X2 : List jm_c) (hB : iv_in F iv_B4)
    (h0 : (sy_i F 70).toInt < 0)
    (h1 : 0 ≤ (((14 : Int32)) + (sy_i F 69)).toInt ∧ (((14 : Int32)) + (sy_i F 69)).toInt < 61)
    (h2 : 0 ≤ (sy_i F 69).toInt ∧ (sy_i F 69).toInt < 61)
    (h3 : 0 ≤ (sy_i F 69).toInt ∧ (sy_i F 69).toInt < 7)
    (h4 : (((jm_upd (sy_ai F 55) (((14 : Int32)) + (sy_i F 69)).toNatClampNeg ((1 : Int32))).getD (sy_i F 69).toNatClampNeg 0) + ((sy_ai F 59).getD (sy_i F 69).toNatClampNeg 0)).toInt < 0)
    (h5 : 0 ≤ (sy_i F 69).toInt ∧ (sy_i F 69).toInt < 61)
    (k : ∀ F1 : Nat → sy_d, (∀ j, j < 69 → j ≠ 55 → F1 j = F j) → F1 55 = .inr (.inl (jm_upd (jm_upd (sy_ai F 55) (((14 : Int32)) + (sy_i F 69)).toNatClampNeg ((1 : Int32))) (sy_i F 69).toNatClampNeg ((0 : Int32)))) → Q (none) (sy_dh F1 X1 X2 (iv_H 4))) :
    hd_W Ls xs d jm_M191 Q (11, sy_dL F [some (.inl (.ref 1000)), some (.inr (.inl 69)), none], sy_dS F [.inr (.inl 70)], sy_dh F X1 X2 (iv_H 4), 0, 0) := by
  refine hd_ret (s := 4) (nv := 71) (v := none) (uh := hd_ov (iv_id 0 iv_B4) [(55, .inr (.inr (.inl 76)))]) (f := false) (sp := []) (d0 := 1) (O := [true, false]) (T := [(0, [.inl (.int 14), .inr (.inl 69)], []), (40, [.inr (.inl 71), .inl (.int 1)], [.inr (.inl 55)]), (30, [.inr (.inl 69)], [.inr (.inl 72)]), (30, [.inr (.inl 69)], [.inr (.inl 59)]), (0, [.inr (.inl 73), .inr (.inl 74)], []), (40, [.inr (.inl 69), .inl (.int 0)], [.inr (.inl 72)])]) (P := [(2, .inr (.inl 70), .inl (.int 0)), (6, .inr (.inl 71), .inl (.ref 61)), (6, .inr (.inl 69), .inl (.ref 61)), (6, .inr (.inl 69), .inl (.ref 7)), (5, .inl (.int 0), .inr (.inl 75)), (6, .inr (.inl 69), .inl (.ref 61))]) jm_ok191 (by decide +kernel) (by decide +kernel) hd F X1 X2 (fun F' hF hs => ?_)
  have b70 := hd_b (F := F) (F' := F') (k := 70) (hF 70 (by decide))
  have b69 := hd_b (F := F) (F' := F') (k := 69) (hF 69 (by decide))
  have t71 : sy_dv F' (.inr (.inl 71)) = .int (((14 : Int32)) + (sy_i F 69)) := hd_o (hs 0 _ rfl) rfl b69 rfl
  have a55 := hd_ba (F := F) (F' := F') (k := 55) (hF 55 (by decide))
  have t72 : sy_da F' (.inr (.inl 72)) = .inl (jm_upd (sy_ai F 55) (((14 : Int32)) + (sy_i F 69)).toNatClampNeg ((1 : Int32))) := hd_up (hs 1 _ rfl) t71 rfl a55
  have t73 : sy_dv F' (.inr (.inl 73)) = .int ((jm_upd (sy_ai F 55) (((14 : Int32)) + (sy_i F 69)).toNatClampNeg ((1 : Int32))).getD (sy_i F 69).toNatClampNeg 0) := hd_rd (hs 2 _ rfl) b69 t72
  have a59 := hd_ba (F := F) (F' := F') (k := 59) (hF 59 (by decide))
  have t74 : sy_dv F' (.inr (.inl 74)) = .int ((sy_ai F 59).getD (sy_i F 69).toNatClampNeg 0) := hd_rd (hs 3 _ rfl) b69 a59
  have t75 : sy_dv F' (.inr (.inl 75)) = .int (((jm_upd (sy_ai F 55) (((14 : Int32)) + (sy_i F 69)).toNatClampNeg ((1 : Int32))).getD (sy_i F 69).toNatClampNeg 0) + ((sy_ai F 59).getD (sy_i F 69).toNatClampNeg 0)) := hd_o (hs 4 _ rfl) t73 t74 rfl
  have t76 : sy_da F' (.inr (.inl 76)) = .inl (jm_upd (jm_upd (sy_ai F 55) (((14 : Int32)) + (sy_i F 69)).toNatClampNeg ((1 : Int32))) (sy_i F 69).toNatClampNeg ((0 : Int32))) := hd_up (hs 5 _ rfl) b69 rfl t72
  have hB' : iv_in F' iv_B4 := iv_in_eq hB (fun j hj => hF j (Nat.lt_of_lt_of_le hj (by decide +kernel)))
  refine ⟨List.forall_mem_cons.mpr ⟨hd_p2 b70 rfl (by have hc : ((0) : Int32).toInt = 0 := (by decide); omega), List.forall_mem_cons.mpr ⟨hd_pb t71 (by first | exact h1 | exact h1), List.forall_mem_cons.mpr ⟨hd_pb b69 (by first | exact h2 | exact h2), List.forall_mem_cons.mpr ⟨hd_pb b69 (by first | exact h3 | exact h3), List.forall_mem_cons.mpr ⟨hd_p5 rfl t75 (by have hc : ((0) : Int32).toInt = 0 := (by decide); omega), List.forall_mem_cons.mpr ⟨hd_pb b69 (by first | exact h5 | exact h5), fun _ h => absurd h List.not_mem_nil⟩⟩⟩⟩⟩⟩, ?_⟩
  refine k _ ?_ ?_
  · exact fun j hj hn => (hd_keep hB' (Nat.lt_of_lt_of_le hj (by decide +kernel)) (by simp; omega)).trans (hF j (Nat.lt_of_lt_of_le hj (by decide)))
  · exact hd_ga (a := .inr (.inl 76)) (by decide +kernel) t76
theorem yfa_11_p3 {Ls : Nat} {xs : Nat → Int32} {d : Nat} {Q : Option Value → jm_h → Prop} (hd : 2 ≤ d) (F : Nat → sy_d) (X1 X2 : List jm_c) (hB : iv_in F iv_B4)
    (h0 : 0 ≤ (sy_i F 70).toInt)
    (h1 : 0 ≤ (sy_i F 69).toInt ∧ (sy_i F 69).toInt < 7)
    (h2 : 0 ≤ (((14 : Int32)) + (sy_i F 69)).toInt ∧ (((14 : Int32)) + (sy_i F 69)).toInt < 61)
    (h3 : 0 ≤ (((21 : Int32)) + (sy_i F 69)).toInt ∧ (((21 : Int32)) + (sy_i F 69)).toInt < 61)
    (h4 : 0 ≤ (((53 : Int32)) + (sy_i F 70)).toInt ∧ (((53 : Int32)) + (sy_i F 70)).toInt < 61)
    (h5 : 0 ≤ (((53 : Int32)) + (sy_i F 70)).toInt ∧ (((53 : Int32)) + (sy_i F 70)).toInt < 61)
    (k : ∀ F1 : Nat → sy_d, (∀ j, j < 69 → j ≠ 19 ∧ j ≠ 55 → F1 j = F j) → F1 19 = .inl (.int ((1 : Int32))) → F1 55 = .inr (.inl (jm_upd (jm_upd (jm_upd (sy_ai F 55) (((14 : Int32)) + (sy_i F 69)).toNatClampNeg ((2 : Int32))) (((21 : Int32)) + (sy_i F 69)).toNatClampNeg (sy_i F 70)) (((53 : Int32)) + (sy_i F 70)).toNatClampNeg (((jm_upd (jm_upd (sy_ai F 55) (((14 : Int32)) + (sy_i F 69)).toNatClampNeg ((2 : Int32))) (((21 : Int32)) + (sy_i F 69)).toNatClampNeg (sy_i F 70)).getD (((53 : Int32)) + (sy_i F 70)).toNatClampNeg 0) - ((sy_ai F 58).getD (sy_i F 69).toNatClampNeg 0)))) → Q (none) (sy_dh F1 X1 X2 (iv_H 4))) :
    hd_W Ls xs d jm_M191 Q (11, sy_dL F [some (.inl (.ref 1000)), some (.inr (.inl 69)), none], sy_dS F [.inr (.inl 70)], sy_dh F X1 X2 (iv_H 4), 0, 0) := by
  refine hd_ret (s := 4) (nv := 71) (v := none) (uh := hd_ov (iv_id 0 iv_B4) [(19, .inl (.inl (.int 1))), (55, .inr (.inr (.inl 79)))]) (f := false) (sp := []) (d0 := 1) (O := [false]) (T := [(30, [.inr (.inl 69)], [.inr (.inl 58)]), (0, [.inl (.int 14), .inr (.inl 69)], []), (40, [.inr (.inl 72), .inl (.int 2)], [.inr (.inl 55)]), (0, [.inl (.int 21), .inr (.inl 69)], []), (40, [.inr (.inl 74), .inr (.inl 70)], [.inr (.inl 73)]), (0, [.inl (.int 53), .inr (.inl 70)], []), (30, [.inr (.inl 76)], [.inr (.inl 75)]), (1, [.inr (.inl 77), .inr (.inl 71)], []), (40, [.inr (.inl 76), .inr (.inl 78)], [.inr (.inl 75)])]) (P := [(3, .inr (.inl 70), .inl (.int 0)), (6, .inr (.inl 69), .inl (.ref 7)), (6, .inr (.inl 72), .inl (.ref 61)), (6, .inr (.inl 74), .inl (.ref 61)), (6, .inr (.inl 76), .inl (.ref 61)), (6, .inr (.inl 76), .inl (.ref 61))]) jm_ok191 (by decide +kernel) (by decide +kernel) hd F X1 X2 (fun F' hF hs => ?_)
  have b70 := hd_b (F := F) (F' := F') (k := 70) (hF 70 (by decide))
  have b69 := hd_b (F := F) (F' := F') (k := 69) (hF 69 (by decide))
  have t72 : sy_dv F' (.inr (.inl 72)) = .int (((14 : Int32)) + (sy_i F 69)) := hd_o (hs 1 _ rfl) rfl b69 rfl
  have t74 : sy_dv F' (.inr (.inl 74)) = .int (((21 : Int32)) + (sy_i F 69)) := hd_o (hs 3 _ rfl) rfl b69 rfl
  have t76 : sy_dv F' (.inr (.inl 76)) = .int (((53 : Int32)) + (sy_i F 70)) := hd_o (hs 5 _ rfl) rfl b70 rfl
  have a55 := hd_ba (F := F) (F' := F') (k := 55) (hF 55 (by decide))
  have t73 : sy_da F' (.inr (.inl 73)) = .inl (jm_upd (sy_ai F 55) (((14 : Int32)) + (sy_i F 69)).toNatClampNeg ((2 : Int32))) := hd_up (hs 2 _ rfl) t72 rfl a55
  have t75 : sy_da F' (.inr (.inl 75)) = .inl (jm_upd (jm_upd (sy_ai F 55) (((14 : Int32)) + (sy_i F 69)).toNatClampNeg ((2 : Int32))) (((21 : Int32)) + (sy_i F 69)).toNatClampNeg (sy_i F 70)) := hd_up (hs 4 _ rfl) t74 b70 t73
  have t77 : sy_dv F' (.inr (.inl 77)) = .int ((jm_upd (jm_upd (sy_ai F 55) (((14 : Int32)) + (sy_i F 69)).toNatClampNeg ((2 : Int32))) (((21 : Int32)) + (sy_i F 69)).toNatClampNeg (sy_i F 70)).getD (((53 : Int32)) + (sy_i F 70)).toNatClampNeg 0) := hd_rd (hs 6 _ rfl) t76 t75
  have a58 := hd_ba (F := F) (F' := F') (k := 58) (hF 58 (by decide))
  have t71 : sy_dv F' (.inr (.inl 71)) = .int ((sy_ai F 58).getD (sy_i F 69).toNatClampNeg 0) := hd_rd (hs 0 _ rfl) b69 a58
  have t78 : sy_dv F' (.inr (.inl 78)) = .int (((jm_upd (jm_upd (sy_ai F 55) (((14 : Int32)) + (sy_i F 69)).toNatClampNeg ((2 : Int32))) (((21 : Int32)) + (sy_i F 69)).toNatClampNeg (sy_i F 70)).getD (((53 : Int32)) + (sy_i F 70)).toNatClampNeg 0) - ((sy_ai F 58).getD (sy_i F 69).toNatClampNeg 0)) := hd_o (hs 7 _ rfl) t77 t71 rfl
  have t79 : sy_da F' (.inr (.inl 79)) = .inl (jm_upd (jm_upd (jm_upd (sy_ai F 55) (((14 : Int32)) + (sy_i F 69)).toNatClampNeg ((2 : Int32))) (((21 : Int32)) + (sy_i F 69)).toNatClampNeg (sy_i F 70)) (((53 : Int32)) + (sy_i F 70)).toNatClampNeg (((jm_upd (jm_upd (sy_ai F 55) (((14 : Int32)) + (sy_i F 69)).toNatClampNeg ((2 : Int32))) (((21 : Int32)) + (sy_i F 69)).toNatClampNeg (sy_i F 70)).getD (((53 : Int32)) + (sy_i F 70)).toNatClampNeg 0) - ((sy_ai F 58).getD (sy_i F 69).toNatClampNeg 0))) := hd_up (hs 8 _ rfl) t76 t78 t75
  have hB' : iv_in F' iv_B4 := iv_in_eq hB (fun j hj => hF j (Nat.lt_of_lt_of_le hj (by decide +kernel)))
  refine ⟨List.forall_mem_cons.mpr ⟨hd_p3 b70 rfl (by have hc : ((0) : Int32).toInt = 0 := (by decide); omega), List.forall_mem_cons.mpr ⟨hd_pb b69 (by first | exact h1 | exact h1), List.forall_mem_cons.mpr ⟨hd_pb t72 (by first | exact h2 | exact h2), List.forall_mem_cons.mpr ⟨hd_pb t74 (by first | exact h3 | exact h3), List.forall_mem_cons.mpr ⟨hd_pb t76 (by first | exact h4 | exact h4), List.forall_mem_cons.mpr ⟨hd_pb t76 (by first | exact h5 | exact h5), fun _ h => absurd h List.not_mem_nil⟩⟩⟩⟩⟩⟩, ?_⟩
  refine k _ ?_ ?_ ?_
  · exact fun j hj hn => (hd_keep hB' (Nat.lt_of_lt_of_le hj (by decide +kernel)) (by simp; omega)).trans (hF j (Nat.lt_of_lt_of_le hj (by decide)))
  · exact hd_gi (x := .inl (.int 1)) (by decide +kernel) rfl
  · exact hd_ga (a := .inr (.inl 79)) (by decide +kernel) t79
theorem yfa_11 {Ls : Nat} {xs : Nat → Int32} {d : Nat} {Q : Option Value → jm_h → Prop} (hd : 2 ≤ d) (F : Nat → sy_d) (X1 X2 : List jm_c) (hB : iv_in F iv_B4)
    (a69 : 0 ≤ (sy_i F 69).toInt ∧ (sy_i F 69).toInt ≤ 6)
    (a70 : (-2) ≤ (sy_i F 70).toInt ∧ (sy_i F 70).toInt ≤ 3)
    (k0 : (sy_i F 70).toInt < 0 → 0 ≤ (((jm_upd (sy_ai F 55) ((14 + (sy_i F 69).toInt)).toNat ((1 : Int32))).getD ((sy_i F 69).toInt).toNat 0) + ((sy_ai F 59).getD ((sy_i F 69).toInt).toNat 0)).toInt → (((jm_upd (sy_ai F 55) ((14 + (sy_i F 69).toInt)).toNat ((1 : Int32))).getD ((sy_i F 69).toInt).toNat 0) + ((sy_ai F 59).getD ((sy_i F 69).toInt).toNat 0)).toInt ≤ 9 → ∀ F1 : Nat → sy_d, iv_in F1 iv_B4 → (∀ j, j < 69 → j ∉ ([55] : List Nat) → F1 j = F j) → sy_ai F1 55 = jm_upd (jm_upd (sy_ai F 55) ((14 + (sy_i F 69).toInt)).toNat ((1 : Int32))) ((sy_i F 69).toInt).toNat (((jm_upd (sy_ai F 55) ((14 + (sy_i F 69).toInt)).toNat ((1 : Int32))).getD ((sy_i F 69).toInt).toNat 0) + ((sy_ai F 59).getD ((sy_i F 69).toInt).toNat 0)) → Q (none) (sy_dh F1 X1 X2 (iv_H 4)))
    (k1 : (sy_i F 70).toInt < 0 → 0 ≤ (((jm_upd (sy_ai F 55) ((14 + (sy_i F 69).toInt)).toNat ((1 : Int32))).getD ((sy_i F 69).toInt).toNat 0) + ((sy_ai F 59).getD ((sy_i F 69).toInt).toNat 0)).toInt → 9 < (((jm_upd (sy_ai F 55) ((14 + (sy_i F 69).toInt)).toNat ((1 : Int32))).getD ((sy_i F 69).toInt).toNat 0) + ((sy_ai F 59).getD ((sy_i F 69).toInt).toNat 0)).toInt → ∀ F1 : Nat → sy_d, iv_in F1 iv_B4 → (∀ j, j < 69 → j ∉ ([55] : List Nat) → F1 j = F j) → sy_ai F1 55 = jm_upd (jm_upd (sy_ai F 55) ((14 + (sy_i F 69).toInt)).toNat ((1 : Int32))) ((sy_i F 69).toInt).toNat ((9 : Int32)) → Q (none) (sy_dh F1 X1 X2 (iv_H 4)))
    (k2 : (sy_i F 70).toInt < 0 → (((jm_upd (sy_ai F 55) ((14 + (sy_i F 69).toInt)).toNat ((1 : Int32))).getD ((sy_i F 69).toInt).toNat 0) + ((sy_ai F 59).getD ((sy_i F 69).toInt).toNat 0)).toInt < 0 → ∀ F1 : Nat → sy_d, iv_in F1 iv_B4 → (∀ j, j < 69 → j ∉ ([55] : List Nat) → F1 j = F j) → sy_ai F1 55 = jm_upd (jm_upd (sy_ai F 55) ((14 + (sy_i F 69).toInt)).toNat ((1 : Int32))) ((sy_i F 69).toInt).toNat ((0 : Int32)) → Q (none) (sy_dh F1 X1 X2 (iv_H 4)))
    (k3 : 0 ≤ (sy_i F 70).toInt → ∀ F1 : Nat → sy_d, iv_in F1 iv_B4 → (∀ j, j < 69 → j ∉ ([19, 55] : List Nat) → F1 j = F j) → (sy_i F1 19).toInt = 1 → sy_i F1 19 = (1 : Int32) → sy_ai F1 55 = jm_upd (jm_upd (jm_upd (sy_ai F 55) ((14 + (sy_i F 69).toInt)).toNat ((2 : Int32))) ((21 + (sy_i F 69).toInt)).toNat (sy_i F 70)) ((53 + (sy_i F 70).toInt)).toNat (((jm_upd (jm_upd (sy_ai F 55) ((14 + (sy_i F 69).toInt)).toNat ((2 : Int32))) ((21 + (sy_i F 69).toInt)).toNat (sy_i F 70)).getD ((53 + (sy_i F 70).toInt)).toNat 0) - ((sy_ai F 58).getD ((sy_i F 69).toInt).toNat 0)) → Q (none) (sy_dh F1 X1 X2 (iv_H 4))) :
    hd_W Ls xs d jm_M191 Q (11, sy_dL F [some (.inl (.ref 1000)), some (.inr (.inl 69)), none], sy_dS F [.inr (.inl 70)], sy_dh F X1 X2 (iv_H 4), 0, 0) := by
  by_cases g0 : (sy_i F 70).toInt < 0
  · by_cases g1 : 0 ≤ (((jm_upd (sy_ai F 55) ((14 + (sy_i F 69).toInt)).toNat ((1 : Int32))).getD ((sy_i F 69).toInt).toNat 0) + ((sy_ai F 59).getD ((sy_i F 69).toInt).toNat 0)).toInt
    · by_cases g2 : (((jm_upd (sy_ai F 55) ((14 + (sy_i F 69).toInt)).toNat ((1 : Int32))).getD ((sy_i F 69).toInt).toNat 0) + ((sy_ai F 59).getD ((sy_i F 69).toInt).toNat 0)).toInt ≤ 9
      · have n71 : nzI (((14 : Int32)) + (sy_i F 69)) ((14 + (sy_i F 69).toInt)) := nz_add (by decide : ((14 : Int32)).toInt = 14) (rfl : (sy_i F 69).toInt = (sy_i F 69).toInt) (by omega) (by omega)
        have q75 : ((jm_upd (sy_ai F 55) (((14 : Int32)) + (sy_i F 69)).toNatClampNeg ((1 : Int32))).getD (sy_i F 69).toNatClampNeg 0) + ((sy_ai F 59).getD (sy_i F 69).toNatClampNeg 0) = ((jm_upd (sy_ai F 55) ((14 + (sy_i F 69).toInt)).toNat ((1 : Int32))).getD ((sy_i F 69).toInt).toNat 0) + ((sy_ai F 59).getD ((sy_i F 69).toInt).toNat 0) := by simp only [nz_c, (nzE n71), (by decide : ((1 : Int32)).toInt = 1), (by decide : ((14 : Int32)).toInt = 14)]
        have n75 : nzI (((jm_upd (sy_ai F 55) (((14 : Int32)) + (sy_i F 69)).toNatClampNeg ((1 : Int32))).getD (sy_i F 69).toNatClampNeg 0) + ((sy_ai F 59).getD (sy_i F 69).toNatClampNeg 0)) ((((jm_upd (sy_ai F 55) ((14 + (sy_i F 69).toInt)).toNat ((1 : Int32))).getD ((sy_i F 69).toInt).toNat 0) + ((sy_ai F 59).getD ((sy_i F 69).toInt).toNat 0)).toInt) := congrArg Int32.toInt q75
        have w76 : jm_upd (jm_upd (sy_ai F 55) (((14 : Int32)) + (sy_i F 69)).toNatClampNeg ((1 : Int32))) (sy_i F 69).toNatClampNeg (((jm_upd (sy_ai F 55) (((14 : Int32)) + (sy_i F 69)).toNatClampNeg ((1 : Int32))).getD (sy_i F 69).toNatClampNeg 0) + ((sy_ai F 59).getD (sy_i F 69).toNatClampNeg 0)) = jm_upd (jm_upd (sy_ai F 55) ((14 + (sy_i F 69).toInt)).toNat ((1 : Int32))) ((sy_i F 69).toInt).toNat (((jm_upd (sy_ai F 55) ((14 + (sy_i F 69).toInt)).toNat ((1 : Int32))).getD ((sy_i F 69).toInt).toNat 0) + ((sy_ai F 59).getD ((sy_i F 69).toInt).toNat 0)) := by simp only [nz_c, (nzE n71), (by decide : ((1 : Int32)).toInt = 1), (by decide : ((14 : Int32)).toInt = 14)]
        exact yfa_11_p0 hd F X1 X2 hB (by first | exact g0 | (simp only [nz_c]; exact g0)) (by first | (simp only [nz_c, (nzE n71)]; exact ⟨by omega, by omega⟩) | exact ⟨by omega, by omega⟩ | (rw [(nzE n71)]; exact ⟨by omega, by omega⟩)) (by first | exact ⟨by omega, by omega⟩ | (simp only [nz_c]; exact ⟨by omega, by omega⟩)) (by first | exact ⟨by omega, by omega⟩ | (simp only [nz_c]; exact ⟨by omega, by omega⟩)) (by first | (simp only [nz_c, (nzE n71)]; exact g1) | exact g1 | (rw [(nzE n75)]; exact g1)) (by first | (simp only [nz_c, (nzE n71)]; exact g2) | exact g2 | (rw [(nzE n75)]; exact g2)) (by first | exact ⟨by omega, by omega⟩ | (simp only [nz_c]; exact ⟨by omega, by omega⟩)) (fun F1 g e55 => k0 g0 g1 g2 F1 (nz_in hB [55] (fun j hj hn => g j hj (by simp only [List.mem_cons, List.not_mem_nil, or_false, not_or] at hn; omega)) (List.forall_mem_cons.mpr ⟨fun t ht => (Option.some.inj ht) ▸ (nz_hz2 e55), List.forall_mem_nil _⟩)) (fun j hj hn => g j hj (by simp only [List.mem_cons, List.not_mem_nil, or_false, not_or] at hn; omega)) ((zz_ai e55).trans w76))
      replace g2 : 9 < (((jm_upd (sy_ai F 55) ((14 + (sy_i F 69).toInt)).toNat ((1 : Int32))).getD ((sy_i F 69).toInt).toNat 0) + ((sy_ai F 59).getD ((sy_i F 69).toInt).toNat 0)).toInt := by omega
      have n71 : nzI (((14 : Int32)) + (sy_i F 69)) ((14 + (sy_i F 69).toInt)) := nz_add (by decide : ((14 : Int32)).toInt = 14) (rfl : (sy_i F 69).toInt = (sy_i F 69).toInt) (by omega) (by omega)
      have q75 : ((jm_upd (sy_ai F 55) (((14 : Int32)) + (sy_i F 69)).toNatClampNeg ((1 : Int32))).getD (sy_i F 69).toNatClampNeg 0) + ((sy_ai F 59).getD (sy_i F 69).toNatClampNeg 0) = ((jm_upd (sy_ai F 55) ((14 + (sy_i F 69).toInt)).toNat ((1 : Int32))).getD ((sy_i F 69).toInt).toNat 0) + ((sy_ai F 59).getD ((sy_i F 69).toInt).toNat 0) := by simp only [nz_c, (nzE n71), (by decide : ((1 : Int32)).toInt = 1), (by decide : ((14 : Int32)).toInt = 14)]
      have n75 : nzI (((jm_upd (sy_ai F 55) (((14 : Int32)) + (sy_i F 69)).toNatClampNeg ((1 : Int32))).getD (sy_i F 69).toNatClampNeg 0) + ((sy_ai F 59).getD (sy_i F 69).toNatClampNeg 0)) ((((jm_upd (sy_ai F 55) ((14 + (sy_i F 69).toInt)).toNat ((1 : Int32))).getD ((sy_i F 69).toInt).toNat 0) + ((sy_ai F 59).getD ((sy_i F 69).toInt).toNat 0)).toInt) := congrArg Int32.toInt q75
      have w76 : jm_upd (jm_upd (sy_ai F 55) (((14 : Int32)) + (sy_i F 69)).toNatClampNeg ((1 : Int32))) (sy_i F 69).toNatClampNeg ((9 : Int32)) = jm_upd (jm_upd (sy_ai F 55) ((14 + (sy_i F 69).toInt)).toNat ((1 : Int32))) ((sy_i F 69).toInt).toNat ((9 : Int32)) := by simp only [nz_c, (nzE n71), (by decide : ((1 : Int32)).toInt = 1), (by decide : ((9 : Int32)).toInt = 9), (by decide : ((14 : Int32)).toInt = 14)]
      exact yfa_11_p1 hd F X1 X2 hB (by first | exact g0 | (simp only [nz_c]; exact g0)) (by first | (simp only [nz_c, (nzE n71)]; exact ⟨by omega, by omega⟩) | exact ⟨by omega, by omega⟩ | (rw [(nzE n71)]; exact ⟨by omega, by omega⟩)) (by first | exact ⟨by omega, by omega⟩ | (simp only [nz_c]; exact ⟨by omega, by omega⟩)) (by first | exact ⟨by omega, by omega⟩ | (simp only [nz_c]; exact ⟨by omega, by omega⟩)) (by first | (simp only [nz_c, (nzE n71)]; exact g1) | exact g1 | (rw [(nzE n75)]; exact g1)) (by first | (simp only [nz_c, (nzE n71)]; exact g2) | exact g2 | (rw [(nzE n75)]; exact g2)) (by first | exact ⟨by omega, by omega⟩ | (simp only [nz_c]; exact ⟨by omega, by omega⟩)) (fun F1 g e55 => k1 g0 g1 g2 F1 (nz_in hB [55] (fun j hj hn => g j hj (by simp only [List.mem_cons, List.not_mem_nil, or_false, not_or] at hn; omega)) (List.forall_mem_cons.mpr ⟨fun t ht => (Option.some.inj ht) ▸ (nz_hz2 e55), List.forall_mem_nil _⟩)) (fun j hj hn => g j hj (by simp only [List.mem_cons, List.not_mem_nil, or_false, not_or] at hn; omega)) ((zz_ai e55).trans w76))
    replace g1 : (((jm_upd (sy_ai F 55) ((14 + (sy_i F 69).toInt)).toNat ((1 : Int32))).getD ((sy_i F 69).toInt).toNat 0) + ((sy_ai F 59).getD ((sy_i F 69).toInt).toNat 0)).toInt < 0 := by omega
    have n71 : nzI (((14 : Int32)) + (sy_i F 69)) ((14 + (sy_i F 69).toInt)) := nz_add (by decide : ((14 : Int32)).toInt = 14) (rfl : (sy_i F 69).toInt = (sy_i F 69).toInt) (by omega) (by omega)
    have q75 : ((jm_upd (sy_ai F 55) (((14 : Int32)) + (sy_i F 69)).toNatClampNeg ((1 : Int32))).getD (sy_i F 69).toNatClampNeg 0) + ((sy_ai F 59).getD (sy_i F 69).toNatClampNeg 0) = ((jm_upd (sy_ai F 55) ((14 + (sy_i F 69).toInt)).toNat ((1 : Int32))).getD ((sy_i F 69).toInt).toNat 0) + ((sy_ai F 59).getD ((sy_i F 69).toInt).toNat 0) := by simp only [nz_c, (nzE n71), (by decide : ((1 : Int32)).toInt = 1), (by decide : ((14 : Int32)).toInt = 14)]
    have n75 : nzI (((jm_upd (sy_ai F 55) (((14 : Int32)) + (sy_i F 69)).toNatClampNeg ((1 : Int32))).getD (sy_i F 69).toNatClampNeg 0) + ((sy_ai F 59).getD (sy_i F 69).toNatClampNeg 0)) ((((jm_upd (sy_ai F 55) ((14 + (sy_i F 69).toInt)).toNat ((1 : Int32))).getD ((sy_i F 69).toInt).toNat 0) + ((sy_ai F 59).getD ((sy_i F 69).toInt).toNat 0)).toInt) := congrArg Int32.toInt q75
    have w76 : jm_upd (jm_upd (sy_ai F 55) (((14 : Int32)) + (sy_i F 69)).toNatClampNeg ((1 : Int32))) (sy_i F 69).toNatClampNeg ((0 : Int32)) = jm_upd (jm_upd (sy_ai F 55) ((14 + (sy_i F 69).toInt)).toNat ((1 : Int32))) ((sy_i F 69).toInt).toNat ((0 : Int32)) := by simp only [nz_c, (nzE n71), (by decide : ((0 : Int32)).toInt = 0), (by decide : ((1 : Int32)).toInt = 1), (by decide : ((14 : Int32)).toInt = 14)]
    exact yfa_11_p2 hd F X1 X2 hB (by first | exact g0 | (simp only [nz_c]; exact g0)) (by first | (simp only [nz_c, (nzE n71)]; exact ⟨by omega, by omega⟩) | exact ⟨by omega, by omega⟩ | (rw [(nzE n71)]; exact ⟨by omega, by omega⟩)) (by first | exact ⟨by omega, by omega⟩ | (simp only [nz_c]; exact ⟨by omega, by omega⟩)) (by first | exact ⟨by omega, by omega⟩ | (simp only [nz_c]; exact ⟨by omega, by omega⟩)) (by first | (simp only [nz_c, (nzE n71)]; exact g1) | exact g1 | (rw [(nzE n75)]; exact g1)) (by first | exact ⟨by omega, by omega⟩ | (simp only [nz_c]; exact ⟨by omega, by omega⟩)) (fun F1 g e55 => k2 g0 g1 F1 (nz_in hB [55] (fun j hj hn => g j hj (by simp only [List.mem_cons, List.not_mem_nil, or_false, not_or] at hn; omega)) (List.forall_mem_cons.mpr ⟨fun t ht => (Option.some.inj ht) ▸ (nz_hz2 e55), List.forall_mem_nil _⟩)) (fun j hj hn => g j hj (by simp only [List.mem_cons, List.not_mem_nil, or_false, not_or] at hn; omega)) ((zz_ai e55).trans w76))
  replace g0 : 0 ≤ (sy_i F 70).toInt := by omega
  have n72 : nzI (((14 : Int32)) + (sy_i F 69)) ((14 + (sy_i F 69).toInt)) := nz_add (by decide : ((14 : Int32)).toInt = 14) (rfl : (sy_i F 69).toInt = (sy_i F 69).toInt) (by omega) (by omega)
  have n74 : nzI (((21 : Int32)) + (sy_i F 69)) ((21 + (sy_i F 69).toInt)) := nz_add (by decide : ((21 : Int32)).toInt = 21) (rfl : (sy_i F 69).toInt = (sy_i F 69).toInt) (by omega) (by omega)
  have n76 : nzI (((53 : Int32)) + (sy_i F 70)) ((53 + (sy_i F 70).toInt)) := nz_add (by decide : ((53 : Int32)).toInt = 53) (rfl : (sy_i F 70).toInt = (sy_i F 70).toInt) (by omega) (by omega)
  have w79 : jm_upd (jm_upd (jm_upd (sy_ai F 55) (((14 : Int32)) + (sy_i F 69)).toNatClampNeg ((2 : Int32))) (((21 : Int32)) + (sy_i F 69)).toNatClampNeg (sy_i F 70)) (((53 : Int32)) + (sy_i F 70)).toNatClampNeg (((jm_upd (jm_upd (sy_ai F 55) (((14 : Int32)) + (sy_i F 69)).toNatClampNeg ((2 : Int32))) (((21 : Int32)) + (sy_i F 69)).toNatClampNeg (sy_i F 70)).getD (((53 : Int32)) + (sy_i F 70)).toNatClampNeg 0) - ((sy_ai F 58).getD (sy_i F 69).toNatClampNeg 0)) = jm_upd (jm_upd (jm_upd (sy_ai F 55) ((14 + (sy_i F 69).toInt)).toNat ((2 : Int32))) ((21 + (sy_i F 69).toInt)).toNat (sy_i F 70)) ((53 + (sy_i F 70).toInt)).toNat (((jm_upd (jm_upd (sy_ai F 55) ((14 + (sy_i F 69).toInt)).toNat ((2 : Int32))) ((21 + (sy_i F 69).toInt)).toNat (sy_i F 70)).getD ((53 + (sy_i F 70).toInt)).toNat 0) - ((sy_ai F 58).getD ((sy_i F 69).toInt).toNat 0)) := by simp only [nz_c, (nzE n72), (nzE n74), (nzE n76), (by decide : ((2 : Int32)).toInt = 2), (by decide : ((14 : Int32)).toInt = 14), (by decide : ((21 : Int32)).toInt = 21), (by decide : ((53 : Int32)).toInt = 53)]
  exact yfa_11_p3 hd F X1 X2 hB (by first | exact g0 | (simp only [nz_c]; exact g0)) (by first | exact ⟨by omega, by omega⟩ | (simp only [nz_c]; exact ⟨by omega, by omega⟩)) (by first | (simp only [nz_c, (nzE n72)]; exact ⟨by omega, by omega⟩) | exact ⟨by omega, by omega⟩ | (rw [(nzE n72)]; exact ⟨by omega, by omega⟩)) (by first | (simp only [nz_c, (nzE n74)]; exact ⟨by omega, by omega⟩) | exact ⟨by omega, by omega⟩ | (rw [(nzE n74)]; exact ⟨by omega, by omega⟩)) (by first | (simp only [nz_c, (nzE n76)]; exact ⟨by omega, by omega⟩) | exact ⟨by omega, by omega⟩ | (rw [(nzE n76)]; exact ⟨by omega, by omega⟩)) (by first | (simp only [nz_c, (nzE n76)]; exact ⟨by omega, by omega⟩) | exact ⟨by omega, by omega⟩ | (rw [(nzE n76)]; exact ⟨by omega, by omega⟩)) (fun F1 g e19 e55 => k3 g0 F1 (nz_in hB [19, 55] (fun j hj hn => g j hj (by simp only [List.mem_cons, List.not_mem_nil, or_false, not_or] at hn; omega)) (List.forall_mem_cons.mpr ⟨fun t ht => (Option.some.inj ht) ▸ (nz_hi e19 (by decide : ((1 : Int32)).toInt = 1) (by omega) (by omega)), List.forall_mem_cons.mpr ⟨fun t ht => (Option.some.inj ht) ▸ (nz_hz2 e55), List.forall_mem_nil _⟩⟩)) (fun j hj hn => g j hj (by simp only [List.mem_cons, List.not_mem_nil, or_false, not_or] at hn; omega)) ((congrArg Int32.toInt (zz_i e19)).trans (by decide : ((1 : Int32)).toInt = 1)) ((zz_i e19).trans (rfl : (1 : Int32) = (1 : Int32))) ((zz_ai e55).trans w79))
theorem ylo_0_p0 {Ls : Nat} {xs : Nat → Int32} {d : Nat} {Q : Option Value → jm_h → Prop} (hd : 1 ≤ d) (F : Nat → sy_d) (X1 X2 : List jm_c) (hB : iv_in F iv_B4)
    (k : ∀ F1 : Nat → sy_d, (∀ j, j < 69 → True → F1 j = F j) → hd_W Ls xs d jm_M189 Q (2, sy_dL F1 [some (.inl (.ref 1000)), none, none, none, none], sy_dS F1 [.inl (.int 0), .inl (.ref 1000)], sy_dh F1 X1 X2 (iv_H 4), 0, 0)) :
    hd_W Ls xs d jm_M189 Q (0, sy_dL F [some (.inl (.ref 1000)), none, none, none, none], sy_dS F [], sy_dh F X1 X2 (iv_H 4), 0, 0) := by
  refine hd_run (s := 4) (nv := 69) (pc := 2) (L := [some (.inl (.ref 1000)), none, none, none, none]) (S := [.inl (.int 0), .inl (.ref 1000)]) (uh := hd_ov (iv_id 0 iv_B4) []) (ul := []) (f := true) (sp := [2]) (d0 := 0) (O := []) (T := []) (P := []) jm_ok189 (by decide +kernel) (by decide +kernel) hd F X1 X2 (fun F' hF hs => ?_)
  have hB' : iv_in F' iv_B4 := iv_in_eq hB (fun j hj => hF j (Nat.lt_of_lt_of_le hj (by decide +kernel)))
  refine ⟨fun _ h => absurd h List.not_mem_nil, ?_⟩
  refine k _ ?_
  · exact fun j hj _ => (hd_keep hB' (Nat.lt_of_lt_of_le hj (by decide +kernel)) (by simp)).trans (hF j (Nat.lt_of_lt_of_le hj (by decide)))
theorem ylo_0 {Ls : Nat} {xs : Nat → Int32} {d : Nat} {Q : Option Value → jm_h → Prop} (hd : 1 ≤ d) (F : Nat → sy_d) (X1 X2 : List jm_c) (hB : iv_in F iv_B4)
    (k0 : ∀ F1 : Nat → sy_d, iv_in F1 iv_B4 → (∀ j, j < 69 → j ∉ ([] : List Nat) → F1 j = F j) → hd_W Ls xs d jm_M189 Q (2, sy_dL F1 [some (.inl (.ref 1000)), none, none, none, none], sy_dS F1 [.inl (.int 0), .inl (.ref 1000)], sy_dh F1 X1 X2 (iv_H 4), 0, 0)) :
    hd_W Ls xs d jm_M189 Q (0, sy_dL F [some (.inl (.ref 1000)), none, none, none, none], sy_dS F [], sy_dh F X1 X2 (iv_H 4), 0, 0) := by
  exact ylo_0_p0 hd F X1 X2 hB  (fun F1 g  => k0 F1 (nz_in hB [] (fun j hj hn => g j hj (by simp only [List.mem_cons, List.not_mem_nil, or_false, not_or] at hn; exact trivial)) (List.forall_mem_nil _)) (fun j hj hn => g j hj (by simp only [List.mem_cons, List.not_mem_nil, or_false, not_or] at hn; exact trivial)) )
theorem ylo_5_p0 {Ls : Nat} {xs : Nat → Int32} {d : Nat} {Q : Option Value → jm_h → Prop} (hd : 2 ≤ d) (F : Nat → sy_d) (X1 X2 : List jm_c) (hB : iv_in F iv_B4)
    (k : ∀ F1 : Nat → sy_d, (∀ j, j < 69 → True → F1 j = F j) → F1 69 = .inl (.int (((((((((0 : Int32)) + (((sy_i F 69) >>> (((0 : Int32)) &&& 31)) &&& ((1 : Int32)))) + (((sy_i F 69) >>> (((1 : Int32)) &&& 31)) &&& ((1 : Int32)))) + (((sy_i F 69) >>> (((2 : Int32)) &&& 31)) &&& ((1 : Int32)))) + (((sy_i F 69) >>> (((3 : Int32)) &&& 31)) &&& ((1 : Int32)))) + (((sy_i F 69) >>> (((4 : Int32)) &&& 31)) &&& ((1 : Int32)))) + (((sy_i F 69) >>> (((5 : Int32)) &&& 31)) &&& ((1 : Int32)))) + (((sy_i F 69) >>> (((6 : Int32)) &&& 31)) &&& ((1 : Int32))))) → F1 70 = .inl (.int ((sy_ai F 55).getD ((57 : Int32)).toNatClampNeg 0)) → hd_W Ls xs d jm_M189 Q (20, sy_dL F1 [some (.inl (.ref 1000)), some (.inr (.inl 69)), some (.inr (.inl 70)), none, none], sy_dS F1 [.inr (.inl 69), .inr (.inl 70), .inl (.ref 1000)], sy_dh F1 X1 X2 (iv_H 4), 0, 0)) :
    hd_W Ls xs d jm_M189 Q (5, sy_dL F [some (.inl (.ref 1000)), none, none, none, none], sy_dS F [.inr (.inl 69)], sy_dh F X1 X2 (iv_H 4), 0, 0) := by
  refine hd_run (s := 4) (nv := 70) (pc := 20) (L := [some (.inl (.ref 1000)), some (.inr (.inl 69)), some (.inr (.inl 70)), none, none]) (S := [.inr (.inl 69), .inr (.inl 70), .inl (.ref 1000)]) (uh := hd_ov (iv_id 0 iv_B4) []) (ul := [.inl (.inr (.inl 90)), .inl (.inr (.inl 91))]) (f := false) (sp := [20]) (d0 := 1) (O := []) (T := [(7, [.inr (.inl 69), .inl (.int 0)], []), (3, [.inr (.inl 70), .inl (.int 1)], []), (0, [.inl (.int 0), .inr (.inl 71)], []), (7, [.inr (.inl 69), .inl (.int 1)], []), (3, [.inr (.inl 73), .inl (.int 1)], []), (0, [.inr (.inl 72), .inr (.inl 74)], []), (7, [.inr (.inl 69), .inl (.int 2)], []), (3, [.inr (.inl 76), .inl (.int 1)], []), (0, [.inr (.inl 75), .inr (.inl 77)], []), (7, [.inr (.inl 69), .inl (.int 3)], []), (3, [.inr (.inl 79), .inl (.int 1)], []), (0, [.inr (.inl 78), .inr (.inl 80)], []), (7, [.inr (.inl 69), .inl (.int 4)], []), (3, [.inr (.inl 82), .inl (.int 1)], []), (0, [.inr (.inl 81), .inr (.inl 83)], []), (7, [.inr (.inl 69), .inl (.int 5)], []), (3, [.inr (.inl 85), .inl (.int 1)], []), (0, [.inr (.inl 84), .inr (.inl 86)], []), (7, [.inr (.inl 69), .inl (.int 6)], []), (3, [.inr (.inl 88), .inl (.int 1)], []), (0, [.inr (.inl 87), .inr (.inl 89)], []), (30, [.inl (.int 57)], [.inr (.inl 55)])]) (P := []) jm_ok189 (by decide +kernel) (by decide +kernel) hd F X1 X2 (fun F' hF hs => ?_)
  have b69 := hd_b (F := F) (F' := F') (k := 69) (hF 69 (by decide))
  have t70 : sy_dv F' (.inr (.inl 70)) = .int ((sy_i F 69) >>> (((0 : Int32)) &&& 31)) := hd_o (hs 0 _ rfl) b69 rfl rfl
  have t71 : sy_dv F' (.inr (.inl 71)) = .int (((sy_i F 69) >>> (((0 : Int32)) &&& 31)) &&& ((1 : Int32))) := hd_o (hs 1 _ rfl) t70 rfl rfl
  have t72 : sy_dv F' (.inr (.inl 72)) = .int (((0 : Int32)) + (((sy_i F 69) >>> (((0 : Int32)) &&& 31)) &&& ((1 : Int32)))) := hd_o (hs 2 _ rfl) rfl t71 rfl
  have t73 : sy_dv F' (.inr (.inl 73)) = .int ((sy_i F 69) >>> (((1 : Int32)) &&& 31)) := hd_o (hs 3 _ rfl) b69 rfl rfl
  have t74 : sy_dv F' (.inr (.inl 74)) = .int (((sy_i F 69) >>> (((1 : Int32)) &&& 31)) &&& ((1 : Int32))) := hd_o (hs 4 _ rfl) t73 rfl rfl
  have t75 : sy_dv F' (.inr (.inl 75)) = .int ((((0 : Int32)) + (((sy_i F 69) >>> (((0 : Int32)) &&& 31)) &&& ((1 : Int32)))) + (((sy_i F 69) >>> (((1 : Int32)) &&& 31)) &&& ((1 : Int32)))) := hd_o (hs 5 _ rfl) t72 t74 rfl
  have t76 : sy_dv F' (.inr (.inl 76)) = .int ((sy_i F 69) >>> (((2 : Int32)) &&& 31)) := hd_o (hs 6 _ rfl) b69 rfl rfl
  have t77 : sy_dv F' (.inr (.inl 77)) = .int (((sy_i F 69) >>> (((2 : Int32)) &&& 31)) &&& ((1 : Int32))) := hd_o (hs 7 _ rfl) t76 rfl rfl
  have t78 : sy_dv F' (.inr (.inl 78)) = .int (((((0 : Int32)) + (((sy_i F 69) >>> (((0 : Int32)) &&& 31)) &&& ((1 : Int32)))) + (((sy_i F 69) >>> (((1 : Int32)) &&& 31)) &&& ((1 : Int32)))) + (((sy_i F 69) >>> (((2 : Int32)) &&& 31)) &&& ((1 : Int32)))) := hd_o (hs 8 _ rfl) t75 t77 rfl
  have t79 : sy_dv F' (.inr (.inl 79)) = .int ((sy_i F 69) >>> (((3 : Int32)) &&& 31)) := hd_o (hs 9 _ rfl) b69 rfl rfl
  have t80 : sy_dv F' (.inr (.inl 80)) = .int (((sy_i F 69) >>> (((3 : Int32)) &&& 31)) &&& ((1 : Int32))) := hd_o (hs 10 _ rfl) t79 rfl rfl
  have t81 : sy_dv F' (.inr (.inl 81)) = .int ((((((0 : Int32)) + (((sy_i F 69) >>> (((0 : Int32)) &&& 31)) &&& ((1 : Int32)))) + (((sy_i F 69) >>> (((1 : Int32)) &&& 31)) &&& ((1 : Int32)))) + (((sy_i F 69) >>> (((2 : Int32)) &&& 31)) &&& ((1 : Int32)))) + (((sy_i F 69) >>> (((3 : Int32)) &&& 31)) &&& ((1 : Int32)))) := hd_o (hs 11 _ rfl) t78 t80 rfl
  have t82 : sy_dv F' (.inr (.inl 82)) = .int ((sy_i F 69) >>> (((4 : Int32)) &&& 31)) := hd_o (hs 12 _ rfl) b69 rfl rfl
  have t83 : sy_dv F' (.inr (.inl 83)) = .int (((sy_i F 69) >>> (((4 : Int32)) &&& 31)) &&& ((1 : Int32))) := hd_o (hs 13 _ rfl) t82 rfl rfl
  have t84 : sy_dv F' (.inr (.inl 84)) = .int (((((((0 : Int32)) + (((sy_i F 69) >>> (((0 : Int32)) &&& 31)) &&& ((1 : Int32)))) + (((sy_i F 69) >>> (((1 : Int32)) &&& 31)) &&& ((1 : Int32)))) + (((sy_i F 69) >>> (((2 : Int32)) &&& 31)) &&& ((1 : Int32)))) + (((sy_i F 69) >>> (((3 : Int32)) &&& 31)) &&& ((1 : Int32)))) + (((sy_i F 69) >>> (((4 : Int32)) &&& 31)) &&& ((1 : Int32)))) := hd_o (hs 14 _ rfl) t81 t83 rfl
  have t85 : sy_dv F' (.inr (.inl 85)) = .int ((sy_i F 69) >>> (((5 : Int32)) &&& 31)) := hd_o (hs 15 _ rfl) b69 rfl rfl
  have t86 : sy_dv F' (.inr (.inl 86)) = .int (((sy_i F 69) >>> (((5 : Int32)) &&& 31)) &&& ((1 : Int32))) := hd_o (hs 16 _ rfl) t85 rfl rfl
  have t87 : sy_dv F' (.inr (.inl 87)) = .int ((((((((0 : Int32)) + (((sy_i F 69) >>> (((0 : Int32)) &&& 31)) &&& ((1 : Int32)))) + (((sy_i F 69) >>> (((1 : Int32)) &&& 31)) &&& ((1 : Int32)))) + (((sy_i F 69) >>> (((2 : Int32)) &&& 31)) &&& ((1 : Int32)))) + (((sy_i F 69) >>> (((3 : Int32)) &&& 31)) &&& ((1 : Int32)))) + (((sy_i F 69) >>> (((4 : Int32)) &&& 31)) &&& ((1 : Int32)))) + (((sy_i F 69) >>> (((5 : Int32)) &&& 31)) &&& ((1 : Int32)))) := hd_o (hs 17 _ rfl) t84 t86 rfl
  have t88 : sy_dv F' (.inr (.inl 88)) = .int ((sy_i F 69) >>> (((6 : Int32)) &&& 31)) := hd_o (hs 18 _ rfl) b69 rfl rfl
  have t89 : sy_dv F' (.inr (.inl 89)) = .int (((sy_i F 69) >>> (((6 : Int32)) &&& 31)) &&& ((1 : Int32))) := hd_o (hs 19 _ rfl) t88 rfl rfl
  have t90 : sy_dv F' (.inr (.inl 90)) = .int (((((((((0 : Int32)) + (((sy_i F 69) >>> (((0 : Int32)) &&& 31)) &&& ((1 : Int32)))) + (((sy_i F 69) >>> (((1 : Int32)) &&& 31)) &&& ((1 : Int32)))) + (((sy_i F 69) >>> (((2 : Int32)) &&& 31)) &&& ((1 : Int32)))) + (((sy_i F 69) >>> (((3 : Int32)) &&& 31)) &&& ((1 : Int32)))) + (((sy_i F 69) >>> (((4 : Int32)) &&& 31)) &&& ((1 : Int32)))) + (((sy_i F 69) >>> (((5 : Int32)) &&& 31)) &&& ((1 : Int32)))) + (((sy_i F 69) >>> (((6 : Int32)) &&& 31)) &&& ((1 : Int32)))) := hd_o (hs 20 _ rfl) t87 t89 rfl
  have a55 := hd_ba (F := F) (F' := F') (k := 55) (hF 55 (by decide))
  have t91 : sy_dv F' (.inr (.inl 91)) = .int ((sy_ai F 55).getD ((57 : Int32)).toNatClampNeg 0) := hd_rd (hs 21 _ rfl) rfl a55
  have hB' : iv_in F' iv_B4 := iv_in_eq hB (fun j hj => hF j (Nat.lt_of_lt_of_le hj (by decide +kernel)))
  refine ⟨fun _ h => absurd h List.not_mem_nil, ?_⟩
  refine k _ ?_ ?_ ?_
  · exact fun j hj _ => (hd_keep hB' (Nat.lt_of_lt_of_le hj (by decide +kernel)) (by simp)).trans (hF j (Nat.lt_of_lt_of_le hj (by decide)))
  · exact hd_gi (x := .inr (.inl 90)) (by decide +kernel) t90
  · exact hd_gi (x := .inr (.inl 91)) (by decide +kernel) t91
theorem ylo_5 {Ls : Nat} {xs : Nat → Int32} {d : Nat} {Q : Option Value → jm_h → Prop} (hd : 2 ≤ d) (F : Nat → sy_d) (X1 X2 : List jm_c) (hB : iv_in F iv_B4)
    (k0 : ∀ F1 : Nat → sy_d, iv_in F1 iv_B4 → (∀ j, j < 69 → j ∉ ([] : List Nat) → F1 j = F j) → (sy_i F1 69).toInt = (((((((((0 : Int32)) + (((sy_i F 69) >>> (((0 : Int32)) &&& 31)) &&& ((1 : Int32)))) + (((sy_i F 69) >>> (((1 : Int32)) &&& 31)) &&& ((1 : Int32)))) + (((sy_i F 69) >>> (((2 : Int32)) &&& 31)) &&& ((1 : Int32)))) + (((sy_i F 69) >>> (((3 : Int32)) &&& 31)) &&& ((1 : Int32)))) + (((sy_i F 69) >>> (((4 : Int32)) &&& 31)) &&& ((1 : Int32)))) + (((sy_i F 69) >>> (((5 : Int32)) &&& 31)) &&& ((1 : Int32)))) + (((sy_i F 69) >>> (((6 : Int32)) &&& 31)) &&& ((1 : Int32)))).toInt → sy_i F1 69 = ((((((((0 : Int32)) + (((sy_i F 69) >>> (((0 : Int32)) &&& 31)) &&& ((1 : Int32)))) + (((sy_i F 69) >>> (((1 : Int32)) &&& 31)) &&& ((1 : Int32)))) + (((sy_i F 69) >>> (((2 : Int32)) &&& 31)) &&& ((1 : Int32)))) + (((sy_i F 69) >>> (((3 : Int32)) &&& 31)) &&& ((1 : Int32)))) + (((sy_i F 69) >>> (((4 : Int32)) &&& 31)) &&& ((1 : Int32)))) + (((sy_i F 69) >>> (((5 : Int32)) &&& 31)) &&& ((1 : Int32)))) + (((sy_i F 69) >>> (((6 : Int32)) &&& 31)) &&& ((1 : Int32))) → (sy_i F1 70).toInt = ((sy_ai F 55).getD (57 : Int).toNat 0).toInt → sy_i F1 70 = (sy_ai F 55).getD (57 : Int).toNat 0 → hd_W Ls xs d jm_M189 Q (20, sy_dL F1 [some (.inl (.ref 1000)), some (.inr (.inl 69)), some (.inr (.inl 70)), none, none], sy_dS F1 [.inr (.inl 69), .inr (.inl 70), .inl (.ref 1000)], sy_dh F1 X1 X2 (iv_H 4), 0, 0)) :
    hd_W Ls xs d jm_M189 Q (5, sy_dL F [some (.inl (.ref 1000)), none, none, none, none], sy_dS F [.inr (.inl 69)], sy_dh F X1 X2 (iv_H 4), 0, 0) := by
  have n90 : nzI (((((((((0 : Int32)) + (((sy_i F 69) >>> (((0 : Int32)) &&& 31)) &&& ((1 : Int32)))) + (((sy_i F 69) >>> (((1 : Int32)) &&& 31)) &&& ((1 : Int32)))) + (((sy_i F 69) >>> (((2 : Int32)) &&& 31)) &&& ((1 : Int32)))) + (((sy_i F 69) >>> (((3 : Int32)) &&& 31)) &&& ((1 : Int32)))) + (((sy_i F 69) >>> (((4 : Int32)) &&& 31)) &&& ((1 : Int32)))) + (((sy_i F 69) >>> (((5 : Int32)) &&& 31)) &&& ((1 : Int32)))) + (((sy_i F 69) >>> (((6 : Int32)) &&& 31)) &&& ((1 : Int32)))) ((((((((((0 : Int32)) + (((sy_i F 69) >>> (((0 : Int32)) &&& 31)) &&& ((1 : Int32)))) + (((sy_i F 69) >>> (((1 : Int32)) &&& 31)) &&& ((1 : Int32)))) + (((sy_i F 69) >>> (((2 : Int32)) &&& 31)) &&& ((1 : Int32)))) + (((sy_i F 69) >>> (((3 : Int32)) &&& 31)) &&& ((1 : Int32)))) + (((sy_i F 69) >>> (((4 : Int32)) &&& 31)) &&& ((1 : Int32)))) + (((sy_i F 69) >>> (((5 : Int32)) &&& 31)) &&& ((1 : Int32)))) + (((sy_i F 69) >>> (((6 : Int32)) &&& 31)) &&& ((1 : Int32)))).toInt) := congrArg Int32.toInt (rfl : ((((((((0 : Int32)) + (((sy_i F 69) >>> (((0 : Int32)) &&& 31)) &&& ((1 : Int32)))) + (((sy_i F 69) >>> (((1 : Int32)) &&& 31)) &&& ((1 : Int32)))) + (((sy_i F 69) >>> (((2 : Int32)) &&& 31)) &&& ((1 : Int32)))) + (((sy_i F 69) >>> (((3 : Int32)) &&& 31)) &&& ((1 : Int32)))) + (((sy_i F 69) >>> (((4 : Int32)) &&& 31)) &&& ((1 : Int32)))) + (((sy_i F 69) >>> (((5 : Int32)) &&& 31)) &&& ((1 : Int32)))) + (((sy_i F 69) >>> (((6 : Int32)) &&& 31)) &&& ((1 : Int32))) = ((((((((0 : Int32)) + (((sy_i F 69) >>> (((0 : Int32)) &&& 31)) &&& ((1 : Int32)))) + (((sy_i F 69) >>> (((1 : Int32)) &&& 31)) &&& ((1 : Int32)))) + (((sy_i F 69) >>> (((2 : Int32)) &&& 31)) &&& ((1 : Int32)))) + (((sy_i F 69) >>> (((3 : Int32)) &&& 31)) &&& ((1 : Int32)))) + (((sy_i F 69) >>> (((4 : Int32)) &&& 31)) &&& ((1 : Int32)))) + (((sy_i F 69) >>> (((5 : Int32)) &&& 31)) &&& ((1 : Int32)))) + (((sy_i F 69) >>> (((6 : Int32)) &&& 31)) &&& ((1 : Int32))))
  have q91 : (sy_ai F 55).getD ((57 : Int32)).toNatClampNeg 0 = (sy_ai F 55).getD (57 : Int).toNat 0 := by simp only [nz_c, (by decide : ((57 : Int32)).toInt = 57)]
  have n91 : nzI ((sy_ai F 55).getD ((57 : Int32)).toNatClampNeg 0) (((sy_ai F 55).getD (57 : Int).toNat 0).toInt) := congrArg Int32.toInt q91
  exact ylo_5_p0 hd F X1 X2 hB  (fun F1 g e69 e70 => k0 F1 (nz_in hB [] (fun j hj hn => g j hj (by simp only [List.mem_cons, List.not_mem_nil, or_false, not_or] at hn; exact trivial)) (List.forall_mem_nil _)) (fun j hj hn => g j hj (by simp only [List.mem_cons, List.not_mem_nil, or_false, not_or] at hn; exact trivial)) ((congrArg Int32.toInt (zz_i e69)).trans (nzE n90)) ((zz_i e69).trans (rfl : ((((((((0 : Int32)) + (((sy_i F 69) >>> (((0 : Int32)) &&& 31)) &&& ((1 : Int32)))) + (((sy_i F 69) >>> (((1 : Int32)) &&& 31)) &&& ((1 : Int32)))) + (((sy_i F 69) >>> (((2 : Int32)) &&& 31)) &&& ((1 : Int32)))) + (((sy_i F 69) >>> (((3 : Int32)) &&& 31)) &&& ((1 : Int32)))) + (((sy_i F 69) >>> (((4 : Int32)) &&& 31)) &&& ((1 : Int32)))) + (((sy_i F 69) >>> (((5 : Int32)) &&& 31)) &&& ((1 : Int32)))) + (((sy_i F 69) >>> (((6 : Int32)) &&& 31)) &&& ((1 : Int32))) = ((((((((0 : Int32)) + (((sy_i F 69) >>> (((0 : Int32)) &&& 31)) &&& ((1 : Int32)))) + (((sy_i F 69) >>> (((1 : Int32)) &&& 31)) &&& ((1 : Int32)))) + (((sy_i F 69) >>> (((2 : Int32)) &&& 31)) &&& ((1 : Int32)))) + (((sy_i F 69) >>> (((3 : Int32)) &&& 31)) &&& ((1 : Int32)))) + (((sy_i F 69) >>> (((4 : Int32)) &&& 31)) &&& ((1 : Int32)))) + (((sy_i F 69) >>> (((5 : Int32)) &&& 31)) &&& ((1 : Int32)))) + (((sy_i F 69) >>> (((6 : Int32)) &&& 31)) &&& ((1 : Int32))))) ((congrArg Int32.toInt (zz_i e70)).trans (nzE n91)) ((zz_i e70).trans q91))
theorem ylo_23_p0 {Ls : Nat} {xs : Nat → Int32} {d : Nat} {Q : Option Value → jm_h → Prop} (hd : 1 ≤ d) (F : Nat → sy_d) (X1 X2 : List jm_c) (hB : iv_in F iv_B4)
    (k : ∀ F1 : Nat → sy_d, (∀ j, j < 69 → True → F1 j = F j) → F1 69 = .inl (.int (sy_i F 69)) → F1 70 = .inl (.int (sy_i F 70)) → F1 71 = .inl (.int (sy_i F 71)) → F1 72 = .inl (.int ((0 : Int32))) → hd_W Ls xs d jm_M189 Q (27, sy_dL F1 [some (.inl (.ref 1000)), some (.inr (.inl 69)), some (.inr (.inl 70)), some (.inr (.inl 71)), some (.inr (.inl 72))], sy_dS F1 [], sy_dh F1 X1 X2 (iv_H 4), 0, 0)) :
    hd_W Ls xs d jm_M189 Q (23, sy_dL F [some (.inl (.ref 1000)), some (.inr (.inl 69)), some (.inr (.inl 70)), none, none], sy_dS F [.inr (.inl 71)], sy_dh F X1 X2 (iv_H 4), 0, 0) := by
  refine hd_run (s := 4) (nv := 72) (pc := 27) (L := [some (.inl (.ref 1000)), some (.inr (.inl 69)), some (.inr (.inl 70)), some (.inr (.inl 71)), some (.inr (.inl 72))]) (S := []) (uh := hd_ov (iv_id 0 iv_B4) []) (ul := [.inl (.inr (.inl 69)), .inl (.inr (.inl 70)), .inl (.inr (.inl 71)), .inl (.inl (.int 0))]) (f := false) (sp := [27]) (d0 := 0) (O := []) (T := []) (P := []) jm_ok189 (by decide +kernel) (by decide +kernel) hd F X1 X2 (fun F' hF hs => ?_)
  have b69 := hd_b (F := F) (F' := F') (k := 69) (hF 69 (by decide))
  have b70 := hd_b (F := F) (F' := F') (k := 70) (hF 70 (by decide))
  have b71 := hd_b (F := F) (F' := F') (k := 71) (hF 71 (by decide))
  have hB' : iv_in F' iv_B4 := iv_in_eq hB (fun j hj => hF j (Nat.lt_of_lt_of_le hj (by decide +kernel)))
  refine ⟨fun _ h => absurd h List.not_mem_nil, ?_⟩
  refine k _ ?_ ?_ ?_ ?_ ?_
  · exact fun j hj _ => (hd_keep hB' (Nat.lt_of_lt_of_le hj (by decide +kernel)) (by simp)).trans (hF j (Nat.lt_of_lt_of_le hj (by decide)))
  · exact hd_gi (x := .inr (.inl 69)) (by decide +kernel) b69
  · exact hd_gi (x := .inr (.inl 70)) (by decide +kernel) b70
  · exact hd_gi (x := .inr (.inl 71)) (by decide +kernel) b71
  · exact hd_gi (x := .inl (.int 0)) (by decide +kernel) rfl
theorem ylo_23 {Ls : Nat} {xs : Nat → Int32} {d : Nat} {Q : Option Value → jm_h → Prop} (hd : 1 ≤ d) (F : Nat → sy_d) (X1 X2 : List jm_c) (hB : iv_in F iv_B4)
    (k0 : ∀ F1 : Nat → sy_d, iv_in F1 iv_B4 → (∀ j, j < 69 → j ∉ ([] : List Nat) → F1 j = F j) → (sy_i F1 69).toInt = (sy_i F 69).toInt → sy_i F1 69 = sy_i F 69 → (sy_i F1 70).toInt = (sy_i F 70).toInt → sy_i F1 70 = sy_i F 70 → (sy_i F1 71).toInt = (sy_i F 71).toInt → sy_i F1 71 = sy_i F 71 → (sy_i F1 72).toInt = 0 → sy_i F1 72 = (0 : Int32) → hd_W Ls xs d jm_M189 Q (27, sy_dL F1 [some (.inl (.ref 1000)), some (.inr (.inl 69)), some (.inr (.inl 70)), some (.inr (.inl 71)), some (.inr (.inl 72))], sy_dS F1 [], sy_dh F1 X1 X2 (iv_H 4), 0, 0)) :
    hd_W Ls xs d jm_M189 Q (23, sy_dL F [some (.inl (.ref 1000)), some (.inr (.inl 69)), some (.inr (.inl 70)), none, none], sy_dS F [.inr (.inl 71)], sy_dh F X1 X2 (iv_H 4), 0, 0) := by
  exact ylo_23_p0 hd F X1 X2 hB  (fun F1 g e69 e70 e71 e72 => k0 F1 (nz_in hB [] (fun j hj hn => g j hj (by simp only [List.mem_cons, List.not_mem_nil, or_false, not_or] at hn; exact trivial)) (List.forall_mem_nil _)) (fun j hj hn => g j hj (by simp only [List.mem_cons, List.not_mem_nil, or_false, not_or] at hn; exact trivial)) ((congrArg Int32.toInt (zz_i e69)).trans (rfl : (sy_i F 69).toInt = (sy_i F 69).toInt)) ((zz_i e69).trans (rfl : sy_i F 69 = sy_i F 69)) ((congrArg Int32.toInt (zz_i e70)).trans (rfl : (sy_i F 70).toInt = (sy_i F 70).toInt)) ((zz_i e70).trans (rfl : sy_i F 70 = sy_i F 70)) ((congrArg Int32.toInt (zz_i e71)).trans (rfl : (sy_i F 71).toInt = (sy_i F 71).toInt)) ((zz_i e71).trans (rfl : sy_i F 71 = sy_i F 71)) ((congrArg Int32.toInt (zz_i e72)).trans (by decide : ((0 : Int32)).toInt = 0)) ((zz_i e72).trans (rfl : (0 : Int32) = (0 : Int32))))
theorem ylo_27_p0 {Ls : Nat} {xs : Nat → Int32} {d : Nat} {Q : Option Value → jm_h → Prop} (hd : 1 ≤ d) (F : Nat → sy_d) (X1 X2 : List jm_c) (hB : iv_in F iv_B4)
    (h0 : 0 ≤ (sy_i F 11).toInt ∧ (sy_i F 11).toInt < 2)
    (h1 : ((sy_ai F 31).getD (sy_i F 11).toNatClampNeg 0).toInt ≤ (sy_i F 72).toInt)
    (k : ∀ F1 : Nat → sy_d, (∀ j, j < 69 → True → F1 j = F j) → Q (none) (sy_dh F1 X1 X2 (iv_H 4))) :
    hd_W Ls xs d jm_M189 Q (27, sy_dL F [some (.inl (.ref 1000)), some (.inr (.inl 69)), some (.inr (.inl 70)), some (.inr (.inl 71)), some (.inr (.inl 72))], sy_dS F [], sy_dh F X1 X2 (iv_H 4), 0, 0) := by
  refine hd_ret (s := 4) (nv := 73) (v := none) (uh := hd_ov (iv_id 0 iv_B4) []) (f := true) (sp := [27, 114]) (d0 := 0) (O := [true]) (T := [(30, [.inr (.inl 11)], [.inr (.inl 31)])]) (P := [(6, .inr (.inl 11), .inl (.ref 2)), (4, .inr (.inl 73), .inr (.inl 72))]) jm_ok189 (by decide +kernel) (by decide +kernel) hd F X1 X2 (fun F' hF hs => ?_)
  have b11 := hd_b (F := F) (F' := F') (k := 11) (hF 11 (by decide))
  have a31 := hd_ba (F := F) (F' := F') (k := 31) (hF 31 (by decide))
  have t73 : sy_dv F' (.inr (.inl 73)) = .int ((sy_ai F 31).getD (sy_i F 11).toNatClampNeg 0) := hd_rd (hs 0 _ rfl) b11 a31
  have b72 := hd_b (F := F) (F' := F') (k := 72) (hF 72 (by decide))
  have hB' : iv_in F' iv_B4 := iv_in_eq hB (fun j hj => hF j (Nat.lt_of_lt_of_le hj (by decide +kernel)))
  refine ⟨List.forall_mem_cons.mpr ⟨hd_pb b11 (by first | exact h0 | exact h0), List.forall_mem_cons.mpr ⟨hd_p4 t73 b72 h1, fun _ h => absurd h List.not_mem_nil⟩⟩, ?_⟩
  refine k _ ?_
  · exact fun j hj _ => (hd_keep hB' (Nat.lt_of_lt_of_le hj (by decide +kernel)) (by simp)).trans (hF j (Nat.lt_of_lt_of_le hj (by decide)))
theorem ylo_27_p1 {Ls : Nat} {xs : Nat → Int32} {d : Nat} {Q : Option Value → jm_h → Prop} (hd : 1 ≤ d) (F : Nat → sy_d) (X1 X2 : List jm_c) (hB : iv_in F iv_B4)
    (h0 : 0 ≤ (sy_i F 11).toInt ∧ (sy_i F 11).toInt < 2)
    (h1 : (sy_i F 72).toInt < ((sy_ai F 31).getD (sy_i F 11).toNatClampNeg 0).toInt)
    (h2 : 0 ≤ (sy_i F 72).toInt ∧ (sy_i F 72).toInt < 7)
    (h3 : 0 ≤ (((7 : Int32)) + (sy_i F 72)).toInt ∧ (((7 : Int32)) + (sy_i F 72)).toInt < 61)
    (h4 : 0 ≤ (sy_i F 72).toInt ∧ (sy_i F 72).toInt < 7)
    (h5 : 0 ≤ (((14 : Int32)) + (sy_i F 72)).toInt ∧ (((14 : Int32)) + (sy_i F 72)).toInt < 61)
    (h6 : ((sy_ai F 55).getD (((14 : Int32)) + (sy_i F 72)).toNatClampNeg 0).toInt ≤ 1)
    (h7 : 0 ≤ (((7 : Int32)) + (sy_i F 72)).toInt ∧ (((7 : Int32)) + (sy_i F 72)).toInt < 61)
    (h8 : 0 ≤ (((28 : Int32)) + (sy_i F 72)).toInt ∧ (((28 : Int32)) + (sy_i F 72)).toInt < 61)
    (k : ∀ F1 : Nat → sy_d, (∀ j, j < 69 → j ≠ 56 ∧ j ≠ 57 → F1 j = F j) → F1 56 = .inr (.inl (jm_upd (sy_ai F 56) (sy_i F 72).toNatClampNeg ((0 : Int32)))) → F1 57 = .inr (.inl (jm_upd (sy_ai F 57) (sy_i F 72).toNatClampNeg ((sy_ai F 55).getD (((7 : Int32)) + (sy_i F 72)).toNatClampNeg 0))) → F1 69 = .inl (.int (sy_i F 69)) → F1 70 = .inl (.int (sy_i F 70)) → F1 71 = .inl (.int (sy_i F 71)) → F1 72 = .inl (.int (sy_i F 72)) → F1 73 = .inl (.int ((sy_ai F 55).getD (((7 : Int32)) + (sy_i F 72)).toNatClampNeg 0)) → F1 74 = .inl (.int ((sy_ai F 55).getD (((28 : Int32)) + (sy_i F 72)).toNatClampNeg 0)) → hd_W Ls xs d jm_M189 Q (114, sy_dL F1 [some (.inl (.ref 1000)), some (.inr (.inl 69)), some (.inr (.inl 70)), some (.inr (.inl 71)), some (.inr (.inl 72))], sy_dS F1 [.inr (.inl 69), .inr (.inl 70), .inr (.inl 74), .inr (.inl 73), .inr (.inl 72), .inl (.ref 1000), .inr (.inl 72), .inl (.ref 1036)], sy_dh F1 X1 X2 (iv_H 4), 0, 0)) :
    hd_W Ls xs d jm_M189 Q (27, sy_dL F [some (.inl (.ref 1000)), some (.inr (.inl 69)), some (.inr (.inl 70)), some (.inr (.inl 71)), some (.inr (.inl 72))], sy_dS F [], sy_dh F X1 X2 (iv_H 4), 0, 0) := by
  refine hd_run (s := 4) (nv := 73) (pc := 114) (L := [some (.inl (.ref 1000)), some (.inr (.inl 69)), some (.inr (.inl 70)), some (.inr (.inl 71)), some (.inr (.inl 72))]) (S := [.inr (.inl 69), .inr (.inl 70), .inr (.inl 74), .inr (.inl 73), .inr (.inl 72), .inl (.ref 1000), .inr (.inl 72), .inl (.ref 1036)]) (uh := hd_ov (iv_id 0 iv_B4) [(56, .inr (.inr (.inl 74))), (57, .inr (.inr (.inl 77)))]) (ul := [.inl (.inr (.inl 69)), .inl (.inr (.inl 70)), .inl (.inr (.inl 71)), .inl (.inr (.inl 72)), .inl (.inr (.inl 81)), .inl (.inr (.inl 83))]) (f := true) (sp := [27, 114]) (d0 := 0) (O := [false, true]) (T := [(30, [.inr (.inl 11)], [.inr (.inl 31)]), (40, [.inr (.inl 72), .inl (.int 0)], [.inr (.inl 56)]), (0, [.inl (.int 7), .inr (.inl 72)], []), (30, [.inr (.inl 75)], [.inr (.inl 55)]), (40, [.inr (.inl 72), .inr (.inl 76)], [.inr (.inl 57)]), (0, [.inl (.int 14), .inr (.inl 72)], []), (30, [.inr (.inl 78)], [.inr (.inl 55)]), (0, [.inl (.int 7), .inr (.inl 72)], []), (30, [.inr (.inl 80)], [.inr (.inl 55)]), (0, [.inl (.int 28), .inr (.inl 72)], []), (30, [.inr (.inl 82)], [.inr (.inl 55)])]) (P := [(6, .inr (.inl 11), .inl (.ref 2)), (5, .inr (.inl 73), .inr (.inl 72)), (6, .inr (.inl 72), .inl (.ref 7)), (6, .inr (.inl 75), .inl (.ref 61)), (6, .inr (.inl 72), .inl (.ref 7)), (6, .inr (.inl 78), .inl (.ref 61)), (4, .inr (.inl 79), .inl (.int 1)), (6, .inr (.inl 80), .inl (.ref 61)), (6, .inr (.inl 82), .inl (.ref 61))]) jm_ok189 (by decide +kernel) (by decide +kernel) hd F X1 X2 (fun F' hF hs => ?_)
  have b11 := hd_b (F := F) (F' := F') (k := 11) (hF 11 (by decide))
  have a31 := hd_ba (F := F) (F' := F') (k := 31) (hF 31 (by decide))
  have t73 : sy_dv F' (.inr (.inl 73)) = .int ((sy_ai F 31).getD (sy_i F 11).toNatClampNeg 0) := hd_rd (hs 0 _ rfl) b11 a31
  have b72 := hd_b (F := F) (F' := F') (k := 72) (hF 72 (by decide))
  have t75 : sy_dv F' (.inr (.inl 75)) = .int (((7 : Int32)) + (sy_i F 72)) := hd_o (hs 2 _ rfl) rfl b72 rfl
  have t78 : sy_dv F' (.inr (.inl 78)) = .int (((14 : Int32)) + (sy_i F 72)) := hd_o (hs 5 _ rfl) rfl b72 rfl
  have a55 := hd_ba (F := F) (F' := F') (k := 55) (hF 55 (by decide))
  have t79 : sy_dv F' (.inr (.inl 79)) = .int ((sy_ai F 55).getD (((14 : Int32)) + (sy_i F 72)).toNatClampNeg 0) := hd_rd (hs 6 _ rfl) t78 a55
  have t80 : sy_dv F' (.inr (.inl 80)) = .int (((7 : Int32)) + (sy_i F 72)) := hd_o (hs 7 _ rfl) rfl b72 rfl
  have t82 : sy_dv F' (.inr (.inl 82)) = .int (((28 : Int32)) + (sy_i F 72)) := hd_o (hs 9 _ rfl) rfl b72 rfl
  have a56 := hd_ba (F := F) (F' := F') (k := 56) (hF 56 (by decide))
  have t74 : sy_da F' (.inr (.inl 74)) = .inl (jm_upd (sy_ai F 56) (sy_i F 72).toNatClampNeg ((0 : Int32))) := hd_up (hs 1 _ rfl) b72 rfl a56
  have t76 : sy_dv F' (.inr (.inl 76)) = .int ((sy_ai F 55).getD (((7 : Int32)) + (sy_i F 72)).toNatClampNeg 0) := hd_rd (hs 3 _ rfl) t75 a55
  have a57 := hd_ba (F := F) (F' := F') (k := 57) (hF 57 (by decide))
  have t77 : sy_da F' (.inr (.inl 77)) = .inl (jm_upd (sy_ai F 57) (sy_i F 72).toNatClampNeg ((sy_ai F 55).getD (((7 : Int32)) + (sy_i F 72)).toNatClampNeg 0)) := hd_up (hs 4 _ rfl) b72 t76 a57
  have b69 := hd_b (F := F) (F' := F') (k := 69) (hF 69 (by decide))
  have b70 := hd_b (F := F) (F' := F') (k := 70) (hF 70 (by decide))
  have b71 := hd_b (F := F) (F' := F') (k := 71) (hF 71 (by decide))
  have t81 : sy_dv F' (.inr (.inl 81)) = .int ((sy_ai F 55).getD (((7 : Int32)) + (sy_i F 72)).toNatClampNeg 0) := hd_rd (hs 8 _ rfl) t80 a55
  have t83 : sy_dv F' (.inr (.inl 83)) = .int ((sy_ai F 55).getD (((28 : Int32)) + (sy_i F 72)).toNatClampNeg 0) := hd_rd (hs 10 _ rfl) t82 a55
  have hB' : iv_in F' iv_B4 := iv_in_eq hB (fun j hj => hF j (Nat.lt_of_lt_of_le hj (by decide +kernel)))
  refine ⟨List.forall_mem_cons.mpr ⟨hd_pb b11 (by first | exact h0 | exact h0), List.forall_mem_cons.mpr ⟨hd_p5 t73 b72 h1, List.forall_mem_cons.mpr ⟨hd_pb b72 (by first | exact h2 | exact h2), List.forall_mem_cons.mpr ⟨hd_pb t75 (by first | exact h3 | exact h3), List.forall_mem_cons.mpr ⟨hd_pb b72 (by first | exact h4 | exact h4), List.forall_mem_cons.mpr ⟨hd_pb t78 (by first | exact h5 | exact h5), List.forall_mem_cons.mpr ⟨hd_p4 t79 rfl (by have hc : ((1) : Int32).toInt = 1 := (by decide); omega), List.forall_mem_cons.mpr ⟨hd_pb t80 (by first | exact h7 | exact h7), List.forall_mem_cons.mpr ⟨hd_pb t82 (by first | exact h8 | exact h8), fun _ h => absurd h List.not_mem_nil⟩⟩⟩⟩⟩⟩⟩⟩⟩, ?_⟩
  refine k _ ?_ ?_ ?_ ?_ ?_ ?_ ?_ ?_ ?_
  · exact fun j hj hn => (hd_keep hB' (Nat.lt_of_lt_of_le hj (by decide +kernel)) (by simp; omega)).trans (hF j (Nat.lt_of_lt_of_le hj (by decide)))
  · exact hd_ga (a := .inr (.inl 74)) (by decide +kernel) t74
  · exact hd_ga (a := .inr (.inl 77)) (by decide +kernel) t77
  · exact hd_gi (x := .inr (.inl 69)) (by decide +kernel) b69
  · exact hd_gi (x := .inr (.inl 70)) (by decide +kernel) b70
  · exact hd_gi (x := .inr (.inl 71)) (by decide +kernel) b71
  · exact hd_gi (x := .inr (.inl 72)) (by decide +kernel) b72
  · exact hd_gi (x := .inr (.inl 81)) (by decide +kernel) t81
  · exact hd_gi (x := .inr (.inl 83)) (by decide +kernel) t83
theorem ylo_27_p2 {Ls : Nat} {xs : Nat → Int32} {d : Nat} {Q : Option Value → jm_h → Prop} (hd : 1 ≤ d) (F : Nat → sy_d) (X1 X2 : List jm_c) (hB : iv_in F iv_B4)
    (h0 : 0 ≤ (sy_i F 11).toInt ∧ (sy_i F 11).toInt < 2)
    (h1 : (sy_i F 72).toInt < ((sy_ai F 31).getD (sy_i F 11).toNatClampNeg 0).toInt)
    (h2 : 0 ≤ (sy_i F 72).toInt ∧ (sy_i F 72).toInt < 7)
    (h3 : 0 ≤ (((7 : Int32)) + (sy_i F 72)).toInt ∧ (((7 : Int32)) + (sy_i F 72)).toInt < 61)
    (h4 : 0 ≤ (sy_i F 72).toInt ∧ (sy_i F 72).toInt < 7)
    (h5 : 0 ≤ (((14 : Int32)) + (sy_i F 72)).toInt ∧ (((14 : Int32)) + (sy_i F 72)).toInt < 61)
    (h6 : 1 < ((sy_ai F 55).getD (((14 : Int32)) + (sy_i F 72)).toNatClampNeg 0).toInt)
    (k : ∀ F1 : Nat → sy_d, (∀ j, j < 69 → j ≠ 56 ∧ j ≠ 57 → F1 j = F j) → F1 56 = .inr (.inl (jm_upd (sy_ai F 56) (sy_i F 72).toNatClampNeg ((0 : Int32)))) → F1 57 = .inr (.inl (jm_upd (sy_ai F 57) (sy_i F 72).toNatClampNeg ((sy_ai F 55).getD (((7 : Int32)) + (sy_i F 72)).toNatClampNeg 0))) → F1 69 = .inl (.int (sy_i F 69)) → F1 70 = .inl (.int (sy_i F 70)) → F1 71 = .inl (.int (sy_i F 71)) → F1 72 = .inl (.int ((sy_i F 72) + ((1 : Int32)))) → hd_W Ls xs d jm_M189 Q (27, sy_dL F1 [some (.inl (.ref 1000)), some (.inr (.inl 69)), some (.inr (.inl 70)), some (.inr (.inl 71)), some (.inr (.inl 72))], sy_dS F1 [], sy_dh F1 X1 X2 (iv_H 4), 0, 0)) :
    hd_W Ls xs d jm_M189 Q (27, sy_dL F [some (.inl (.ref 1000)), some (.inr (.inl 69)), some (.inr (.inl 70)), some (.inr (.inl 71)), some (.inr (.inl 72))], sy_dS F [], sy_dh F X1 X2 (iv_H 4), 0, 0) := by
  refine hd_run (s := 4) (nv := 73) (pc := 27) (L := [some (.inl (.ref 1000)), some (.inr (.inl 69)), some (.inr (.inl 70)), some (.inr (.inl 71)), some (.inr (.inl 72))]) (S := []) (uh := hd_ov (iv_id 0 iv_B4) [(56, .inr (.inr (.inl 74))), (57, .inr (.inr (.inl 77)))]) (ul := [.inl (.inr (.inl 69)), .inl (.inr (.inl 70)), .inl (.inr (.inl 71)), .inl (.inr (.inl 80))]) (f := true) (sp := [27, 114]) (d0 := 0) (O := [false, false]) (T := [(30, [.inr (.inl 11)], [.inr (.inl 31)]), (40, [.inr (.inl 72), .inl (.int 0)], [.inr (.inl 56)]), (0, [.inl (.int 7), .inr (.inl 72)], []), (30, [.inr (.inl 75)], [.inr (.inl 55)]), (40, [.inr (.inl 72), .inr (.inl 76)], [.inr (.inl 57)]), (0, [.inl (.int 14), .inr (.inl 72)], []), (30, [.inr (.inl 78)], [.inr (.inl 55)]), (0, [.inr (.inl 72), .inl (.int 1)], [])]) (P := [(6, .inr (.inl 11), .inl (.ref 2)), (5, .inr (.inl 73), .inr (.inl 72)), (6, .inr (.inl 72), .inl (.ref 7)), (6, .inr (.inl 75), .inl (.ref 61)), (6, .inr (.inl 72), .inl (.ref 7)), (6, .inr (.inl 78), .inl (.ref 61)), (5, .inr (.inl 79), .inl (.int 1))]) jm_ok189 (by decide +kernel) (by decide +kernel) hd F X1 X2 (fun F' hF hs => ?_)
  have b11 := hd_b (F := F) (F' := F') (k := 11) (hF 11 (by decide))
  have a31 := hd_ba (F := F) (F' := F') (k := 31) (hF 31 (by decide))
  have t73 : sy_dv F' (.inr (.inl 73)) = .int ((sy_ai F 31).getD (sy_i F 11).toNatClampNeg 0) := hd_rd (hs 0 _ rfl) b11 a31
  have b72 := hd_b (F := F) (F' := F') (k := 72) (hF 72 (by decide))
  have t75 : sy_dv F' (.inr (.inl 75)) = .int (((7 : Int32)) + (sy_i F 72)) := hd_o (hs 2 _ rfl) rfl b72 rfl
  have t78 : sy_dv F' (.inr (.inl 78)) = .int (((14 : Int32)) + (sy_i F 72)) := hd_o (hs 5 _ rfl) rfl b72 rfl
  have a55 := hd_ba (F := F) (F' := F') (k := 55) (hF 55 (by decide))
  have t79 : sy_dv F' (.inr (.inl 79)) = .int ((sy_ai F 55).getD (((14 : Int32)) + (sy_i F 72)).toNatClampNeg 0) := hd_rd (hs 6 _ rfl) t78 a55
  have a56 := hd_ba (F := F) (F' := F') (k := 56) (hF 56 (by decide))
  have t74 : sy_da F' (.inr (.inl 74)) = .inl (jm_upd (sy_ai F 56) (sy_i F 72).toNatClampNeg ((0 : Int32))) := hd_up (hs 1 _ rfl) b72 rfl a56
  have t76 : sy_dv F' (.inr (.inl 76)) = .int ((sy_ai F 55).getD (((7 : Int32)) + (sy_i F 72)).toNatClampNeg 0) := hd_rd (hs 3 _ rfl) t75 a55
  have a57 := hd_ba (F := F) (F' := F') (k := 57) (hF 57 (by decide))
  have t77 : sy_da F' (.inr (.inl 77)) = .inl (jm_upd (sy_ai F 57) (sy_i F 72).toNatClampNeg ((sy_ai F 55).getD (((7 : Int32)) + (sy_i F 72)).toNatClampNeg 0)) := hd_up (hs 4 _ rfl) b72 t76 a57
  have b69 := hd_b (F := F) (F' := F') (k := 69) (hF 69 (by decide))
  have b70 := hd_b (F := F) (F' := F') (k := 70) (hF 70 (by decide))
  have b71 := hd_b (F := F) (F' := F') (k := 71) (hF 71 (by decide))
  have t80 : sy_dv F' (.inr (.inl 80)) = .int ((sy_i F 72) + ((1 : Int32))) := hd_o (hs 7 _ rfl) b72 rfl rfl
  have hB' : iv_in F' iv_B4 := iv_in_eq hB (fun j hj => hF j (Nat.lt_of_lt_of_le hj (by decide +kernel)))
  refine ⟨List.forall_mem_cons.mpr ⟨hd_pb b11 (by first | exact h0 | exact h0), List.forall_mem_cons.mpr ⟨hd_p5 t73 b72 h1, List.forall_mem_cons.mpr ⟨hd_pb b72 (by first | exact h2 | exact h2), List.forall_mem_cons.mpr ⟨hd_pb t75 (by first | exact h3 | exact h3), List.forall_mem_cons.mpr ⟨hd_pb b72 (by first | exact h4 | exact h4), List.forall_mem_cons.mpr ⟨hd_pb t78 (by first | exact h5 | exact h5), List.forall_mem_cons.mpr ⟨hd_p5 t79 rfl (by have hc : ((1) : Int32).toInt = 1 := (by decide); omega), fun _ h => absurd h List.not_mem_nil⟩⟩⟩⟩⟩⟩⟩, ?_⟩
  refine k _ ?_ ?_ ?_ ?_ ?_ ?_ ?_
  · exact fun j hj hn => (hd_keep hB' (Nat.lt_of_lt_of_le hj (by decide +kernel)) (by simp; omega)).trans (hF j (Nat.lt_of_lt_of_le hj (by decide)))
  · exact hd_ga (a := .inr (.inl 74)) (by decide +kernel) t74
  · exact hd_ga (a := .inr (.inl 77)) (by decide +kernel) t77
  · exact hd_gi (x := .inr (.inl 69)) (by decide +kernel) b69
  · exact hd_gi (x := .inr (.inl 70)) (by decide +kernel) b70
  · exact hd_gi (x := .inr (.inl 71)) (by decide +kernel) b71
  · exact hd_gi (x := .inr (.inl 80)) (by decide +kernel) t80
theorem ylo_27 {Ls : Nat} {xs : Nat → Int32} {d : Nat} {Q : Option Value → jm_h → Prop} (hd : 1 ≤ d) (F : Nat → sy_d) (X1 X2 : List jm_c) (hB : iv_in F iv_B4)
    (a72 : 0 ≤ (sy_i F 72).toInt ∧ (sy_i F 72).toInt ≤ 7)
    (k0 : ((sy_ai F 31).getD ((sy_i F 11).toInt).toNat 0).toInt ≤ (sy_i F 72).toInt → ∀ F1 : Nat → sy_d, iv_in F1 iv_B4 → (∀ j, j < 69 → j ∉ ([] : List Nat) → F1 j = F j) → Q (none) (sy_dh F1 X1 X2 (iv_H 4)))
    (k1 : (sy_i F 72).toInt < ((sy_ai F 31).getD ((sy_i F 11).toInt).toNat 0).toInt → ((sy_ai F 55).getD ((14 + (sy_i F 72).toInt)).toNat 0).toInt ≤ 1 → ∀ F1 : Nat → sy_d, iv_in F1 iv_B4 → (∀ j, j < 69 → j ∉ ([56, 57] : List Nat) → F1 j = F j) → sy_ai F1 56 = jm_upd (sy_ai F 56) ((sy_i F 72).toInt).toNat ((0 : Int32)) → sy_ai F1 57 = jm_upd (sy_ai F 57) ((sy_i F 72).toInt).toNat ((sy_ai F 55).getD ((7 + (sy_i F 72).toInt)).toNat 0) → (sy_i F1 69).toInt = (sy_i F 69).toInt → sy_i F1 69 = sy_i F 69 → (sy_i F1 70).toInt = (sy_i F 70).toInt → sy_i F1 70 = sy_i F 70 → (sy_i F1 71).toInt = (sy_i F 71).toInt → sy_i F1 71 = sy_i F 71 → (sy_i F1 72).toInt = (sy_i F 72).toInt → sy_i F1 72 = sy_i F 72 → (sy_i F1 73).toInt = ((sy_ai F 55).getD ((7 + (sy_i F 72).toInt)).toNat 0).toInt → sy_i F1 73 = (sy_ai F 55).getD ((7 + (sy_i F 72).toInt)).toNat 0 → (sy_i F1 74).toInt = ((sy_ai F 55).getD ((28 + (sy_i F 72).toInt)).toNat 0).toInt → sy_i F1 74 = (sy_ai F 55).getD ((28 + (sy_i F 72).toInt)).toNat 0 → hd_W Ls xs d jm_M189 Q (114, sy_dL F1 [some (.inl (.ref 1000)), some (.inr (.inl 69)), some (.inr (.inl 70)), some (.inr (.inl 71)), some (.inr (.inl 72))], sy_dS F1 [.inr (.inl 69), .inr (.inl 70), .inr (.inl 74), .inr (.inl 73), .inr (.inl 72), .inl (.ref 1000), .inr (.inl 72), .inl (.ref 1036)], sy_dh F1 X1 X2 (iv_H 4), 0, 0))
    (k2 : (sy_i F 72).toInt < ((sy_ai F 31).getD ((sy_i F 11).toInt).toNat 0).toInt → 1 < ((sy_ai F 55).getD ((14 + (sy_i F 72).toInt)).toNat 0).toInt → ∀ F1 : Nat → sy_d, iv_in F1 iv_B4 → (∀ j, j < 69 → j ∉ ([56, 57] : List Nat) → F1 j = F j) → sy_ai F1 56 = jm_upd (sy_ai F 56) ((sy_i F 72).toInt).toNat ((0 : Int32)) → sy_ai F1 57 = jm_upd (sy_ai F 57) ((sy_i F 72).toInt).toNat ((sy_ai F 55).getD ((7 + (sy_i F 72).toInt)).toNat 0) → (sy_i F1 69).toInt = (sy_i F 69).toInt → sy_i F1 69 = sy_i F 69 → (sy_i F1 70).toInt = (sy_i F 70).toInt → sy_i F1 70 = sy_i F 70 → (sy_i F1 71).toInt = (sy_i F 71).toInt → sy_i F1 71 = sy_i F 71 → (sy_i F1 72).toInt = ((sy_i F 72).toInt + 1) → sy_i F1 72 = (sy_i F 72) + ((1 : Int32)) → hd_W Ls xs d jm_M189 Q (27, sy_dL F1 [some (.inl (.ref 1000)), some (.inr (.inl 69)), some (.inr (.inl 70)), some (.inr (.inl 71)), some (.inr (.inl 72))], sy_dS F1 [], sy_dh F1 X1 X2 (iv_H 4), 0, 0)) :
    hd_W Ls xs d jm_M189 Q (27, sy_dL F [some (.inl (.ref 1000)), some (.inr (.inl 69)), some (.inr (.inl 70)), some (.inr (.inl 71)), some (.inr (.inl 72))], sy_dS F [], sy_dh F X1 X2 (iv_H 4), 0, 0) := by
  by_cases g0 : ((sy_ai F 31).getD ((sy_i F 11).toInt).toNat 0).toInt ≤ (sy_i F 72).toInt
  · have c11 := nz_bx hB (k := 11) (lo := 0) (hi := 1) rfl
    have q73 : (sy_ai F 31).getD (sy_i F 11).toNatClampNeg 0 = (sy_ai F 31).getD ((sy_i F 11).toInt).toNat 0 := by simp only [nz_c]
    have n73 : nzI ((sy_ai F 31).getD (sy_i F 11).toNatClampNeg 0) (((sy_ai F 31).getD ((sy_i F 11).toInt).toNat 0).toInt) := congrArg Int32.toInt q73
    have r73 := nz_ba hB (k := 31) (lo := 0) (hi := 7) rfl ((sy_i F 11).toInt).toNat
    exact ylo_27_p0 hd F X1 X2 hB (by first | exact ⟨by omega, by omega⟩ | (simp only [nz_c]; exact ⟨by omega, by omega⟩)) (by first | exact g0 | (simp only [nz_c]; exact g0) | (rw [(nzE n73)]; exact g0)) (fun F1 g  => k0 g0 F1 (nz_in hB [] (fun j hj hn => g j hj (by simp only [List.mem_cons, List.not_mem_nil, or_false, not_or] at hn; exact trivial)) (List.forall_mem_nil _)) (fun j hj hn => g j hj (by simp only [List.mem_cons, List.not_mem_nil, or_false, not_or] at hn; exact trivial)) )
  replace g0 : (sy_i F 72).toInt < ((sy_ai F 31).getD ((sy_i F 11).toInt).toNat 0).toInt := by omega
  by_cases g1 : ((sy_ai F 55).getD ((14 + (sy_i F 72).toInt)).toNat 0).toInt ≤ 1
  · have c11 := nz_bx hB (k := 11) (lo := 0) (hi := 1) rfl
    have q73 : (sy_ai F 31).getD (sy_i F 11).toNatClampNeg 0 = (sy_ai F 31).getD ((sy_i F 11).toInt).toNat 0 := by simp only [nz_c]
    have n73 : nzI ((sy_ai F 31).getD (sy_i F 11).toNatClampNeg 0) (((sy_ai F 31).getD ((sy_i F 11).toInt).toNat 0).toInt) := congrArg Int32.toInt q73
    have r73 := nz_ba hB (k := 31) (lo := 0) (hi := 7) rfl ((sy_i F 11).toInt).toNat
    have n75 : nzI (((7 : Int32)) + (sy_i F 72)) ((7 + (sy_i F 72).toInt)) := nz_add (by decide : ((7 : Int32)).toInt = 7) (rfl : (sy_i F 72).toInt = (sy_i F 72).toInt) (by omega) (by omega)
    have n78 : nzI (((14 : Int32)) + (sy_i F 72)) ((14 + (sy_i F 72).toInt)) := nz_add (by decide : ((14 : Int32)).toInt = 14) (rfl : (sy_i F 72).toInt = (sy_i F 72).toInt) (by omega) (by omega)
    have q79 : (sy_ai F 55).getD (((14 : Int32)) + (sy_i F 72)).toNatClampNeg 0 = (sy_ai F 55).getD ((14 + (sy_i F 72).toInt)).toNat 0 := by simp only [nz_c, (nzE n78), (by decide : ((14 : Int32)).toInt = 14)]
    have n79 : nzI ((sy_ai F 55).getD (((14 : Int32)) + (sy_i F 72)).toNatClampNeg 0) (((sy_ai F 55).getD ((14 + (sy_i F 72).toInt)).toNat 0).toInt) := congrArg Int32.toInt q79
    have n80 : nzI (((7 : Int32)) + (sy_i F 72)) ((7 + (sy_i F 72).toInt)) := nz_add (by decide : ((7 : Int32)).toInt = 7) (rfl : (sy_i F 72).toInt = (sy_i F 72).toInt) (by omega) (by omega)
    have n82 : nzI (((28 : Int32)) + (sy_i F 72)) ((28 + (sy_i F 72).toInt)) := nz_add (by decide : ((28 : Int32)).toInt = 28) (rfl : (sy_i F 72).toInt = (sy_i F 72).toInt) (by omega) (by omega)
    have w74 : jm_upd (sy_ai F 56) (sy_i F 72).toNatClampNeg ((0 : Int32)) = jm_upd (sy_ai F 56) ((sy_i F 72).toInt).toNat ((0 : Int32)) := by simp only [nz_c, (by decide : ((0 : Int32)).toInt = 0)]
    have w77 : jm_upd (sy_ai F 57) (sy_i F 72).toNatClampNeg ((sy_ai F 55).getD (((7 : Int32)) + (sy_i F 72)).toNatClampNeg 0) = jm_upd (sy_ai F 57) ((sy_i F 72).toInt).toNat ((sy_ai F 55).getD ((7 + (sy_i F 72).toInt)).toNat 0) := by simp only [nz_c, (nzE n75), (by decide : ((7 : Int32)).toInt = 7)]
    have q81 : (sy_ai F 55).getD (((7 : Int32)) + (sy_i F 72)).toNatClampNeg 0 = (sy_ai F 55).getD ((7 + (sy_i F 72).toInt)).toNat 0 := by simp only [nz_c, (nzE n80), (by decide : ((7 : Int32)).toInt = 7)]
    have n81 : nzI ((sy_ai F 55).getD (((7 : Int32)) + (sy_i F 72)).toNatClampNeg 0) (((sy_ai F 55).getD ((7 + (sy_i F 72).toInt)).toNat 0).toInt) := congrArg Int32.toInt q81
    have q83 : (sy_ai F 55).getD (((28 : Int32)) + (sy_i F 72)).toNatClampNeg 0 = (sy_ai F 55).getD ((28 + (sy_i F 72).toInt)).toNat 0 := by simp only [nz_c, (nzE n82), (by decide : ((28 : Int32)).toInt = 28)]
    have n83 : nzI ((sy_ai F 55).getD (((28 : Int32)) + (sy_i F 72)).toNatClampNeg 0) (((sy_ai F 55).getD ((28 + (sy_i F 72).toInt)).toNat 0).toInt) := congrArg Int32.toInt q83
    exact ylo_27_p1 hd F X1 X2 hB (by first | exact ⟨by omega, by omega⟩ | (simp only [nz_c]; exact ⟨by omega, by omega⟩)) (by first | exact g0 | (simp only [nz_c]; exact g0) | (rw [(nzE n73)]; exact g0)) (by first | exact ⟨by omega, by omega⟩ | (simp only [nz_c]; exact ⟨by omega, by omega⟩)) (by first | (simp only [nz_c, (nzE n75)]; exact ⟨by omega, by omega⟩) | exact ⟨by omega, by omega⟩ | (rw [(nzE n75)]; exact ⟨by omega, by omega⟩)) (by first | exact ⟨by omega, by omega⟩ | (simp only [nz_c]; exact ⟨by omega, by omega⟩)) (by first | (simp only [nz_c, (nzE n78)]; exact ⟨by omega, by omega⟩) | exact ⟨by omega, by omega⟩ | (rw [(nzE n78)]; exact ⟨by omega, by omega⟩)) (by first | (simp only [nz_c, (nzE n78)]; exact g1) | exact g1 | (rw [(nzE n79)]; exact g1)) (by first | (simp only [nz_c, (nzE n80)]; exact ⟨by omega, by omega⟩) | exact ⟨by omega, by omega⟩ | (rw [(nzE n80)]; exact ⟨by omega, by omega⟩)) (by first | (simp only [nz_c, (nzE n82)]; exact ⟨by omega, by omega⟩) | exact ⟨by omega, by omega⟩ | (rw [(nzE n82)]; exact ⟨by omega, by omega⟩)) (fun F1 g e56 e57 e69 e70 e71 e72 e73 e74 => k1 g0 g1 F1 (nz_in hB [56, 57] (fun j hj hn => g j hj (by simp only [List.mem_cons, List.not_mem_nil, or_false, not_or] at hn; omega)) (List.forall_mem_cons.mpr ⟨fun t ht => (Option.some.inj ht) ▸ (nz_hA e56 (nz_up (nz_ba hB (k := 56) (lo := 0) (hi := 1) rfl) (by decide : ((0 : Int32)).toInt = 0) (by omega) (by omega))), List.forall_mem_cons.mpr ⟨fun t ht => (Option.some.inj ht) ▸ (nz_hz2 e57), List.forall_mem_nil _⟩⟩)) (fun j hj hn => g j hj (by simp only [List.mem_cons, List.not_mem_nil, or_false, not_or] at hn; omega)) ((zz_ai e56).trans w74) ((zz_ai e57).trans w77) ((congrArg Int32.toInt (zz_i e69)).trans (rfl : (sy_i F 69).toInt = (sy_i F 69).toInt)) ((zz_i e69).trans (rfl : sy_i F 69 = sy_i F 69)) ((congrArg Int32.toInt (zz_i e70)).trans (rfl : (sy_i F 70).toInt = (sy_i F 70).toInt)) ((zz_i e70).trans (rfl : sy_i F 70 = sy_i F 70)) ((congrArg Int32.toInt (zz_i e71)).trans (rfl : (sy_i F 71).toInt = (sy_i F 71).toInt)) ((zz_i e71).trans (rfl : sy_i F 71 = sy_i F 71)) ((congrArg Int32.toInt (zz_i e72)).trans (rfl : (sy_i F 72).toInt = (sy_i F 72).toInt)) ((zz_i e72).trans (rfl : sy_i F 72 = sy_i F 72)) ((congrArg Int32.toInt (zz_i e73)).trans (nzE n81)) ((zz_i e73).trans q81) ((congrArg Int32.toInt (zz_i e74)).trans (nzE n83)) ((zz_i e74).trans q83))
  replace g1 : 1 < ((sy_ai F 55).getD ((14 + (sy_i F 72).toInt)).toNat 0).toInt := by omega
  have c11 := nz_bx hB (k := 11) (lo := 0) (hi := 1) rfl
  have q73 : (sy_ai F 31).getD (sy_i F 11).toNatClampNeg 0 = (sy_ai F 31).getD ((sy_i F 11).toInt).toNat 0 := by simp only [nz_c]
  have n73 : nzI ((sy_ai F 31).getD (sy_i F 11).toNatClampNeg 0) (((sy_ai F 31).getD ((sy_i F 11).toInt).toNat 0).toInt) := congrArg Int32.toInt q73
  have r73 := nz_ba hB (k := 31) (lo := 0) (hi := 7) rfl ((sy_i F 11).toInt).toNat
  have n75 : nzI (((7 : Int32)) + (sy_i F 72)) ((7 + (sy_i F 72).toInt)) := nz_add (by decide : ((7 : Int32)).toInt = 7) (rfl : (sy_i F 72).toInt = (sy_i F 72).toInt) (by omega) (by omega)
  have n78 : nzI (((14 : Int32)) + (sy_i F 72)) ((14 + (sy_i F 72).toInt)) := nz_add (by decide : ((14 : Int32)).toInt = 14) (rfl : (sy_i F 72).toInt = (sy_i F 72).toInt) (by omega) (by omega)
  have q79 : (sy_ai F 55).getD (((14 : Int32)) + (sy_i F 72)).toNatClampNeg 0 = (sy_ai F 55).getD ((14 + (sy_i F 72).toInt)).toNat 0 := by simp only [nz_c, (nzE n78), (by decide : ((14 : Int32)).toInt = 14)]
  have n79 : nzI ((sy_ai F 55).getD (((14 : Int32)) + (sy_i F 72)).toNatClampNeg 0) (((sy_ai F 55).getD ((14 + (sy_i F 72).toInt)).toNat 0).toInt) := congrArg Int32.toInt q79
  have w74 : jm_upd (sy_ai F 56) (sy_i F 72).toNatClampNeg ((0 : Int32)) = jm_upd (sy_ai F 56) ((sy_i F 72).toInt).toNat ((0 : Int32)) := by simp only [nz_c, (by decide : ((0 : Int32)).toInt = 0)]
  have w77 : jm_upd (sy_ai F 57) (sy_i F 72).toNatClampNeg ((sy_ai F 55).getD (((7 : Int32)) + (sy_i F 72)).toNatClampNeg 0) = jm_upd (sy_ai F 57) ((sy_i F 72).toInt).toNat ((sy_ai F 55).getD ((7 + (sy_i F 72).toInt)).toNat 0) := by simp only [nz_c, (nzE n75), (by decide : ((7 : Int32)).toInt = 7)]
  have n80 : nzI ((sy_i F 72) + ((1 : Int32))) (((sy_i F 72).toInt + 1)) := nz_add (rfl : (sy_i F 72).toInt = (sy_i F 72).toInt) (by decide : ((1 : Int32)).toInt = 1) (by omega) (by omega)
  exact ylo_27_p2 hd F X1 X2 hB (by first | exact ⟨by omega, by omega⟩ | (simp only [nz_c]; exact ⟨by omega, by omega⟩)) (by first | exact g0 | (simp only [nz_c]; exact g0) | (rw [(nzE n73)]; exact g0)) (by first | exact ⟨by omega, by omega⟩ | (simp only [nz_c]; exact ⟨by omega, by omega⟩)) (by first | (simp only [nz_c, (nzE n75)]; exact ⟨by omega, by omega⟩) | exact ⟨by omega, by omega⟩ | (rw [(nzE n75)]; exact ⟨by omega, by omega⟩)) (by first | exact ⟨by omega, by omega⟩ | (simp only [nz_c]; exact ⟨by omega, by omega⟩)) (by first | (simp only [nz_c, (nzE n78)]; exact ⟨by omega, by omega⟩) | exact ⟨by omega, by omega⟩ | (rw [(nzE n78)]; exact ⟨by omega, by omega⟩)) (by first | (simp only [nz_c, (nzE n78)]; exact g1) | exact g1 | (rw [(nzE n79)]; exact g1)) (fun F1 g e56 e57 e69 e70 e71 e72 => k2 g0 g1 F1 (nz_in hB [56, 57] (fun j hj hn => g j hj (by simp only [List.mem_cons, List.not_mem_nil, or_false, not_or] at hn; omega)) (List.forall_mem_cons.mpr ⟨fun t ht => (Option.some.inj ht) ▸ (nz_hA e56 (nz_up (nz_ba hB (k := 56) (lo := 0) (hi := 1) rfl) (by decide : ((0 : Int32)).toInt = 0) (by omega) (by omega))), List.forall_mem_cons.mpr ⟨fun t ht => (Option.some.inj ht) ▸ (nz_hz2 e57), List.forall_mem_nil _⟩⟩)) (fun j hj hn => g j hj (by simp only [List.mem_cons, List.not_mem_nil, or_false, not_or] at hn; omega)) ((zz_ai e56).trans w74) ((zz_ai e57).trans w77) ((congrArg Int32.toInt (zz_i e69)).trans (rfl : (sy_i F 69).toInt = (sy_i F 69).toInt)) ((zz_i e69).trans (rfl : sy_i F 69 = sy_i F 69)) ((congrArg Int32.toInt (zz_i e70)).trans (rfl : (sy_i F 70).toInt = (sy_i F 70).toInt)) ((zz_i e70).trans (rfl : sy_i F 70 = sy_i F 70)) ((congrArg Int32.toInt (zz_i e71)).trans (rfl : (sy_i F 71).toInt = (sy_i F 71).toInt)) ((zz_i e71).trans (rfl : sy_i F 71 = sy_i F 71)) ((congrArg Int32.toInt (zz_i e72)).trans (nzE n80)) ((zz_i e72).trans (rfl : (sy_i F 72) + ((1 : Int32)) = (sy_i F 72) + ((1 : Int32)))))
theorem ylo_117_p0 {Ls : Nat} {xs : Nat → Int32} {d : Nat} {Q : Option Value → jm_h → Prop} (hd : 3 ≤ d) (F : Nat → sy_d) (X1 X2 : List jm_c) (hB : iv_in F iv_B4)
    (h0 : 0 ≤ (sy_i F 72).toInt ∧ (sy_i F 72).toInt < 7)
    (h1 : 0 ≤ (((14 : Int32)) + (sy_i F 72)).toInt ∧ (((14 : Int32)) + (sy_i F 72)).toInt < 61)
    (h2 : ((sy_ai F 55).getD (((14 : Int32)) + (sy_i F 72)).toNatClampNeg 0).toInt ≠ 1)
    (h4 : 0 ≤ (((7 : Int32)) + (sy_i F 72)).toInt ∧ (((7 : Int32)) + (sy_i F 72)).toInt < 61)
    (h5 : 0 ≤ (((42 : Int32)) + (sy_i F 72)).toInt ∧ (((42 : Int32)) + (sy_i F 72)).toInt < 61)
    (h6 : 0 ≤ (((35 : Int32)) + (sy_i F 72)).toInt ∧ (((35 : Int32)) + (sy_i F 72)).toInt < 61)
    (k : ∀ F1 : Nat → sy_d, (∀ j, j < 69 → j ≠ 58 → F1 j = F j) → F1 58 = .inr (.inl (jm_upd (sy_ai F 58) (sy_i F 72).toNatClampNeg (sy_i F 73))) → F1 69 = .inl (.int (sy_i F 69)) → F1 70 = .inl (.int (sy_i F 70)) → F1 71 = .inl (.int (sy_i F 71)) → F1 72 = .inl (.int (sy_i F 72)) → F1 73 = .inl (.int (((((((((((((sy_i F 18) ^^^ ((101 : Int32))) * ((1103515245 : Int32))) + ((12345 : Int32))) ^^^ (((((((sy_i F 18) ^^^ ((101 : Int32))) * ((1103515245 : Int32))) + ((12345 : Int32)))).toUInt32 >>> ((((15 : Int32))).toUInt32 &&& Int32.toUInt32 31)).toInt32)) ^^^ ((((16 : Int32)) * (sy_i F 70)) + (sy_i F 72))) * ((1103515245 : Int32))) + ((12345 : Int32))) ^^^ (((((((((((sy_i F 18) ^^^ ((101 : Int32))) * ((1103515245 : Int32))) + ((12345 : Int32))) ^^^ (((((((sy_i F 18) ^^^ ((101 : Int32))) * ((1103515245 : Int32))) + ((12345 : Int32)))).toUInt32 >>> ((((15 : Int32))).toUInt32 &&& Int32.toUInt32 31)).toInt32)) ^^^ ((((16 : Int32)) * (sy_i F 70)) + (sy_i F 72))) * ((1103515245 : Int32))) + ((12345 : Int32)))).toUInt32 >>> ((((15 : Int32))).toUInt32 &&& Int32.toUInt32 31)).toInt32))).toUInt32 >>> ((((1 : Int32))).toUInt32 &&& Int32.toUInt32 31)).toInt32) - ((((((((((((sy_i F 18) ^^^ ((101 : Int32))) * ((1103515245 : Int32))) + ((12345 : Int32))) ^^^ (((((((sy_i F 18) ^^^ ((101 : Int32))) * ((1103515245 : Int32))) + ((12345 : Int32)))).toUInt32 >>> ((((15 : Int32))).toUInt32 &&& Int32.toUInt32 31)).toInt32)) ^^^ ((((16 : Int32)) * (sy_i F 70)) + (sy_i F 72))) * ((1103515245 : Int32))) + ((12345 : Int32))) ^^^ (((((((((((sy_i F 18) ^^^ ((101 : Int32))) * ((1103515245 : Int32))) + ((12345 : Int32))) ^^^ (((((((sy_i F 18) ^^^ ((101 : Int32))) * ((1103515245 : Int32))) + ((12345 : Int32)))).toUInt32 >>> ((((15 : Int32))).toUInt32 &&& Int32.toUInt32 31)).toInt32)) ^^^ ((((16 : Int32)) * (sy_i F 70)) + (sy_i F 72))) * ((1103515245 : Int32))) + ((12345 : Int32)))).toUInt32 >>> ((((15 : Int32))).toUInt32 &&& Int32.toUInt32 31)).toInt32))).toUInt32 >>> ((((1 : Int32))).toUInt32 &&& Int32.toUInt32 31)).toInt32) / ((100 : Int32)) * ((100 : Int32)))) → F1 74 = .inl (.int ((sy_ai F 55).getD (((7 : Int32)) + (sy_i F 72)).toNatClampNeg 0)) → F1 75 = .inl (.int ((sy_ai F 55).getD (((42 : Int32)) + (sy_i F 72)).toNatClampNeg 0)) → F1 76 = .inl (.int ((sy_ai F 55).getD (((35 : Int32)) + (sy_i F 72)).toNatClampNeg 0)) → hd_W Ls xs d jm_M189 Q (189, sy_dL F1 [some (.inl (.ref 1000)), some (.inr (.inl 69)), some (.inr (.inl 70)), some (.inr (.inl 71)), some (.inr (.inl 72))], sy_dS F1 [.inr (.inl 69), .inr (.inl 70), .inr (.inl 71), .inr (.inl 76), .inr (.inl 75), .inr (.inl 74), .inr (.inl 72), .inl (.int 2), .inl (.ref 1000), .inr (.inl 73), .inr (.inl 72), .inl (.ref 1034)], sy_dh F1 X1 X2 (iv_H 4), 0, 0)) :
    hd_W Ls xs d jm_M189 Q (117, sy_dL F [some (.inl (.ref 1000)), some (.inr (.inl 69)), some (.inr (.inl 70)), some (.inr (.inl 71)), some (.inr (.inl 72))], sy_dS F [.inr (.inl 73), .inr (.inl 72), .inl (.ref 1036)], sy_dh F X1 X2 (iv_H 4), 0, 0) := by
  refine hd_run (s := 4) (nv := 74) (pc := 189) (L := [some (.inl (.ref 1000)), some (.inr (.inl 69)), some (.inr (.inl 70)), some (.inr (.inl 71)), some (.inr (.inl 72))]) (S := [.inr (.inl 69), .inr (.inl 70), .inr (.inl 71), .inr (.inl 76), .inr (.inl 75), .inr (.inl 74), .inr (.inl 72), .inl (.int 2), .inl (.ref 1000), .inr (.inl 73), .inr (.inl 72), .inl (.ref 1034)]) (uh := hd_ov (iv_id 0 iv_B4) [(58, .inr (.inr (.inl 74)))]) (ul := [.inl (.inr (.inl 69)), .inl (.inr (.inl 70)), .inl (.inr (.inl 71)), .inl (.inr (.inl 72)), .inl (.inr (.inl 90)), .inl (.inr (.inl 92)), .inl (.inr (.inl 94)), .inl (.inr (.inl 96))]) (f := false) (sp := [27, 189]) (d0 := 2) (O := [true]) (T := [(40, [.inr (.inl 72), .inr (.inl 73)], [.inr (.inl 58)]), (0, [.inl (.int 14), .inr (.inl 72)], []), (30, [.inr (.inl 75)], [.inr (.inl 55)]), (2, [.inl (.int 16), .inr (.inl 70)], []), (0, [.inr (.inl 77), .inr (.inl 72)], []), (5, [.inr (.inl 18), .inl (.int 101)], []), (2, [.inr (.inl 79), .inl (.int 1103515245)], []), (0, [.inr (.inl 80), .inl (.int 12345)], []), (8, [.inr (.inl 81), .inl (.int 15)], []), (5, [.inr (.inl 81), .inr (.inl 82)], []), (5, [.inr (.inl 83), .inr (.inl 78)], []), (2, [.inr (.inl 84), .inl (.int 1103515245)], []), (0, [.inr (.inl 85), .inl (.int 12345)], []), (8, [.inr (.inl 86), .inl (.int 15)], []), (5, [.inr (.inl 86), .inr (.inl 87)], []), (8, [.inr (.inl 88), .inl (.int 1)], []), (10, [.inr (.inl 89), .inl (.int 100)], []), (0, [.inl (.int 7), .inr (.inl 72)], []), (30, [.inr (.inl 91)], [.inr (.inl 55)]), (0, [.inl (.int 42), .inr (.inl 72)], []), (30, [.inr (.inl 93)], [.inr (.inl 55)]), (0, [.inl (.int 35), .inr (.inl 72)], []), (30, [.inr (.inl 95)], [.inr (.inl 55)])]) (P := [(6, .inr (.inl 72), .inl (.ref 7)), (6, .inr (.inl 75), .inl (.ref 61)), (1, .inr (.inl 76), .inl (.int 1)), (1, .inl (.int 100), .inl (.int 0)), (6, .inr (.inl 91), .inl (.ref 61)), (6, .inr (.inl 93), .inl (.ref 61)), (6, .inr (.inl 95), .inl (.ref 61))]) jm_ok189 (by decide +kernel) (by decide +kernel) hd F X1 X2 (fun F' hF hs => ?_)
  have b72 := hd_b (F := F) (F' := F') (k := 72) (hF 72 (by decide))
  have t75 : sy_dv F' (.inr (.inl 75)) = .int (((14 : Int32)) + (sy_i F 72)) := hd_o (hs 1 _ rfl) rfl b72 rfl
  have a55 := hd_ba (F := F) (F' := F') (k := 55) (hF 55 (by decide))
  have t76 : sy_dv F' (.inr (.inl 76)) = .int ((sy_ai F 55).getD (((14 : Int32)) + (sy_i F 72)).toNatClampNeg 0) := hd_rd (hs 2 _ rfl) t75 a55
  have t91 : sy_dv F' (.inr (.inl 91)) = .int (((7 : Int32)) + (sy_i F 72)) := hd_o (hs 17 _ rfl) rfl b72 rfl
  have t93 : sy_dv F' (.inr (.inl 93)) = .int (((42 : Int32)) + (sy_i F 72)) := hd_o (hs 19 _ rfl) rfl b72 rfl
  have t95 : sy_dv F' (.inr (.inl 95)) = .int (((35 : Int32)) + (sy_i F 72)) := hd_o (hs 21 _ rfl) rfl b72 rfl
  have b73 := hd_b (F := F) (F' := F') (k := 73) (hF 73 (by decide))
  have a58 := hd_ba (F := F) (F' := F') (k := 58) (hF 58 (by decide))
  have t74 : sy_da F' (.inr (.inl 74)) = .inl (jm_upd (sy_ai F 58) (sy_i F 72).toNatClampNeg (sy_i F 73)) := hd_up (hs 0 _ rfl) b72 b73 a58
  have b69 := hd_b (F := F) (F' := F') (k := 69) (hF 69 (by decide))
  have b70 := hd_b (F := F) (F' := F') (k := 70) (hF 70 (by decide))
  have b71 := hd_b (F := F) (F' := F') (k := 71) (hF 71 (by decide))
  have b18 := hd_b (F := F) (F' := F') (k := 18) (hF 18 (by decide))
  have t79 : sy_dv F' (.inr (.inl 79)) = .int ((sy_i F 18) ^^^ ((101 : Int32))) := hd_o (hs 5 _ rfl) b18 rfl rfl
  have t80 : sy_dv F' (.inr (.inl 80)) = .int (((sy_i F 18) ^^^ ((101 : Int32))) * ((1103515245 : Int32))) := hd_o (hs 6 _ rfl) t79 rfl rfl
  have t81 : sy_dv F' (.inr (.inl 81)) = .int ((((sy_i F 18) ^^^ ((101 : Int32))) * ((1103515245 : Int32))) + ((12345 : Int32))) := hd_o (hs 7 _ rfl) t80 rfl rfl
  have t82 : sy_dv F' (.inr (.inl 82)) = .int (((((((sy_i F 18) ^^^ ((101 : Int32))) * ((1103515245 : Int32))) + ((12345 : Int32)))).toUInt32 >>> ((((15 : Int32))).toUInt32 &&& Int32.toUInt32 31)).toInt32) := hd_o (hs 8 _ rfl) t81 rfl rfl
  have t83 : sy_dv F' (.inr (.inl 83)) = .int (((((sy_i F 18) ^^^ ((101 : Int32))) * ((1103515245 : Int32))) + ((12345 : Int32))) ^^^ (((((((sy_i F 18) ^^^ ((101 : Int32))) * ((1103515245 : Int32))) + ((12345 : Int32)))).toUInt32 >>> ((((15 : Int32))).toUInt32 &&& Int32.toUInt32 31)).toInt32)) := hd_o (hs 9 _ rfl) t81 t82 rfl
  have t77 : sy_dv F' (.inr (.inl 77)) = .int (((16 : Int32)) * (sy_i F 70)) := hd_o (hs 3 _ rfl) rfl b70 rfl
  have t78 : sy_dv F' (.inr (.inl 78)) = .int ((((16 : Int32)) * (sy_i F 70)) + (sy_i F 72)) := hd_o (hs 4 _ rfl) t77 b72 rfl
  have t84 : sy_dv F' (.inr (.inl 84)) = .int ((((((sy_i F 18) ^^^ ((101 : Int32))) * ((1103515245 : Int32))) + ((12345 : Int32))) ^^^ (((((((sy_i F 18) ^^^ ((101 : Int32))) * ((1103515245 : Int32))) + ((12345 : Int32)))).toUInt32 >>> ((((15 : Int32))).toUInt32 &&& Int32.toUInt32 31)).toInt32)) ^^^ ((((16 : Int32)) * (sy_i F 70)) + (sy_i F 72))) := hd_o (hs 10 _ rfl) t83 t78 rfl
  have t85 : sy_dv F' (.inr (.inl 85)) = .int (((((((sy_i F 18) ^^^ ((101 : Int32))) * ((1103515245 : Int32))) + ((12345 : Int32))) ^^^ (((((((sy_i F 18) ^^^ ((101 : Int32))) * ((1103515245 : Int32))) + ((12345 : Int32)))).toUInt32 >>> ((((15 : Int32))).toUInt32 &&& Int32.toUInt32 31)).toInt32)) ^^^ ((((16 : Int32)) * (sy_i F 70)) + (sy_i F 72))) * ((1103515245 : Int32))) := hd_o (hs 11 _ rfl) t84 rfl rfl
  have t86 : sy_dv F' (.inr (.inl 86)) = .int ((((((((sy_i F 18) ^^^ ((101 : Int32))) * ((1103515245 : Int32))) + ((12345 : Int32))) ^^^ (((((((sy_i F 18) ^^^ ((101 : Int32))) * ((1103515245 : Int32))) + ((12345 : Int32)))).toUInt32 >>> ((((15 : Int32))).toUInt32 &&& Int32.toUInt32 31)).toInt32)) ^^^ ((((16 : Int32)) * (sy_i F 70)) + (sy_i F 72))) * ((1103515245 : Int32))) + ((12345 : Int32))) := hd_o (hs 12 _ rfl) t85 rfl rfl
  have t87 : sy_dv F' (.inr (.inl 87)) = .int (((((((((((sy_i F 18) ^^^ ((101 : Int32))) * ((1103515245 : Int32))) + ((12345 : Int32))) ^^^ (((((((sy_i F 18) ^^^ ((101 : Int32))) * ((1103515245 : Int32))) + ((12345 : Int32)))).toUInt32 >>> ((((15 : Int32))).toUInt32 &&& Int32.toUInt32 31)).toInt32)) ^^^ ((((16 : Int32)) * (sy_i F 70)) + (sy_i F 72))) * ((1103515245 : Int32))) + ((12345 : Int32)))).toUInt32 >>> ((((15 : Int32))).toUInt32 &&& Int32.toUInt32 31)).toInt32) := hd_o (hs 13 _ rfl) t86 rfl rfl
  have t88 : sy_dv F' (.inr (.inl 88)) = .int (((((((((sy_i F 18) ^^^ ((101 : Int32))) * ((1103515245 : Int32))) + ((12345 : Int32))) ^^^ (((((((sy_i F 18) ^^^ ((101 : Int32))) * ((1103515245 : Int32))) + ((12345 : Int32)))).toUInt32 >>> ((((15 : Int32))).toUInt32 &&& Int32.toUInt32 31)).toInt32)) ^^^ ((((16 : Int32)) * (sy_i F 70)) + (sy_i F 72))) * ((1103515245 : Int32))) + ((12345 : Int32))) ^^^ (((((((((((sy_i F 18) ^^^ ((101 : Int32))) * ((1103515245 : Int32))) + ((12345 : Int32))) ^^^ (((((((sy_i F 18) ^^^ ((101 : Int32))) * ((1103515245 : Int32))) + ((12345 : Int32)))).toUInt32 >>> ((((15 : Int32))).toUInt32 &&& Int32.toUInt32 31)).toInt32)) ^^^ ((((16 : Int32)) * (sy_i F 70)) + (sy_i F 72))) * ((1103515245 : Int32))) + ((12345 : Int32)))).toUInt32 >>> ((((15 : Int32))).toUInt32 &&& Int32.toUInt32 31)).toInt32)) := hd_o (hs 14 _ rfl) t86 t87 rfl
  have t89 : sy_dv F' (.inr (.inl 89)) = .int ((((((((((((sy_i F 18) ^^^ ((101 : Int32))) * ((1103515245 : Int32))) + ((12345 : Int32))) ^^^ (((((((sy_i F 18) ^^^ ((101 : Int32))) * ((1103515245 : Int32))) + ((12345 : Int32)))).toUInt32 >>> ((((15 : Int32))).toUInt32 &&& Int32.toUInt32 31)).toInt32)) ^^^ ((((16 : Int32)) * (sy_i F 70)) + (sy_i F 72))) * ((1103515245 : Int32))) + ((12345 : Int32))) ^^^ (((((((((((sy_i F 18) ^^^ ((101 : Int32))) * ((1103515245 : Int32))) + ((12345 : Int32))) ^^^ (((((((sy_i F 18) ^^^ ((101 : Int32))) * ((1103515245 : Int32))) + ((12345 : Int32)))).toUInt32 >>> ((((15 : Int32))).toUInt32 &&& Int32.toUInt32 31)).toInt32)) ^^^ ((((16 : Int32)) * (sy_i F 70)) + (sy_i F 72))) * ((1103515245 : Int32))) + ((12345 : Int32)))).toUInt32 >>> ((((15 : Int32))).toUInt32 &&& Int32.toUInt32 31)).toInt32))).toUInt32 >>> ((((1 : Int32))).toUInt32 &&& Int32.toUInt32 31)).toInt32) := hd_o (hs 15 _ rfl) t88 rfl rfl
  have t90 : sy_dv F' (.inr (.inl 90)) = .int (((((((((((((sy_i F 18) ^^^ ((101 : Int32))) * ((1103515245 : Int32))) + ((12345 : Int32))) ^^^ (((((((sy_i F 18) ^^^ ((101 : Int32))) * ((1103515245 : Int32))) + ((12345 : Int32)))).toUInt32 >>> ((((15 : Int32))).toUInt32 &&& Int32.toUInt32 31)).toInt32)) ^^^ ((((16 : Int32)) * (sy_i F 70)) + (sy_i F 72))) * ((1103515245 : Int32))) + ((12345 : Int32))) ^^^ (((((((((((sy_i F 18) ^^^ ((101 : Int32))) * ((1103515245 : Int32))) + ((12345 : Int32))) ^^^ (((((((sy_i F 18) ^^^ ((101 : Int32))) * ((1103515245 : Int32))) + ((12345 : Int32)))).toUInt32 >>> ((((15 : Int32))).toUInt32 &&& Int32.toUInt32 31)).toInt32)) ^^^ ((((16 : Int32)) * (sy_i F 70)) + (sy_i F 72))) * ((1103515245 : Int32))) + ((12345 : Int32)))).toUInt32 >>> ((((15 : Int32))).toUInt32 &&& Int32.toUInt32 31)).toInt32))).toUInt32 >>> ((((1 : Int32))).toUInt32 &&& Int32.toUInt32 31)).toInt32) - ((((((((((((sy_i F 18) ^^^ ((101 : Int32))) * ((1103515245 : Int32))) + ((12345 : Int32))) ^^^ (((((((sy_i F 18) ^^^ ((101 : Int32))) * ((1103515245 : Int32))) + ((12345 : Int32)))).toUInt32 >>> ((((15 : Int32))).toUInt32 &&& Int32.toUInt32 31)).toInt32)) ^^^ ((((16 : Int32)) * (sy_i F 70)) + (sy_i F 72))) * ((1103515245 : Int32))) + ((12345 : Int32))) ^^^ (((((((((((sy_i F 18) ^^^ ((101 : Int32))) * ((1103515245 : Int32))) + ((12345 : Int32))) ^^^ (((((((sy_i F 18) ^^^ ((101 : Int32))) * ((1103515245 : Int32))) + ((12345 : Int32)))).toUInt32 >>> ((((15 : Int32))).toUInt32 &&& Int32.toUInt32 31)).toInt32)) ^^^ ((((16 : Int32)) * (sy_i F 70)) + (sy_i F 72))) * ((1103515245 : Int32))) + ((12345 : Int32)))).toUInt32 >>> ((((15 : Int32))).toUInt32 &&& Int32.toUInt32 31)).toInt32))).toUInt32 >>> ((((1 : Int32))).toUInt32 &&& Int32.toUInt32 31)).toInt32) / ((100 : Int32)) * ((100 : Int32))) := hd_o (hs 16 _ rfl) t89 rfl rfl
  have t92 : sy_dv F' (.inr (.inl 92)) = .int ((sy_ai F 55).getD (((7 : Int32)) + (sy_i F 72)).toNatClampNeg 0) := hd_rd (hs 18 _ rfl) t91 a55
  have t94 : sy_dv F' (.inr (.inl 94)) = .int ((sy_ai F 55).getD (((42 : Int32)) + (sy_i F 72)).toNatClampNeg 0) := hd_rd (hs 20 _ rfl) t93 a55
  have t96 : sy_dv F' (.inr (.inl 96)) = .int ((sy_ai F 55).getD (((35 : Int32)) + (sy_i F 72)).toNatClampNeg 0) := hd_rd (hs 22 _ rfl) t95 a55
  have hB' : iv_in F' iv_B4 := iv_in_eq hB (fun j hj => hF j (Nat.lt_of_lt_of_le hj (by decide +kernel)))
  refine ⟨List.forall_mem_cons.mpr ⟨hd_pb b72 (by first | exact h0 | exact h0), List.forall_mem_cons.mpr ⟨hd_pb t75 (by first | exact h1 | exact h1), List.forall_mem_cons.mpr ⟨hd_p1 t76 rfl (by have hc : ((1) : Int32).toInt = 1 := (by decide); omega), List.forall_mem_cons.mpr ⟨(hd_p1 (X := 100) (Y := 0) rfl rfl (by decide)), List.forall_mem_cons.mpr ⟨hd_pb t91 (by first | exact h4 | exact h4), List.forall_mem_cons.mpr ⟨hd_pb t93 (by first | exact h5 | exact h5), List.forall_mem_cons.mpr ⟨hd_pb t95 (by first | exact h6 | exact h6), fun _ h => absurd h List.not_mem_nil⟩⟩⟩⟩⟩⟩⟩, ?_⟩
  refine k _ ?_ ?_ ?_ ?_ ?_ ?_ ?_ ?_ ?_ ?_
  · exact fun j hj hn => (hd_keep hB' (Nat.lt_of_lt_of_le hj (by decide +kernel)) (by simp; omega)).trans (hF j (Nat.lt_of_lt_of_le hj (by decide)))
  · exact hd_ga (a := .inr (.inl 74)) (by decide +kernel) t74
  · exact hd_gi (x := .inr (.inl 69)) (by decide +kernel) b69
  · exact hd_gi (x := .inr (.inl 70)) (by decide +kernel) b70
  · exact hd_gi (x := .inr (.inl 71)) (by decide +kernel) b71
  · exact hd_gi (x := .inr (.inl 72)) (by decide +kernel) b72
  · exact hd_gi (x := .inr (.inl 90)) (by decide +kernel) t90
  · exact hd_gi (x := .inr (.inl 92)) (by decide +kernel) t92
  · exact hd_gi (x := .inr (.inl 94)) (by decide +kernel) t94
  · exact hd_gi (x := .inr (.inl 96)) (by decide +kernel) t96
theorem ylo_117_p1 {Ls : Nat} {xs : Nat → Int32} {d : Nat} {Q : Option Value → jm_h → Prop} (hd : 3 ≤ d) (F : Nat → sy_d) (X1 X2 : List jm_c) (hB : iv_in F iv_B4)
    (h0 : 0 ≤ (sy_i F 72).toInt ∧ (sy_i F 72).toInt < 7)
    (h1 : 0 ≤ (((14 : Int32)) + (sy_i F 72)).toInt ∧ (((14 : Int32)) + (sy_i F 72)).toInt < 61)
    (h2 : ((sy_ai F 55).getD (((14 : Int32)) + (sy_i F 72)).toNatClampNeg 0).toInt = 1)
    (k : ∀ F1 : Nat → sy_d, (∀ j, j < 69 → j ≠ 58 → F1 j = F j) → F1 58 = .inr (.inl (jm_upd (sy_ai F 58) (sy_i F 72).toNatClampNeg (sy_i F 73))) → F1 69 = .inl (.int (sy_i F 69)) → F1 70 = .inl (.int (sy_i F 70)) → F1 71 = .inl (.int (sy_i F 71)) → F1 72 = .inl (.int ((sy_i F 72) + ((1 : Int32)))) → hd_W Ls xs d jm_M189 Q (27, sy_dL F1 [some (.inl (.ref 1000)), some (.inr (.inl 69)), some (.inr (.inl 70)), some (.inr (.inl 71)), some (.inr (.inl 72))], sy_dS F1 [], sy_dh F1 X1 X2 (iv_H 4), 0, 0)) :
    hd_W Ls xs d jm_M189 Q (117, sy_dL F [some (.inl (.ref 1000)), some (.inr (.inl 69)), some (.inr (.inl 70)), some (.inr (.inl 71)), some (.inr (.inl 72))], sy_dS F [.inr (.inl 73), .inr (.inl 72), .inl (.ref 1036)], sy_dh F X1 X2 (iv_H 4), 0, 0) := by
  refine hd_run (s := 4) (nv := 74) (pc := 27) (L := [some (.inl (.ref 1000)), some (.inr (.inl 69)), some (.inr (.inl 70)), some (.inr (.inl 71)), some (.inr (.inl 72))]) (S := []) (uh := hd_ov (iv_id 0 iv_B4) [(58, .inr (.inr (.inl 74)))]) (ul := [.inl (.inr (.inl 69)), .inl (.inr (.inl 70)), .inl (.inr (.inl 71)), .inl (.inr (.inl 77))]) (f := false) (sp := [27, 189]) (d0 := 2) (O := [false]) (T := [(40, [.inr (.inl 72), .inr (.inl 73)], [.inr (.inl 58)]), (0, [.inl (.int 14), .inr (.inl 72)], []), (30, [.inr (.inl 75)], [.inr (.inl 55)]), (0, [.inr (.inl 72), .inl (.int 1)], [])]) (P := [(6, .inr (.inl 72), .inl (.ref 7)), (6, .inr (.inl 75), .inl (.ref 61)), (0, .inr (.inl 76), .inl (.int 1))]) jm_ok189 (by decide +kernel) (by decide +kernel) hd F X1 X2 (fun F' hF hs => ?_)
  have b72 := hd_b (F := F) (F' := F') (k := 72) (hF 72 (by decide))
  have t75 : sy_dv F' (.inr (.inl 75)) = .int (((14 : Int32)) + (sy_i F 72)) := hd_o (hs 1 _ rfl) rfl b72 rfl
  have a55 := hd_ba (F := F) (F' := F') (k := 55) (hF 55 (by decide))
  have t76 : sy_dv F' (.inr (.inl 76)) = .int ((sy_ai F 55).getD (((14 : Int32)) + (sy_i F 72)).toNatClampNeg 0) := hd_rd (hs 2 _ rfl) t75 a55
  have b73 := hd_b (F := F) (F' := F') (k := 73) (hF 73 (by decide))
  have a58 := hd_ba (F := F) (F' := F') (k := 58) (hF 58 (by decide))
  have t74 : sy_da F' (.inr (.inl 74)) = .inl (jm_upd (sy_ai F 58) (sy_i F 72).toNatClampNeg (sy_i F 73)) := hd_up (hs 0 _ rfl) b72 b73 a58
  have b69 := hd_b (F := F) (F' := F') (k := 69) (hF 69 (by decide))
  have b70 := hd_b (F := F) (F' := F') (k := 70) (hF 70 (by decide))
  have b71 := hd_b (F := F) (F' := F') (k := 71) (hF 71 (by decide))
  have t77 : sy_dv F' (.inr (.inl 77)) = .int ((sy_i F 72) + ((1 : Int32))) := hd_o (hs 3 _ rfl) b72 rfl rfl
  have hB' : iv_in F' iv_B4 := iv_in_eq hB (fun j hj => hF j (Nat.lt_of_lt_of_le hj (by decide +kernel)))
  refine ⟨List.forall_mem_cons.mpr ⟨hd_pb b72 (by first | exact h0 | exact h0), List.forall_mem_cons.mpr ⟨hd_pb t75 (by first | exact h1 | exact h1), List.forall_mem_cons.mpr ⟨hd_p0 t76 rfl (by have hc : ((1) : Int32).toInt = 1 := (by decide); omega), fun _ h => absurd h List.not_mem_nil⟩⟩⟩, ?_⟩
  refine k _ ?_ ?_ ?_ ?_ ?_ ?_
  · exact fun j hj hn => (hd_keep hB' (Nat.lt_of_lt_of_le hj (by decide +kernel)) (by simp; omega)).trans (hF j (Nat.lt_of_lt_of_le hj (by decide)))
  · exact hd_ga (a := .inr (.inl 74)) (by decide +kernel) t74
  · exact hd_gi (x := .inr (.inl 69)) (by decide +kernel) b69
  · exact hd_gi (x := .inr (.inl 70)) (by decide +kernel) b70
  · exact hd_gi (x := .inr (.inl 71)) (by decide +kernel) b71
  · exact hd_gi (x := .inr (.inl 77)) (by decide +kernel) t77
theorem ylo_117 {Ls : Nat} {xs : Nat → Int32} {d : Nat} {Q : Option Value → jm_h → Prop} (hd : 3 ≤ d) (F : Nat → sy_d) (X1 X2 : List jm_c) (hB : iv_in F iv_B4)
    (a72 : 0 ≤ (sy_i F 72).toInt ∧ (sy_i F 72).toInt ≤ 6)
    (k0 : ((sy_ai F 55).getD ((14 + (sy_i F 72).toInt)).toNat 0).toInt ≠ 1 → ∀ F1 : Nat → sy_d, iv_in F1 iv_B4 → (∀ j, j < 69 → j ∉ ([58] : List Nat) → F1 j = F j) → sy_ai F1 58 = jm_upd (sy_ai F 58) ((sy_i F 72).toInt).toNat (sy_i F 73) → (sy_i F1 69).toInt = (sy_i F 69).toInt → sy_i F1 69 = sy_i F 69 → (sy_i F1 70).toInt = (sy_i F 70).toInt → sy_i F1 70 = sy_i F 70 → (sy_i F1 71).toInt = (sy_i F 71).toInt → sy_i F1 71 = sy_i F 71 → (sy_i F1 72).toInt = (sy_i F 72).toInt → sy_i F1 72 = sy_i F 72 → (sy_i F1 73).toInt = (((((((((((((sy_i F 18) ^^^ ((101 : Int32))) * ((1103515245 : Int32))) + ((12345 : Int32))) ^^^ (((((((sy_i F 18) ^^^ ((101 : Int32))) * ((1103515245 : Int32))) + ((12345 : Int32)))).toUInt32 >>> ((((15 : Int32))).toUInt32 &&& Int32.toUInt32 31)).toInt32)) ^^^ ((((16 : Int32)) * (sy_i F 70)) + (sy_i F 72))) * ((1103515245 : Int32))) + ((12345 : Int32))) ^^^ (((((((((((sy_i F 18) ^^^ ((101 : Int32))) * ((1103515245 : Int32))) + ((12345 : Int32))) ^^^ (((((((sy_i F 18) ^^^ ((101 : Int32))) * ((1103515245 : Int32))) + ((12345 : Int32)))).toUInt32 >>> ((((15 : Int32))).toUInt32 &&& Int32.toUInt32 31)).toInt32)) ^^^ ((((16 : Int32)) * (sy_i F 70)) + (sy_i F 72))) * ((1103515245 : Int32))) + ((12345 : Int32)))).toUInt32 >>> ((((15 : Int32))).toUInt32 &&& Int32.toUInt32 31)).toInt32))).toUInt32 >>> ((((1 : Int32))).toUInt32 &&& Int32.toUInt32 31)).toInt32) - ((((((((((((sy_i F 18) ^^^ ((101 : Int32))) * ((1103515245 : Int32))) + ((12345 : Int32))) ^^^ (((((((sy_i F 18) ^^^ ((101 : Int32))) * ((1103515245 : Int32))) + ((12345 : Int32)))).toUInt32 >>> ((((15 : Int32))).toUInt32 &&& Int32.toUInt32 31)).toInt32)) ^^^ ((((16 : Int32)) * (sy_i F 70)) + (sy_i F 72))) * ((1103515245 : Int32))) + ((12345 : Int32))) ^^^ (((((((((((sy_i F 18) ^^^ ((101 : Int32))) * ((1103515245 : Int32))) + ((12345 : Int32))) ^^^ (((((((sy_i F 18) ^^^ ((101 : Int32))) * ((1103515245 : Int32))) + ((12345 : Int32)))).toUInt32 >>> ((((15 : Int32))).toUInt32 &&& Int32.toUInt32 31)).toInt32)) ^^^ ((((16 : Int32)) * (sy_i F 70)) + (sy_i F 72))) * ((1103515245 : Int32))) + ((12345 : Int32)))).toUInt32 >>> ((((15 : Int32))).toUInt32 &&& Int32.toUInt32 31)).toInt32))).toUInt32 >>> ((((1 : Int32))).toUInt32 &&& Int32.toUInt32 31)).toInt32) / ((100 : Int32)) * ((100 : Int32))).toInt → sy_i F1 73 = ((((((((((((sy_i F 18) ^^^ ((101 : Int32))) * ((1103515245 : Int32))) + ((12345 : Int32))) ^^^ (((((((sy_i F 18) ^^^ ((101 : Int32))) * ((1103515245 : Int32))) + ((12345 : Int32)))).toUInt32 >>> ((((15 : Int32))).toUInt32 &&& Int32.toUInt32 31)).toInt32)) ^^^ ((((16 : Int32)) * (sy_i F 70)) + (sy_i F 72))) * ((1103515245 : Int32))) + ((12345 : Int32))) ^^^ (((((((((((sy_i F 18) ^^^ ((101 : Int32))) * ((1103515245 : Int32))) + ((12345 : Int32))) ^^^ (((((((sy_i F 18) ^^^ ((101 : Int32))) * ((1103515245 : Int32))) + ((12345 : Int32)))).toUInt32 >>> ((((15 : Int32))).toUInt32 &&& Int32.toUInt32 31)).toInt32)) ^^^ ((((16 : Int32)) * (sy_i F 70)) + (sy_i F 72))) * ((1103515245 : Int32))) + ((12345 : Int32)))).toUInt32 >>> ((((15 : Int32))).toUInt32 &&& Int32.toUInt32 31)).toInt32))).toUInt32 >>> ((((1 : Int32))).toUInt32 &&& Int32.toUInt32 31)).toInt32) - ((((((((((((sy_i F 18) ^^^ ((101 : Int32))) * ((1103515245 : Int32))) + ((12345 : Int32))) ^^^ (((((((sy_i F 18) ^^^ ((101 : Int32))) * ((1103515245 : Int32))) + ((12345 : Int32)))).toUInt32 >>> ((((15 : Int32))).toUInt32 &&& Int32.toUInt32 31)).toInt32)) ^^^ ((((16 : Int32)) * (sy_i F 70)) + (sy_i F 72))) * ((1103515245 : Int32))) + ((12345 : Int32))) ^^^ (((((((((((sy_i F 18) ^^^ ((101 : Int32))) * ((1103515245 : Int32))) + ((12345 : Int32))) ^^^ (((((((sy_i F 18) ^^^ ((101 : Int32))) * ((1103515245 : Int32))) + ((12345 : Int32)))).toUInt32 >>> ((((15 : Int32))).toUInt32 &&& Int32.toUInt32 31)).toInt32)) ^^^ ((((16 : Int32)) * (sy_i F 70)) + (sy_i F 72))) * ((1103515245 : Int32))) + ((12345 : Int32)))).toUInt32 >>> ((((15 : Int32))).toUInt32 &&& Int32.toUInt32 31)).toInt32))).toUInt32 >>> ((((1 : Int32))).toUInt32 &&& Int32.toUInt32 31)).toInt32) / ((100 : Int32)) * ((100 : Int32)) → (sy_i F1 74).toInt = ((sy_ai F 55).getD ((7 + (sy_i F 72).toInt)).toNat 0).toInt → sy_i F1 74 = (sy_ai F 55).getD ((7 + (sy_i F 72).toInt)).toNat 0 → (sy_i F1 75).toInt = ((sy_ai F 55).getD ((42 + (sy_i F 72).toInt)).toNat 0).toInt → sy_i F1 75 = (sy_ai F 55).getD ((42 + (sy_i F 72).toInt)).toNat 0 → (sy_i F1 76).toInt = ((sy_ai F 55).getD ((35 + (sy_i F 72).toInt)).toNat 0).toInt → sy_i F1 76 = (sy_ai F 55).getD ((35 + (sy_i F 72).toInt)).toNat 0 → hd_W Ls xs d jm_M189 Q (189, sy_dL F1 [some (.inl (.ref 1000)), some (.inr (.inl 69)), some (.inr (.inl 70)), some (.inr (.inl 71)), some (.inr (.inl 72))], sy_dS F1 [.inr (.inl 69), .inr (.inl 70), .inr (.inl 71), .inr (.inl 76), .inr (.inl 75), .inr (.inl 74), .inr (.inl 72), .inl (.int 2), .inl (.ref 1000), .inr (.inl 73), .inr (.inl 72), .inl (.ref 1034)], sy_dh F1 X1 X2 (iv_H 4), 0, 0))
    (k1 : ((sy_ai F 55).getD ((14 + (sy_i F 72).toInt)).toNat 0).toInt = 1 → ∀ F1 : Nat → sy_d, iv_in F1 iv_B4 → (∀ j, j < 69 → j ∉ ([58] : List Nat) → F1 j = F j) → sy_ai F1 58 = jm_upd (sy_ai F 58) ((sy_i F 72).toInt).toNat (sy_i F 73) → (sy_i F1 69).toInt = (sy_i F 69).toInt → sy_i F1 69 = sy_i F 69 → (sy_i F1 70).toInt = (sy_i F 70).toInt → sy_i F1 70 = sy_i F 70 → (sy_i F1 71).toInt = (sy_i F 71).toInt → sy_i F1 71 = sy_i F 71 → (sy_i F1 72).toInt = ((sy_i F 72).toInt + 1) → sy_i F1 72 = (sy_i F 72) + ((1 : Int32)) → hd_W Ls xs d jm_M189 Q (27, sy_dL F1 [some (.inl (.ref 1000)), some (.inr (.inl 69)), some (.inr (.inl 70)), some (.inr (.inl 71)), some (.inr (.inl 72))], sy_dS F1 [], sy_dh F1 X1 X2 (iv_H 4), 0, 0)) :
    hd_W Ls xs d jm_M189 Q (117, sy_dL F [some (.inl (.ref 1000)), some (.inr (.inl 69)), some (.inr (.inl 70)), some (.inr (.inl 71)), some (.inr (.inl 72))], sy_dS F [.inr (.inl 73), .inr (.inl 72), .inl (.ref 1036)], sy_dh F X1 X2 (iv_H 4), 0, 0) := by
  by_cases g0 : ((sy_ai F 55).getD ((14 + (sy_i F 72).toInt)).toNat 0).toInt ≠ 1
  · have n75 : nzI (((14 : Int32)) + (sy_i F 72)) ((14 + (sy_i F 72).toInt)) := nz_add (by decide : ((14 : Int32)).toInt = 14) (rfl : (sy_i F 72).toInt = (sy_i F 72).toInt) (by omega) (by omega)
    have q76 : (sy_ai F 55).getD (((14 : Int32)) + (sy_i F 72)).toNatClampNeg 0 = (sy_ai F 55).getD ((14 + (sy_i F 72).toInt)).toNat 0 := by simp only [nz_c, (nzE n75), (by decide : ((14 : Int32)).toInt = 14)]
    have n76 : nzI ((sy_ai F 55).getD (((14 : Int32)) + (sy_i F 72)).toNatClampNeg 0) (((sy_ai F 55).getD ((14 + (sy_i F 72).toInt)).toNat 0).toInt) := congrArg Int32.toInt q76
    have n91 : nzI (((7 : Int32)) + (sy_i F 72)) ((7 + (sy_i F 72).toInt)) := nz_add (by decide : ((7 : Int32)).toInt = 7) (rfl : (sy_i F 72).toInt = (sy_i F 72).toInt) (by omega) (by omega)
    have n93 : nzI (((42 : Int32)) + (sy_i F 72)) ((42 + (sy_i F 72).toInt)) := nz_add (by decide : ((42 : Int32)).toInt = 42) (rfl : (sy_i F 72).toInt = (sy_i F 72).toInt) (by omega) (by omega)
    have n95 : nzI (((35 : Int32)) + (sy_i F 72)) ((35 + (sy_i F 72).toInt)) := nz_add (by decide : ((35 : Int32)).toInt = 35) (rfl : (sy_i F 72).toInt = (sy_i F 72).toInt) (by omega) (by omega)
    have w74 : jm_upd (sy_ai F 58) (sy_i F 72).toNatClampNeg (sy_i F 73) = jm_upd (sy_ai F 58) ((sy_i F 72).toInt).toNat (sy_i F 73) := by simp only [nz_c]
    have n90 : nzI (((((((((((((sy_i F 18) ^^^ ((101 : Int32))) * ((1103515245 : Int32))) + ((12345 : Int32))) ^^^ (((((((sy_i F 18) ^^^ ((101 : Int32))) * ((1103515245 : Int32))) + ((12345 : Int32)))).toUInt32 >>> ((((15 : Int32))).toUInt32 &&& Int32.toUInt32 31)).toInt32)) ^^^ ((((16 : Int32)) * (sy_i F 70)) + (sy_i F 72))) * ((1103515245 : Int32))) + ((12345 : Int32))) ^^^ (((((((((((sy_i F 18) ^^^ ((101 : Int32))) * ((1103515245 : Int32))) + ((12345 : Int32))) ^^^ (((((((sy_i F 18) ^^^ ((101 : Int32))) * ((1103515245 : Int32))) + ((12345 : Int32)))).toUInt32 >>> ((((15 : Int32))).toUInt32 &&& Int32.toUInt32 31)).toInt32)) ^^^ ((((16 : Int32)) * (sy_i F 70)) + (sy_i F 72))) * ((1103515245 : Int32))) + ((12345 : Int32)))).toUInt32 >>> ((((15 : Int32))).toUInt32 &&& Int32.toUInt32 31)).toInt32))).toUInt32 >>> ((((1 : Int32))).toUInt32 &&& Int32.toUInt32 31)).toInt32) - ((((((((((((sy_i F 18) ^^^ ((101 : Int32))) * ((1103515245 : Int32))) + ((12345 : Int32))) ^^^ (((((((sy_i F 18) ^^^ ((101 : Int32))) * ((1103515245 : Int32))) + ((12345 : Int32)))).toUInt32 >>> ((((15 : Int32))).toUInt32 &&& Int32.toUInt32 31)).toInt32)) ^^^ ((((16 : Int32)) * (sy_i F 70)) + (sy_i F 72))) * ((1103515245 : Int32))) + ((12345 : Int32))) ^^^ (((((((((((sy_i F 18) ^^^ ((101 : Int32))) * ((1103515245 : Int32))) + ((12345 : Int32))) ^^^ (((((((sy_i F 18) ^^^ ((101 : Int32))) * ((1103515245 : Int32))) + ((12345 : Int32)))).toUInt32 >>> ((((15 : Int32))).toUInt32 &&& Int32.toUInt32 31)).toInt32)) ^^^ ((((16 : Int32)) * (sy_i F 70)) + (sy_i F 72))) * ((1103515245 : Int32))) + ((12345 : Int32)))).toUInt32 >>> ((((15 : Int32))).toUInt32 &&& Int32.toUInt32 31)).toInt32))).toUInt32 >>> ((((1 : Int32))).toUInt32 &&& Int32.toUInt32 31)).toInt32) / ((100 : Int32)) * ((100 : Int32))) ((((((((((((((sy_i F 18) ^^^ ((101 : Int32))) * ((1103515245 : Int32))) + ((12345 : Int32))) ^^^ (((((((sy_i F 18) ^^^ ((101 : Int32))) * ((1103515245 : Int32))) + ((12345 : Int32)))).toUInt32 >>> ((((15 : Int32))).toUInt32 &&& Int32.toUInt32 31)).toInt32)) ^^^ ((((16 : Int32)) * (sy_i F 70)) + (sy_i F 72))) * ((1103515245 : Int32))) + ((12345 : Int32))) ^^^ (((((((((((sy_i F 18) ^^^ ((101 : Int32))) * ((1103515245 : Int32))) + ((12345 : Int32))) ^^^ (((((((sy_i F 18) ^^^ ((101 : Int32))) * ((1103515245 : Int32))) + ((12345 : Int32)))).toUInt32 >>> ((((15 : Int32))).toUInt32 &&& Int32.toUInt32 31)).toInt32)) ^^^ ((((16 : Int32)) * (sy_i F 70)) + (sy_i F 72))) * ((1103515245 : Int32))) + ((12345 : Int32)))).toUInt32 >>> ((((15 : Int32))).toUInt32 &&& Int32.toUInt32 31)).toInt32))).toUInt32 >>> ((((1 : Int32))).toUInt32 &&& Int32.toUInt32 31)).toInt32) - ((((((((((((sy_i F 18) ^^^ ((101 : Int32))) * ((1103515245 : Int32))) + ((12345 : Int32))) ^^^ (((((((sy_i F 18) ^^^ ((101 : Int32))) * ((1103515245 : Int32))) + ((12345 : Int32)))).toUInt32 >>> ((((15 : Int32))).toUInt32 &&& Int32.toUInt32 31)).toInt32)) ^^^ ((((16 : Int32)) * (sy_i F 70)) + (sy_i F 72))) * ((1103515245 : Int32))) + ((12345 : Int32))) ^^^ (((((((((((sy_i F 18) ^^^ ((101 : Int32))) * ((1103515245 : Int32))) + ((12345 : Int32))) ^^^ (((((((sy_i F 18) ^^^ ((101 : Int32))) * ((1103515245 : Int32))) + ((12345 : Int32)))).toUInt32 >>> ((((15 : Int32))).toUInt32 &&& Int32.toUInt32 31)).toInt32)) ^^^ ((((16 : Int32)) * (sy_i F 70)) + (sy_i F 72))) * ((1103515245 : Int32))) + ((12345 : Int32)))).toUInt32 >>> ((((15 : Int32))).toUInt32 &&& Int32.toUInt32 31)).toInt32))).toUInt32 >>> ((((1 : Int32))).toUInt32 &&& Int32.toUInt32 31)).toInt32) / ((100 : Int32)) * ((100 : Int32))).toInt) := congrArg Int32.toInt (rfl : ((((((((((((sy_i F 18) ^^^ ((101 : Int32))) * ((1103515245 : Int32))) + ((12345 : Int32))) ^^^ (((((((sy_i F 18) ^^^ ((101 : Int32))) * ((1103515245 : Int32))) + ((12345 : Int32)))).toUInt32 >>> ((((15 : Int32))).toUInt32 &&& Int32.toUInt32 31)).toInt32)) ^^^ ((((16 : Int32)) * (sy_i F 70)) + (sy_i F 72))) * ((1103515245 : Int32))) + ((12345 : Int32))) ^^^ (((((((((((sy_i F 18) ^^^ ((101 : Int32))) * ((1103515245 : Int32))) + ((12345 : Int32))) ^^^ (((((((sy_i F 18) ^^^ ((101 : Int32))) * ((1103515245 : Int32))) + ((12345 : Int32)))).toUInt32 >>> ((((15 : Int32))).toUInt32 &&& Int32.toUInt32 31)).toInt32)) ^^^ ((((16 : Int32)) * (sy_i F 70)) + (sy_i F 72))) * ((1103515245 : Int32))) + ((12345 : Int32)))).toUInt32 >>> ((((15 : Int32))).toUInt32 &&& Int32.toUInt32 31)).toInt32))).toUInt32 >>> ((((1 : Int32))).toUInt32 &&& Int32.toUInt32 31)).toInt32) - ((((((((((((sy_i F 18) ^^^ ((101 : Int32))) * ((1103515245 : Int32))) + ((12345 : Int32))) ^^^ (((((((sy_i F 18) ^^^ ((101 : Int32))) * ((1103515245 : Int32))) + ((12345 : Int32)))).toUInt32 >>> ((((15 : Int32))).toUInt32 &&& Int32.toUInt32 31)).toInt32)) ^^^ ((((16 : Int32)) * (sy_i F 70)) + (sy_i F 72))) * ((1103515245 : Int32))) + ((12345 : Int32))) ^^^ (((((((((((sy_i F 18) ^^^ ((101 : Int32))) * ((1103515245 : Int32))) + ((12345 : Int32))) ^^^ (((((((sy_i F 18) ^^^ ((101 : Int32))) * ((1103515245 : Int32))) + ((12345 : Int32)))).toUInt32 >>> ((((15 : Int32))).toUInt32 &&& Int32.toUInt32 31)).toInt32)) ^^^ ((((16 : Int32)) * (sy_i F 70)) + (sy_i F 72))) * ((1103515245 : Int32))) + ((12345 : Int32)))).toUInt32 >>> ((((15 : Int32))).toUInt32 &&& Int32.toUInt32 31)).toInt32))).toUInt32 >>> ((((1 : Int32))).toUInt32 &&& Int32.toUInt32 31)).toInt32) / ((100 : Int32)) * ((100 : Int32)) = ((((((((((((sy_i F 18) ^^^ ((101 : Int32))) * ((1103515245 : Int32))) + ((12345 : Int32))) ^^^ (((((((sy_i F 18) ^^^ ((101 : Int32))) * ((1103515245 : Int32))) + ((12345 : Int32)))).toUInt32 >>> ((((15 : Int32))).toUInt32 &&& Int32.toUInt32 31)).toInt32)) ^^^ ((((16 : Int32)) * (sy_i F 70)) + (sy_i F 72))) * ((1103515245 : Int32))) + ((12345 : Int32))) ^^^ (((((((((((sy_i F 18) ^^^ ((101 : Int32))) * ((1103515245 : Int32))) + ((12345 : Int32))) ^^^ (((((((sy_i F 18) ^^^ ((101 : Int32))) * ((1103515245 : Int32))) + ((12345 : Int32)))).toUInt32 >>> ((((15 : Int32))).toUInt32 &&& Int32.toUInt32 31)).toInt32)) ^^^ ((((16 : Int32)) * (sy_i F 70)) + (sy_i F 72))) * ((1103515245 : Int32))) + ((12345 : Int32)))).toUInt32 >>> ((((15 : Int32))).toUInt32 &&& Int32.toUInt32 31)).toInt32))).toUInt32 >>> ((((1 : Int32))).toUInt32 &&& Int32.toUInt32 31)).toInt32) - ((((((((((((sy_i F 18) ^^^ ((101 : Int32))) * ((1103515245 : Int32))) + ((12345 : Int32))) ^^^ (((((((sy_i F 18) ^^^ ((101 : Int32))) * ((1103515245 : Int32))) + ((12345 : Int32)))).toUInt32 >>> ((((15 : Int32))).toUInt32 &&& Int32.toUInt32 31)).toInt32)) ^^^ ((((16 : Int32)) * (sy_i F 70)) + (sy_i F 72))) * ((1103515245 : Int32))) + ((12345 : Int32))) ^^^ (((((((((((sy_i F 18) ^^^ ((101 : Int32))) * ((1103515245 : Int32))) + ((12345 : Int32))) ^^^ (((((((sy_i F 18) ^^^ ((101 : Int32))) * ((1103515245 : Int32))) + ((12345 : Int32)))).toUInt32 >>> ((((15 : Int32))).toUInt32 &&& Int32.toUInt32 31)).toInt32)) ^^^ ((((16 : Int32)) * (sy_i F 70)) + (sy_i F 72))) * ((1103515245 : Int32))) + ((12345 : Int32)))).toUInt32 >>> ((((15 : Int32))).toUInt32 &&& Int32.toUInt32 31)).toInt32))).toUInt32 >>> ((((1 : Int32))).toUInt32 &&& Int32.toUInt32 31)).toInt32) / ((100 : Int32)) * ((100 : Int32)))
    have q92 : (sy_ai F 55).getD (((7 : Int32)) + (sy_i F 72)).toNatClampNeg 0 = (sy_ai F 55).getD ((7 + (sy_i F 72).toInt)).toNat 0 := by simp only [nz_c, (nzE n91), (by decide : ((7 : Int32)).toInt = 7)]
    have n92 : nzI ((sy_ai F 55).getD (((7 : Int32)) + (sy_i F 72)).toNatClampNeg 0) (((sy_ai F 55).getD ((7 + (sy_i F 72).toInt)).toNat 0).toInt) := congrArg Int32.toInt q92
    have q94 : (sy_ai F 55).getD (((42 : Int32)) + (sy_i F 72)).toNatClampNeg 0 = (sy_ai F 55).getD ((42 + (sy_i F 72).toInt)).toNat 0 := by simp only [nz_c, (nzE n93), (by decide : ((42 : Int32)).toInt = 42)]
    have n94 : nzI ((sy_ai F 55).getD (((42 : Int32)) + (sy_i F 72)).toNatClampNeg 0) (((sy_ai F 55).getD ((42 + (sy_i F 72).toInt)).toNat 0).toInt) := congrArg Int32.toInt q94
    have q96 : (sy_ai F 55).getD (((35 : Int32)) + (sy_i F 72)).toNatClampNeg 0 = (sy_ai F 55).getD ((35 + (sy_i F 72).toInt)).toNat 0 := by simp only [nz_c, (nzE n95), (by decide : ((35 : Int32)).toInt = 35)]
    have n96 : nzI ((sy_ai F 55).getD (((35 : Int32)) + (sy_i F 72)).toNatClampNeg 0) (((sy_ai F 55).getD ((35 + (sy_i F 72).toInt)).toNat 0).toInt) := congrArg Int32.toInt q96
    exact ylo_117_p0 hd F X1 X2 hB (by first | exact ⟨by omega, by omega⟩ | (simp only [nz_c]; exact ⟨by omega, by omega⟩)) (by first | (simp only [nz_c, (nzE n75)]; exact ⟨by omega, by omega⟩) | exact ⟨by omega, by omega⟩ | (rw [(nzE n75)]; exact ⟨by omega, by omega⟩)) (by first | (simp only [nz_c, (nzE n75)]; exact g0) | exact g0 | (rw [(nzE n76)]; exact g0)) (by first | (simp only [nz_c, (nzE n91)]; exact ⟨by omega, by omega⟩) | exact ⟨by omega, by omega⟩ | (rw [(nzE n91)]; exact ⟨by omega, by omega⟩)) (by first | (simp only [nz_c, (nzE n93)]; exact ⟨by omega, by omega⟩) | exact ⟨by omega, by omega⟩ | (rw [(nzE n93)]; exact ⟨by omega, by omega⟩)) (by first | (simp only [nz_c, (nzE n95)]; exact ⟨by omega, by omega⟩) | exact ⟨by omega, by omega⟩ | (rw [(nzE n95)]; exact ⟨by omega, by omega⟩)) (fun F1 g e58 e69 e70 e71 e72 e73 e74 e75 e76 => k0 g0 F1 (nz_in hB [58] (fun j hj hn => g j hj (by simp only [List.mem_cons, List.not_mem_nil, or_false, not_or] at hn; omega)) (List.forall_mem_cons.mpr ⟨fun t ht => (Option.some.inj ht) ▸ (nz_hz2 e58), List.forall_mem_nil _⟩)) (fun j hj hn => g j hj (by simp only [List.mem_cons, List.not_mem_nil, or_false, not_or] at hn; omega)) ((zz_ai e58).trans w74) ((congrArg Int32.toInt (zz_i e69)).trans (rfl : (sy_i F 69).toInt = (sy_i F 69).toInt)) ((zz_i e69).trans (rfl : sy_i F 69 = sy_i F 69)) ((congrArg Int32.toInt (zz_i e70)).trans (rfl : (sy_i F 70).toInt = (sy_i F 70).toInt)) ((zz_i e70).trans (rfl : sy_i F 70 = sy_i F 70)) ((congrArg Int32.toInt (zz_i e71)).trans (rfl : (sy_i F 71).toInt = (sy_i F 71).toInt)) ((zz_i e71).trans (rfl : sy_i F 71 = sy_i F 71)) ((congrArg Int32.toInt (zz_i e72)).trans (rfl : (sy_i F 72).toInt = (sy_i F 72).toInt)) ((zz_i e72).trans (rfl : sy_i F 72 = sy_i F 72)) ((congrArg Int32.toInt (zz_i e73)).trans (nzE n90)) ((zz_i e73).trans (rfl : ((((((((((((sy_i F 18) ^^^ ((101 : Int32))) * ((1103515245 : Int32))) + ((12345 : Int32))) ^^^ (((((((sy_i F 18) ^^^ ((101 : Int32))) * ((1103515245 : Int32))) + ((12345 : Int32)))).toUInt32 >>> ((((15 : Int32))).toUInt32 &&& Int32.toUInt32 31)).toInt32)) ^^^ ((((16 : Int32)) * (sy_i F 70)) + (sy_i F 72))) * ((1103515245 : Int32))) + ((12345 : Int32))) ^^^ (((((((((((sy_i F 18) ^^^ ((101 : Int32))) * ((1103515245 : Int32))) + ((12345 : Int32))) ^^^ (((((((sy_i F 18) ^^^ ((101 : Int32))) * ((1103515245 : Int32))) + ((12345 : Int32)))).toUInt32 >>> ((((15 : Int32))).toUInt32 &&& Int32.toUInt32 31)).toInt32)) ^^^ ((((16 : Int32)) * (sy_i F 70)) + (sy_i F 72))) * ((1103515245 : Int32))) + ((12345 : Int32)))).toUInt32 >>> ((((15 : Int32))).toUInt32 &&& Int32.toUInt32 31)).toInt32))).toUInt32 >>> ((((1 : Int32))).toUInt32 &&& Int32.toUInt32 31)).toInt32) - ((((((((((((sy_i F 18) ^^^ ((101 : Int32))) * ((1103515245 : Int32))) + ((12345 : Int32))) ^^^ (((((((sy_i F 18) ^^^ ((101 : Int32))) * ((1103515245 : Int32))) + ((12345 : Int32)))).toUInt32 >>> ((((15 : Int32))).toUInt32 &&& Int32.toUInt32 31)).toInt32)) ^^^ ((((16 : Int32)) * (sy_i F 70)) + (sy_i F 72))) * ((1103515245 : Int32))) + ((12345 : Int32))) ^^^ (((((((((((sy_i F 18) ^^^ ((101 : Int32))) * ((1103515245 : Int32))) + ((12345 : Int32))) ^^^ (((((((sy_i F 18) ^^^ ((101 : Int32))) * ((1103515245 : Int32))) + ((12345 : Int32)))).toUInt32 >>> ((((15 : Int32))).toUInt32 &&& Int32.toUInt32 31)).toInt32)) ^^^ ((((16 : Int32)) * (sy_i F 70)) + (sy_i F 72))) * ((1103515245 : Int32))) + ((12345 : Int32)))).toUInt32 >>> ((((15 : Int32))).toUInt32 &&& Int32.toUInt32 31)).toInt32))).toUInt32 >>> ((((1 : Int32))).toUInt32 &&& Int32.toUInt32 31)).toInt32) / ((100 : Int32)) * ((100 : Int32)) = ((((((((((((sy_i F 18) ^^^ ((101 : Int32))) * ((1103515245 : Int32))) + ((12345 : Int32))) ^^^ (((((((sy_i F 18) ^^^ ((101 : Int32))) * ((1103515245 : Int32))) + ((12345 : Int32)))).toUInt32 >>> ((((15 : Int32))).toUInt32 &&& Int32.toUInt32 31)).toInt32)) ^^^ ((((16 : Int32)) * (sy_i F 70)) + (sy_i F 72))) * ((1103515245 : Int32))) + ((12345 : Int32))) ^^^ (((((((((((sy_i F 18) ^^^ ((101 : Int32))) * ((1103515245 : Int32))) + ((12345 : Int32))) ^^^ (((((((sy_i F 18) ^^^ ((101 : Int32))) * ((1103515245 : Int32))) + ((12345 : Int32)))).toUInt32 >>> ((((15 : Int32))).toUInt32 &&& Int32.toUInt32 31)).toInt32)) ^^^ ((((16 : Int32)) * (sy_i F 70)) + (sy_i F 72))) * ((1103515245 : Int32))) + ((12345 : Int32)))).toUInt32 >>> ((((15 : Int32))).toUInt32 &&& Int32.toUInt32 31)).toInt32))).toUInt32 >>> ((((1 : Int32))).toUInt32 &&& Int32.toUInt32 31)).toInt32) - ((((((((((((sy_i F 18) ^^^ ((101 : Int32))) * ((1103515245 : Int32))) + ((12345 : Int32))) ^^^ (((((((sy_i F 18) ^^^ ((101 : Int32))) * ((1103515245 : Int32))) + ((12345 : Int32)))).toUInt32 >>> ((((15 : Int32))).toUInt32 &&& Int32.toUInt32 31)).toInt32)) ^^^ ((((16 : Int32)) * (sy_i F 70)) + (sy_i F 72))) * ((1103515245 : Int32))) + ((12345 : Int32))) ^^^ (((((((((((sy_i F 18) ^^^ ((101 : Int32))) * ((1103515245 : Int32))) + ((12345 : Int32))) ^^^ (((((((sy_i F 18) ^^^ ((101 : Int32))) * ((1103515245 : Int32))) + ((12345 : Int32)))).toUInt32 >>> ((((15 : Int32))).toUInt32 &&& Int32.toUInt32 31)).toInt32)) ^^^ ((((16 : Int32)) * (sy_i F 70)) + (sy_i F 72))) * ((1103515245 : Int32))) + ((12345 : Int32)))).toUInt32 >>> ((((15 : Int32))).toUInt32 &&& Int32.toUInt32 31)).toInt32))).toUInt32 >>> ((((1 : Int32))).toUInt32 &&& Int32.toUInt32 31)).toInt32) / ((100 : Int32)) * ((100 : Int32)))) ((congrArg Int32.toInt (zz_i e74)).trans (nzE n92)) ((zz_i e74).trans q92) ((congrArg Int32.toInt (zz_i e75)).trans (nzE n94)) ((zz_i e75).trans q94) ((congrArg Int32.toInt (zz_i e76)).trans (nzE n96)) ((zz_i e76).trans q96))
  replace g0 : ((sy_ai F 55).getD ((14 + (sy_i F 72).toInt)).toNat 0).toInt = 1 := by omega
  have n75 : nzI (((14 : Int32)) + (sy_i F 72)) ((14 + (sy_i F 72).toInt)) := nz_add (by decide : ((14 : Int32)).toInt = 14) (rfl : (sy_i F 72).toInt = (sy_i F 72).toInt) (by omega) (by omega)
  have q76 : (sy_ai F 55).getD (((14 : Int32)) + (sy_i F 72)).toNatClampNeg 0 = (sy_ai F 55).getD ((14 + (sy_i F 72).toInt)).toNat 0 := by simp only [nz_c, (nzE n75), (by decide : ((14 : Int32)).toInt = 14)]
  have n76 : nzI ((sy_ai F 55).getD (((14 : Int32)) + (sy_i F 72)).toNatClampNeg 0) (((sy_ai F 55).getD ((14 + (sy_i F 72).toInt)).toNat 0).toInt) := congrArg Int32.toInt q76
  have w74 : jm_upd (sy_ai F 58) (sy_i F 72).toNatClampNeg (sy_i F 73) = jm_upd (sy_ai F 58) ((sy_i F 72).toInt).toNat (sy_i F 73) := by simp only [nz_c]
  have n77 : nzI ((sy_i F 72) + ((1 : Int32))) (((sy_i F 72).toInt + 1)) := nz_add (rfl : (sy_i F 72).toInt = (sy_i F 72).toInt) (by decide : ((1 : Int32)).toInt = 1) (by omega) (by omega)
  exact ylo_117_p1 hd F X1 X2 hB (by first | exact ⟨by omega, by omega⟩ | (simp only [nz_c]; exact ⟨by omega, by omega⟩)) (by first | (simp only [nz_c, (nzE n75)]; exact ⟨by omega, by omega⟩) | exact ⟨by omega, by omega⟩ | (rw [(nzE n75)]; exact ⟨by omega, by omega⟩)) (by first | (simp only [nz_c, (nzE n75)]; exact g0) | exact g0 | (rw [(nzE n76)]; exact g0)) (fun F1 g e58 e69 e70 e71 e72 => k1 g0 F1 (nz_in hB [58] (fun j hj hn => g j hj (by simp only [List.mem_cons, List.not_mem_nil, or_false, not_or] at hn; omega)) (List.forall_mem_cons.mpr ⟨fun t ht => (Option.some.inj ht) ▸ (nz_hz2 e58), List.forall_mem_nil _⟩)) (fun j hj hn => g j hj (by simp only [List.mem_cons, List.not_mem_nil, or_false, not_or] at hn; omega)) ((zz_ai e58).trans w74) ((congrArg Int32.toInt (zz_i e69)).trans (rfl : (sy_i F 69).toInt = (sy_i F 69).toInt)) ((zz_i e69).trans (rfl : sy_i F 69 = sy_i F 69)) ((congrArg Int32.toInt (zz_i e70)).trans (rfl : (sy_i F 70).toInt = (sy_i F 70).toInt)) ((zz_i e70).trans (rfl : sy_i F 70 = sy_i F 70)) ((congrArg Int32.toInt (zz_i e71)).trans (rfl : (sy_i F 71).toInt = (sy_i F 71).toInt)) ((zz_i e71).trans (rfl : sy_i F 71 = sy_i F 71)) ((congrArg Int32.toInt (zz_i e72)).trans (nzE n77)) ((zz_i e72).trans (rfl : (sy_i F 72) + ((1 : Int32)) = (sy_i F 72) + ((1 : Int32)))))
theorem ylo_192_p0 {Ls : Nat} {xs : Nat → Int32} {d : Nat} {Q : Option Value → jm_h → Prop} (hd : 1 ≤ d) (F : Nat → sy_d) (X1 X2 : List jm_c) (hB : iv_in F iv_B4)
    (h0 : (sy_i F 74).toInt ≤ (sy_i F 73).toInt)
    (h1 : 0 ≤ (sy_i F 72).toInt ∧ (sy_i F 72).toInt < 7)
    (h2 : 0 ≤ (((7 : Int32)) + (sy_i F 72)).toInt ∧ (((7 : Int32)) + (sy_i F 72)).toInt < 61)
    (k : ∀ F1 : Nat → sy_d, (∀ j, j < 69 → j ≠ 56 → F1 j = F j) → F1 56 = .inr (.inl (jm_upd (sy_ai F 56) (sy_i F 72).toNatClampNeg ((0 : Int32)))) → F1 69 = .inl (.int (sy_i F 69)) → F1 70 = .inl (.int (sy_i F 70)) → F1 71 = .inl (.int (sy_i F 71)) → F1 72 = .inl (.int (sy_i F 72)) → F1 73 = .inl (.int ((sy_ai F 55).getD (((7 : Int32)) + (sy_i F 72)).toNatClampNeg 0)) → hd_W Ls xs d jm_M189 Q (222, sy_dL F1 [some (.inl (.ref 1000)), some (.inr (.inl 69)), some (.inr (.inl 70)), some (.inr (.inl 71)), some (.inr (.inl 72))], sy_dS F1 [.inr (.inl 69), .inr (.inl 70), .inr (.inl 73), .inr (.inl 72), .inl (.ref 1000), .inr (.inl 72), .inl (.ref 1037)], sy_dh F1 X1 X2 (iv_H 4), 0, 0)) :
    hd_W Ls xs d jm_M189 Q (192, sy_dL F [some (.inl (.ref 1000)), some (.inr (.inl 69)), some (.inr (.inl 70)), some (.inr (.inl 71)), some (.inr (.inl 72))], sy_dS F [.inr (.inl 74), .inr (.inl 73), .inr (.inl 72), .inl (.ref 1034)], sy_dh F X1 X2 (iv_H 4), 0, 0) := by
  refine hd_run (s := 4) (nv := 75) (pc := 222) (L := [some (.inl (.ref 1000)), some (.inr (.inl 69)), some (.inr (.inl 70)), some (.inr (.inl 71)), some (.inr (.inl 72))]) (S := [.inr (.inl 69), .inr (.inl 70), .inr (.inl 73), .inr (.inl 72), .inl (.ref 1000), .inr (.inl 72), .inl (.ref 1037)]) (uh := hd_ov (iv_id 0 iv_B4) [(56, .inr (.inr (.inl 75)))]) (ul := [.inl (.inr (.inl 69)), .inl (.inr (.inl 70)), .inl (.inr (.inl 71)), .inl (.inr (.inl 72)), .inl (.inr (.inl 77))]) (f := false) (sp := [222]) (d0 := 0) (O := [true]) (T := [(40, [.inr (.inl 72), .inl (.int 0)], [.inr (.inl 56)]), (0, [.inl (.int 7), .inr (.inl 72)], []), (30, [.inr (.inl 76)], [.inr (.inl 55)])]) (P := [(4, .inr (.inl 74), .inr (.inl 73)), (6, .inr (.inl 72), .inl (.ref 7)), (6, .inr (.inl 76), .inl (.ref 61))]) jm_ok189 (by decide +kernel) (by decide +kernel) hd F X1 X2 (fun F' hF hs => ?_)
  have b74 := hd_b (F := F) (F' := F') (k := 74) (hF 74 (by decide))
  have b73 := hd_b (F := F) (F' := F') (k := 73) (hF 73 (by decide))
  have b72 := hd_b (F := F) (F' := F') (k := 72) (hF 72 (by decide))
  have t76 : sy_dv F' (.inr (.inl 76)) = .int (((7 : Int32)) + (sy_i F 72)) := hd_o (hs 1 _ rfl) rfl b72 rfl
  have a56 := hd_ba (F := F) (F' := F') (k := 56) (hF 56 (by decide))
  have t75 : sy_da F' (.inr (.inl 75)) = .inl (jm_upd (sy_ai F 56) (sy_i F 72).toNatClampNeg ((0 : Int32))) := hd_up (hs 0 _ rfl) b72 rfl a56
  have b69 := hd_b (F := F) (F' := F') (k := 69) (hF 69 (by decide))
  have b70 := hd_b (F := F) (F' := F') (k := 70) (hF 70 (by decide))
  have b71 := hd_b (F := F) (F' := F') (k := 71) (hF 71 (by decide))
  have a55 := hd_ba (F := F) (F' := F') (k := 55) (hF 55 (by decide))
  have t77 : sy_dv F' (.inr (.inl 77)) = .int ((sy_ai F 55).getD (((7 : Int32)) + (sy_i F 72)).toNatClampNeg 0) := hd_rd (hs 2 _ rfl) t76 a55
  have hB' : iv_in F' iv_B4 := iv_in_eq hB (fun j hj => hF j (Nat.lt_of_lt_of_le hj (by decide +kernel)))
  refine ⟨List.forall_mem_cons.mpr ⟨hd_p4 b74 b73 h0, List.forall_mem_cons.mpr ⟨hd_pb b72 (by first | exact h1 | exact h1), List.forall_mem_cons.mpr ⟨hd_pb t76 (by first | exact h2 | exact h2), fun _ h => absurd h List.not_mem_nil⟩⟩⟩, ?_⟩
  refine k _ ?_ ?_ ?_ ?_ ?_ ?_ ?_
  · exact fun j hj hn => (hd_keep hB' (Nat.lt_of_lt_of_le hj (by decide +kernel)) (by simp; omega)).trans (hF j (Nat.lt_of_lt_of_le hj (by decide)))
  · exact hd_ga (a := .inr (.inl 75)) (by decide +kernel) t75
  · exact hd_gi (x := .inr (.inl 69)) (by decide +kernel) b69
  · exact hd_gi (x := .inr (.inl 70)) (by decide +kernel) b70
  · exact hd_gi (x := .inr (.inl 71)) (by decide +kernel) b71
  · exact hd_gi (x := .inr (.inl 72)) (by decide +kernel) b72
  · exact hd_gi (x := .inr (.inl 77)) (by decide +kernel) t77
theorem ylo_192_p1 {Ls : Nat} {xs : Nat → Int32} {d : Nat} {Q : Option Value → jm_h → Prop} (hd : 1 ≤ d) (F : Nat → sy_d) (X1 X2 : List jm_c) (hB : iv_in F iv_B4)
    (h0 : (sy_i F 73).toInt < (sy_i F 74).toInt)
    (h1 : 0 ≤ (sy_i F 72).toInt ∧ (sy_i F 72).toInt < 7)
    (h2 : 0 ≤ (((7 : Int32)) + (sy_i F 72)).toInt ∧ (((7 : Int32)) + (sy_i F 72)).toInt < 61)
    (k : ∀ F1 : Nat → sy_d, (∀ j, j < 69 → j ≠ 56 → F1 j = F j) → F1 56 = .inr (.inl (jm_upd (sy_ai F 56) (sy_i F 72).toNatClampNeg ((1 : Int32)))) → F1 69 = .inl (.int (sy_i F 69)) → F1 70 = .inl (.int (sy_i F 70)) → F1 71 = .inl (.int (sy_i F 71)) → F1 72 = .inl (.int (sy_i F 72)) → F1 73 = .inl (.int ((sy_ai F 55).getD (((7 : Int32)) + (sy_i F 72)).toNatClampNeg 0)) → hd_W Ls xs d jm_M189 Q (222, sy_dL F1 [some (.inl (.ref 1000)), some (.inr (.inl 69)), some (.inr (.inl 70)), some (.inr (.inl 71)), some (.inr (.inl 72))], sy_dS F1 [.inr (.inl 69), .inr (.inl 70), .inr (.inl 73), .inr (.inl 72), .inl (.ref 1000), .inr (.inl 72), .inl (.ref 1037)], sy_dh F1 X1 X2 (iv_H 4), 0, 0)) :
    hd_W Ls xs d jm_M189 Q (192, sy_dL F [some (.inl (.ref 1000)), some (.inr (.inl 69)), some (.inr (.inl 70)), some (.inr (.inl 71)), some (.inr (.inl 72))], sy_dS F [.inr (.inl 74), .inr (.inl 73), .inr (.inl 72), .inl (.ref 1034)], sy_dh F X1 X2 (iv_H 4), 0, 0) := by
  refine hd_run (s := 4) (nv := 75) (pc := 222) (L := [some (.inl (.ref 1000)), some (.inr (.inl 69)), some (.inr (.inl 70)), some (.inr (.inl 71)), some (.inr (.inl 72))]) (S := [.inr (.inl 69), .inr (.inl 70), .inr (.inl 73), .inr (.inl 72), .inl (.ref 1000), .inr (.inl 72), .inl (.ref 1037)]) (uh := hd_ov (iv_id 0 iv_B4) [(56, .inr (.inr (.inl 75)))]) (ul := [.inl (.inr (.inl 69)), .inl (.inr (.inl 70)), .inl (.inr (.inl 71)), .inl (.inr (.inl 72)), .inl (.inr (.inl 77))]) (f := false) (sp := [222]) (d0 := 0) (O := [false]) (T := [(40, [.inr (.inl 72), .inl (.int 1)], [.inr (.inl 56)]), (0, [.inl (.int 7), .inr (.inl 72)], []), (30, [.inr (.inl 76)], [.inr (.inl 55)])]) (P := [(5, .inr (.inl 74), .inr (.inl 73)), (6, .inr (.inl 72), .inl (.ref 7)), (6, .inr (.inl 76), .inl (.ref 61))]) jm_ok189 (by decide +kernel) (by decide +kernel) hd F X1 X2 (fun F' hF hs => ?_)
  have b74 := hd_b (F := F) (F' := F') (k := 74) (hF 74 (by decide))
  have b73 := hd_b (F := F) (F' := F') (k := 73) (hF 73 (by decide))
  have b72 := hd_b (F := F) (F' := F') (k := 72) (hF 72 (by decide))
  have t76 : sy_dv F' (.inr (.inl 76)) = .int (((7 : Int32)) + (sy_i F 72)) := hd_o (hs 1 _ rfl) rfl b72 rfl
  have a56 := hd_ba (F := F) (F' := F') (k := 56) (hF 56 (by decide))
  have t75 : sy_da F' (.inr (.inl 75)) = .inl (jm_upd (sy_ai F 56) (sy_i F 72).toNatClampNeg ((1 : Int32))) := hd_up (hs 0 _ rfl) b72 rfl a56
  have b69 := hd_b (F := F) (F' := F') (k := 69) (hF 69 (by decide))
  have b70 := hd_b (F := F) (F' := F') (k := 70) (hF 70 (by decide))
  have b71 := hd_b (F := F) (F' := F') (k := 71) (hF 71 (by decide))
  have a55 := hd_ba (F := F) (F' := F') (k := 55) (hF 55 (by decide))
  have t77 : sy_dv F' (.inr (.inl 77)) = .int ((sy_ai F 55).getD (((7 : Int32)) + (sy_i F 72)).toNatClampNeg 0) := hd_rd (hs 2 _ rfl) t76 a55
  have hB' : iv_in F' iv_B4 := iv_in_eq hB (fun j hj => hF j (Nat.lt_of_lt_of_le hj (by decide +kernel)))
  refine ⟨List.forall_mem_cons.mpr ⟨hd_p5 b74 b73 h0, List.forall_mem_cons.mpr ⟨hd_pb b72 (by first | exact h1 | exact h1), List.forall_mem_cons.mpr ⟨hd_pb t76 (by first | exact h2 | exact h2), fun _ h => absurd h List.not_mem_nil⟩⟩⟩, ?_⟩
  refine k _ ?_ ?_ ?_ ?_ ?_ ?_ ?_
  · exact fun j hj hn => (hd_keep hB' (Nat.lt_of_lt_of_le hj (by decide +kernel)) (by simp; omega)).trans (hF j (Nat.lt_of_lt_of_le hj (by decide)))
  · exact hd_ga (a := .inr (.inl 75)) (by decide +kernel) t75
  · exact hd_gi (x := .inr (.inl 69)) (by decide +kernel) b69
  · exact hd_gi (x := .inr (.inl 70)) (by decide +kernel) b70
  · exact hd_gi (x := .inr (.inl 71)) (by decide +kernel) b71
  · exact hd_gi (x := .inr (.inl 72)) (by decide +kernel) b72
  · exact hd_gi (x := .inr (.inl 77)) (by decide +kernel) t77
theorem ylo_192 {Ls : Nat} {xs : Nat → Int32} {d : Nat} {Q : Option Value → jm_h → Prop} (hd : 1 ≤ d) (F : Nat → sy_d) (X1 X2 : List jm_c) (hB : iv_in F iv_B4)
    (a72 : 0 ≤ (sy_i F 72).toInt ∧ (sy_i F 72).toInt ≤ 6)
    (k0 : (sy_i F 74).toInt ≤ (sy_i F 73).toInt → ∀ F1 : Nat → sy_d, iv_in F1 iv_B4 → (∀ j, j < 69 → j ∉ ([56] : List Nat) → F1 j = F j) → sy_ai F1 56 = jm_upd (sy_ai F 56) ((sy_i F 72).toInt).toNat ((0 : Int32)) → (sy_i F1 69).toInt = (sy_i F 69).toInt → sy_i F1 69 = sy_i F 69 → (sy_i F1 70).toInt = (sy_i F 70).toInt → sy_i F1 70 = sy_i F 70 → (sy_i F1 71).toInt = (sy_i F 71).toInt → sy_i F1 71 = sy_i F 71 → (sy_i F1 72).toInt = (sy_i F 72).toInt → sy_i F1 72 = sy_i F 72 → (sy_i F1 73).toInt = ((sy_ai F 55).getD ((7 + (sy_i F 72).toInt)).toNat 0).toInt → sy_i F1 73 = (sy_ai F 55).getD ((7 + (sy_i F 72).toInt)).toNat 0 → hd_W Ls xs d jm_M189 Q (222, sy_dL F1 [some (.inl (.ref 1000)), some (.inr (.inl 69)), some (.inr (.inl 70)), some (.inr (.inl 71)), some (.inr (.inl 72))], sy_dS F1 [.inr (.inl 69), .inr (.inl 70), .inr (.inl 73), .inr (.inl 72), .inl (.ref 1000), .inr (.inl 72), .inl (.ref 1037)], sy_dh F1 X1 X2 (iv_H 4), 0, 0))
    (k1 : (sy_i F 73).toInt < (sy_i F 74).toInt → ∀ F1 : Nat → sy_d, iv_in F1 iv_B4 → (∀ j, j < 69 → j ∉ ([56] : List Nat) → F1 j = F j) → sy_ai F1 56 = jm_upd (sy_ai F 56) ((sy_i F 72).toInt).toNat ((1 : Int32)) → (sy_i F1 69).toInt = (sy_i F 69).toInt → sy_i F1 69 = sy_i F 69 → (sy_i F1 70).toInt = (sy_i F 70).toInt → sy_i F1 70 = sy_i F 70 → (sy_i F1 71).toInt = (sy_i F 71).toInt → sy_i F1 71 = sy_i F 71 → (sy_i F1 72).toInt = (sy_i F 72).toInt → sy_i F1 72 = sy_i F 72 → (sy_i F1 73).toInt = ((sy_ai F 55).getD ((7 + (sy_i F 72).toInt)).toNat 0).toInt → sy_i F1 73 = (sy_ai F 55).getD ((7 + (sy_i F 72).toInt)).toNat 0 → hd_W Ls xs d jm_M189 Q (222, sy_dL F1 [some (.inl (.ref 1000)), some (.inr (.inl 69)), some (.inr (.inl 70)), some (.inr (.inl 71)), some (.inr (.inl 72))], sy_dS F1 [.inr (.inl 69), .inr (.inl 70), .inr (.inl 73), .inr (.inl 72), .inl (.ref 1000), .inr (.inl 72), .inl (.ref 1037)], sy_dh F1 X1 X2 (iv_H 4), 0, 0)) :
    hd_W Ls xs d jm_M189 Q (192, sy_dL F [some (.inl (.ref 1000)), some (.inr (.inl 69)), some (.inr (.inl 70)), some (.inr (.inl 71)), some (.inr (.inl 72))], sy_dS F [.inr (.inl 74), .inr (.inl 73), .inr (.inl 72), .inl (.ref 1034)], sy_dh F X1 X2 (iv_H 4), 0, 0) := by
  by_cases g0 : (sy_i F 74).toInt ≤ (sy_i F 73).toInt
  · have n76 : nzI (((7 : Int32)) + (sy_i F 72)) ((7 + (sy_i F 72).toInt)) := nz_add (by decide : ((7 : Int32)).toInt = 7) (rfl : (sy_i F 72).toInt = (sy_i F 72).toInt) (by omega) (by omega)
    have w75 : jm_upd (sy_ai F 56) (sy_i F 72).toNatClampNeg ((0 : Int32)) = jm_upd (sy_ai F 56) ((sy_i F 72).toInt).toNat ((0 : Int32)) := by simp only [nz_c, (by decide : ((0 : Int32)).toInt = 0)]
    have q77 : (sy_ai F 55).getD (((7 : Int32)) + (sy_i F 72)).toNatClampNeg 0 = (sy_ai F 55).getD ((7 + (sy_i F 72).toInt)).toNat 0 := by simp only [nz_c, (nzE n76), (by decide : ((7 : Int32)).toInt = 7)]
    have n77 : nzI ((sy_ai F 55).getD (((7 : Int32)) + (sy_i F 72)).toNatClampNeg 0) (((sy_ai F 55).getD ((7 + (sy_i F 72).toInt)).toNat 0).toInt) := congrArg Int32.toInt q77
    exact ylo_192_p0 hd F X1 X2 hB (by first | exact g0 | (simp only [nz_c]; exact g0)) (by first | exact ⟨by omega, by omega⟩ | (simp only [nz_c]; exact ⟨by omega, by omega⟩)) (by first | (simp only [nz_c, (nzE n76)]; exact ⟨by omega, by omega⟩) | exact ⟨by omega, by omega⟩ | (rw [(nzE n76)]; exact ⟨by omega, by omega⟩)) (fun F1 g e56 e69 e70 e71 e72 e73 => k0 g0 F1 (nz_in hB [56] (fun j hj hn => g j hj (by simp only [List.mem_cons, List.not_mem_nil, or_false, not_or] at hn; omega)) (List.forall_mem_cons.mpr ⟨fun t ht => (Option.some.inj ht) ▸ (nz_hA e56 (nz_up (nz_ba hB (k := 56) (lo := 0) (hi := 1) rfl) (by decide : ((0 : Int32)).toInt = 0) (by omega) (by omega))), List.forall_mem_nil _⟩)) (fun j hj hn => g j hj (by simp only [List.mem_cons, List.not_mem_nil, or_false, not_or] at hn; omega)) ((zz_ai e56).trans w75) ((congrArg Int32.toInt (zz_i e69)).trans (rfl : (sy_i F 69).toInt = (sy_i F 69).toInt)) ((zz_i e69).trans (rfl : sy_i F 69 = sy_i F 69)) ((congrArg Int32.toInt (zz_i e70)).trans (rfl : (sy_i F 70).toInt = (sy_i F 70).toInt)) ((zz_i e70).trans (rfl : sy_i F 70 = sy_i F 70)) ((congrArg Int32.toInt (zz_i e71)).trans (rfl : (sy_i F 71).toInt = (sy_i F 71).toInt)) ((zz_i e71).trans (rfl : sy_i F 71 = sy_i F 71)) ((congrArg Int32.toInt (zz_i e72)).trans (rfl : (sy_i F 72).toInt = (sy_i F 72).toInt)) ((zz_i e72).trans (rfl : sy_i F 72 = sy_i F 72)) ((congrArg Int32.toInt (zz_i e73)).trans (nzE n77)) ((zz_i e73).trans q77))
  replace g0 : (sy_i F 73).toInt < (sy_i F 74).toInt := by omega
  have n76 : nzI (((7 : Int32)) + (sy_i F 72)) ((7 + (sy_i F 72).toInt)) := nz_add (by decide : ((7 : Int32)).toInt = 7) (rfl : (sy_i F 72).toInt = (sy_i F 72).toInt) (by omega) (by omega)
  have w75 : jm_upd (sy_ai F 56) (sy_i F 72).toNatClampNeg ((1 : Int32)) = jm_upd (sy_ai F 56) ((sy_i F 72).toInt).toNat ((1 : Int32)) := by simp only [nz_c, (by decide : ((1 : Int32)).toInt = 1)]
  have q77 : (sy_ai F 55).getD (((7 : Int32)) + (sy_i F 72)).toNatClampNeg 0 = (sy_ai F 55).getD ((7 + (sy_i F 72).toInt)).toNat 0 := by simp only [nz_c, (nzE n76), (by decide : ((7 : Int32)).toInt = 7)]
  have n77 : nzI ((sy_ai F 55).getD (((7 : Int32)) + (sy_i F 72)).toNatClampNeg 0) (((sy_ai F 55).getD ((7 + (sy_i F 72).toInt)).toNat 0).toInt) := congrArg Int32.toInt q77
  exact ylo_192_p1 hd F X1 X2 hB (by first | exact g0 | (simp only [nz_c]; exact g0)) (by first | exact ⟨by omega, by omega⟩ | (simp only [nz_c]; exact ⟨by omega, by omega⟩)) (by first | (simp only [nz_c, (nzE n76)]; exact ⟨by omega, by omega⟩) | exact ⟨by omega, by omega⟩ | (rw [(nzE n76)]; exact ⟨by omega, by omega⟩)) (fun F1 g e56 e69 e70 e71 e72 e73 => k1 g0 F1 (nz_in hB [56] (fun j hj hn => g j hj (by simp only [List.mem_cons, List.not_mem_nil, or_false, not_or] at hn; omega)) (List.forall_mem_cons.mpr ⟨fun t ht => (Option.some.inj ht) ▸ (nz_hA e56 (nz_up (nz_ba hB (k := 56) (lo := 0) (hi := 1) rfl) (by decide : ((1 : Int32)).toInt = 1) (by omega) (by omega))), List.forall_mem_nil _⟩)) (fun j hj hn => g j hj (by simp only [List.mem_cons, List.not_mem_nil, or_false, not_or] at hn; omega)) ((zz_ai e56).trans w75) ((congrArg Int32.toInt (zz_i e69)).trans (rfl : (sy_i F 69).toInt = (sy_i F 69).toInt)) ((zz_i e69).trans (rfl : sy_i F 69 = sy_i F 69)) ((congrArg Int32.toInt (zz_i e70)).trans (rfl : (sy_i F 70).toInt = (sy_i F 70).toInt)) ((zz_i e70).trans (rfl : sy_i F 70 = sy_i F 70)) ((congrArg Int32.toInt (zz_i e71)).trans (rfl : (sy_i F 71).toInt = (sy_i F 71).toInt)) ((zz_i e71).trans (rfl : sy_i F 71 = sy_i F 71)) ((congrArg Int32.toInt (zz_i e72)).trans (rfl : (sy_i F 72).toInt = (sy_i F 72).toInt)) ((zz_i e72).trans (rfl : sy_i F 72 = sy_i F 72)) ((congrArg Int32.toInt (zz_i e73)).trans (nzE n77)) ((zz_i e73).trans q77))
theorem ylo_225_p0 {Ls : Nat} {xs : Nat → Int32} {d : Nat} {Q : Option Value → jm_h → Prop} (hd : 1 ≤ d) (F : Nat → sy_d) (X1 X2 : List jm_c) (hB : iv_in F iv_B4)
    (h0 : 0 ≤ (sy_i F 72).toInt ∧ (sy_i F 72).toInt < 7)
    (h1 : 0 ≤ (sy_i F 72).toInt ∧ (sy_i F 72).toInt < 7)
    (h2 : ((sy_ai F 56).getD (sy_i F 72).toNatClampNeg 0).toInt ≠ 0)
    (k : ∀ F1 : Nat → sy_d, (∀ j, j < 69 → j ≠ 59 → F1 j = F j) → F1 59 = .inr (.inl (jm_upd (sy_ai F 59) (sy_i F 72).toNatClampNeg (sy_i F 73))) → F1 69 = .inl (.int (sy_i F 69)) → F1 70 = .inl (.int (sy_i F 70)) → F1 71 = .inl (.int (sy_i F 71)) → F1 72 = .inl (.int ((sy_i F 72) + ((1 : Int32)))) → hd_W Ls xs d jm_M189 Q (27, sy_dL F1 [some (.inl (.ref 1000)), some (.inr (.inl 69)), some (.inr (.inl 70)), some (.inr (.inl 71)), some (.inr (.inl 72))], sy_dS F1 [], sy_dh F1 X1 X2 (iv_H 4), 0, 0)) :
    hd_W Ls xs d jm_M189 Q (225, sy_dL F [some (.inl (.ref 1000)), some (.inr (.inl 69)), some (.inr (.inl 70)), some (.inr (.inl 71)), some (.inr (.inl 72))], sy_dS F [.inr (.inl 73), .inr (.inl 72), .inl (.ref 1037)], sy_dh F X1 X2 (iv_H 4), 0, 0) := by
  refine hd_run (s := 4) (nv := 74) (pc := 27) (L := [some (.inl (.ref 1000)), some (.inr (.inl 69)), some (.inr (.inl 70)), some (.inr (.inl 71)), some (.inr (.inl 72))]) (S := []) (uh := hd_ov (iv_id 0 iv_B4) [(59, .inr (.inr (.inl 74)))]) (ul := [.inl (.inr (.inl 69)), .inl (.inr (.inl 70)), .inl (.inr (.inl 71)), .inl (.inr (.inl 76))]) (f := false) (sp := [27, 289]) (d0 := 0) (O := [true]) (T := [(40, [.inr (.inl 72), .inr (.inl 73)], [.inr (.inl 59)]), (30, [.inr (.inl 72)], [.inr (.inl 56)]), (0, [.inr (.inl 72), .inl (.int 1)], [])]) (P := [(6, .inr (.inl 72), .inl (.ref 7)), (6, .inr (.inl 72), .inl (.ref 7)), (1, .inr (.inl 75), .inl (.int 0))]) jm_ok189 (by decide +kernel) (by decide +kernel) hd F X1 X2 (fun F' hF hs => ?_)
  have b72 := hd_b (F := F) (F' := F') (k := 72) (hF 72 (by decide))
  have a56 := hd_ba (F := F) (F' := F') (k := 56) (hF 56 (by decide))
  have t75 : sy_dv F' (.inr (.inl 75)) = .int ((sy_ai F 56).getD (sy_i F 72).toNatClampNeg 0) := hd_rd (hs 1 _ rfl) b72 a56
  have b73 := hd_b (F := F) (F' := F') (k := 73) (hF 73 (by decide))
  have a59 := hd_ba (F := F) (F' := F') (k := 59) (hF 59 (by decide))
  have t74 : sy_da F' (.inr (.inl 74)) = .inl (jm_upd (sy_ai F 59) (sy_i F 72).toNatClampNeg (sy_i F 73)) := hd_up (hs 0 _ rfl) b72 b73 a59
  have b69 := hd_b (F := F) (F' := F') (k := 69) (hF 69 (by decide))
  have b70 := hd_b (F := F) (F' := F') (k := 70) (hF 70 (by decide))
  have b71 := hd_b (F := F) (F' := F') (k := 71) (hF 71 (by decide))
  have t76 : sy_dv F' (.inr (.inl 76)) = .int ((sy_i F 72) + ((1 : Int32))) := hd_o (hs 2 _ rfl) b72 rfl rfl
  have hB' : iv_in F' iv_B4 := iv_in_eq hB (fun j hj => hF j (Nat.lt_of_lt_of_le hj (by decide +kernel)))
  refine ⟨List.forall_mem_cons.mpr ⟨hd_pb b72 (by first | exact h0 | exact h0), List.forall_mem_cons.mpr ⟨hd_pb b72 (by first | exact h1 | exact h1), List.forall_mem_cons.mpr ⟨hd_p1 t75 rfl (by have hc : ((0) : Int32).toInt = 0 := (by decide); omega), fun _ h => absurd h List.not_mem_nil⟩⟩⟩, ?_⟩
  refine k _ ?_ ?_ ?_ ?_ ?_ ?_
  · exact fun j hj hn => (hd_keep hB' (Nat.lt_of_lt_of_le hj (by decide +kernel)) (by simp; omega)).trans (hF j (Nat.lt_of_lt_of_le hj (by decide)))
  · exact hd_ga (a := .inr (.inl 74)) (by decide +kernel) t74
  · exact hd_gi (x := .inr (.inl 69)) (by decide +kernel) b69
  · exact hd_gi (x := .inr (.inl 70)) (by decide +kernel) b70
  · exact hd_gi (x := .inr (.inl 71)) (by decide +kernel) b71
  · exact hd_gi (x := .inr (.inl 76)) (by decide +kernel) t76
theorem ylo_225_p1 {Ls : Nat} {xs : Nat → Int32} {d : Nat} {Q : Option Value → jm_h → Prop} (hd : 1 ≤ d) (F : Nat → sy_d) (X1 X2 : List jm_c) (hB : iv_in F iv_B4)
    (h0 : 0 ≤ (sy_i F 72).toInt ∧ (sy_i F 72).toInt < 7)
    (h1 : 0 ≤ (sy_i F 72).toInt ∧ (sy_i F 72).toInt < 7)
    (h2 : ((sy_ai F 56).getD (sy_i F 72).toNatClampNeg 0).toInt = 0)
    (h3 : 0 ≤ (((7 : Int32)) + (sy_i F 72)).toInt ∧ (((7 : Int32)) + (sy_i F 72)).toInt < 61)
    (h4 : 0 ≤ (((7 : Int32)) + (sy_i F 72)).toInt ∧ (((7 : Int32)) + (sy_i F 72)).toInt < 61)
    (h5 : 0 ≤ (((42 : Int32)) + (sy_i F 72)).toInt ∧ (((42 : Int32)) + (sy_i F 72)).toInt < 61)
    (h6 : 0 ≤ (((35 : Int32)) + (sy_i F 72)).toInt ∧ (((35 : Int32)) + (sy_i F 72)).toInt < 61)
    (k : ∀ F1 : Nat → sy_d, (∀ j, j < 69 → j ≠ 59 → F1 j = F j) → F1 59 = .inr (.inl (jm_upd (sy_ai F 59) (sy_i F 72).toNatClampNeg (sy_i F 73))) → F1 69 = .inl (.int (sy_i F 69)) → F1 70 = .inl (.int (sy_i F 70)) → F1 71 = .inl (.int (sy_i F 71)) → F1 72 = .inl (.int (sy_i F 72)) → F1 73 = .inl (.int ((sy_ai F 55).getD (((7 : Int32)) + (sy_i F 72)).toNatClampNeg 0)) → F1 74 = .inl (.int ((sy_ai F 55).getD (((7 : Int32)) + (sy_i F 72)).toNatClampNeg 0)) → F1 75 = .inl (.int ((sy_ai F 55).getD (((42 : Int32)) + (sy_i F 72)).toNatClampNeg 0)) → F1 76 = .inl (.int ((sy_ai F 55).getD (((35 : Int32)) + (sy_i F 72)).toNatClampNeg 0)) → hd_W Ls xs d jm_M189 Q (289, sy_dL F1 [some (.inl (.ref 1000)), some (.inr (.inl 69)), some (.inr (.inl 70)), some (.inr (.inl 71)), some (.inr (.inl 72))], sy_dS F1 [.inr (.inl 69), .inr (.inl 70), .inr (.inl 71), .inr (.inl 76), .inr (.inl 75), .inr (.inl 74), .inr (.inl 72), .inl (.int 1), .inl (.ref 1000), .inr (.inl 73), .inr (.inl 72), .inl (.ref 1035)], sy_dh F1 X1 X2 (iv_H 4), 0, 0)) :
    hd_W Ls xs d jm_M189 Q (225, sy_dL F [some (.inl (.ref 1000)), some (.inr (.inl 69)), some (.inr (.inl 70)), some (.inr (.inl 71)), some (.inr (.inl 72))], sy_dS F [.inr (.inl 73), .inr (.inl 72), .inl (.ref 1037)], sy_dh F X1 X2 (iv_H 4), 0, 0) := by
  refine hd_run (s := 4) (nv := 74) (pc := 289) (L := [some (.inl (.ref 1000)), some (.inr (.inl 69)), some (.inr (.inl 70)), some (.inr (.inl 71)), some (.inr (.inl 72))]) (S := [.inr (.inl 69), .inr (.inl 70), .inr (.inl 71), .inr (.inl 76), .inr (.inl 75), .inr (.inl 74), .inr (.inl 72), .inl (.int 1), .inl (.ref 1000), .inr (.inl 73), .inr (.inl 72), .inl (.ref 1035)]) (uh := hd_ov (iv_id 0 iv_B4) [(59, .inr (.inr (.inl 74)))]) (ul := [.inl (.inr (.inl 69)), .inl (.inr (.inl 70)), .inl (.inr (.inl 71)), .inl (.inr (.inl 72)), .inl (.inr (.inl 77)), .inl (.inr (.inl 79)), .inl (.inr (.inl 81)), .inl (.inr (.inl 83))]) (f := false) (sp := [27, 289]) (d0 := 0) (O := [false]) (T := [(40, [.inr (.inl 72), .inr (.inl 73)], [.inr (.inl 59)]), (30, [.inr (.inl 72)], [.inr (.inl 56)]), (0, [.inl (.int 7), .inr (.inl 72)], []), (30, [.inr (.inl 76)], [.inr (.inl 55)]), (0, [.inl (.int 7), .inr (.inl 72)], []), (30, [.inr (.inl 78)], [.inr (.inl 55)]), (0, [.inl (.int 42), .inr (.inl 72)], []), (30, [.inr (.inl 80)], [.inr (.inl 55)]), (0, [.inl (.int 35), .inr (.inl 72)], []), (30, [.inr (.inl 82)], [.inr (.inl 55)])]) (P := [(6, .inr (.inl 72), .inl (.ref 7)), (6, .inr (.inl 72), .inl (.ref 7)), (0, .inr (.inl 75), .inl (.int 0)), (6, .inr (.inl 76), .inl (.ref 61)), (6, .inr (.inl 78), .inl (.ref 61)), (6, .inr (.inl 80), .inl (.ref 61)), (6, .inr (.inl 82), .inl (.ref 61))]) jm_ok189 (by decide +kernel) (by decide +kernel) hd F X1 X2 (fun F' hF hs => ?_)
  have b72 := hd_b (F := F) (F' := F') (k := 72) (hF 72 (by decide))
  have a56 := hd_ba (F := F) (F' := F') (k := 56) (hF 56 (by decide))
  have t75 : sy_dv F' (.inr (.inl 75)) = .int ((sy_ai F 56).getD (sy_i F 72).toNatClampNeg 0) := hd_rd (hs 1 _ rfl) b72 a56
  have t76 : sy_dv F' (.inr (.inl 76)) = .int (((7 : Int32)) + (sy_i F 72)) := hd_o (hs 2 _ rfl) rfl b72 rfl
  have t78 : sy_dv F' (.inr (.inl 78)) = .int (((7 : Int32)) + (sy_i F 72)) := hd_o (hs 4 _ rfl) rfl b72 rfl
  have t80 : sy_dv F' (.inr (.inl 80)) = .int (((42 : Int32)) + (sy_i F 72)) := hd_o (hs 6 _ rfl) rfl b72 rfl
  have t82 : sy_dv F' (.inr (.inl 82)) = .int (((35 : Int32)) + (sy_i F 72)) := hd_o (hs 8 _ rfl) rfl b72 rfl
  have b73 := hd_b (F := F) (F' := F') (k := 73) (hF 73 (by decide))
  have a59 := hd_ba (F := F) (F' := F') (k := 59) (hF 59 (by decide))
  have t74 : sy_da F' (.inr (.inl 74)) = .inl (jm_upd (sy_ai F 59) (sy_i F 72).toNatClampNeg (sy_i F 73)) := hd_up (hs 0 _ rfl) b72 b73 a59
  have b69 := hd_b (F := F) (F' := F') (k := 69) (hF 69 (by decide))
  have b70 := hd_b (F := F) (F' := F') (k := 70) (hF 70 (by decide))
  have b71 := hd_b (F := F) (F' := F') (k := 71) (hF 71 (by decide))
  have a55 := hd_ba (F := F) (F' := F') (k := 55) (hF 55 (by decide))
  have t77 : sy_dv F' (.inr (.inl 77)) = .int ((sy_ai F 55).getD (((7 : Int32)) + (sy_i F 72)).toNatClampNeg 0) := hd_rd (hs 3 _ rfl) t76 a55
  have t79 : sy_dv F' (.inr (.inl 79)) = .int ((sy_ai F 55).getD (((7 : Int32)) + (sy_i F 72)).toNatClampNeg 0) := hd_rd (hs 5 _ rfl) t78 a55
  have t81 : sy_dv F' (.inr (.inl 81)) = .int ((sy_ai F 55).getD (((42 : Int32)) + (sy_i F 72)).toNatClampNeg 0) := hd_rd (hs 7 _ rfl) t80 a55
  have t83 : sy_dv F' (.inr (.inl 83)) = .int ((sy_ai F 55).getD (((35 : Int32)) + (sy_i F 72)).toNatClampNeg 0) := hd_rd (hs 9 _ rfl) t82 a55
  have hB' : iv_in F' iv_B4 := iv_in_eq hB (fun j hj => hF j (Nat.lt_of_lt_of_le hj (by decide +kernel)))
  refine ⟨List.forall_mem_cons.mpr ⟨hd_pb b72 (by first | exact h0 | exact h0), List.forall_mem_cons.mpr ⟨hd_pb b72 (by first | exact h1 | exact h1), List.forall_mem_cons.mpr ⟨hd_p0 t75 rfl (by have hc : ((0) : Int32).toInt = 0 := (by decide); omega), List.forall_mem_cons.mpr ⟨hd_pb t76 (by first | exact h3 | exact h3), List.forall_mem_cons.mpr ⟨hd_pb t78 (by first | exact h4 | exact h4), List.forall_mem_cons.mpr ⟨hd_pb t80 (by first | exact h5 | exact h5), List.forall_mem_cons.mpr ⟨hd_pb t82 (by first | exact h6 | exact h6), fun _ h => absurd h List.not_mem_nil⟩⟩⟩⟩⟩⟩⟩, ?_⟩
  refine k _ ?_ ?_ ?_ ?_ ?_ ?_ ?_ ?_ ?_ ?_
  · exact fun j hj hn => (hd_keep hB' (Nat.lt_of_lt_of_le hj (by decide +kernel)) (by simp; omega)).trans (hF j (Nat.lt_of_lt_of_le hj (by decide)))
  · exact hd_ga (a := .inr (.inl 74)) (by decide +kernel) t74
  · exact hd_gi (x := .inr (.inl 69)) (by decide +kernel) b69
  · exact hd_gi (x := .inr (.inl 70)) (by decide +kernel) b70
  · exact hd_gi (x := .inr (.inl 71)) (by decide +kernel) b71
  · exact hd_gi (x := .inr (.inl 72)) (by decide +kernel) b72
  · exact hd_gi (x := .inr (.inl 77)) (by decide +kernel) t77
  · exact hd_gi (x := .inr (.inl 79)) (by decide +kernel) t79
  · exact hd_gi (x := .inr (.inl 81)) (by decide +kernel) t81
  · exact hd_gi (x := .inr (.inl 83)) (by decide +kernel) t83
theorem ylo_225 {Ls : Nat} {xs : Nat → Int32} {d : Nat} {Q : Option Value → jm_h → Prop} (hd : 1 ≤ d) (F : Nat → sy_d) (X1 X2 : List jm_c) (hB : iv_in F iv_B4)
    (a72 : 0 ≤ (sy_i F 72).toInt ∧ (sy_i F 72).toInt ≤ 6)
    (k0 : ((sy_ai F 56).getD ((sy_i F 72).toInt).toNat 0).toInt ≠ 0 → ∀ F1 : Nat → sy_d, iv_in F1 iv_B4 → (∀ j, j < 69 → j ∉ ([59] : List Nat) → F1 j = F j) → sy_ai F1 59 = jm_upd (sy_ai F 59) ((sy_i F 72).toInt).toNat (sy_i F 73) → (sy_i F1 69).toInt = (sy_i F 69).toInt → sy_i F1 69 = sy_i F 69 → (sy_i F1 70).toInt = (sy_i F 70).toInt → sy_i F1 70 = sy_i F 70 → (sy_i F1 71).toInt = (sy_i F 71).toInt → sy_i F1 71 = sy_i F 71 → (sy_i F1 72).toInt = ((sy_i F 72).toInt + 1) → sy_i F1 72 = (sy_i F 72) + ((1 : Int32)) → hd_W Ls xs d jm_M189 Q (27, sy_dL F1 [some (.inl (.ref 1000)), some (.inr (.inl 69)), some (.inr (.inl 70)), some (.inr (.inl 71)), some (.inr (.inl 72))], sy_dS F1 [], sy_dh F1 X1 X2 (iv_H 4), 0, 0))
    (k1 : ((sy_ai F 56).getD ((sy_i F 72).toInt).toNat 0).toInt = 0 → ∀ F1 : Nat → sy_d, iv_in F1 iv_B4 → (∀ j, j < 69 → j ∉ ([59] : List Nat) → F1 j = F j) → sy_ai F1 59 = jm_upd (sy_ai F 59) ((sy_i F 72).toInt).toNat (sy_i F 73) → (sy_i F1 69).toInt = (sy_i F 69).toInt → sy_i F1 69 = sy_i F 69 → (sy_i F1 70).toInt = (sy_i F 70).toInt → sy_i F1 70 = sy_i F 70 → (sy_i F1 71).toInt = (sy_i F 71).toInt → sy_i F1 71 = sy_i F 71 → (sy_i F1 72).toInt = (sy_i F 72).toInt → sy_i F1 72 = sy_i F 72 → (sy_i F1 73).toInt = ((sy_ai F 55).getD ((7 + (sy_i F 72).toInt)).toNat 0).toInt → sy_i F1 73 = (sy_ai F 55).getD ((7 + (sy_i F 72).toInt)).toNat 0 → (sy_i F1 74).toInt = ((sy_ai F 55).getD ((7 + (sy_i F 72).toInt)).toNat 0).toInt → sy_i F1 74 = (sy_ai F 55).getD ((7 + (sy_i F 72).toInt)).toNat 0 → (sy_i F1 75).toInt = ((sy_ai F 55).getD ((42 + (sy_i F 72).toInt)).toNat 0).toInt → sy_i F1 75 = (sy_ai F 55).getD ((42 + (sy_i F 72).toInt)).toNat 0 → (sy_i F1 76).toInt = ((sy_ai F 55).getD ((35 + (sy_i F 72).toInt)).toNat 0).toInt → sy_i F1 76 = (sy_ai F 55).getD ((35 + (sy_i F 72).toInt)).toNat 0 → hd_W Ls xs d jm_M189 Q (289, sy_dL F1 [some (.inl (.ref 1000)), some (.inr (.inl 69)), some (.inr (.inl 70)), some (.inr (.inl 71)), some (.inr (.inl 72))], sy_dS F1 [.inr (.inl 69), .inr (.inl 70), .inr (.inl 71), .inr (.inl 76), .inr (.inl 75), .inr (.inl 74), .inr (.inl 72), .inl (.int 1), .inl (.ref 1000), .inr (.inl 73), .inr (.inl 72), .inl (.ref 1035)], sy_dh F1 X1 X2 (iv_H 4), 0, 0)) :
    hd_W Ls xs d jm_M189 Q (225, sy_dL F [some (.inl (.ref 1000)), some (.inr (.inl 69)), some (.inr (.inl 70)), some (.inr (.inl 71)), some (.inr (.inl 72))], sy_dS F [.inr (.inl 73), .inr (.inl 72), .inl (.ref 1037)], sy_dh F X1 X2 (iv_H 4), 0, 0) := by
  by_cases g0 : ((sy_ai F 56).getD ((sy_i F 72).toInt).toNat 0).toInt ≠ 0
  · have q75 : (sy_ai F 56).getD (sy_i F 72).toNatClampNeg 0 = (sy_ai F 56).getD ((sy_i F 72).toInt).toNat 0 := by simp only [nz_c]
    have n75 : nzI ((sy_ai F 56).getD (sy_i F 72).toNatClampNeg 0) (((sy_ai F 56).getD ((sy_i F 72).toInt).toNat 0).toInt) := congrArg Int32.toInt q75
    have r75 := nz_ba hB (k := 56) (lo := 0) (hi := 1) rfl ((sy_i F 72).toInt).toNat
    have w74 : jm_upd (sy_ai F 59) (sy_i F 72).toNatClampNeg (sy_i F 73) = jm_upd (sy_ai F 59) ((sy_i F 72).toInt).toNat (sy_i F 73) := by simp only [nz_c]
    have n76 : nzI ((sy_i F 72) + ((1 : Int32))) (((sy_i F 72).toInt + 1)) := nz_add (rfl : (sy_i F 72).toInt = (sy_i F 72).toInt) (by decide : ((1 : Int32)).toInt = 1) (by omega) (by omega)
    exact ylo_225_p0 hd F X1 X2 hB (by first | exact ⟨by omega, by omega⟩ | (simp only [nz_c]; exact ⟨by omega, by omega⟩)) (by first | exact ⟨by omega, by omega⟩ | (simp only [nz_c]; exact ⟨by omega, by omega⟩)) (by first | exact g0 | (simp only [nz_c]; exact g0) | (rw [(nzE n75)]; exact g0)) (fun F1 g e59 e69 e70 e71 e72 => k0 g0 F1 (nz_in hB [59] (fun j hj hn => g j hj (by simp only [List.mem_cons, List.not_mem_nil, or_false, not_or] at hn; omega)) (List.forall_mem_cons.mpr ⟨fun t ht => (Option.some.inj ht) ▸ (nz_hz2 e59), List.forall_mem_nil _⟩)) (fun j hj hn => g j hj (by simp only [List.mem_cons, List.not_mem_nil, or_false, not_or] at hn; omega)) ((zz_ai e59).trans w74) ((congrArg Int32.toInt (zz_i e69)).trans (rfl : (sy_i F 69).toInt = (sy_i F 69).toInt)) ((zz_i e69).trans (rfl : sy_i F 69 = sy_i F 69)) ((congrArg Int32.toInt (zz_i e70)).trans (rfl : (sy_i F 70).toInt = (sy_i F 70).toInt)) ((zz_i e70).trans (rfl : sy_i F 70 = sy_i F 70)) ((congrArg Int32.toInt (zz_i e71)).trans (rfl : (sy_i F 71).toInt = (sy_i F 71).toInt)) ((zz_i e71).trans (rfl : sy_i F 71 = sy_i F 71)) ((congrArg Int32.toInt (zz_i e72)).trans (nzE n76)) ((zz_i e72).trans (rfl : (sy_i F 72) + ((1 : Int32)) = (sy_i F 72) + ((1 : Int32)))))
  replace g0 : ((sy_ai F 56).getD ((sy_i F 72).toInt).toNat 0).toInt = 0 := by omega
  have q75 : (sy_ai F 56).getD (sy_i F 72).toNatClampNeg 0 = (sy_ai F 56).getD ((sy_i F 72).toInt).toNat 0 := by simp only [nz_c]
  have n75 : nzI ((sy_ai F 56).getD (sy_i F 72).toNatClampNeg 0) (((sy_ai F 56).getD ((sy_i F 72).toInt).toNat 0).toInt) := congrArg Int32.toInt q75
  have r75 := nz_ba hB (k := 56) (lo := 0) (hi := 1) rfl ((sy_i F 72).toInt).toNat
  have n76 : nzI (((7 : Int32)) + (sy_i F 72)) ((7 + (sy_i F 72).toInt)) := nz_add (by decide : ((7 : Int32)).toInt = 7) (rfl : (sy_i F 72).toInt = (sy_i F 72).toInt) (by omega) (by omega)
  have n78 : nzI (((7 : Int32)) + (sy_i F 72)) ((7 + (sy_i F 72).toInt)) := nz_add (by decide : ((7 : Int32)).toInt = 7) (rfl : (sy_i F 72).toInt = (sy_i F 72).toInt) (by omega) (by omega)
  have n80 : nzI (((42 : Int32)) + (sy_i F 72)) ((42 + (sy_i F 72).toInt)) := nz_add (by decide : ((42 : Int32)).toInt = 42) (rfl : (sy_i F 72).toInt = (sy_i F 72).toInt) (by omega) (by omega)
  have n82 : nzI (((35 : Int32)) + (sy_i F 72)) ((35 + (sy_i F 72).toInt)) := nz_add (by decide : ((35 : Int32)).toInt = 35) (rfl : (sy_i F 72).toInt = (sy_i F 72).toInt) (by omega) (by omega)
  have w74 : jm_upd (sy_ai F 59) (sy_i F 72).toNatClampNeg (sy_i F 73) = jm_upd (sy_ai F 59) ((sy_i F 72).toInt).toNat (sy_i F 73) := by simp only [nz_c]
  have q77 : (sy_ai F 55).getD (((7 : Int32)) + (sy_i F 72)).toNatClampNeg 0 = (sy_ai F 55).getD ((7 + (sy_i F 72).toInt)).toNat 0 := by simp only [nz_c, (nzE n76), (by decide : ((7 : Int32)).toInt = 7)]
  have n77 : nzI ((sy_ai F 55).getD (((7 : Int32)) + (sy_i F 72)).toNatClampNeg 0) (((sy_ai F 55).getD ((7 + (sy_i F 72).toInt)).toNat 0).toInt) := congrArg Int32.toInt q77
  have q79 : (sy_ai F 55).getD (((7 : Int32)) + (sy_i F 72)).toNatClampNeg 0 = (sy_ai F 55).getD ((7 + (sy_i F 72).toInt)).toNat 0 := by simp only [nz_c, (nzE n78), (by decide : ((7 : Int32)).toInt = 7)]
  have n79 : nzI ((sy_ai F 55).getD (((7 : Int32)) + (sy_i F 72)).toNatClampNeg 0) (((sy_ai F 55).getD ((7 + (sy_i F 72).toInt)).toNat 0).toInt) := congrArg Int32.toInt q79
  have q81 : (sy_ai F 55).getD (((42 : Int32)) + (sy_i F 72)).toNatClampNeg 0 = (sy_ai F 55).getD ((42 + (sy_i F 72).toInt)).toNat 0 := by simp only [nz_c, (nzE n80), (by decide : ((42 : Int32)).toInt = 42)]
  have n81 : nzI ((sy_ai F 55).getD (((42 : Int32)) + (sy_i F 72)).toNatClampNeg 0) (((sy_ai F 55).getD ((42 + (sy_i F 72).toInt)).toNat 0).toInt) := congrArg Int32.toInt q81
  have q83 : (sy_ai F 55).getD (((35 : Int32)) + (sy_i F 72)).toNatClampNeg 0 = (sy_ai F 55).getD ((35 + (sy_i F 72).toInt)).toNat 0 := by simp only [nz_c, (nzE n82), (by decide : ((35 : Int32)).toInt = 35)]
  have n83 : nzI ((sy_ai F 55).getD (((35 : Int32)) + (sy_i F 72)).toNatClampNeg 0) (((sy_ai F 55).getD ((35 + (sy_i F 72).toInt)).toNat 0).toInt) := congrArg Int32.toInt q83
  exact ylo_225_p1 hd F X1 X2 hB (by first | exact ⟨by omega, by omega⟩ | (simp only [nz_c]; exact ⟨by omega, by omega⟩)) (by first | exact ⟨by omega, by omega⟩ | (simp only [nz_c]; exact ⟨by omega, by omega⟩)) (by first | exact g0 | (simp only [nz_c]; exact g0) | (rw [(nzE n75)]; exact g0)) (by first | (simp only [nz_c, (nzE n76)]; exact ⟨by omega, by omega⟩) | exact ⟨by omega, by omega⟩ | (rw [(nzE n76)]; exact ⟨by omega, by omega⟩)) (by first | (simp only [nz_c, (nzE n78)]; exact ⟨by omega, by omega⟩) | exact ⟨by omega, by omega⟩ | (rw [(nzE n78)]; exact ⟨by omega, by omega⟩)) (by first | (simp only [nz_c, (nzE n80)]; exact ⟨by omega, by omega⟩) | exact ⟨by omega, by omega⟩ | (rw [(nzE n80)]; exact ⟨by omega, by omega⟩)) (by first | (simp only [nz_c, (nzE n82)]; exact ⟨by omega, by omega⟩) | exact ⟨by omega, by omega⟩ | (rw [(nzE n82)]; exact ⟨by omega, by omega⟩)) (fun F1 g e59 e69 e70 e71 e72 e73 e74 e75 e76 => k1 g0 F1 (nz_in hB [59] (fun j hj hn => g j hj (by simp only [List.mem_cons, List.not_mem_nil, or_false, not_or] at hn; omega)) (List.forall_mem_cons.mpr ⟨fun t ht => (Option.some.inj ht) ▸ (nz_hz2 e59), List.forall_mem_nil _⟩)) (fun j hj hn => g j hj (by simp only [List.mem_cons, List.not_mem_nil, or_false, not_or] at hn; omega)) ((zz_ai e59).trans w74) ((congrArg Int32.toInt (zz_i e69)).trans (rfl : (sy_i F 69).toInt = (sy_i F 69).toInt)) ((zz_i e69).trans (rfl : sy_i F 69 = sy_i F 69)) ((congrArg Int32.toInt (zz_i e70)).trans (rfl : (sy_i F 70).toInt = (sy_i F 70).toInt)) ((zz_i e70).trans (rfl : sy_i F 70 = sy_i F 70)) ((congrArg Int32.toInt (zz_i e71)).trans (rfl : (sy_i F 71).toInt = (sy_i F 71).toInt)) ((zz_i e71).trans (rfl : sy_i F 71 = sy_i F 71)) ((congrArg Int32.toInt (zz_i e72)).trans (rfl : (sy_i F 72).toInt = (sy_i F 72).toInt)) ((zz_i e72).trans (rfl : sy_i F 72 = sy_i F 72)) ((congrArg Int32.toInt (zz_i e73)).trans (nzE n77)) ((zz_i e73).trans q77) ((congrArg Int32.toInt (zz_i e74)).trans (nzE n79)) ((zz_i e74).trans q79) ((congrArg Int32.toInt (zz_i e75)).trans (nzE n81)) ((zz_i e75).trans q81) ((congrArg Int32.toInt (zz_i e76)).trans (nzE n83)) ((zz_i e76).trans q83))
theorem ylo_292_p0 {Ls : Nat} {xs : Nat → Int32} {d : Nat} {Q : Option Value → jm_h → Prop} (hd : 2 ≤ d) (F : Nat → sy_d) (X1 X2 : List jm_c) (hB : iv_in F iv_B4)
    (h0 : 0 ≤ ((sy_i F 73) + (sy_i F 74)).toInt)
    (h1 : ((sy_i F 73) + (sy_i F 74)).toInt ≤ 99)
    (h2 : 0 ≤ (sy_i F 72).toInt ∧ (sy_i F 72).toInt < 7)
    (k : ∀ F1 : Nat → sy_d, (∀ j, j < 69 → j ≠ 57 → F1 j = F j) → F1 57 = .inr (.inl (jm_upd (sy_ai F 57) (sy_i F 72).toNatClampNeg ((sy_i F 73) + (sy_i F 74)))) → F1 69 = .inl (.int (sy_i F 69)) → F1 70 = .inl (.int (sy_i F 70)) → F1 71 = .inl (.int (sy_i F 71)) → F1 72 = .inl (.int ((sy_i F 72) + ((1 : Int32)))) → hd_W Ls xs d jm_M189 Q (27, sy_dL F1 [some (.inl (.ref 1000)), some (.inr (.inl 69)), some (.inr (.inl 70)), some (.inr (.inl 71)), some (.inr (.inl 72))], sy_dS F1 [], sy_dh F1 X1 X2 (iv_H 4), 0, 0)) :
    hd_W Ls xs d jm_M189 Q (292, sy_dL F [some (.inl (.ref 1000)), some (.inr (.inl 69)), some (.inr (.inl 70)), some (.inr (.inl 71)), some (.inr (.inl 72))], sy_dS F [.inr (.inl 74), .inr (.inl 73), .inr (.inl 72), .inl (.ref 1035)], sy_dh F X1 X2 (iv_H 4), 0, 0) := by
  refine hd_run (s := 4) (nv := 75) (pc := 27) (L := [some (.inl (.ref 1000)), some (.inr (.inl 69)), some (.inr (.inl 70)), some (.inr (.inl 71)), some (.inr (.inl 72))]) (S := []) (uh := hd_ov (iv_id 0 iv_B4) [(57, .inr (.inr (.inl 76)))]) (ul := [.inl (.inr (.inl 69)), .inl (.inr (.inl 70)), .inl (.inr (.inl 71)), .inl (.inr (.inl 77))]) (f := false) (sp := [27]) (d0 := 1) (O := [true, true]) (T := [(0, [.inr (.inl 73), .inr (.inl 74)], []), (40, [.inr (.inl 72), .inr (.inl 75)], [.inr (.inl 57)]), (0, [.inr (.inl 72), .inl (.int 1)], [])]) (P := [(4, .inl (.int 0), .inr (.inl 75)), (4, .inr (.inl 75), .inl (.int 99)), (6, .inr (.inl 72), .inl (.ref 7))]) jm_ok189 (by decide +kernel) (by decide +kernel) hd F X1 X2 (fun F' hF hs => ?_)
  have b73 := hd_b (F := F) (F' := F') (k := 73) (hF 73 (by decide))
  have b74 := hd_b (F := F) (F' := F') (k := 74) (hF 74 (by decide))
  have t75 : sy_dv F' (.inr (.inl 75)) = .int ((sy_i F 73) + (sy_i F 74)) := hd_o (hs 0 _ rfl) b73 b74 rfl
  have b72 := hd_b (F := F) (F' := F') (k := 72) (hF 72 (by decide))
  have a57 := hd_ba (F := F) (F' := F') (k := 57) (hF 57 (by decide))
  have t76 : sy_da F' (.inr (.inl 76)) = .inl (jm_upd (sy_ai F 57) (sy_i F 72).toNatClampNeg ((sy_i F 73) + (sy_i F 74))) := hd_up (hs 1 _ rfl) b72 t75 a57
  have b69 := hd_b (F := F) (F' := F') (k := 69) (hF 69 (by decide))
  have b70 := hd_b (F := F) (F' := F') (k := 70) (hF 70 (by decide))
  have b71 := hd_b (F := F) (F' := F') (k := 71) (hF 71 (by decide))
  have t77 : sy_dv F' (.inr (.inl 77)) = .int ((sy_i F 72) + ((1 : Int32))) := hd_o (hs 2 _ rfl) b72 rfl rfl
  have hB' : iv_in F' iv_B4 := iv_in_eq hB (fun j hj => hF j (Nat.lt_of_lt_of_le hj (by decide +kernel)))
  refine ⟨List.forall_mem_cons.mpr ⟨hd_p4 rfl t75 (by have hc : ((0) : Int32).toInt = 0 := (by decide); omega), List.forall_mem_cons.mpr ⟨hd_p4 t75 rfl (by have hc : ((99) : Int32).toInt = 99 := (by decide); omega), List.forall_mem_cons.mpr ⟨hd_pb b72 (by first | exact h2 | exact h2), fun _ h => absurd h List.not_mem_nil⟩⟩⟩, ?_⟩
  refine k _ ?_ ?_ ?_ ?_ ?_ ?_
  · exact fun j hj hn => (hd_keep hB' (Nat.lt_of_lt_of_le hj (by decide +kernel)) (by simp; omega)).trans (hF j (Nat.lt_of_lt_of_le hj (by decide)))
  · exact hd_ga (a := .inr (.inl 76)) (by decide +kernel) t76
  · exact hd_gi (x := .inr (.inl 69)) (by decide +kernel) b69
  · exact hd_gi (x := .inr (.inl 70)) (by decide +kernel) b70
  · exact hd_gi (x := .inr (.inl 71)) (by decide +kernel) b71
  · exact hd_gi (x := .inr (.inl 77)) (by decide +kernel) t77
theorem ylo_292_p1 {Ls : Nat} {xs : Nat → Int32} {d : Nat} {Q : Option Value → jm_h → Prop} (hd : 2 ≤ d) (F : Nat → sy_d) (X1 X2 : List jm_c) (hB : iv_in F iv_B4)
    (h0 : 0 ≤ ((sy_i F 73) + (sy_i F 74)).toInt)
    (h1 : 99 < ((sy_i F 73) + (sy_i F 74)).toInt)
    (h2 : 0 ≤ (sy_i F 72).toInt ∧ (sy_i F 72).toInt < 7)
    (k : ∀ F1 : Nat → sy_d, (∀ j, j < 69 → j ≠ 57 → F1 j = F j) → F1 57 = .inr (.inl (jm_upd (sy_ai F 57) (sy_i F 72).toNatClampNeg ((99 : Int32)))) → F1 69 = .inl (.int (sy_i F 69)) → F1 70 = .inl (.int (sy_i F 70)) → F1 71 = .inl (.int (sy_i F 71)) → F1 72 = .inl (.int ((sy_i F 72) + ((1 : Int32)))) → hd_W Ls xs d jm_M189 Q (27, sy_dL F1 [some (.inl (.ref 1000)), some (.inr (.inl 69)), some (.inr (.inl 70)), some (.inr (.inl 71)), some (.inr (.inl 72))], sy_dS F1 [], sy_dh F1 X1 X2 (iv_H 4), 0, 0)) :
    hd_W Ls xs d jm_M189 Q (292, sy_dL F [some (.inl (.ref 1000)), some (.inr (.inl 69)), some (.inr (.inl 70)), some (.inr (.inl 71)), some (.inr (.inl 72))], sy_dS F [.inr (.inl 74), .inr (.inl 73), .inr (.inl 72), .inl (.ref 1035)], sy_dh F X1 X2 (iv_H 4), 0, 0) := by
  refine hd_run (s := 4) (nv := 75) (pc := 27) (L := [some (.inl (.ref 1000)), some (.inr (.inl 69)), some (.inr (.inl 70)), some (.inr (.inl 71)), some (.inr (.inl 72))]) (S := []) (uh := hd_ov (iv_id 0 iv_B4) [(57, .inr (.inr (.inl 76)))]) (ul := [.inl (.inr (.inl 69)), .inl (.inr (.inl 70)), .inl (.inr (.inl 71)), .inl (.inr (.inl 77))]) (f := false) (sp := [27]) (d0 := 1) (O := [true, false]) (T := [(0, [.inr (.inl 73), .inr (.inl 74)], []), (40, [.inr (.inl 72), .inl (.int 99)], [.inr (.inl 57)]), (0, [.inr (.inl 72), .inl (.int 1)], [])]) (P := [(4, .inl (.int 0), .inr (.inl 75)), (5, .inr (.inl 75), .inl (.int 99)), (6, .inr (.inl 72), .inl (.ref 7))]) jm_ok189 (by decide +kernel) (by decide +kernel) hd F X1 X2 (fun F' hF hs => ?_)
  have b73 := hd_b (F := F) (F' := F') (k := 73) (hF 73 (by decide))
  have b74 := hd_b (F := F) (F' := F') (k := 74) (hF 74 (by decide))
  have t75 : sy_dv F' (.inr (.inl 75)) = .int ((sy_i F 73) + (sy_i F 74)) := hd_o (hs 0 _ rfl) b73 b74 rfl
  have b72 := hd_b (F := F) (F' := F') (k := 72) (hF 72 (by decide))
  have a57 := hd_ba (F := F) (F' := F') (k := 57) (hF 57 (by decide))
  have t76 : sy_da F' (.inr (.inl 76)) = .inl (jm_upd (sy_ai F 57) (sy_i F 72).toNatClampNeg ((99 : Int32))) := hd_up (hs 1 _ rfl) b72 rfl a57
  have b69 := hd_b (F := F) (F' := F') (k := 69) (hF 69 (by decide))
  have b70 := hd_b (F := F) (F' := F') (k := 70) (hF 70 (by decide))
  have b71 := hd_b (F := F) (F' := F') (k := 71) (hF 71 (by decide))
  have t77 : sy_dv F' (.inr (.inl 77)) = .int ((sy_i F 72) + ((1 : Int32))) := hd_o (hs 2 _ rfl) b72 rfl rfl
  have hB' : iv_in F' iv_B4 := iv_in_eq hB (fun j hj => hF j (Nat.lt_of_lt_of_le hj (by decide +kernel)))
  refine ⟨List.forall_mem_cons.mpr ⟨hd_p4 rfl t75 (by have hc : ((0) : Int32).toInt = 0 := (by decide); omega), List.forall_mem_cons.mpr ⟨hd_p5 t75 rfl (by have hc : ((99) : Int32).toInt = 99 := (by decide); omega), List.forall_mem_cons.mpr ⟨hd_pb b72 (by first | exact h2 | exact h2), fun _ h => absurd h List.not_mem_nil⟩⟩⟩, ?_⟩
  refine k _ ?_ ?_ ?_ ?_ ?_ ?_
  · exact fun j hj hn => (hd_keep hB' (Nat.lt_of_lt_of_le hj (by decide +kernel)) (by simp; omega)).trans (hF j (Nat.lt_of_lt_of_le hj (by decide)))
  · exact hd_ga (a := .inr (.inl 76)) (by decide +kernel) t76
  · exact hd_gi (x := .inr (.inl 69)) (by decide +kernel) b69
  · exact hd_gi (x := .inr (.inl 70)) (by decide +kernel) b70
  · exact hd_gi (x := .inr (.inl 71)) (by decide +kernel) b71
  · exact hd_gi (x := .inr (.inl 77)) (by decide +kernel) t77
theorem ylo_292_p2 {Ls : Nat} {xs : Nat → Int32} {d : Nat} {Q : Option Value → jm_h → Prop} (hd : 2 ≤ d) (F : Nat → sy_d) (X1 X2 : List jm_c) (hB : iv_in F iv_B4)
    (h0 : ((sy_i F 73) + (sy_i F 74)).toInt < 0)
    (h1 : 0 ≤ (sy_i F 72).toInt ∧ (sy_i F 72).toInt < 7)
    (k : ∀ F1 : Nat → sy_d, (∀ j, j < 69 → j ≠ 57 → F1 j = F j) → F1 57 = .inr (.inl (jm_upd (sy_ai F 57) (sy_i F 72).toNatClampNeg ((0 : Int32)))) → F1 69 = .inl (.int (sy_i F 69)) → F1 70 = .inl (.int (sy_i F 70)) → F1 71 = .inl (.int (sy_i F 71)) → F1 72 = .inl (.int ((sy_i F 72) + ((1 : Int32)))) → hd_W Ls xs d jm_M189 Q (27, sy_dL F1 [some (.inl (.ref 1000)), some (.inr (.inl 69)), some (.inr (.inl 70)), some (.inr (.inl 71)), some (.inr (.inl 72))], sy_dS F1 [], sy_dh F1 X1 X2 (iv_H 4), 0, 0)) :
    hd_W Ls xs d jm_M189 Q (292, sy_dL F [some (.inl (.ref 1000)), some (.inr (.inl 69)), some (.inr (.inl 70)), some (.inr (.inl 71)), some (.inr (.inl 72))], sy_dS F [.inr (.inl 74), .inr (.inl 73), .inr (.inl 72), .inl (.ref 1035)], sy_dh F X1 X2 (iv_H 4), 0, 0) := by
  refine hd_run (s := 4) (nv := 75) (pc := 27) (L := [some (.inl (.ref 1000)), some (.inr (.inl 69)), some (.inr (.inl 70)), some (.inr (.inl 71)), some (.inr (.inl 72))]) (S := []) (uh := hd_ov (iv_id 0 iv_B4) [(57, .inr (.inr (.inl 76)))]) (ul := [.inl (.inr (.inl 69)), .inl (.inr (.inl 70)), .inl (.inr (.inl 71)), .inl (.inr (.inl 77))]) (f := false) (sp := [27]) (d0 := 1) (O := [false]) (T := [(0, [.inr (.inl 73), .inr (.inl 74)], []), (40, [.inr (.inl 72), .inl (.int 0)], [.inr (.inl 57)]), (0, [.inr (.inl 72), .inl (.int 1)], [])]) (P := [(5, .inl (.int 0), .inr (.inl 75)), (6, .inr (.inl 72), .inl (.ref 7))]) jm_ok189 (by decide +kernel) (by decide +kernel) hd F X1 X2 (fun F' hF hs => ?_)
  have b73 := hd_b (F := F) (F' := F') (k := 73) (hF 73 (by decide))
  have b74 := hd_b (F := F) (F' := F') (k := 74) (hF 74 (by decide))
  have t75 : sy_dv F' (.inr (.inl 75)) = .int ((sy_i F 73) + (sy_i F 74)) := hd_o (hs 0 _ rfl) b73 b74 rfl
  have b72 := hd_b (F := F) (F' := F') (k := 72) (hF 72 (by decide))
  have a57 := hd_ba (F := F) (F' := F') (k := 57) (hF 57 (by decide))
  have t76 : sy_da F' (.inr (.inl 76)) = .inl (jm_upd (sy_ai F 57) (sy_i F 72).toNatClampNeg ((0 : Int32))) := hd_up (hs 1 _ rfl) b72 rfl a57
  have b69 := hd_b (F := F) (F' := F') (k := 69) (hF 69 (by decide))
  have b70 := hd_b (F := F) (F' := F') (k := 70) (hF 70 (by decide))
  have b71 := hd_b (F := F) (F' := F') (k := 71) (hF 71 (by decide))
  have t77 : sy_dv F' (.inr (.inl 77)) = .int ((sy_i F 72) + ((1 : Int32))) := hd_o (hs 2 _ rfl) b72 rfl rfl
  have hB' : iv_in F' iv_B4 := iv_in_eq hB (fun j hj => hF j (Nat.lt_of_lt_of_le hj (by decide +kernel)))
  refine ⟨List.forall_mem_cons.mpr ⟨hd_p5 rfl t75 (by have hc : ((0) : Int32).toInt = 0 := (by decide); omega), List.forall_mem_cons.mpr ⟨hd_pb b72 (by first | exact h1 | exact h1), fun _ h => absurd h List.not_mem_nil⟩⟩, ?_⟩
  refine k _ ?_ ?_ ?_ ?_ ?_ ?_
  · exact fun j hj hn => (hd_keep hB' (Nat.lt_of_lt_of_le hj (by decide +kernel)) (by simp; omega)).trans (hF j (Nat.lt_of_lt_of_le hj (by decide)))
  · exact hd_ga (a := .inr (.inl 76)) (by decide +kernel) t76
  · exact hd_gi (x := .inr (.inl 69)) (by decide +kernel) b69
  · exact hd_gi (x := .inr (.inl 70)) (by decide +kernel) b70
  · exact hd_gi (x := .inr (.inl 71)) (by decide +kernel) b71
  · exact hd_gi (x := .inr (.inl 77)) (by decide +kernel) t77
theorem ylo_292 {Ls : Nat} {xs : Nat → Int32} {d : Nat} {Q : Option Value → jm_h → Prop} (hd : 2 ≤ d) (F : Nat → sy_d) (X1 X2 : List jm_c) (hB : iv_in F iv_B4)
    (a72 : 0 ≤ (sy_i F 72).toInt ∧ (sy_i F 72).toInt ≤ 6)
    (k0 : 0 ≤ ((sy_i F 73) + (sy_i F 74)).toInt → ((sy_i F 73) + (sy_i F 74)).toInt ≤ 99 → ∀ F1 : Nat → sy_d, iv_in F1 iv_B4 → (∀ j, j < 69 → j ∉ ([57] : List Nat) → F1 j = F j) → sy_ai F1 57 = jm_upd (sy_ai F 57) ((sy_i F 72).toInt).toNat ((sy_i F 73) + (sy_i F 74)) → (sy_i F1 69).toInt = (sy_i F 69).toInt → sy_i F1 69 = sy_i F 69 → (sy_i F1 70).toInt = (sy_i F 70).toInt → sy_i F1 70 = sy_i F 70 → (sy_i F1 71).toInt = (sy_i F 71).toInt → sy_i F1 71 = sy_i F 71 → (sy_i F1 72).toInt = ((sy_i F 72).toInt + 1) → sy_i F1 72 = (sy_i F 72) + ((1 : Int32)) → hd_W Ls xs d jm_M189 Q (27, sy_dL F1 [some (.inl (.ref 1000)), some (.inr (.inl 69)), some (.inr (.inl 70)), some (.inr (.inl 71)), some (.inr (.inl 72))], sy_dS F1 [], sy_dh F1 X1 X2 (iv_H 4), 0, 0))
    (k1 : 0 ≤ ((sy_i F 73) + (sy_i F 74)).toInt → 99 < ((sy_i F 73) + (sy_i F 74)).toInt → ∀ F1 : Nat → sy_d, iv_in F1 iv_B4 → (∀ j, j < 69 → j ∉ ([57] : List Nat) → F1 j = F j) → sy_ai F1 57 = jm_upd (sy_ai F 57) ((sy_i F 72).toInt).toNat ((99 : Int32)) → (sy_i F1 69).toInt = (sy_i F 69).toInt → sy_i F1 69 = sy_i F 69 → (sy_i F1 70).toInt = (sy_i F 70).toInt → sy_i F1 70 = sy_i F 70 → (sy_i F1 71).toInt = (sy_i F 71).toInt → sy_i F1 71 = sy_i F 71 → (sy_i F1 72).toInt = ((sy_i F 72).toInt + 1) → sy_i F1 72 = (sy_i F 72) + ((1 : Int32)) → hd_W Ls xs d jm_M189 Q (27, sy_dL F1 [some (.inl (.ref 1000)), some (.inr (.inl 69)), some (.inr (.inl 70)), some (.inr (.inl 71)), some (.inr (.inl 72))], sy_dS F1 [], sy_dh F1 X1 X2 (iv_H 4), 0, 0))
    (k2 : ((sy_i F 73) + (sy_i F 74)).toInt < 0 → ∀ F1 : Nat → sy_d, iv_in F1 iv_B4 → (∀ j, j < 69 → j ∉ ([57] : List Nat) → F1 j = F j) → sy_ai F1 57 = jm_upd (sy_ai F 57) ((sy_i F 72).toInt).toNat ((0 : Int32)) → (sy_i F1 69).toInt = (sy_i F 69).toInt → sy_i F1 69 = sy_i F 69 → (sy_i F1 70).toInt = (sy_i F 70).toInt → sy_i F1 70 = sy_i F 70 → (sy_i F1 71).toInt = (sy_i F 71).toInt → sy_i F1 71 = sy_i F 71 → (sy_i F1 72).toInt = ((sy_i F 72).toInt + 1) → sy_i F1 72 = (sy_i F 72) + ((1 : Int32)) → hd_W Ls xs d jm_M189 Q (27, sy_dL F1 [some (.inl (.ref 1000)), some (.inr (.inl 69)), some (.inr (.inl 70)), some (.inr (.inl 71)), some (.inr (.inl 72))], sy_dS F1 [], sy_dh F1 X1 X2 (iv_H 4), 0, 0)) :
    hd_W Ls xs d jm_M189 Q (292, sy_dL F [some (.inl (.ref 1000)), some (.inr (.inl 69)), some (.inr (.inl 70)), some (.inr (.inl 71)), some (.inr (.inl 72))], sy_dS F [.inr (.inl 74), .inr (.inl 73), .inr (.inl 72), .inl (.ref 1035)], sy_dh F X1 X2 (iv_H 4), 0, 0) := by
  by_cases g0 : 0 ≤ ((sy_i F 73) + (sy_i F 74)).toInt
  · by_cases g1 : ((sy_i F 73) + (sy_i F 74)).toInt ≤ 99
    · have n75 : nzI ((sy_i F 73) + (sy_i F 74)) (((sy_i F 73) + (sy_i F 74)).toInt) := congrArg Int32.toInt (rfl : (sy_i F 73) + (sy_i F 74) = (sy_i F 73) + (sy_i F 74))
      have w76 : jm_upd (sy_ai F 57) (sy_i F 72).toNatClampNeg ((sy_i F 73) + (sy_i F 74)) = jm_upd (sy_ai F 57) ((sy_i F 72).toInt).toNat ((sy_i F 73) + (sy_i F 74)) := by simp only [nz_c]
      have n77 : nzI ((sy_i F 72) + ((1 : Int32))) (((sy_i F 72).toInt + 1)) := nz_add (rfl : (sy_i F 72).toInt = (sy_i F 72).toInt) (by decide : ((1 : Int32)).toInt = 1) (by omega) (by omega)
      exact ylo_292_p0 hd F X1 X2 hB (by first | exact g0 | (simp only [nz_c]; exact g0) | (rw [(nzE n75)]; exact g0)) (by first | exact g1 | (simp only [nz_c]; exact g1) | (rw [(nzE n75)]; exact g1)) (by first | exact ⟨by omega, by omega⟩ | (simp only [nz_c]; exact ⟨by omega, by omega⟩)) (fun F1 g e57 e69 e70 e71 e72 => k0 g0 g1 F1 (nz_in hB [57] (fun j hj hn => g j hj (by simp only [List.mem_cons, List.not_mem_nil, or_false, not_or] at hn; omega)) (List.forall_mem_cons.mpr ⟨fun t ht => (Option.some.inj ht) ▸ (nz_hz2 e57), List.forall_mem_nil _⟩)) (fun j hj hn => g j hj (by simp only [List.mem_cons, List.not_mem_nil, or_false, not_or] at hn; omega)) ((zz_ai e57).trans w76) ((congrArg Int32.toInt (zz_i e69)).trans (rfl : (sy_i F 69).toInt = (sy_i F 69).toInt)) ((zz_i e69).trans (rfl : sy_i F 69 = sy_i F 69)) ((congrArg Int32.toInt (zz_i e70)).trans (rfl : (sy_i F 70).toInt = (sy_i F 70).toInt)) ((zz_i e70).trans (rfl : sy_i F 70 = sy_i F 70)) ((congrArg Int32.toInt (zz_i e71)).trans (rfl : (sy_i F 71).toInt = (sy_i F 71).toInt)) ((zz_i e71).trans (rfl : sy_i F 71 = sy_i F 71)) ((congrArg Int32.toInt (zz_i e72)).trans (nzE n77)) ((zz_i e72).trans (rfl : (sy_i F 72) + ((1 : Int32)) = (sy_i F 72) + ((1 : Int32)))))
    replace g1 : 99 < ((sy_i F 73) + (sy_i F 74)).toInt := by omega
    have n75 : nzI ((sy_i F 73) + (sy_i F 74)) (((sy_i F 73) + (sy_i F 74)).toInt) := congrArg Int32.toInt (rfl : (sy_i F 73) + (sy_i F 74) = (sy_i F 73) + (sy_i F 74))
    have w76 : jm_upd (sy_ai F 57) (sy_i F 72).toNatClampNeg ((99 : Int32)) = jm_upd (sy_ai F 57) ((sy_i F 72).toInt).toNat ((99 : Int32)) := by simp only [nz_c, (by decide : ((99 : Int32)).toInt = 99)]
    have n77 : nzI ((sy_i F 72) + ((1 : Int32))) (((sy_i F 72).toInt + 1)) := nz_add (rfl : (sy_i F 72).toInt = (sy_i F 72).toInt) (by decide : ((1 : Int32)).toInt = 1) (by omega) (by omega)
    exact ylo_292_p1 hd F X1 X2 hB (by first | exact g0 | (simp only [nz_c]; exact g0) | (rw [(nzE n75)]; exact g0)) (by first | exact g1 | (simp only [nz_c]; exact g1) | (rw [(nzE n75)]; exact g1)) (by first | exact ⟨by omega, by omega⟩ | (simp only [nz_c]; exact ⟨by omega, by omega⟩)) (fun F1 g e57 e69 e70 e71 e72 => k1 g0 g1 F1 (nz_in hB [57] (fun j hj hn => g j hj (by simp only [List.mem_cons, List.not_mem_nil, or_false, not_or] at hn; omega)) (List.forall_mem_cons.mpr ⟨fun t ht => (Option.some.inj ht) ▸ (nz_hz2 e57), List.forall_mem_nil _⟩)) (fun j hj hn => g j hj (by simp only [List.mem_cons, List.not_mem_nil, or_false, not_or] at hn; omega)) ((zz_ai e57).trans w76) ((congrArg Int32.toInt (zz_i e69)).trans (rfl : (sy_i F 69).toInt = (sy_i F 69).toInt)) ((zz_i e69).trans (rfl : sy_i F 69 = sy_i F 69)) ((congrArg Int32.toInt (zz_i e70)).trans (rfl : (sy_i F 70).toInt = (sy_i F 70).toInt)) ((zz_i e70).trans (rfl : sy_i F 70 = sy_i F 70)) ((congrArg Int32.toInt (zz_i e71)).trans (rfl : (sy_i F 71).toInt = (sy_i F 71).toInt)) ((zz_i e71).trans (rfl : sy_i F 71 = sy_i F 71)) ((congrArg Int32.toInt (zz_i e72)).trans (nzE n77)) ((zz_i e72).trans (rfl : (sy_i F 72) + ((1 : Int32)) = (sy_i F 72) + ((1 : Int32)))))
  replace g0 : ((sy_i F 73) + (sy_i F 74)).toInt < 0 := by omega
  have n75 : nzI ((sy_i F 73) + (sy_i F 74)) (((sy_i F 73) + (sy_i F 74)).toInt) := congrArg Int32.toInt (rfl : (sy_i F 73) + (sy_i F 74) = (sy_i F 73) + (sy_i F 74))
  have w76 : jm_upd (sy_ai F 57) (sy_i F 72).toNatClampNeg ((0 : Int32)) = jm_upd (sy_ai F 57) ((sy_i F 72).toInt).toNat ((0 : Int32)) := by simp only [nz_c, (by decide : ((0 : Int32)).toInt = 0)]
  have n77 : nzI ((sy_i F 72) + ((1 : Int32))) (((sy_i F 72).toInt + 1)) := nz_add (rfl : (sy_i F 72).toInt = (sy_i F 72).toInt) (by decide : ((1 : Int32)).toInt = 1) (by omega) (by omega)
  exact ylo_292_p2 hd F X1 X2 hB (by first | exact g0 | (simp only [nz_c]; exact g0) | (rw [(nzE n75)]; exact g0)) (by first | exact ⟨by omega, by omega⟩ | (simp only [nz_c]; exact ⟨by omega, by omega⟩)) (fun F1 g e57 e69 e70 e71 e72 => k2 g0 F1 (nz_in hB [57] (fun j hj hn => g j hj (by simp only [List.mem_cons, List.not_mem_nil, or_false, not_or] at hn; omega)) (List.forall_mem_cons.mpr ⟨fun t ht => (Option.some.inj ht) ▸ (nz_hz2 e57), List.forall_mem_nil _⟩)) (fun j hj hn => g j hj (by simp only [List.mem_cons, List.not_mem_nil, or_false, not_or] at hn; omega)) ((zz_ai e57).trans w76) ((congrArg Int32.toInt (zz_i e69)).trans (rfl : (sy_i F 69).toInt = (sy_i F 69).toInt)) ((zz_i e69).trans (rfl : sy_i F 69 = sy_i F 69)) ((congrArg Int32.toInt (zz_i e70)).trans (rfl : (sy_i F 70).toInt = (sy_i F 70).toInt)) ((zz_i e70).trans (rfl : sy_i F 70 = sy_i F 70)) ((congrArg Int32.toInt (zz_i e71)).trans (rfl : (sy_i F 71).toInt = (sy_i F 71).toInt)) ((zz_i e71).trans (rfl : sy_i F 71 = sy_i F 71)) ((congrArg Int32.toInt (zz_i e72)).trans (nzE n77)) ((zz_i e72).trans (rfl : (sy_i F 72) + ((1 : Int32)) = (sy_i F 72) + ((1 : Int32)))))
theorem yhg_0_p0 {Ls : Nat} {xs : Nat → Int32} {d : Nat} {Q : Option Value → jm_h → Prop} (hd : 1 ≤ d) (F : Nat → sy_d) (X1 X2 : List jm_c) (hB : iv_in F iv_B4)
    (k : ∀ F1 : Nat → sy_d, (∀ j, j < 69 → True → F1 j = F j) → hd_W Ls xs d jm_M192 Q (1, sy_dL F1 [some (.inl (.ref 1000)), none], sy_dS F1 [.inl (.ref 1000)], sy_dh F1 X1 X2 (iv_H 4), 0, 0)) :
    hd_W Ls xs d jm_M192 Q (0, sy_dL F [some (.inl (.ref 1000)), none], sy_dS F [], sy_dh F X1 X2 (iv_H 4), 0, 0) := by
  refine hd_run (s := 4) (nv := 69) (pc := 1) (L := [some (.inl (.ref 1000)), none]) (S := [.inl (.ref 1000)]) (uh := hd_ov (iv_id 0 iv_B4) []) (ul := []) (f := true) (sp := [1]) (d0 := 0) (O := []) (T := []) (P := []) jm_ok192 (by decide +kernel) (by decide +kernel) hd F X1 X2 (fun F' hF hs => ?_)
  have hB' : iv_in F' iv_B4 := iv_in_eq hB (fun j hj => hF j (Nat.lt_of_lt_of_le hj (by decide +kernel)))
  refine ⟨fun _ h => absurd h List.not_mem_nil, ?_⟩
  refine k _ ?_
  · exact fun j hj _ => (hd_keep hB' (Nat.lt_of_lt_of_le hj (by decide +kernel)) (by simp)).trans (hF j (Nat.lt_of_lt_of_le hj (by decide)))
theorem yhg_0 {Ls : Nat} {xs : Nat → Int32} {d : Nat} {Q : Option Value → jm_h → Prop} (hd : 1 ≤ d) (F : Nat → sy_d) (X1 X2 : List jm_c) (hB : iv_in F iv_B4)
    (k0 : ∀ F1 : Nat → sy_d, iv_in F1 iv_B4 → (∀ j, j < 69 → j ∉ ([] : List Nat) → F1 j = F j) → hd_W Ls xs d jm_M192 Q (1, sy_dL F1 [some (.inl (.ref 1000)), none], sy_dS F1 [.inl (.ref 1000)], sy_dh F1 X1 X2 (iv_H 4), 0, 0)) :
    hd_W Ls xs d jm_M192 Q (0, sy_dL F [some (.inl (.ref 1000)), none], sy_dS F [], sy_dh F X1 X2 (iv_H 4), 0, 0) := by
  exact yhg_0_p0 hd F X1 X2 hB  (fun F1 g  => k0 F1 (nz_in hB [] (fun j hj hn => g j hj (by simp only [List.mem_cons, List.not_mem_nil, or_false, not_or] at hn; exact trivial)) (List.forall_mem_nil _)) (fun j hj hn => g j hj (by simp only [List.mem_cons, List.not_mem_nil, or_false, not_or] at hn; exact trivial)) )
theorem yhg_4_p0 {Ls : Nat} {xs : Nat → Int32} {d : Nat} {Q : Option Value → jm_h → Prop} (hd : 1 ≤ d) (F : Nat → sy_d) (X1 X2 : List jm_c) (hB : iv_in F iv_B4)
    (k : ∀ F1 : Nat → sy_d, (∀ j, j < 69 → j ≠ 19 → F1 j = F j) → F1 19 = .inl (.int ((0 : Int32))) → F1 69 = .inl (.int ((0 : Int32))) → hd_W Ls xs d jm_M192 Q (11, sy_dL F1 [some (.inl (.ref 1000)), some (.inr (.inl 69))], sy_dS F1 [], sy_dh F1 X1 X2 (iv_H 4), 0, 0)) :
    hd_W Ls xs d jm_M192 Q (4, sy_dL F [some (.inl (.ref 1000)), none], sy_dS F [], sy_dh F X1 X2 (iv_H 4), 0, 0) := by
  refine hd_run (s := 4) (nv := 69) (pc := 11) (L := [some (.inl (.ref 1000)), some (.inr (.inl 69))]) (S := []) (uh := hd_ov (iv_id 0 iv_B4) [(19, .inl (.inl (.int 0)))]) (ul := [.inl (.inl (.int 0))]) (f := true) (sp := [11]) (d0 := 0) (O := []) (T := []) (P := []) jm_ok192 (by decide +kernel) (by decide +kernel) hd F X1 X2 (fun F' hF hs => ?_)
  have hB' : iv_in F' iv_B4 := iv_in_eq hB (fun j hj => hF j (Nat.lt_of_lt_of_le hj (by decide +kernel)))
  refine ⟨fun _ h => absurd h List.not_mem_nil, ?_⟩
  refine k _ ?_ ?_ ?_
  · exact fun j hj hn => (hd_keep hB' (Nat.lt_of_lt_of_le hj (by decide +kernel)) (by simp; omega)).trans (hF j (Nat.lt_of_lt_of_le hj (by decide)))
  · exact hd_gi (x := .inl (.int 0)) (by decide +kernel) rfl
  · exact hd_gi (x := .inl (.int 0)) (by decide +kernel) rfl
theorem yhg_4 {Ls : Nat} {xs : Nat → Int32} {d : Nat} {Q : Option Value → jm_h → Prop} (hd : 1 ≤ d) (F : Nat → sy_d) (X1 X2 : List jm_c) (hB : iv_in F iv_B4)
    (k0 : ∀ F1 : Nat → sy_d, iv_in F1 iv_B4 → (∀ j, j < 69 → j ∉ ([19] : List Nat) → F1 j = F j) → (sy_i F1 19).toInt = 0 → sy_i F1 19 = (0 : Int32) → (sy_i F1 69).toInt = 0 → sy_i F1 69 = (0 : Int32) → hd_W Ls xs d jm_M192 Q (11, sy_dL F1 [some (.inl (.ref 1000)), some (.inr (.inl 69))], sy_dS F1 [], sy_dh F1 X1 X2 (iv_H 4), 0, 0)) :
    hd_W Ls xs d jm_M192 Q (4, sy_dL F [some (.inl (.ref 1000)), none], sy_dS F [], sy_dh F X1 X2 (iv_H 4), 0, 0) := by
  exact yhg_4_p0 hd F X1 X2 hB  (fun F1 g e19 e69 => k0 F1 (nz_in hB [19] (fun j hj hn => g j hj (by simp only [List.mem_cons, List.not_mem_nil, or_false, not_or] at hn; omega)) (List.forall_mem_cons.mpr ⟨fun t ht => (Option.some.inj ht) ▸ (nz_hi e19 (by decide : ((0 : Int32)).toInt = 0) (by omega) (by omega)), List.forall_mem_nil _⟩)) (fun j hj hn => g j hj (by simp only [List.mem_cons, List.not_mem_nil, or_false, not_or] at hn; omega)) ((congrArg Int32.toInt (zz_i e19)).trans (by decide : ((0 : Int32)).toInt = 0)) ((zz_i e19).trans (rfl : (0 : Int32) = (0 : Int32))) ((congrArg Int32.toInt (zz_i e69)).trans (by decide : ((0 : Int32)).toInt = 0)) ((zz_i e69).trans (rfl : (0 : Int32) = (0 : Int32))))
theorem yhg_11_p0 {Ls : Nat} {xs : Nat → Int32} {d : Nat} {Q : Option Value → jm_h → Prop} (hd : 1 ≤ d) (F : Nat → sy_d) (X1 X2 : List jm_c) (hB : iv_in F iv_B4)
    (h0 : 0 ≤ (sy_i F 11).toInt ∧ (sy_i F 11).toInt < 2)
    (h1 : ((sy_ai F 31).getD (sy_i F 11).toNatClampNeg 0).toInt ≤ (sy_i F 69).toInt)
    (k : ∀ F1 : Nat → sy_d, (∀ j, j < 69 → True → F1 j = F j) → F1 69 = .inl (.int ((0 : Int32))) → hd_W Ls xs d jm_M192 Q (50, sy_dL F1 [some (.inl (.ref 1000)), some (.inr (.inl 69))], sy_dS F1 [], sy_dh F1 X1 X2 (iv_H 4), 0, 0)) :
    hd_W Ls xs d jm_M192 Q (11, sy_dL F [some (.inl (.ref 1000)), some (.inr (.inl 69))], sy_dS F [], sy_dh F X1 X2 (iv_H 4), 0, 0) := by
  refine hd_run (s := 4) (nv := 70) (pc := 50) (L := [some (.inl (.ref 1000)), some (.inr (.inl 69))]) (S := []) (uh := hd_ov (iv_id 0 iv_B4) []) (ul := [.inl (.inl (.int 0))]) (f := true) (sp := [11, 39, 50]) (d0 := 0) (O := [true]) (T := [(30, [.inr (.inl 11)], [.inr (.inl 31)])]) (P := [(6, .inr (.inl 11), .inl (.ref 2)), (4, .inr (.inl 70), .inr (.inl 69))]) jm_ok192 (by decide +kernel) (by decide +kernel) hd F X1 X2 (fun F' hF hs => ?_)
  have b11 := hd_b (F := F) (F' := F') (k := 11) (hF 11 (by decide))
  have a31 := hd_ba (F := F) (F' := F') (k := 31) (hF 31 (by decide))
  have t70 : sy_dv F' (.inr (.inl 70)) = .int ((sy_ai F 31).getD (sy_i F 11).toNatClampNeg 0) := hd_rd (hs 0 _ rfl) b11 a31
  have b69 := hd_b (F := F) (F' := F') (k := 69) (hF 69 (by decide))
  have hB' : iv_in F' iv_B4 := iv_in_eq hB (fun j hj => hF j (Nat.lt_of_lt_of_le hj (by decide +kernel)))
  refine ⟨List.forall_mem_cons.mpr ⟨hd_pb b11 (by first | exact h0 | exact h0), List.forall_mem_cons.mpr ⟨hd_p4 t70 b69 h1, fun _ h => absurd h List.not_mem_nil⟩⟩, ?_⟩
  refine k _ ?_ ?_
  · exact fun j hj _ => (hd_keep hB' (Nat.lt_of_lt_of_le hj (by decide +kernel)) (by simp)).trans (hF j (Nat.lt_of_lt_of_le hj (by decide)))
  · exact hd_gi (x := .inl (.int 0)) (by decide +kernel) rfl
theorem yhg_11_p1 {Ls : Nat} {xs : Nat → Int32} {d : Nat} {Q : Option Value → jm_h → Prop} (hd : 1 ≤ d) (F : Nat → sy_d) (X1 X2 : List jm_c) (hB : iv_in F iv_B4)
    (h0 : 0 ≤ (sy_i F 11).toInt ∧ (sy_i F 11).toInt < 2)
    (h1 : (sy_i F 69).toInt < ((sy_ai F 31).getD (sy_i F 11).toNatClampNeg 0).toInt)
    (h2 : 0 ≤ (((14 : Int32)) + (sy_i F 69)).toInt ∧ (((14 : Int32)) + (sy_i F 69)).toInt < 61)
    (h3 : ((sy_ai F 55).getD (((14 : Int32)) + (sy_i F 69)).toNatClampNeg 0).toInt ≠ 1)
    (k : ∀ F1 : Nat → sy_d, (∀ j, j < 69 → True → F1 j = F j) → F1 69 = .inl (.int ((sy_i F 69) + ((1 : Int32)))) → hd_W Ls xs d jm_M192 Q (11, sy_dL F1 [some (.inl (.ref 1000)), some (.inr (.inl 69))], sy_dS F1 [], sy_dh F1 X1 X2 (iv_H 4), 0, 0)) :
    hd_W Ls xs d jm_M192 Q (11, sy_dL F [some (.inl (.ref 1000)), some (.inr (.inl 69))], sy_dS F [], sy_dh F X1 X2 (iv_H 4), 0, 0) := by
  refine hd_run (s := 4) (nv := 70) (pc := 11) (L := [some (.inl (.ref 1000)), some (.inr (.inl 69))]) (S := []) (uh := hd_ov (iv_id 0 iv_B4) []) (ul := [.inl (.inr (.inl 73))]) (f := true) (sp := [11, 39, 50]) (d0 := 0) (O := [false, true]) (T := [(30, [.inr (.inl 11)], [.inr (.inl 31)]), (0, [.inl (.int 14), .inr (.inl 69)], []), (30, [.inr (.inl 71)], [.inr (.inl 55)]), (0, [.inr (.inl 69), .inl (.int 1)], [])]) (P := [(6, .inr (.inl 11), .inl (.ref 2)), (5, .inr (.inl 70), .inr (.inl 69)), (6, .inr (.inl 71), .inl (.ref 61)), (1, .inr (.inl 72), .inl (.int 1))]) jm_ok192 (by decide +kernel) (by decide +kernel) hd F X1 X2 (fun F' hF hs => ?_)
  have b11 := hd_b (F := F) (F' := F') (k := 11) (hF 11 (by decide))
  have a31 := hd_ba (F := F) (F' := F') (k := 31) (hF 31 (by decide))
  have t70 : sy_dv F' (.inr (.inl 70)) = .int ((sy_ai F 31).getD (sy_i F 11).toNatClampNeg 0) := hd_rd (hs 0 _ rfl) b11 a31
  have b69 := hd_b (F := F) (F' := F') (k := 69) (hF 69 (by decide))
  have t71 : sy_dv F' (.inr (.inl 71)) = .int (((14 : Int32)) + (sy_i F 69)) := hd_o (hs 1 _ rfl) rfl b69 rfl
  have a55 := hd_ba (F := F) (F' := F') (k := 55) (hF 55 (by decide))
  have t72 : sy_dv F' (.inr (.inl 72)) = .int ((sy_ai F 55).getD (((14 : Int32)) + (sy_i F 69)).toNatClampNeg 0) := hd_rd (hs 2 _ rfl) t71 a55
  have t73 : sy_dv F' (.inr (.inl 73)) = .int ((sy_i F 69) + ((1 : Int32))) := hd_o (hs 3 _ rfl) b69 rfl rfl
  have hB' : iv_in F' iv_B4 := iv_in_eq hB (fun j hj => hF j (Nat.lt_of_lt_of_le hj (by decide +kernel)))
  refine ⟨List.forall_mem_cons.mpr ⟨hd_pb b11 (by first | exact h0 | exact h0), List.forall_mem_cons.mpr ⟨hd_p5 t70 b69 h1, List.forall_mem_cons.mpr ⟨hd_pb t71 (by first | exact h2 | exact h2), List.forall_mem_cons.mpr ⟨hd_p1 t72 rfl (by have hc : ((1) : Int32).toInt = 1 := (by decide); omega), fun _ h => absurd h List.not_mem_nil⟩⟩⟩⟩, ?_⟩
  refine k _ ?_ ?_
  · exact fun j hj _ => (hd_keep hB' (Nat.lt_of_lt_of_le hj (by decide +kernel)) (by simp)).trans (hF j (Nat.lt_of_lt_of_le hj (by decide)))
  · exact hd_gi (x := .inr (.inl 73)) (by decide +kernel) t73
theorem yhg_11_p2 {Ls : Nat} {xs : Nat → Int32} {d : Nat} {Q : Option Value → jm_h → Prop} (hd : 1 ≤ d) (F : Nat → sy_d) (X1 X2 : List jm_c) (hB : iv_in F iv_B4)
    (h0 : 0 ≤ (sy_i F 11).toInt ∧ (sy_i F 11).toInt < 2)
    (h1 : (sy_i F 69).toInt < ((sy_ai F 31).getD (sy_i F 11).toNatClampNeg 0).toInt)
    (h2 : 0 ≤ (((14 : Int32)) + (sy_i F 69)).toInt ∧ (((14 : Int32)) + (sy_i F 69)).toInt < 61)
    (h3 : ((sy_ai F 55).getD (((14 : Int32)) + (sy_i F 69)).toNatClampNeg 0).toInt = 1)
    (k : ∀ F1 : Nat → sy_d, (∀ j, j < 69 → True → F1 j = F j) → F1 69 = .inl (.int (sy_i F 69)) → hd_W Ls xs d jm_M192 Q (39, sy_dL F1 [some (.inl (.ref 1000)), some (.inr (.inl 69))], sy_dS F1 [.inr (.inl 69), .inl (.ref 1000)], sy_dh F1 X1 X2 (iv_H 4), 0, 0)) :
    hd_W Ls xs d jm_M192 Q (11, sy_dL F [some (.inl (.ref 1000)), some (.inr (.inl 69))], sy_dS F [], sy_dh F X1 X2 (iv_H 4), 0, 0) := by
  refine hd_run (s := 4) (nv := 70) (pc := 39) (L := [some (.inl (.ref 1000)), some (.inr (.inl 69))]) (S := [.inr (.inl 69), .inl (.ref 1000)]) (uh := hd_ov (iv_id 0 iv_B4) []) (ul := [.inl (.inr (.inl 69))]) (f := true) (sp := [11, 39, 50]) (d0 := 0) (O := [false, false]) (T := [(30, [.inr (.inl 11)], [.inr (.inl 31)]), (0, [.inl (.int 14), .inr (.inl 69)], []), (30, [.inr (.inl 71)], [.inr (.inl 55)])]) (P := [(6, .inr (.inl 11), .inl (.ref 2)), (5, .inr (.inl 70), .inr (.inl 69)), (6, .inr (.inl 71), .inl (.ref 61)), (0, .inr (.inl 72), .inl (.int 1))]) jm_ok192 (by decide +kernel) (by decide +kernel) hd F X1 X2 (fun F' hF hs => ?_)
  have b11 := hd_b (F := F) (F' := F') (k := 11) (hF 11 (by decide))
  have a31 := hd_ba (F := F) (F' := F') (k := 31) (hF 31 (by decide))
  have t70 : sy_dv F' (.inr (.inl 70)) = .int ((sy_ai F 31).getD (sy_i F 11).toNatClampNeg 0) := hd_rd (hs 0 _ rfl) b11 a31
  have b69 := hd_b (F := F) (F' := F') (k := 69) (hF 69 (by decide))
  have t71 : sy_dv F' (.inr (.inl 71)) = .int (((14 : Int32)) + (sy_i F 69)) := hd_o (hs 1 _ rfl) rfl b69 rfl
  have a55 := hd_ba (F := F) (F' := F') (k := 55) (hF 55 (by decide))
  have t72 : sy_dv F' (.inr (.inl 72)) = .int ((sy_ai F 55).getD (((14 : Int32)) + (sy_i F 69)).toNatClampNeg 0) := hd_rd (hs 2 _ rfl) t71 a55
  have hB' : iv_in F' iv_B4 := iv_in_eq hB (fun j hj => hF j (Nat.lt_of_lt_of_le hj (by decide +kernel)))
  refine ⟨List.forall_mem_cons.mpr ⟨hd_pb b11 (by first | exact h0 | exact h0), List.forall_mem_cons.mpr ⟨hd_p5 t70 b69 h1, List.forall_mem_cons.mpr ⟨hd_pb t71 (by first | exact h2 | exact h2), List.forall_mem_cons.mpr ⟨hd_p0 t72 rfl (by have hc : ((1) : Int32).toInt = 1 := (by decide); omega), fun _ h => absurd h List.not_mem_nil⟩⟩⟩⟩, ?_⟩
  refine k _ ?_ ?_
  · exact fun j hj _ => (hd_keep hB' (Nat.lt_of_lt_of_le hj (by decide +kernel)) (by simp)).trans (hF j (Nat.lt_of_lt_of_le hj (by decide)))
  · exact hd_gi (x := .inr (.inl 69)) (by decide +kernel) b69
theorem yhg_11 {Ls : Nat} {xs : Nat → Int32} {d : Nat} {Q : Option Value → jm_h → Prop} (hd : 1 ≤ d) (F : Nat → sy_d) (X1 X2 : List jm_c) (hB : iv_in F iv_B4)
    (a69 : 0 ≤ (sy_i F 69).toInt ∧ (sy_i F 69).toInt ≤ 7)
    (k0 : ((sy_ai F 31).getD ((sy_i F 11).toInt).toNat 0).toInt ≤ (sy_i F 69).toInt → ∀ F1 : Nat → sy_d, iv_in F1 iv_B4 → (∀ j, j < 69 → j ∉ ([] : List Nat) → F1 j = F j) → (sy_i F1 69).toInt = 0 → sy_i F1 69 = (0 : Int32) → hd_W Ls xs d jm_M192 Q (50, sy_dL F1 [some (.inl (.ref 1000)), some (.inr (.inl 69))], sy_dS F1 [], sy_dh F1 X1 X2 (iv_H 4), 0, 0))
    (k1 : (sy_i F 69).toInt < ((sy_ai F 31).getD ((sy_i F 11).toInt).toNat 0).toInt → ((sy_ai F 55).getD ((14 + (sy_i F 69).toInt)).toNat 0).toInt ≠ 1 → ∀ F1 : Nat → sy_d, iv_in F1 iv_B4 → (∀ j, j < 69 → j ∉ ([] : List Nat) → F1 j = F j) → (sy_i F1 69).toInt = ((sy_i F 69).toInt + 1) → sy_i F1 69 = (sy_i F 69) + ((1 : Int32)) → hd_W Ls xs d jm_M192 Q (11, sy_dL F1 [some (.inl (.ref 1000)), some (.inr (.inl 69))], sy_dS F1 [], sy_dh F1 X1 X2 (iv_H 4), 0, 0))
    (k2 : (sy_i F 69).toInt < ((sy_ai F 31).getD ((sy_i F 11).toInt).toNat 0).toInt → ((sy_ai F 55).getD ((14 + (sy_i F 69).toInt)).toNat 0).toInt = 1 → ∀ F1 : Nat → sy_d, iv_in F1 iv_B4 → (∀ j, j < 69 → j ∉ ([] : List Nat) → F1 j = F j) → (sy_i F1 69).toInt = (sy_i F 69).toInt → sy_i F1 69 = sy_i F 69 → hd_W Ls xs d jm_M192 Q (39, sy_dL F1 [some (.inl (.ref 1000)), some (.inr (.inl 69))], sy_dS F1 [.inr (.inl 69), .inl (.ref 1000)], sy_dh F1 X1 X2 (iv_H 4), 0, 0)) :
    hd_W Ls xs d jm_M192 Q (11, sy_dL F [some (.inl (.ref 1000)), some (.inr (.inl 69))], sy_dS F [], sy_dh F X1 X2 (iv_H 4), 0, 0) := by
  by_cases g0 : ((sy_ai F 31).getD ((sy_i F 11).toInt).toNat 0).toInt ≤ (sy_i F 69).toInt
  · have c11 := nz_bx hB (k := 11) (lo := 0) (hi := 1) rfl
    have q70 : (sy_ai F 31).getD (sy_i F 11).toNatClampNeg 0 = (sy_ai F 31).getD ((sy_i F 11).toInt).toNat 0 := by simp only [nz_c]
    have n70 : nzI ((sy_ai F 31).getD (sy_i F 11).toNatClampNeg 0) (((sy_ai F 31).getD ((sy_i F 11).toInt).toNat 0).toInt) := congrArg Int32.toInt q70
    have r70 := nz_ba hB (k := 31) (lo := 0) (hi := 7) rfl ((sy_i F 11).toInt).toNat
    exact yhg_11_p0 hd F X1 X2 hB (by first | exact ⟨by omega, by omega⟩ | (simp only [nz_c]; exact ⟨by omega, by omega⟩)) (by first | exact g0 | (simp only [nz_c]; exact g0) | (rw [(nzE n70)]; exact g0)) (fun F1 g e69 => k0 g0 F1 (nz_in hB [] (fun j hj hn => g j hj (by simp only [List.mem_cons, List.not_mem_nil, or_false, not_or] at hn; exact trivial)) (List.forall_mem_nil _)) (fun j hj hn => g j hj (by simp only [List.mem_cons, List.not_mem_nil, or_false, not_or] at hn; exact trivial)) ((congrArg Int32.toInt (zz_i e69)).trans (by decide : ((0 : Int32)).toInt = 0)) ((zz_i e69).trans (rfl : (0 : Int32) = (0 : Int32))))
  replace g0 : (sy_i F 69).toInt < ((sy_ai F 31).getD ((sy_i F 11).toInt).toNat 0).toInt := by omega
  by_cases g1 : ((sy_ai F 55).getD ((14 + (sy_i F 69).toInt)).toNat 0).toInt ≠ 1
  · have c11 := nz_bx hB (k := 11) (lo := 0) (hi := 1) rfl
    have q70 : (sy_ai F 31).getD (sy_i F 11).toNatClampNeg 0 = (sy_ai F 31).getD ((sy_i F 11).toInt).toNat 0 := by simp only [nz_c]
    have n70 : nzI ((sy_ai F 31).getD (sy_i F 11).toNatClampNeg 0) (((sy_ai F 31).getD ((sy_i F 11).toInt).toNat 0).toInt) := congrArg Int32.toInt q70
    have r70 := nz_ba hB (k := 31) (lo := 0) (hi := 7) rfl ((sy_i F 11).toInt).toNat
    have n71 : nzI (((14 : Int32)) + (sy_i F 69)) ((14 + (sy_i F 69).toInt)) := nz_add (by decide : ((14 : Int32)).toInt = 14) (rfl : (sy_i F 69).toInt = (sy_i F 69).toInt) (by omega) (by omega)
    have q72 : (sy_ai F 55).getD (((14 : Int32)) + (sy_i F 69)).toNatClampNeg 0 = (sy_ai F 55).getD ((14 + (sy_i F 69).toInt)).toNat 0 := by simp only [nz_c, (nzE n71), (by decide : ((14 : Int32)).toInt = 14)]
    have n72 : nzI ((sy_ai F 55).getD (((14 : Int32)) + (sy_i F 69)).toNatClampNeg 0) (((sy_ai F 55).getD ((14 + (sy_i F 69).toInt)).toNat 0).toInt) := congrArg Int32.toInt q72
    have n73 : nzI ((sy_i F 69) + ((1 : Int32))) (((sy_i F 69).toInt + 1)) := nz_add (rfl : (sy_i F 69).toInt = (sy_i F 69).toInt) (by decide : ((1 : Int32)).toInt = 1) (by omega) (by omega)
    exact yhg_11_p1 hd F X1 X2 hB (by first | exact ⟨by omega, by omega⟩ | (simp only [nz_c]; exact ⟨by omega, by omega⟩)) (by first | exact g0 | (simp only [nz_c]; exact g0) | (rw [(nzE n70)]; exact g0)) (by first | (simp only [nz_c, (nzE n71)]; exact ⟨by omega, by omega⟩) | exact ⟨by omega, by omega⟩ | (rw [(nzE n71)]; exact ⟨by omega, by omega⟩)) (by first | (simp only [nz_c, (nzE n71)]; exact g1) | exact g1 | (rw [(nzE n72)]; exact g1)) (fun F1 g e69 => k1 g0 g1 F1 (nz_in hB [] (fun j hj hn => g j hj (by simp only [List.mem_cons, List.not_mem_nil, or_false, not_or] at hn; exact trivial)) (List.forall_mem_nil _)) (fun j hj hn => g j hj (by simp only [List.mem_cons, List.not_mem_nil, or_false, not_or] at hn; exact trivial)) ((congrArg Int32.toInt (zz_i e69)).trans (nzE n73)) ((zz_i e69).trans (rfl : (sy_i F 69) + ((1 : Int32)) = (sy_i F 69) + ((1 : Int32)))))
  replace g1 : ((sy_ai F 55).getD ((14 + (sy_i F 69).toInt)).toNat 0).toInt = 1 := by omega
  have c11 := nz_bx hB (k := 11) (lo := 0) (hi := 1) rfl
  have q70 : (sy_ai F 31).getD (sy_i F 11).toNatClampNeg 0 = (sy_ai F 31).getD ((sy_i F 11).toInt).toNat 0 := by simp only [nz_c]
  have n70 : nzI ((sy_ai F 31).getD (sy_i F 11).toNatClampNeg 0) (((sy_ai F 31).getD ((sy_i F 11).toInt).toNat 0).toInt) := congrArg Int32.toInt q70
  have r70 := nz_ba hB (k := 31) (lo := 0) (hi := 7) rfl ((sy_i F 11).toInt).toNat
  have n71 : nzI (((14 : Int32)) + (sy_i F 69)) ((14 + (sy_i F 69).toInt)) := nz_add (by decide : ((14 : Int32)).toInt = 14) (rfl : (sy_i F 69).toInt = (sy_i F 69).toInt) (by omega) (by omega)
  have q72 : (sy_ai F 55).getD (((14 : Int32)) + (sy_i F 69)).toNatClampNeg 0 = (sy_ai F 55).getD ((14 + (sy_i F 69).toInt)).toNat 0 := by simp only [nz_c, (nzE n71), (by decide : ((14 : Int32)).toInt = 14)]
  have n72 : nzI ((sy_ai F 55).getD (((14 : Int32)) + (sy_i F 69)).toNatClampNeg 0) (((sy_ai F 55).getD ((14 + (sy_i F 69).toInt)).toNat 0).toInt) := congrArg Int32.toInt q72
  exact yhg_11_p2 hd F X1 X2 hB (by first | exact ⟨by omega, by omega⟩ | (simp only [nz_c]; exact ⟨by omega, by omega⟩)) (by first | exact g0 | (simp only [nz_c]; exact g0) | (rw [(nzE n70)]; exact g0)) (by first | (simp only [nz_c, (nzE n71)]; exact ⟨by omega, by omega⟩) | exact ⟨by omega, by omega⟩ | (rw [(nzE n71)]; exact ⟨by omega, by omega⟩)) (by first | (simp only [nz_c, (nzE n71)]; exact g1) | exact g1 | (rw [(nzE n72)]; exact g1)) (fun F1 g e69 => k2 g0 g1 F1 (nz_in hB [] (fun j hj hn => g j hj (by simp only [List.mem_cons, List.not_mem_nil, or_false, not_or] at hn; exact trivial)) (List.forall_mem_nil _)) (fun j hj hn => g j hj (by simp only [List.mem_cons, List.not_mem_nil, or_false, not_or] at hn; exact trivial)) ((congrArg Int32.toInt (zz_i e69)).trans (rfl : (sy_i F 69).toInt = (sy_i F 69).toInt)) ((zz_i e69).trans (rfl : sy_i F 69 = sy_i F 69)))
theorem yhg_42_p0 {Ls : Nat} {xs : Nat → Int32} {d : Nat} {Q : Option Value → jm_h → Prop} (hd : 1 ≤ d) (F : Nat → sy_d) (X1 X2 : List jm_c) (hB : iv_in F iv_B4)
    (k : ∀ F1 : Nat → sy_d, (∀ j, j < 69 → True → F1 j = F j) → F1 69 = .inl (.int ((sy_i F 69) + ((1 : Int32)))) → hd_W Ls xs d jm_M192 Q (11, sy_dL F1 [some (.inl (.ref 1000)), some (.inr (.inl 69))], sy_dS F1 [], sy_dh F1 X1 X2 (iv_H 4), 0, 0)) :
    hd_W Ls xs d jm_M192 Q (42, sy_dL F [some (.inl (.ref 1000)), some (.inr (.inl 69))], sy_dS F [], sy_dh F X1 X2 (iv_H 4), 0, 0) := by
  refine hd_run (s := 4) (nv := 70) (pc := 11) (L := [some (.inl (.ref 1000)), some (.inr (.inl 69))]) (S := []) (uh := hd_ov (iv_id 0 iv_B4) []) (ul := [.inl (.inr (.inl 70))]) (f := true) (sp := [11]) (d0 := 0) (O := []) (T := [(0, [.inr (.inl 69), .inl (.int 1)], [])]) (P := []) jm_ok192 (by decide +kernel) (by decide +kernel) hd F X1 X2 (fun F' hF hs => ?_)
  have b69 := hd_b (F := F) (F' := F') (k := 69) (hF 69 (by decide))
  have t70 : sy_dv F' (.inr (.inl 70)) = .int ((sy_i F 69) + ((1 : Int32))) := hd_o (hs 0 _ rfl) b69 rfl rfl
  have hB' : iv_in F' iv_B4 := iv_in_eq hB (fun j hj => hF j (Nat.lt_of_lt_of_le hj (by decide +kernel)))
  refine ⟨fun _ h => absurd h List.not_mem_nil, ?_⟩
  refine k _ ?_ ?_
  · exact fun j hj _ => (hd_keep hB' (Nat.lt_of_lt_of_le hj (by decide +kernel)) (by simp)).trans (hF j (Nat.lt_of_lt_of_le hj (by decide)))
  · exact hd_gi (x := .inr (.inl 70)) (by decide +kernel) t70
theorem yhg_42 {Ls : Nat} {xs : Nat → Int32} {d : Nat} {Q : Option Value → jm_h → Prop} (hd : 1 ≤ d) (F : Nat → sy_d) (X1 X2 : List jm_c) (hB : iv_in F iv_B4)
    (a69 : 0 ≤ (sy_i F 69).toInt ∧ (sy_i F 69).toInt ≤ 6)
    (k0 : ∀ F1 : Nat → sy_d, iv_in F1 iv_B4 → (∀ j, j < 69 → j ∉ ([] : List Nat) → F1 j = F j) → (sy_i F1 69).toInt = ((sy_i F 69).toInt + 1) → sy_i F1 69 = (sy_i F 69) + ((1 : Int32)) → hd_W Ls xs d jm_M192 Q (11, sy_dL F1 [some (.inl (.ref 1000)), some (.inr (.inl 69))], sy_dS F1 [], sy_dh F1 X1 X2 (iv_H 4), 0, 0)) :
    hd_W Ls xs d jm_M192 Q (42, sy_dL F [some (.inl (.ref 1000)), some (.inr (.inl 69))], sy_dS F [], sy_dh F X1 X2 (iv_H 4), 0, 0) := by
  have n70 : nzI ((sy_i F 69) + ((1 : Int32))) (((sy_i F 69).toInt + 1)) := nz_add (rfl : (sy_i F 69).toInt = (sy_i F 69).toInt) (by decide : ((1 : Int32)).toInt = 1) (by omega) (by omega)
  exact yhg_42_p0 hd F X1 X2 hB  (fun F1 g e69 => k0 F1 (nz_in hB [] (fun j hj hn => g j hj (by simp only [List.mem_cons, List.not_mem_nil, or_false, not_or] at hn; exact trivial)) (List.forall_mem_nil _)) (fun j hj hn => g j hj (by simp only [List.mem_cons, List.not_mem_nil, or_false, not_or] at hn; exact trivial)) ((congrArg Int32.toInt (zz_i e69)).trans (nzE n70)) ((zz_i e69).trans (rfl : (sy_i F 69) + ((1 : Int32)) = (sy_i F 69) + ((1 : Int32)))))
theorem yhg_50_p0 {Ls : Nat} {xs : Nat → Int32} {d : Nat} {Q : Option Value → jm_h → Prop} (hd : 1 ≤ d) (F : Nat → sy_d) (X1 X2 : List jm_c) (hB : iv_in F iv_B4)
    (h0 : 0 ≤ (sy_i F 11).toInt ∧ (sy_i F 11).toInt < 2)
    (h1 : ((sy_ai F 31).getD (sy_i F 11).toNatClampNeg 0).toInt ≤ (sy_i F 69).toInt)
    (k : ∀ F1 : Nat → sy_d, (∀ j, j < 69 → j ≠ 55 → F1 j = F j) → F1 55 = .inr (.inl (jm_upd (sy_ai F 55) ((57 : Int32)).toNatClampNeg (((sy_ai F 55).getD ((57 : Int32)).toNatClampNeg 0) + ((1 : Int32))))) → Q (none) (sy_dh F1 X1 X2 (iv_H 4))) :
    hd_W Ls xs d jm_M192 Q (50, sy_dL F [some (.inl (.ref 1000)), some (.inr (.inl 69))], sy_dS F [], sy_dh F X1 X2 (iv_H 4), 0, 0) := by
  refine hd_ret (s := 4) (nv := 70) (v := none) (uh := hd_ov (iv_id 0 iv_B4) [(55, .inr (.inr (.inl 73)))]) (f := true) (sp := [74, 77]) (d0 := 0) (O := [true]) (T := [(30, [.inr (.inl 11)], [.inr (.inl 31)]), (30, [.inl (.int 57)], [.inr (.inl 55)]), (0, [.inr (.inl 71), .inl (.int 1)], []), (40, [.inl (.int 57), .inr (.inl 72)], [.inr (.inl 55)])]) (P := [(6, .inr (.inl 11), .inl (.ref 2)), (4, .inr (.inl 70), .inr (.inl 69))]) jm_ok192 (by decide +kernel) (by decide +kernel) hd F X1 X2 (fun F' hF hs => ?_)
  have b11 := hd_b (F := F) (F' := F') (k := 11) (hF 11 (by decide))
  have a31 := hd_ba (F := F) (F' := F') (k := 31) (hF 31 (by decide))
  have t70 : sy_dv F' (.inr (.inl 70)) = .int ((sy_ai F 31).getD (sy_i F 11).toNatClampNeg 0) := hd_rd (hs 0 _ rfl) b11 a31
  have b69 := hd_b (F := F) (F' := F') (k := 69) (hF 69 (by decide))
  have a55 := hd_ba (F := F) (F' := F') (k := 55) (hF 55 (by decide))
  have t71 : sy_dv F' (.inr (.inl 71)) = .int ((sy_ai F 55).getD ((57 : Int32)).toNatClampNeg 0) := hd_rd (hs 1 _ rfl) rfl a55
  have t72 : sy_dv F' (.inr (.inl 72)) = .int (((sy_ai F 55).getD ((57 : Int32)).toNatClampNeg 0) + ((1 : Int32))) := hd_o (hs 2 _ rfl) t71 rfl rfl
  have t73 : sy_da F' (.inr (.inl 73)) = .inl (jm_upd (sy_ai F 55) ((57 : Int32)).toNatClampNeg (((sy_ai F 55).getD ((57 : Int32)).toNatClampNeg 0) + ((1 : Int32)))) := hd_up (hs 3 _ rfl) rfl t72 a55
  have hB' : iv_in F' iv_B4 := iv_in_eq hB (fun j hj => hF j (Nat.lt_of_lt_of_le hj (by decide +kernel)))
  refine ⟨List.forall_mem_cons.mpr ⟨hd_pb b11 (by first | exact h0 | exact h0), List.forall_mem_cons.mpr ⟨hd_p4 t70 b69 h1, fun _ h => absurd h List.not_mem_nil⟩⟩, ?_⟩
  refine k _ ?_ ?_
  · exact fun j hj hn => (hd_keep hB' (Nat.lt_of_lt_of_le hj (by decide +kernel)) (by simp; omega)).trans (hF j (Nat.lt_of_lt_of_le hj (by decide)))
  · exact hd_ga (a := .inr (.inl 73)) (by decide +kernel) t73
theorem yhg_50_p1 {Ls : Nat} {xs : Nat → Int32} {d : Nat} {Q : Option Value → jm_h → Prop} (hd : 1 ≤ d) (F : Nat → sy_d) (X1 X2 : List jm_c) (hB : iv_in F iv_B4)
    (h0 : 0 ≤ (sy_i F 11).toInt ∧ (sy_i F 11).toInt < 2)
    (h1 : (sy_i F 69).toInt < ((sy_ai F 31).getD (sy_i F 11).toNatClampNeg 0).toInt)
    (h2 : 0 ≤ (sy_i F 69).toInt ∧ (sy_i F 69).toInt < 7)
    (h3 : ((sy_ai F 56).getD (sy_i F 69).toNatClampNeg 0).toInt = 0)
    (k : ∀ F1 : Nat → sy_d, (∀ j, j < 69 → True → F1 j = F j) → F1 69 = .inl (.int (sy_i F 69)) → hd_W Ls xs d jm_M192 Q (77, sy_dL F1 [some (.inl (.ref 1000)), some (.inr (.inl 69))], sy_dS F1 [], sy_dh F1 X1 X2 (iv_H 4), 0, 0)) :
    hd_W Ls xs d jm_M192 Q (50, sy_dL F [some (.inl (.ref 1000)), some (.inr (.inl 69))], sy_dS F [], sy_dh F X1 X2 (iv_H 4), 0, 0) := by
  refine hd_run (s := 4) (nv := 70) (pc := 77) (L := [some (.inl (.ref 1000)), some (.inr (.inl 69))]) (S := []) (uh := hd_ov (iv_id 0 iv_B4) []) (ul := [.inl (.inr (.inl 69))]) (f := true) (sp := [74, 77]) (d0 := 0) (O := [false, true]) (T := [(30, [.inr (.inl 11)], [.inr (.inl 31)]), (30, [.inr (.inl 69)], [.inr (.inl 56)])]) (P := [(6, .inr (.inl 11), .inl (.ref 2)), (5, .inr (.inl 70), .inr (.inl 69)), (6, .inr (.inl 69), .inl (.ref 7)), (0, .inr (.inl 71), .inl (.int 0))]) jm_ok192 (by decide +kernel) (by decide +kernel) hd F X1 X2 (fun F' hF hs => ?_)
  have b11 := hd_b (F := F) (F' := F') (k := 11) (hF 11 (by decide))
  have a31 := hd_ba (F := F) (F' := F') (k := 31) (hF 31 (by decide))
  have t70 : sy_dv F' (.inr (.inl 70)) = .int ((sy_ai F 31).getD (sy_i F 11).toNatClampNeg 0) := hd_rd (hs 0 _ rfl) b11 a31
  have b69 := hd_b (F := F) (F' := F') (k := 69) (hF 69 (by decide))
  have a56 := hd_ba (F := F) (F' := F') (k := 56) (hF 56 (by decide))
  have t71 : sy_dv F' (.inr (.inl 71)) = .int ((sy_ai F 56).getD (sy_i F 69).toNatClampNeg 0) := hd_rd (hs 1 _ rfl) b69 a56
  have hB' : iv_in F' iv_B4 := iv_in_eq hB (fun j hj => hF j (Nat.lt_of_lt_of_le hj (by decide +kernel)))
  refine ⟨List.forall_mem_cons.mpr ⟨hd_pb b11 (by first | exact h0 | exact h0), List.forall_mem_cons.mpr ⟨hd_p5 t70 b69 h1, List.forall_mem_cons.mpr ⟨hd_pb b69 (by first | exact h2 | exact h2), List.forall_mem_cons.mpr ⟨hd_p0 t71 rfl (by have hc : ((0) : Int32).toInt = 0 := (by decide); omega), fun _ h => absurd h List.not_mem_nil⟩⟩⟩⟩, ?_⟩
  refine k _ ?_ ?_
  · exact fun j hj _ => (hd_keep hB' (Nat.lt_of_lt_of_le hj (by decide +kernel)) (by simp)).trans (hF j (Nat.lt_of_lt_of_le hj (by decide)))
  · exact hd_gi (x := .inr (.inl 69)) (by decide +kernel) b69
theorem yhg_50_p2 {Ls : Nat} {xs : Nat → Int32} {d : Nat} {Q : Option Value → jm_h → Prop} (hd : 1 ≤ d) (F : Nat → sy_d) (X1 X2 : List jm_c) (hB : iv_in F iv_B4)
    (h0 : 0 ≤ (sy_i F 11).toInt ∧ (sy_i F 11).toInt < 2)
    (h1 : (sy_i F 69).toInt < ((sy_ai F 31).getD (sy_i F 11).toNatClampNeg 0).toInt)
    (h2 : 0 ≤ (sy_i F 69).toInt ∧ (sy_i F 69).toInt < 7)
    (h3 : ((sy_ai F 56).getD (sy_i F 69).toNatClampNeg 0).toInt ≠ 0)
    (k : ∀ F1 : Nat → sy_d, (∀ j, j < 69 → True → F1 j = F j) → F1 69 = .inl (.int (sy_i F 69)) → hd_W Ls xs d jm_M192 Q (74, sy_dL F1 [some (.inl (.ref 1000)), some (.inr (.inl 69))], sy_dS F1 [.inr (.inl 69), .inl (.ref 1000)], sy_dh F1 X1 X2 (iv_H 4), 0, 0)) :
    hd_W Ls xs d jm_M192 Q (50, sy_dL F [some (.inl (.ref 1000)), some (.inr (.inl 69))], sy_dS F [], sy_dh F X1 X2 (iv_H 4), 0, 0) := by
  refine hd_run (s := 4) (nv := 70) (pc := 74) (L := [some (.inl (.ref 1000)), some (.inr (.inl 69))]) (S := [.inr (.inl 69), .inl (.ref 1000)]) (uh := hd_ov (iv_id 0 iv_B4) []) (ul := [.inl (.inr (.inl 69))]) (f := true) (sp := [74, 77]) (d0 := 0) (O := [false, false]) (T := [(30, [.inr (.inl 11)], [.inr (.inl 31)]), (30, [.inr (.inl 69)], [.inr (.inl 56)])]) (P := [(6, .inr (.inl 11), .inl (.ref 2)), (5, .inr (.inl 70), .inr (.inl 69)), (6, .inr (.inl 69), .inl (.ref 7)), (1, .inr (.inl 71), .inl (.int 0))]) jm_ok192 (by decide +kernel) (by decide +kernel) hd F X1 X2 (fun F' hF hs => ?_)
  have b11 := hd_b (F := F) (F' := F') (k := 11) (hF 11 (by decide))
  have a31 := hd_ba (F := F) (F' := F') (k := 31) (hF 31 (by decide))
  have t70 : sy_dv F' (.inr (.inl 70)) = .int ((sy_ai F 31).getD (sy_i F 11).toNatClampNeg 0) := hd_rd (hs 0 _ rfl) b11 a31
  have b69 := hd_b (F := F) (F' := F') (k := 69) (hF 69 (by decide))
  have a56 := hd_ba (F := F) (F' := F') (k := 56) (hF 56 (by decide))
  have t71 : sy_dv F' (.inr (.inl 71)) = .int ((sy_ai F 56).getD (sy_i F 69).toNatClampNeg 0) := hd_rd (hs 1 _ rfl) b69 a56
  have hB' : iv_in F' iv_B4 := iv_in_eq hB (fun j hj => hF j (Nat.lt_of_lt_of_le hj (by decide +kernel)))
  refine ⟨List.forall_mem_cons.mpr ⟨hd_pb b11 (by first | exact h0 | exact h0), List.forall_mem_cons.mpr ⟨hd_p5 t70 b69 h1, List.forall_mem_cons.mpr ⟨hd_pb b69 (by first | exact h2 | exact h2), List.forall_mem_cons.mpr ⟨hd_p1 t71 rfl (by have hc : ((0) : Int32).toInt = 0 := (by decide); omega), fun _ h => absurd h List.not_mem_nil⟩⟩⟩⟩, ?_⟩
  refine k _ ?_ ?_
  · exact fun j hj _ => (hd_keep hB' (Nat.lt_of_lt_of_le hj (by decide +kernel)) (by simp)).trans (hF j (Nat.lt_of_lt_of_le hj (by decide)))
  · exact hd_gi (x := .inr (.inl 69)) (by decide +kernel) b69
theorem yhg_50 {Ls : Nat} {xs : Nat → Int32} {d : Nat} {Q : Option Value → jm_h → Prop} (hd : 1 ≤ d) (F : Nat → sy_d) (X1 X2 : List jm_c) (hB : iv_in F iv_B4)
    (a69 : 0 ≤ (sy_i F 69).toInt ∧ (sy_i F 69).toInt ≤ 7)
    (k0 : ((sy_ai F 31).getD ((sy_i F 11).toInt).toNat 0).toInt ≤ (sy_i F 69).toInt → ∀ F1 : Nat → sy_d, iv_in F1 iv_B4 → (∀ j, j < 69 → j ∉ ([55] : List Nat) → F1 j = F j) → sy_ai F1 55 = jm_upd (sy_ai F 55) (57 : Int).toNat (((sy_ai F 55).getD (57 : Int).toNat 0) + ((1 : Int32))) → Q (none) (sy_dh F1 X1 X2 (iv_H 4)))
    (k1 : (sy_i F 69).toInt < ((sy_ai F 31).getD ((sy_i F 11).toInt).toNat 0).toInt → ((sy_ai F 56).getD ((sy_i F 69).toInt).toNat 0).toInt = 0 → ∀ F1 : Nat → sy_d, iv_in F1 iv_B4 → (∀ j, j < 69 → j ∉ ([] : List Nat) → F1 j = F j) → (sy_i F1 69).toInt = (sy_i F 69).toInt → sy_i F1 69 = sy_i F 69 → hd_W Ls xs d jm_M192 Q (77, sy_dL F1 [some (.inl (.ref 1000)), some (.inr (.inl 69))], sy_dS F1 [], sy_dh F1 X1 X2 (iv_H 4), 0, 0))
    (k2 : (sy_i F 69).toInt < ((sy_ai F 31).getD ((sy_i F 11).toInt).toNat 0).toInt → ((sy_ai F 56).getD ((sy_i F 69).toInt).toNat 0).toInt ≠ 0 → ∀ F1 : Nat → sy_d, iv_in F1 iv_B4 → (∀ j, j < 69 → j ∉ ([] : List Nat) → F1 j = F j) → (sy_i F1 69).toInt = (sy_i F 69).toInt → sy_i F1 69 = sy_i F 69 → hd_W Ls xs d jm_M192 Q (74, sy_dL F1 [some (.inl (.ref 1000)), some (.inr (.inl 69))], sy_dS F1 [.inr (.inl 69), .inl (.ref 1000)], sy_dh F1 X1 X2 (iv_H 4), 0, 0)) :
    hd_W Ls xs d jm_M192 Q (50, sy_dL F [some (.inl (.ref 1000)), some (.inr (.inl 69))], sy_dS F [], sy_dh F X1 X2 (iv_H 4), 0, 0) := by
  by_cases g0 : ((sy_ai F 31).getD ((sy_i F 11).toInt).toNat 0).toInt ≤ (sy_i F 69).toInt
  · have c11 := nz_bx hB (k := 11) (lo := 0) (hi := 1) rfl
    have q70 : (sy_ai F 31).getD (sy_i F 11).toNatClampNeg 0 = (sy_ai F 31).getD ((sy_i F 11).toInt).toNat 0 := by simp only [nz_c]
    have n70 : nzI ((sy_ai F 31).getD (sy_i F 11).toNatClampNeg 0) (((sy_ai F 31).getD ((sy_i F 11).toInt).toNat 0).toInt) := congrArg Int32.toInt q70
    have r70 := nz_ba hB (k := 31) (lo := 0) (hi := 7) rfl ((sy_i F 11).toInt).toNat
    have w73 : jm_upd (sy_ai F 55) ((57 : Int32)).toNatClampNeg (((sy_ai F 55).getD ((57 : Int32)).toNatClampNeg 0) + ((1 : Int32))) = jm_upd (sy_ai F 55) (57 : Int).toNat (((sy_ai F 55).getD (57 : Int).toNat 0) + ((1 : Int32))) := by simp only [nz_c, (by decide : ((1 : Int32)).toInt = 1), (by decide : ((57 : Int32)).toInt = 57)]
    exact yhg_50_p0 hd F X1 X2 hB (by first | exact ⟨by omega, by omega⟩ | (simp only [nz_c]; exact ⟨by omega, by omega⟩)) (by first | exact g0 | (simp only [nz_c]; exact g0) | (rw [(nzE n70)]; exact g0)) (fun F1 g e55 => k0 g0 F1 (nz_in hB [55] (fun j hj hn => g j hj (by simp only [List.mem_cons, List.not_mem_nil, or_false, not_or] at hn; omega)) (List.forall_mem_cons.mpr ⟨fun t ht => (Option.some.inj ht) ▸ (nz_hz2 e55), List.forall_mem_nil _⟩)) (fun j hj hn => g j hj (by simp only [List.mem_cons, List.not_mem_nil, or_false, not_or] at hn; omega)) ((zz_ai e55).trans w73))
  replace g0 : (sy_i F 69).toInt < ((sy_ai F 31).getD ((sy_i F 11).toInt).toNat 0).toInt := by omega
  by_cases g1 : ((sy_ai F 56).getD ((sy_i F 69).toInt).toNat 0).toInt = 0
  · have c11 := nz_bx hB (k := 11) (lo := 0) (hi := 1) rfl
    have q70 : (sy_ai F 31).getD (sy_i F 11).toNatClampNeg 0 = (sy_ai F 31).getD ((sy_i F 11).toInt).toNat 0 := by simp only [nz_c]
    have n70 : nzI ((sy_ai F 31).getD (sy_i F 11).toNatClampNeg 0) (((sy_ai F 31).getD ((sy_i F 11).toInt).toNat 0).toInt) := congrArg Int32.toInt q70
    have r70 := nz_ba hB (k := 31) (lo := 0) (hi := 7) rfl ((sy_i F 11).toInt).toNat
    have q71 : (sy_ai F 56).getD (sy_i F 69).toNatClampNeg 0 = (sy_ai F 56).getD ((sy_i F 69).toInt).toNat 0 := by simp only [nz_c]
    have n71 : nzI ((sy_ai F 56).getD (sy_i F 69).toNatClampNeg 0) (((sy_ai F 56).getD ((sy_i F 69).toInt).toNat 0).toInt) := congrArg Int32.toInt q71
    have r71 := nz_ba hB (k := 56) (lo := 0) (hi := 1) rfl ((sy_i F 69).toInt).toNat
    exact yhg_50_p1 hd F X1 X2 hB (by first | exact ⟨by omega, by omega⟩ | (simp only [nz_c]; exact ⟨by omega, by omega⟩)) (by first | exact g0 | (simp only [nz_c]; exact g0) | (rw [(nzE n70)]; exact g0)) (by first | exact ⟨by omega, by omega⟩ | (simp only [nz_c]; exact ⟨by omega, by omega⟩)) (by first | exact g1 | (simp only [nz_c]; exact g1) | (rw [(nzE n71)]; exact g1)) (fun F1 g e69 => k1 g0 g1 F1 (nz_in hB [] (fun j hj hn => g j hj (by simp only [List.mem_cons, List.not_mem_nil, or_false, not_or] at hn; exact trivial)) (List.forall_mem_nil _)) (fun j hj hn => g j hj (by simp only [List.mem_cons, List.not_mem_nil, or_false, not_or] at hn; exact trivial)) ((congrArg Int32.toInt (zz_i e69)).trans (rfl : (sy_i F 69).toInt = (sy_i F 69).toInt)) ((zz_i e69).trans (rfl : sy_i F 69 = sy_i F 69)))
  replace g1 : ((sy_ai F 56).getD ((sy_i F 69).toInt).toNat 0).toInt ≠ 0 := by omega
  have c11 := nz_bx hB (k := 11) (lo := 0) (hi := 1) rfl
  have q70 : (sy_ai F 31).getD (sy_i F 11).toNatClampNeg 0 = (sy_ai F 31).getD ((sy_i F 11).toInt).toNat 0 := by simp only [nz_c]
  have n70 : nzI ((sy_ai F 31).getD (sy_i F 11).toNatClampNeg 0) (((sy_ai F 31).getD ((sy_i F 11).toInt).toNat 0).toInt) := congrArg Int32.toInt q70
  have r70 := nz_ba hB (k := 31) (lo := 0) (hi := 7) rfl ((sy_i F 11).toInt).toNat
  have q71 : (sy_ai F 56).getD (sy_i F 69).toNatClampNeg 0 = (sy_ai F 56).getD ((sy_i F 69).toInt).toNat 0 := by simp only [nz_c]
  have n71 : nzI ((sy_ai F 56).getD (sy_i F 69).toNatClampNeg 0) (((sy_ai F 56).getD ((sy_i F 69).toInt).toNat 0).toInt) := congrArg Int32.toInt q71
  have r71 := nz_ba hB (k := 56) (lo := 0) (hi := 1) rfl ((sy_i F 69).toInt).toNat
  exact yhg_50_p2 hd F X1 X2 hB (by first | exact ⟨by omega, by omega⟩ | (simp only [nz_c]; exact ⟨by omega, by omega⟩)) (by first | exact g0 | (simp only [nz_c]; exact g0) | (rw [(nzE n70)]; exact g0)) (by first | exact ⟨by omega, by omega⟩ | (simp only [nz_c]; exact ⟨by omega, by omega⟩)) (by first | exact g1 | (simp only [nz_c]; exact g1) | (rw [(nzE n71)]; exact g1)) (fun F1 g e69 => k2 g0 g1 F1 (nz_in hB [] (fun j hj hn => g j hj (by simp only [List.mem_cons, List.not_mem_nil, or_false, not_or] at hn; exact trivial)) (List.forall_mem_nil _)) (fun j hj hn => g j hj (by simp only [List.mem_cons, List.not_mem_nil, or_false, not_or] at hn; exact trivial)) ((congrArg Int32.toInt (zz_i e69)).trans (rfl : (sy_i F 69).toInt = (sy_i F 69).toInt)) ((zz_i e69).trans (rfl : sy_i F 69 = sy_i F 69)))
theorem yhg_77_p0 {Ls : Nat} {xs : Nat → Int32} {d : Nat} {Q : Option Value → jm_h → Prop} (hd : 1 ≤ d) (F : Nat → sy_d) (X1 X2 : List jm_c) (hB : iv_in F iv_B4)
    (h0 : 0 ≤ (sy_i F 69).toInt ∧ (sy_i F 69).toInt < 7)
    (h1 : 0 ≤ (((7 : Int32)) + (sy_i F 69)).toInt ∧ (((7 : Int32)) + (sy_i F 69)).toInt < 61)
    (h2 : 0 ≤ (((42 : Int32)) + (sy_i F 69)).toInt ∧ (((42 : Int32)) + (sy_i F 69)).toInt < 61)
    (k : ∀ F1 : Nat → sy_d, (∀ j, j < 69 → j ≠ 55 → F1 j = F j) → F1 55 = .inr (.inl (jm_upd (jm_upd (sy_ai F 55) (((7 : Int32)) + (sy_i F 69)).toNatClampNeg ((sy_ai F 57).getD (sy_i F 69).toNatClampNeg 0)) (((42 : Int32)) + (sy_i F 69)).toNatClampNeg ((0 : Int32)))) → F1 69 = .inl (.int ((sy_i F 69) + ((1 : Int32)))) → hd_W Ls xs d jm_M192 Q (50, sy_dL F1 [some (.inl (.ref 1000)), some (.inr (.inl 69))], sy_dS F1 [], sy_dh F1 X1 X2 (iv_H 4), 0, 0)) :
    hd_W Ls xs d jm_M192 Q (77, sy_dL F [some (.inl (.ref 1000)), some (.inr (.inl 69))], sy_dS F [], sy_dh F X1 X2 (iv_H 4), 0, 0) := by
  refine hd_run (s := 4) (nv := 70) (pc := 50) (L := [some (.inl (.ref 1000)), some (.inr (.inl 69))]) (S := []) (uh := hd_ov (iv_id 0 iv_B4) [(55, .inr (.inr (.inl 74)))]) (ul := [.inl (.inr (.inl 75))]) (f := true) (sp := [50]) (d0 := 0) (O := []) (T := [(0, [.inl (.int 7), .inr (.inl 69)], []), (30, [.inr (.inl 69)], [.inr (.inl 57)]), (40, [.inr (.inl 70), .inr (.inl 71)], [.inr (.inl 55)]), (0, [.inl (.int 42), .inr (.inl 69)], []), (40, [.inr (.inl 73), .inl (.int 0)], [.inr (.inl 72)]), (0, [.inr (.inl 69), .inl (.int 1)], [])]) (P := [(6, .inr (.inl 69), .inl (.ref 7)), (6, .inr (.inl 70), .inl (.ref 61)), (6, .inr (.inl 73), .inl (.ref 61))]) jm_ok192 (by decide +kernel) (by decide +kernel) hd F X1 X2 (fun F' hF hs => ?_)
  have b69 := hd_b (F := F) (F' := F') (k := 69) (hF 69 (by decide))
  have t70 : sy_dv F' (.inr (.inl 70)) = .int (((7 : Int32)) + (sy_i F 69)) := hd_o (hs 0 _ rfl) rfl b69 rfl
  have t73 : sy_dv F' (.inr (.inl 73)) = .int (((42 : Int32)) + (sy_i F 69)) := hd_o (hs 3 _ rfl) rfl b69 rfl
  have a57 := hd_ba (F := F) (F' := F') (k := 57) (hF 57 (by decide))
  have t71 : sy_dv F' (.inr (.inl 71)) = .int ((sy_ai F 57).getD (sy_i F 69).toNatClampNeg 0) := hd_rd (hs 1 _ rfl) b69 a57
  have a55 := hd_ba (F := F) (F' := F') (k := 55) (hF 55 (by decide))
  have t72 : sy_da F' (.inr (.inl 72)) = .inl (jm_upd (sy_ai F 55) (((7 : Int32)) + (sy_i F 69)).toNatClampNeg ((sy_ai F 57).getD (sy_i F 69).toNatClampNeg 0)) := hd_up (hs 2 _ rfl) t70 t71 a55
  have t74 : sy_da F' (.inr (.inl 74)) = .inl (jm_upd (jm_upd (sy_ai F 55) (((7 : Int32)) + (sy_i F 69)).toNatClampNeg ((sy_ai F 57).getD (sy_i F 69).toNatClampNeg 0)) (((42 : Int32)) + (sy_i F 69)).toNatClampNeg ((0 : Int32))) := hd_up (hs 4 _ rfl) t73 rfl t72
  have t75 : sy_dv F' (.inr (.inl 75)) = .int ((sy_i F 69) + ((1 : Int32))) := hd_o (hs 5 _ rfl) b69 rfl rfl
  have hB' : iv_in F' iv_B4 := iv_in_eq hB (fun j hj => hF j (Nat.lt_of_lt_of_le hj (by decide +kernel)))
  refine ⟨List.forall_mem_cons.mpr ⟨hd_pb b69 (by first | exact h0 | exact h0), List.forall_mem_cons.mpr ⟨hd_pb t70 (by first | exact h1 | exact h1), List.forall_mem_cons.mpr ⟨hd_pb t73 (by first | exact h2 | exact h2), fun _ h => absurd h List.not_mem_nil⟩⟩⟩, ?_⟩
  refine k _ ?_ ?_ ?_
  · exact fun j hj hn => (hd_keep hB' (Nat.lt_of_lt_of_le hj (by decide +kernel)) (by simp; omega)).trans (hF j (Nat.lt_of_lt_of_le hj (by decide)))
  · exact hd_ga (a := .inr (.inl 74)) (by decide +kernel) t74
  · exact hd_gi (x := .inr (.inl 75)) (by decide +kernel) t75
theorem yhg_77 {Ls : Nat} {xs : Nat → Int32} {d : Nat} {Q : Option Value → jm_h → Prop} (hd : 1 ≤ d) (F : Nat → sy_d) (X1 X2 : List jm_c) (hB : iv_in F iv_B4)
    (a69 : 0 ≤ (sy_i F 69).toInt ∧ (sy_i F 69).toInt ≤ 6)
    (k0 : ∀ F1 : Nat → sy_d, iv_in F1 iv_B4 → (∀ j, j < 69 → j ∉ ([55] : List Nat) → F1 j = F j) → sy_ai F1 55 = jm_upd (jm_upd (sy_ai F 55) ((7 + (sy_i F 69).toInt)).toNat ((sy_ai F 57).getD ((sy_i F 69).toInt).toNat 0)) ((42 + (sy_i F 69).toInt)).toNat ((0 : Int32)) → (sy_i F1 69).toInt = ((sy_i F 69).toInt + 1) → sy_i F1 69 = (sy_i F 69) + ((1 : Int32)) → hd_W Ls xs d jm_M192 Q (50, sy_dL F1 [some (.inl (.ref 1000)), some (.inr (.inl 69))], sy_dS F1 [], sy_dh F1 X1 X2 (iv_H 4), 0, 0)) :
    hd_W Ls xs d jm_M192 Q (77, sy_dL F [some (.inl (.ref 1000)), some (.inr (.inl 69))], sy_dS F [], sy_dh F X1 X2 (iv_H 4), 0, 0) := by
  have n70 : nzI (((7 : Int32)) + (sy_i F 69)) ((7 + (sy_i F 69).toInt)) := nz_add (by decide : ((7 : Int32)).toInt = 7) (rfl : (sy_i F 69).toInt = (sy_i F 69).toInt) (by omega) (by omega)
  have n73 : nzI (((42 : Int32)) + (sy_i F 69)) ((42 + (sy_i F 69).toInt)) := nz_add (by decide : ((42 : Int32)).toInt = 42) (rfl : (sy_i F 69).toInt = (sy_i F 69).toInt) (by omega) (by omega)
  have w74 : jm_upd (jm_upd (sy_ai F 55) (((7 : Int32)) + (sy_i F 69)).toNatClampNeg ((sy_ai F 57).getD (sy_i F 69).toNatClampNeg 0)) (((42 : Int32)) + (sy_i F 69)).toNatClampNeg ((0 : Int32)) = jm_upd (jm_upd (sy_ai F 55) ((7 + (sy_i F 69).toInt)).toNat ((sy_ai F 57).getD ((sy_i F 69).toInt).toNat 0)) ((42 + (sy_i F 69).toInt)).toNat ((0 : Int32)) := by simp only [nz_c, (nzE n70), (nzE n73), (by decide : ((0 : Int32)).toInt = 0), (by decide : ((7 : Int32)).toInt = 7), (by decide : ((42 : Int32)).toInt = 42)]
  have n75 : nzI ((sy_i F 69) + ((1 : Int32))) (((sy_i F 69).toInt + 1)) := nz_add (rfl : (sy_i F 69).toInt = (sy_i F 69).toInt) (by decide : ((1 : Int32)).toInt = 1) (by omega) (by omega)
  exact yhg_77_p0 hd F X1 X2 hB (by first | exact ⟨by omega, by omega⟩ | (simp only [nz_c]; exact ⟨by omega, by omega⟩)) (by first | (simp only [nz_c, (nzE n70)]; exact ⟨by omega, by omega⟩) | exact ⟨by omega, by omega⟩ | (rw [(nzE n70)]; exact ⟨by omega, by omega⟩)) (by first | (simp only [nz_c, (nzE n73)]; exact ⟨by omega, by omega⟩) | exact ⟨by omega, by omega⟩ | (rw [(nzE n73)]; exact ⟨by omega, by omega⟩)) (fun F1 g e55 e69 => k0 F1 (nz_in hB [55] (fun j hj hn => g j hj (by simp only [List.mem_cons, List.not_mem_nil, or_false, not_or] at hn; omega)) (List.forall_mem_cons.mpr ⟨fun t ht => (Option.some.inj ht) ▸ (nz_hz2 e55), List.forall_mem_nil _⟩)) (fun j hj hn => g j hj (by simp only [List.mem_cons, List.not_mem_nil, or_false, not_or] at hn; omega)) ((zz_ai e55).trans w74) ((congrArg Int32.toInt (zz_i e69)).trans (nzE n75)) ((zz_i e69).trans (rfl : (sy_i F 69) + ((1 : Int32)) = (sy_i F 69) + ((1 : Int32)))))
theorem ygo_0_p0 {Ls : Nat} {xs : Nat → Int32} {d : Nat} {Q : Option Value → jm_h → Prop} (hd : 1 ≤ d) (F : Nat → sy_d) (X1 X2 : List jm_c) (hB : iv_in F iv_B4)
    (k : ∀ F1 : Nat → sy_d, (∀ j, j < 69 → True → F1 j = F j) → F1 69 = .inl (.int (sy_i F 69)) → F1 70 = .inl (.int ((0 : Int32))) → hd_W Ls xs d jm_M193 Q (2, sy_dL F1 [some (.inl (.ref 1000)), some (.inr (.inl 69)), some (.inr (.inl 70))], sy_dS F1 [], sy_dh F1 X1 X2 (iv_H 4), 0, 0)) :
    hd_W Ls xs d jm_M193 Q (0, sy_dL F [some (.inl (.ref 1000)), some (.inr (.inl 69)), none], sy_dS F [], sy_dh F X1 X2 (iv_H 4), 0, 0) := by
  refine hd_run (s := 4) (nv := 70) (pc := 2) (L := [some (.inl (.ref 1000)), some (.inr (.inl 69)), some (.inr (.inl 70))]) (S := []) (uh := hd_ov (iv_id 0 iv_B4) []) (ul := [.inl (.inr (.inl 69)), .inl (.inl (.int 0))]) (f := true) (sp := [2]) (d0 := 0) (O := []) (T := []) (P := []) jm_ok193 (by decide +kernel) (by decide +kernel) hd F X1 X2 (fun F' hF hs => ?_)
  have b69 := hd_b (F := F) (F' := F') (k := 69) (hF 69 (by decide))
  have hB' : iv_in F' iv_B4 := iv_in_eq hB (fun j hj => hF j (Nat.lt_of_lt_of_le hj (by decide +kernel)))
  refine ⟨fun _ h => absurd h List.not_mem_nil, ?_⟩
  refine k _ ?_ ?_ ?_
  · exact fun j hj _ => (hd_keep hB' (Nat.lt_of_lt_of_le hj (by decide +kernel)) (by simp)).trans (hF j (Nat.lt_of_lt_of_le hj (by decide)))
  · exact hd_gi (x := .inr (.inl 69)) (by decide +kernel) b69
  · exact hd_gi (x := .inl (.int 0)) (by decide +kernel) rfl
theorem ygo_0 {Ls : Nat} {xs : Nat → Int32} {d : Nat} {Q : Option Value → jm_h → Prop} (hd : 1 ≤ d) (F : Nat → sy_d) (X1 X2 : List jm_c) (hB : iv_in F iv_B4)
    (k0 : ∀ F1 : Nat → sy_d, iv_in F1 iv_B4 → (∀ j, j < 69 → j ∉ ([] : List Nat) → F1 j = F j) → (sy_i F1 69).toInt = (sy_i F 69).toInt → sy_i F1 69 = sy_i F 69 → (sy_i F1 70).toInt = 0 → sy_i F1 70 = (0 : Int32) → hd_W Ls xs d jm_M193 Q (2, sy_dL F1 [some (.inl (.ref 1000)), some (.inr (.inl 69)), some (.inr (.inl 70))], sy_dS F1 [], sy_dh F1 X1 X2 (iv_H 4), 0, 0)) :
    hd_W Ls xs d jm_M193 Q (0, sy_dL F [some (.inl (.ref 1000)), some (.inr (.inl 69)), none], sy_dS F [], sy_dh F X1 X2 (iv_H 4), 0, 0) := by
  exact ygo_0_p0 hd F X1 X2 hB  (fun F1 g e69 e70 => k0 F1 (nz_in hB [] (fun j hj hn => g j hj (by simp only [List.mem_cons, List.not_mem_nil, or_false, not_or] at hn; exact trivial)) (List.forall_mem_nil _)) (fun j hj hn => g j hj (by simp only [List.mem_cons, List.not_mem_nil, or_false, not_or] at hn; exact trivial)) ((congrArg Int32.toInt (zz_i e69)).trans (rfl : (sy_i F 69).toInt = (sy_i F 69).toInt)) ((zz_i e69).trans (rfl : sy_i F 69 = sy_i F 69)) ((congrArg Int32.toInt (zz_i e70)).trans (by decide : ((0 : Int32)).toInt = 0)) ((zz_i e70).trans (rfl : (0 : Int32) = (0 : Int32))))
theorem ygo_2_p0 {Ls : Nat} {xs : Nat → Int32} {d : Nat} {Q : Option Value → jm_h → Prop} (hd : 1 ≤ d) (F : Nat → sy_d) (X1 X2 : List jm_c) (hB : iv_in F iv_B4)
    (h0 : (sy_i F 69).toInt ≤ (sy_i F 70).toInt)
    (k : ∀ F1 : Nat → sy_d, (∀ j, j < 69 → True → F1 j = F j) → Q (none) (sy_dh F1 X1 X2 (iv_H 4))) :
    hd_W Ls xs d jm_M193 Q (2, sy_dL F [some (.inl (.ref 1000)), some (.inr (.inl 69)), some (.inr (.inl 70))], sy_dS F [], sy_dh F X1 X2 (iv_H 4), 0, 0) := by
  refine hd_ret (s := 4) (nv := 71) (v := none) (uh := hd_ov (iv_id 0 iv_B4) []) (f := true) (sp := [8]) (d0 := 0) (O := [true]) (T := []) (P := [(4, .inr (.inl 69), .inr (.inl 70))]) jm_ok193 (by decide +kernel) (by decide +kernel) hd F X1 X2 (fun F' hF hs => ?_)
  have b69 := hd_b (F := F) (F' := F') (k := 69) (hF 69 (by decide))
  have b70 := hd_b (F := F) (F' := F') (k := 70) (hF 70 (by decide))
  have hB' : iv_in F' iv_B4 := iv_in_eq hB (fun j hj => hF j (Nat.lt_of_lt_of_le hj (by decide +kernel)))
  refine ⟨List.forall_mem_cons.mpr ⟨hd_p4 b69 b70 h0, fun _ h => absurd h List.not_mem_nil⟩, ?_⟩
  refine k _ ?_
  · exact fun j hj _ => (hd_keep hB' (Nat.lt_of_lt_of_le hj (by decide +kernel)) (by simp)).trans (hF j (Nat.lt_of_lt_of_le hj (by decide)))
theorem ygo_2_p1 {Ls : Nat} {xs : Nat → Int32} {d : Nat} {Q : Option Value → jm_h → Prop} (hd : 1 ≤ d) (F : Nat → sy_d) (X1 X2 : List jm_c) (hB : iv_in F iv_B4)
    (h0 : (sy_i F 70).toInt < (sy_i F 69).toInt)
    (k : ∀ F1 : Nat → sy_d, (∀ j, j < 69 → True → F1 j = F j) → F1 69 = .inl (.int (sy_i F 69)) → F1 70 = .inl (.int (sy_i F 70)) → hd_W Ls xs d jm_M193 Q (8, sy_dL F1 [some (.inl (.ref 1000)), some (.inr (.inl 69)), some (.inr (.inl 70))], sy_dS F1 [.inl (.ref 1000)], sy_dh F1 X1 X2 (iv_H 4), 0, 0)) :
    hd_W Ls xs d jm_M193 Q (2, sy_dL F [some (.inl (.ref 1000)), some (.inr (.inl 69)), some (.inr (.inl 70))], sy_dS F [], sy_dh F X1 X2 (iv_H 4), 0, 0) := by
  refine hd_run (s := 4) (nv := 71) (pc := 8) (L := [some (.inl (.ref 1000)), some (.inr (.inl 69)), some (.inr (.inl 70))]) (S := [.inl (.ref 1000)]) (uh := hd_ov (iv_id 0 iv_B4) []) (ul := [.inl (.inr (.inl 69)), .inl (.inr (.inl 70))]) (f := true) (sp := [8]) (d0 := 0) (O := [false]) (T := []) (P := [(5, .inr (.inl 69), .inr (.inl 70))]) jm_ok193 (by decide +kernel) (by decide +kernel) hd F X1 X2 (fun F' hF hs => ?_)
  have b69 := hd_b (F := F) (F' := F') (k := 69) (hF 69 (by decide))
  have b70 := hd_b (F := F) (F' := F') (k := 70) (hF 70 (by decide))
  have hB' : iv_in F' iv_B4 := iv_in_eq hB (fun j hj => hF j (Nat.lt_of_lt_of_le hj (by decide +kernel)))
  refine ⟨List.forall_mem_cons.mpr ⟨hd_p5 b69 b70 h0, fun _ h => absurd h List.not_mem_nil⟩, ?_⟩
  refine k _ ?_ ?_ ?_
  · exact fun j hj _ => (hd_keep hB' (Nat.lt_of_lt_of_le hj (by decide +kernel)) (by simp)).trans (hF j (Nat.lt_of_lt_of_le hj (by decide)))
  · exact hd_gi (x := .inr (.inl 69)) (by decide +kernel) b69
  · exact hd_gi (x := .inr (.inl 70)) (by decide +kernel) b70
theorem ygo_2 {Ls : Nat} {xs : Nat → Int32} {d : Nat} {Q : Option Value → jm_h → Prop} (hd : 1 ≤ d) (F : Nat → sy_d) (X1 X2 : List jm_c) (hB : iv_in F iv_B4)
    (a69 : 0 ≤ (sy_i F 69).toInt ∧ (sy_i F 69).toInt ≤ 200)
    (a70 : 0 ≤ (sy_i F 70).toInt ∧ (sy_i F 70).toInt ≤ 200)
    (k0 : (sy_i F 69).toInt ≤ (sy_i F 70).toInt → ∀ F1 : Nat → sy_d, iv_in F1 iv_B4 → (∀ j, j < 69 → j ∉ ([] : List Nat) → F1 j = F j) → Q (none) (sy_dh F1 X1 X2 (iv_H 4)))
    (k1 : (sy_i F 70).toInt < (sy_i F 69).toInt → ∀ F1 : Nat → sy_d, iv_in F1 iv_B4 → (∀ j, j < 69 → j ∉ ([] : List Nat) → F1 j = F j) → (sy_i F1 69).toInt = (sy_i F 69).toInt → sy_i F1 69 = sy_i F 69 → (sy_i F1 70).toInt = (sy_i F 70).toInt → sy_i F1 70 = sy_i F 70 → hd_W Ls xs d jm_M193 Q (8, sy_dL F1 [some (.inl (.ref 1000)), some (.inr (.inl 69)), some (.inr (.inl 70))], sy_dS F1 [.inl (.ref 1000)], sy_dh F1 X1 X2 (iv_H 4), 0, 0)) :
    hd_W Ls xs d jm_M193 Q (2, sy_dL F [some (.inl (.ref 1000)), some (.inr (.inl 69)), some (.inr (.inl 70))], sy_dS F [], sy_dh F X1 X2 (iv_H 4), 0, 0) := by
  by_cases g0 : (sy_i F 69).toInt ≤ (sy_i F 70).toInt
  · exact ygo_2_p0 hd F X1 X2 hB (by first | exact g0 | (simp only [nz_c]; exact g0)) (fun F1 g  => k0 g0 F1 (nz_in hB [] (fun j hj hn => g j hj (by simp only [List.mem_cons, List.not_mem_nil, or_false, not_or] at hn; exact trivial)) (List.forall_mem_nil _)) (fun j hj hn => g j hj (by simp only [List.mem_cons, List.not_mem_nil, or_false, not_or] at hn; exact trivial)) )
  replace g0 : (sy_i F 70).toInt < (sy_i F 69).toInt := by omega
  exact ygo_2_p1 hd F X1 X2 hB (by first | exact g0 | (simp only [nz_c]; exact g0)) (fun F1 g e69 e70 => k1 g0 F1 (nz_in hB [] (fun j hj hn => g j hj (by simp only [List.mem_cons, List.not_mem_nil, or_false, not_or] at hn; exact trivial)) (List.forall_mem_nil _)) (fun j hj hn => g j hj (by simp only [List.mem_cons, List.not_mem_nil, or_false, not_or] at hn; exact trivial)) ((congrArg Int32.toInt (zz_i e69)).trans (rfl : (sy_i F 69).toInt = (sy_i F 69).toInt)) ((zz_i e69).trans (rfl : sy_i F 69 = sy_i F 69)) ((congrArg Int32.toInt (zz_i e70)).trans (rfl : (sy_i F 70).toInt = (sy_i F 70).toInt)) ((zz_i e70).trans (rfl : sy_i F 70 = sy_i F 70)))
theorem ygo_11_p0 {Ls : Nat} {xs : Nat → Int32} {d : Nat} {Q : Option Value → jm_h → Prop} (hd : 1 ≤ d) (F : Nat → sy_d) (X1 X2 : List jm_c) (hB : iv_in F iv_B4)
    (k : ∀ F1 : Nat → sy_d, (∀ j, j < 69 → True → F1 j = F j) → F1 69 = .inl (.int (sy_i F 69)) → F1 70 = .inl (.int ((sy_i F 70) + ((1 : Int32)))) → hd_W Ls xs d jm_M193 Q (2, sy_dL F1 [some (.inl (.ref 1000)), some (.inr (.inl 69)), some (.inr (.inl 70))], sy_dS F1 [], sy_dh F1 X1 X2 (iv_H 4), 0, 0)) :
    hd_W Ls xs d jm_M193 Q (11, sy_dL F [some (.inl (.ref 1000)), some (.inr (.inl 69)), some (.inr (.inl 70))], sy_dS F [], sy_dh F X1 X2 (iv_H 4), 0, 0) := by
  refine hd_run (s := 4) (nv := 71) (pc := 2) (L := [some (.inl (.ref 1000)), some (.inr (.inl 69)), some (.inr (.inl 70))]) (S := []) (uh := hd_ov (iv_id 0 iv_B4) []) (ul := [.inl (.inr (.inl 69)), .inl (.inr (.inl 71))]) (f := true) (sp := [2]) (d0 := 0) (O := []) (T := [(0, [.inr (.inl 70), .inl (.int 1)], [])]) (P := []) jm_ok193 (by decide +kernel) (by decide +kernel) hd F X1 X2 (fun F' hF hs => ?_)
  have b69 := hd_b (F := F) (F' := F') (k := 69) (hF 69 (by decide))
  have b70 := hd_b (F := F) (F' := F') (k := 70) (hF 70 (by decide))
  have t71 : sy_dv F' (.inr (.inl 71)) = .int ((sy_i F 70) + ((1 : Int32))) := hd_o (hs 0 _ rfl) b70 rfl rfl
  have hB' : iv_in F' iv_B4 := iv_in_eq hB (fun j hj => hF j (Nat.lt_of_lt_of_le hj (by decide +kernel)))
  refine ⟨fun _ h => absurd h List.not_mem_nil, ?_⟩
  refine k _ ?_ ?_ ?_
  · exact fun j hj _ => (hd_keep hB' (Nat.lt_of_lt_of_le hj (by decide +kernel)) (by simp)).trans (hF j (Nat.lt_of_lt_of_le hj (by decide)))
  · exact hd_gi (x := .inr (.inl 69)) (by decide +kernel) b69
  · exact hd_gi (x := .inr (.inl 71)) (by decide +kernel) t71
theorem ygo_11 {Ls : Nat} {xs : Nat → Int32} {d : Nat} {Q : Option Value → jm_h → Prop} (hd : 1 ≤ d) (F : Nat → sy_d) (X1 X2 : List jm_c) (hB : iv_in F iv_B4)
    (a70 : 0 ≤ (sy_i F 70).toInt ∧ (sy_i F 70).toInt ≤ 199)
    (k0 : ∀ F1 : Nat → sy_d, iv_in F1 iv_B4 → (∀ j, j < 69 → j ∉ ([] : List Nat) → F1 j = F j) → (sy_i F1 69).toInt = (sy_i F 69).toInt → sy_i F1 69 = sy_i F 69 → (sy_i F1 70).toInt = ((sy_i F 70).toInt + 1) → sy_i F1 70 = (sy_i F 70) + ((1 : Int32)) → hd_W Ls xs d jm_M193 Q (2, sy_dL F1 [some (.inl (.ref 1000)), some (.inr (.inl 69)), some (.inr (.inl 70))], sy_dS F1 [], sy_dh F1 X1 X2 (iv_H 4), 0, 0)) :
    hd_W Ls xs d jm_M193 Q (11, sy_dL F [some (.inl (.ref 1000)), some (.inr (.inl 69)), some (.inr (.inl 70))], sy_dS F [], sy_dh F X1 X2 (iv_H 4), 0, 0) := by
  have n71 : nzI ((sy_i F 70) + ((1 : Int32))) (((sy_i F 70).toInt + 1)) := nz_add (rfl : (sy_i F 70).toInt = (sy_i F 70).toInt) (by decide : ((1 : Int32)).toInt = 1) (by omega) (by omega)
  exact ygo_11_p0 hd F X1 X2 hB  (fun F1 g e69 e70 => k0 F1 (nz_in hB [] (fun j hj hn => g j hj (by simp only [List.mem_cons, List.not_mem_nil, or_false, not_or] at hn; exact trivial)) (List.forall_mem_nil _)) (fun j hj hn => g j hj (by simp only [List.mem_cons, List.not_mem_nil, or_false, not_or] at hn; exact trivial)) ((congrArg Int32.toInt (zz_i e69)).trans (rfl : (sy_i F 69).toInt = (sy_i F 69).toInt)) ((zz_i e69).trans (rfl : sy_i F 69 = sy_i F 69)) ((congrArg Int32.toInt (zz_i e70)).trans (nzE n71)) ((zz_i e70).trans (rfl : (sy_i F 70) + ((1 : Int32)) = (sy_i F 70) + ((1 : Int32)))))
end
section
/-! ===== the reference: what lies, what falls ===== -/
section RH
variable {Ls : Nat} {xs : Nat → Int32} {T : tX} {g : gS} (F : Nat → sy_d) (X1 X2 : List jm_c)
theorem li_L (hC : cR T F) (hG : gRow T F g) {f : Nat} (hf : f < nfS T) {c : Int32} (hc : (sy_ai F 58).getD f 0 = c) : ∀ (m : Nat) (F1 : Nat → sy_d) (n : Nat), n + m = nbS T → qR [] F F1 → (sy_i F1 69).toInt = f → (sy_i F1 70).toInt = n → fsS g (g 0 f) c.toInt n = -2 →
    hd_W Ls xs 2 jm_M190 (pV 4 X1 X2 (fun F' => qR [19, 55] F F' ∧ gRow T F' (lieS T g f c) ∧ (0 ≤ fsS g (g 0 f) c.toInt (nbS T) → (sy_i F' 19).toInt = 1) ∧ (fsS g (g 0 f) c.toInt (nbS T) < 0 → F' 19 = F 19))) (2, sy_dL F1 [some (.inl (.ref 1000)), some (.inr (.inl 69)), some (.inr (.inl 70))], sy_dS F1 [], sy_dh F1 X1 X2 (iv_H 4), 0, 0) := by
  have l4 : nbS T ≤ 4 := hC.2.2.1.2.1
  have l7 : nfS T ≤ 7 := hC.2.2.1.1
  have en : ((sy_ai F 35).getD (sy_i F 11).toInt.toNat 0).toInt = (nbS T : Int) := (rX_n hC.2.1).2.1
  have ek : ((sy_ai F 40).getD (sy_i F 11).toInt.toNat 0).toInt = T.2.2.2.1 := (rX_n hC.2.1).2.2.2.1
  intro m
  induction m with
  | zero =>
    intro F1 n hm hq e69 e70 hfs
    have e11 := qq_i hq (j := 11) (by decide) (by decide)
    have e35 : ((sy_ai F1 35).getD (sy_i F1 11).toInt.toNat 0).toInt = (nbS T : Int) := by rw [qq_a hq (by decide) (by decide), e11]; exact en
    have e40 : ((sy_ai F1 40).getD (sy_i F1 11).toInt.toNat 0).toInt = T.2.2.2.1 := by rw [qq_a hq (by decide) (by decide), e11]; exact ek
    have n28 : (28 + (sy_i F1 69).toInt).toNat = ra 4 + f := by show _ = 28 + f; omega
    have n14 : (14 + (sy_i F1 69).toInt).toNat = ra 2 + f := by show _ = 14 + f; omega
    have r28 : (sy_ai F1 55).getD (ra 4 + f) 0 = g 4 f := by
      rw [qq_a hq (by decide) (by decide)]
      exact hG 4 f (vF (by decide) hf)
    have g1 : gRow T F1 g := gRow_e hG (qq_a hq (by decide) (by decide))
    have hnb : n = nbS T := by omega
    rw [hnb] at hfs
    have hl : lieS T g f c = if T.2.2.2.1 < (g 4 f + 1).toInt then upS (upS g 4 f (g 4 f + 1)) 2 f 3 else upS g 4 f (g 4 f + 1) := by
      unfold lieS
      rw [if_neg (by omega)]
    refine yli_2 (by decide) F1 X1 X2 hq.1 (by omega) (by omega) ?_ ?_ ?_ ?_ ?_
    · intro c0 c1 F2 hb gg a55
      rw [n28, jm_upd_at, if_pos rfl, r28, e40] at c1
      rw [n28, r28] at a55
      refine ⟨F2, rfl, rfl, qq_on (qq_up hq (by decide)) hb gg (by decide), ?_, fun z => (by omega), fun _ => (gg 19 (by decide) (by decide)).trans (hq.2 19 (by decide) (by decide))⟩
      rw [hl, if_neg (by omega)]
      unfold gRow
      rw [a55]
      exact gL_up l7 l4 g1 (vF (by decide) hf) rfl
    · intro c0 c1 F2 hb gg a55
      rw [n28, jm_upd_at, if_pos rfl, r28, e40] at c1
      rw [n28, n14, r28] at a55
      refine ⟨F2, rfl, rfl, qq_on (qq_up hq (by decide)) hb gg (by decide), ?_, fun z => (by omega), fun _ => (gg 19 (by decide) (by decide)).trans (hq.2 19 (by decide) (by decide))⟩
      rw [hl, if_pos (by omega)]
      unfold gRow
      rw [a55]
      exact gL_up l7 l4 (gL_up l7 l4 g1 (vF (by decide) hf) rfl) (vF (by decide) hf) rfl
    iterate 3
      intros
      omega
  | succ m ih =>
    intro F1 n hm hq e69 e70 hfs
    have e11 := qq_i hq (j := 11) (by decide) (by decide)
    have e35 : ((sy_ai F1 35).getD (sy_i F1 11).toInt.toNat 0).toInt = (nbS T : Int) := by rw [qq_a hq (by decide) (by decide), e11]; exact en
    have row : ∀ a i : Nat, vlS (nfS T) (nbS T) a i → (sy_ai F1 55).getD (ra a + i) 0 = g a i := fun a i h => by
      rw [qq_a hq (by decide) (by decide)]
      exact hG a i h
    have r49 : (sy_ai F1 55).getD (49 + (sy_i F1 70).toInt).toNat 0 = g 7 n := by
      rw [show (49 + (sy_i F1 70).toInt).toNat = ra 7 + n by show _ = 49 + n; omega]
      exact row 7 n (vB (Or.inl rfl) (by omega))
    have n53 : (53 + (sy_i F1 70).toInt).toNat = ra 8 + n := by show _ = 53 + n; omega
    have r53 : (sy_ai F1 55).getD (ra 8 + n) 0 = g 8 n := row 8 n (vB (Or.inr rfl) (by omega))
    have r0 : (sy_ai F1 55).getD (sy_i F1 69).toInt.toNat 0 = g 0 f := by
      rw [show (sy_i F1 69).toInt.toNat = ra 0 + f by show _ = 0 + f; omega]
      exact row 0 f (vF (by decide) hf)
    have r58 : (sy_ai F1 58).getD (sy_i F1 69).toInt.toNat 0 = c := by
      rw [qq_a hq (by decide) (by decide), show (sy_i F1 69).toInt.toNat = f by omega]
      exact hc
    have g1 : gRow T F1 g := gRow_e hG (qq_a hq (by decide) (by decide))
    have n14 : (14 + (sy_i F1 69).toInt).toNat = ra 2 + f := by show _ = 14 + f; omega
    have n21 : (21 + (sy_i F1 69).toInt).toNat = ra 3 + f := by show _ = 21 + f; omega
    have hst : fsS g (g 0 f) c.toInt (n + 1) = if (g 7 n) = g 0 f ∧ c.toInt ≤ (g 8 n).toInt then (n : Int) else -2 := by
      show (if 0 ≤ fsS g (g 0 f) c.toInt n then _ else _) = _
      rw [if_neg (by omega)]
    refine yli_2 (by decide) F1 X1 X2 hq.1 (by omega) (by omega) ?_ ?_ ?_ ?_ ?_
    · intros
      omega
    · intros
      omega
    · intro c0 c1 F2 hb gg f69 i69 f70 i70
      rw [r49, r0] at c1
      refine ih F2 (n + 1) (by omega) (qq_on hq hb gg (by decide)) (by omega) (by omega) ?_
      rw [hst, if_neg (fun z => c1 (congrArg Int32.toInt z.1))]
    · intro c0 c1 c2 F2 hb gg e19 i19 a55
      rw [r49, r0] at c1
      rw [r58, n53, r53] at c2
      have hs1 : fsS g (g 0 f) c.toInt (n + 1) = n := by rw [hst, if_pos ⟨Int32.toInt_inj.mp c1, c2⟩]
      have hsn : fsS g (g 0 f) c.toInt (nbS T) = n := by
        have := fs_st (g := g) (x := g 0 f) (c := c.toInt) (n := n + 1) (by omega) m
        rw [show n + 1 + m = nbS T by omega] at this
        omega
      refine ⟨F2, rfl, rfl, qq_on (qq_up hq (by decide)) hb gg (by decide), ?_, fun _ => e19, fun z => (by omega)⟩
      unfold lieS
      rw [hsn, if_pos (by omega)]
      unfold sellS gRow
      rw [n14, n21, n53, jm_upd_at, if_neg (by show ¬ 53 + n = 21 + f; omega), jm_upd_at, if_neg (by show ¬ 53 + n = 14 + f; omega), r53, r58, ← ofi e70] at a55
      rw [a55, Int.toNat_natCast]
      exact gL_up l7 l4 (gL_up l7 l4 (gL_up l7 l4 g1 (vF (by decide) hf) rfl) (vF (by decide) hf) rfl) (vB (Or.inr rfl) (by omega)) rfl
    · intro c0 c1 c2 F2 hb gg f69 i69 f70 i70
      rw [r58, n53, r53] at c2
      refine ih F2 (n + 1) (by omega) (qq_on hq hb gg (by decide)) (by omega) (by omega) ?_
      rw [hst, if_neg (fun z => by omega)]
theorem li_V (hC : cR T F) (hG : gRow T F g) {f : Int32} (hf : 0 ≤ f.toInt ∧ f.toInt < nfS T) {c : Int32} (hc : (sy_ai F 58).getD f.toInt.toNat 0 = c) : jm_T Ls xs 2 jm_M190 [.ref 1000, .int f] (sy_dh F X1 X2 (iv_H 4)) 0 0 (pV 4 X1 X2 (fun F' => qR [19, 55] F F' ∧ gRow T F' (lieS T g f.toInt.toNat c) ∧ (0 ≤ fsS g (g 0 f.toInt.toNat) c.toInt (nbS T) → (sy_i F' 19).toInt = 1) ∧ (fsS g (g 0 f.toInt.toNat) c.toInt (nbS T) < 0 → F' 19 = F 19))) := by
  have l7 : nfS T ≤ 7 := hC.2.2.1.1
  refine R_T [f] [.inl (.ref 1000), .inr (.inl 69)] jm_ok190 (by decide) rfl (fun F0 k0 ki => ?_)
  have i69 : sy_i F0 69 = f := ki 0
  refine yli_0 (by decide) F0 X1 X2 (hd_iveq hC.1 k0) ?_
  intro F1 hb gg e69 j69 e70 j70
  rw [i69] at e69
  exact li_L F X1 X2 hC hG (by omega) hc (nbS T) F1 0 (by omega) (qq_src (qq_mk hb gg (by decide)) k0) (by omega) e70 rfl
theorem ca_V (hC : cR T F) (hG : gRow T F g) (hO : okS T g) {f c : Int32} (hf : 0 ≤ f.toInt ∧ f.toInt < nfS T) : jm_T Ls xs 2 jm_M187 [.ref 1000, .int f, .int c] (sy_dh F X1 X2 (iv_H 4)) 0 0 (pI 4 X1 X2 (fun y F' => qR [] F F' ∧ y.toInt = (nrS T g (tF T f.toInt.toNat).1 c.toInt (nbS T)).1)) := by
  have l7 : nfS T ≤ 7 := hC.2.2.1.1
  have hn : f.toInt.toNat < T.1.length := by show _ < nfS T; omega
  have c11 := nz_bx hC.1 (k := 11) (lo := 0) (hi := 1) rfl
  refine R_T [f, c] [.inl (.ref 1000), .inr (.inl 69), .inr (.inl 70)] jm_ok187 (by decide) rfl (fun F0 k0 ki => ?_)
  have i69 : sy_i F0 69 = f := ki 0
  have i70 : sy_i F0 70 = c := ki 1
  refine yca_0 (by decide) F0 X1 X2 (hd_iveq hC.1 k0) (by rw [i69]; omega) ?_
  intro F1 hb gg e69 j69 e70 j70 e71 j71 e72 j72
  have hx := hC.2.2.2.1 (tF T f.toInt.toNat) (by unfold tF; rw [List.getD_eq_getElem?_getD, List.getElem?_eq_getElem hn]; exact List.getElem_mem _)
  have e70 : (sy_i F1 70).toInt = (tF T f.toInt.toNat).1 := by
    rw [e70, i69, nz_fi (k0 11 (by decide)), nz_fa (k0 32 (by decide)), show (7 * (sy_i F 11).toInt + f.toInt).toNat = 7 * (sy_i F 11).toInt.toNat + f.toInt.toNat by omega]
    exact (rX_f hC.2.1 hn).1
  exact ca_L F X1 X2 hC hG hO hx.1 (nbS T) F1 0 (by omega) (qq_src (qq_mk hb gg (by decide)) k0) (by rw [e69, i70]) e70 e72 e71
theorem fa_V (hC : cR T F) (hG : gRow T F g) (hO : okS T g) {f : Int32} (hf : 0 ≤ f.toInt ∧ f.toInt < nfS T) (hx : g 0 f.toInt.toNat = Int32.ofInt (tF T f.toInt.toNat).1) {c bn : Int32} (hc : (sy_ai F 58).getD f.toInt.toNat 0 = c) (hbn : (sy_ai F 59).getD f.toInt.toNat 0 = bn) : jm_T Ls xs 3 jm_M191 [.ref 1000, .int f] (sy_dh F X1 X2 (iv_H 4)) 0 0 (pV 4 X1 X2 (fun F' => qR [19, 55] F F' ∧ gRow T F' (fallS T g f.toInt.toNat c bn.toInt) ∧ (0 ≤ (nrS T g (tF T f.toInt.toNat).1 c.toInt (nbS T)).1 → (sy_i F' 19).toInt = 1) ∧ ((nrS T g (tF T f.toInt.toNat).1 c.toInt (nbS T)).1 < 0 → F' 19 = F 19))) := by
  have l4 : nbS T ≤ 4 := hC.2.2.1.2.1
  have l7 : nfS T ≤ 7 := hC.2.2.1.1
  refine R_T [f] [.inl (.ref 1000), .inr (.inl 69)] jm_ok191 (by decide) rfl (fun F0 k0 ki => ?_)
  have i69 : sy_i F0 69 = f := ki 0
  refine yfa_0 (by decide) F0 X1 X2 (hd_iveq hC.1 k0) (by rw [i69]; omega) ?_
  intro F1 hb gg e69 j69 e70 j70
  have q1 : qR [] F F1 := qq_src (qq_mk hb gg (by decide)) k0
  have j70 : sy_i F1 70 = c := by rw [j70, i69, nz_fa (k0 58 (by decide))]; exact hc
  rw [i69] at j69
  refine hd_calI (R := fun y F' => qR [] F1 F' ∧ y.toInt = (nrS T g (tF T (sy_i F1 69).toInt.toNat).1 (sy_i F1 70).toInt (nbS T)).1) (nh := 69) (nv := 70) (s := 4) (s1 := 4) (d1 := 2) (M1 := jm_M187) (As := [.inl (.ref 1000), .inr (.inl 69), .inr (.inl 70)]) (rest := []) jm_ok191 rfl rfl (by decide) (by decide +kernel) (ca_V F1 X1 X2 (cR_q hC q1 (by decide)) (gRow_e hG (qq_a q1 (by decide) (by decide))) hO (by rw [j69]; exact hf)) (fun F3 F' y hR p1 p2 p3 => ?_)
  obtain ⟨r1, r2⟩ := hR
  rw [j69, j70] at r2
  have q3 : qR [] F F3 := qq_trans q1 (qR_dst r1 p1)
  have k69 : sy_i F3 69 = f := (eI (p2 69 (by decide) (by decide))).trans j69
  have k70 : (sy_i F3 70).toInt = (nrS T g (tF T f.toInt.toNat).1 c.toInt (nbS T)).1 := by rw [zz_i p3]; exact r2
  have hnr := nr_in T g (tF T f.toInt.toNat).1 c.toInt (nbS T)
  have hn1 : (nrS T g (tF T f.toInt.toNat).1 c.toInt (nbS T)).1 = -2 ∨ (0 ≤ (nrS T g (tF T f.toInt.toNat).1 c.toInt (nbS T)).1 ∧ (nrS T g (tF T f.toInt.toNat).1 c.toInt (nbS T)).1 < nbS T) := by
    rcases hnr with h | h
    · left
      rw [h]
    · exact Or.inr ⟨h.1, h.2.1⟩
  have f69 : (sy_i F3 69).toInt = f.toInt := congrArg Int32.toInt k69
  have n14 : (14 + (sy_i F3 69).toInt).toNat = ra 2 + f.toInt.toNat := by show _ = 14 + f.toInt.toNat; omega
  have n21 : (21 + (sy_i F3 69).toInt).toNat = ra 3 + f.toInt.toNat := by show _ = 21 + f.toInt.toNat; omega
  have n0 : (sy_i F3 69).toInt.toNat = ra 0 + f.toInt.toNat := by show _ = 0 + f.toInt.toNat; omega
  have g3 : gRow T F3 g := gRow_e hG (qq_a q3 (by decide) (by decide))
  have hf' : f.toInt.toNat < nfS T := by omega
  have r58 : (sy_ai F3 58).getD (sy_i F3 69).toInt.toNat 0 = c := by rw [qq_a q3 (by decide) (by decide), f69]; exact hc
  have r59 : (sy_ai F3 59).getD (sy_i F3 69).toInt.toNat 0 = bn := by rw [qq_a q3 (by decide) (by decide), f69]; exact hbn
  have r0 : (jm_upd (sy_ai F3 55) (14 + (sy_i F3 69).toInt).toNat 1).getD (sy_i F3 69).toInt.toNat 0 = Int32.ofInt (tF T f.toInt.toNat).1 := by
    rw [jm_upd_at, if_neg (by omega), n0]
    exact (g3 0 _ (vF (by decide) hf')).trans hx
  have low : (nrS T g (tF T f.toInt.toNat).1 c.toInt (nbS T)).1 < 0 → fallS T g f.toInt.toNat c bn.toInt = upS (upS g 2 f.toInt.toNat 1) 0 f.toInt.toNat (Int32.ofInt (hdz 0 9 (Int32.ofInt (tF T f.toInt.toNat).1 + bn).toInt)) := fun z => by
    unfold fallS
    rw [if_neg (by omega), Int32.ofInt_toInt]
  refine yfa_11 (by decide) F3 X1 X2 q3.1 (by omega) (by omega) ?_ ?_ ?_ ?_
  · intro c0 c1 c2 F4 hb4 g4 a55
    rw [r0, r59] at c1 c2 a55
    refine ⟨F4, rfl, rfl, qq_on (qq_up q3 (by decide)) hb4 g4 (by decide), ?_, fun z => (by omega), fun _ => (g4 19 (by decide) (by decide)).trans (q3.2 19 (by decide) (by decide))⟩
    rw [low (by omega)]
    have hz : hdz 0 9 (Int32.ofInt (tF T f.toInt.toNat).1 + bn).toInt = (Int32.ofInt (tF T f.toInt.toNat).1 + bn).toInt := by
      unfold hdz
      rw [if_neg (by omega), if_neg (by omega)]
    rw [hz, Int32.ofInt_toInt]
    unfold gRow
    rw [a55, n14, n0]
    exact gL_up l7 l4 (gL_up l7 l4 g3 (vF (by decide) hf') rfl) (vF (by decide) hf') rfl
  · intro c0 c1 c2 F4 hb4 g4 a55
    rw [r0, r59] at c1 c2
    refine ⟨F4, rfl, rfl, qq_on (qq_up q3 (by decide)) hb4 g4 (by decide), ?_, fun z => (by omega), fun _ => (g4 19 (by decide) (by decide)).trans (q3.2 19 (by decide) (by decide))⟩
    rw [low (by omega)]
    have hz : hdz 0 9 (Int32.ofInt (tF T f.toInt.toNat).1 + bn).toInt = 9 := by
      unfold hdz
      rw [if_neg (by omega), if_pos (by omega)]
    rw [hz]
    unfold gRow
    rw [a55, n14, n0]
    exact gL_up l7 l4 (gL_up l7 l4 g3 (vF (by decide) hf') rfl) (vF (by decide) hf') rfl
  · intro c0 c1 F4 hb4 g4 a55
    rw [r0, r59] at c1
    refine ⟨F4, rfl, rfl, qq_on (qq_up q3 (by decide)) hb4 g4 (by decide), ?_, fun z => (by omega), fun _ => (g4 19 (by decide) (by decide)).trans (q3.2 19 (by decide) (by decide))⟩
    rw [low (by omega)]
    have hz : hdz 0 9 (Int32.ofInt (tF T f.toInt.toNat).1 + bn).toInt = 0 := by
      unfold hdz
      rw [if_pos (by omega)]
    rw [hz]
    unfold gRow
    rw [a55, n14, n0]
    exact gL_up l7 l4 (gL_up l7 l4 g3 (vF (by decide) hf') rfl) (vF (by decide) hf') rfl
  · intro c0 F4 hb4 g4 e19 i19 a55
    refine ⟨F4, rfl, rfl, qq_on (qq_up q3 (by decide)) hb4 g4 (by decide), ?_, fun _ => e19, fun z => (by omega)⟩
    obtain ⟨b, hb'⟩ : ∃ b : Nat, (nrS T g (tF T f.toInt.toNat).1 c.toInt (nbS T)).1 = b := ⟨(nrS T g (tF T f.toInt.toNat).1 c.toInt (nbS T)).1.toNat, by omega⟩
    have n53 : (53 + (sy_i F3 70).toInt).toNat = ra 8 + b := by show _ = 53 + b; omega
    have r53 : (sy_ai F3 55).getD (ra 8 + b) 0 = g 8 b := g3 8 b (vB (Or.inr rfl) (by omega))
    unfold fallS
    rw [hb', if_pos (by omega)]
    unfold sellS gRow
    rw [n14, n21, n53, jm_upd_at, if_neg (by show ¬ 53 + b = 21 + f.toInt.toNat; omega), jm_upd_at, if_neg (by show ¬ 53 + b = 14 + f.toInt.toNat; omega), r53, r58, ← ofi (k70.trans hb')] at a55
    rw [a55, Int.toNat_natCast]
    exact gL_up l7 l4 (gL_up l7 l4 (gL_up l7 l4 g3 (vF (by decide) hf') rfl) (vF (by decide) hf') rfl) (vB (Or.inr rfl) (by omega)) rfl
end RH
end
section
/-! ===== the reference looks at an hour ===== -/
noncomputable def lkS (T : tX) (sd : Int32) (g : gS) (F : Nat → sy_d) (j : Nat) : Prop := ((sy_ai F 56).getD j 0 = if (g 2 j).toInt = 0 ∧ (lotS sd ((16 : Int32) * g 9 0 + Int32.ofInt j)).toInt < flS T g j then 1 else 0) ∧ ((sy_ai F 57).getD j 0 = if (g 2 j).toInt = 0 ∧ ¬ (lotS sd ((16 : Int32) * g 9 0 + Int32.ofInt j)).toInt < flS T g j then Int32.ofInt (hdz 0 99 (g 1 j + Int32.ofInt (rpS T g j)).toInt) else g 1 j) ∧ ((g 2 j).toInt ≤ 1 → (sy_ai F 58).getD j 0 = Int32.ofInt (woS T g j)) ∧ ((g 2 j).toInt = 0 → (sy_ai F 59).getD j 0 = Int32.ofInt (bnS T g j))
theorem lk_eq {T : tX} {sd : Int32} {g : gS} {F F1 : Nat → sy_d} {j : Nat} (h : lkS T sd g F j) (e : (sy_ai F1 56).getD j 0 = (sy_ai F 56).getD j 0 ∧ (sy_ai F1 57).getD j 0 = (sy_ai F 57).getD j 0 ∧ (sy_ai F1 58).getD j 0 = (sy_ai F 58).getD j 0 ∧ (sy_ai F1 59).getD j 0 = (sy_ai F 59).getD j 0) : lkS T sd g F1 j := by
  unfold lkS at h ⊢
  rw [e.1, e.2.1, e.2.2.1, e.2.2.2]
  exact h
abbrev W7 : List Nat := [17, 52, 53, 56, 57, 58, 59]
noncomputable def loI (T : tX) (sd : Int32) (g : gS) (F : Nat → sy_d) (n : Nat) (F1 : Nat → sy_d) : Prop := qR W7 F F1 ∧ sy_i F1 69 = lfS T g ∧ sy_i F1 70 = g 9 0 ∧ sy_i F1 71 = Int32.ofInt (wiS T g) ∧ (sy_i F1 72).toInt = n ∧ ∀ j, j < n → lkS T sd g F1 j
section LO
variable {Ls : Nat} {xs : Nat → Int32} {T : tX} {g : gS} {sd : Int32} (F : Nat → sy_d) (X1 X2 : List jm_c)
theorem up_ne {l : List Int32} {n j : Nat} {x : Int32} (h : j ≠ n) : (jm_upd l n x).getD j 0 = l.getD j 0 := by rw [jm_upd_at, if_neg h]
theorem up_eq {l : List Int32} {n j : Nat} {x : Int32} (h : j = n) : (jm_upd l n x).getD j 0 = x := by rw [jm_upd_at, if_pos h]
theorem lo_row (hG : gRow T F g) {F1 : Nat → sy_d} {W : List Nat} (hq : qR W F F1) (h55 : 55 ∉ W) {a i : Nat} (h : vlS (nfS T) (nbS T) a i) : (sy_ai F1 55).getD (ra a + i) 0 = g a i := by
  rw [qq_a hq (by decide) h55]
  exact hG a i h
theorem lo_292 (hC : cR T F) (hG : gRow T F g) {n : Nat} {Q : Option Value → jm_h → Prop} (hn : n < nfS T) (F1 : Nat → sy_d) (hI : loI T sd g F n F1) (h0 : (g 2 n).toInt = 0) (hl : ¬ (lotS sd ((16 : Int32) * g 9 0 + Int32.ofInt n)).toInt < flS T g n) (c56 : (sy_ai F1 56).getD n 0 = 0) (c58 : (sy_ai F1 58).getD n 0 = Int32.ofInt (woS T g n)) (c59 : (sy_ai F1 59).getD n 0 = Int32.ofInt (bnS T g n)) (i73 : sy_i F1 73 = g 1 n) (i74 : sy_i F1 74 = Int32.ofInt (rpS T g n))
    (K : ∀ F2 : Nat → sy_d, loI T sd g F (n + 1) F2 → hd_W Ls xs 6 jm_M189 Q (27, sy_dL F2 [some (.inl (.ref 1000)), some (.inr (.inl 69)), some (.inr (.inl 70)), some (.inr (.inl 71)), some (.inr (.inl 72))], sy_dS F2 [], sy_dh F2 X1 X2 (iv_H 4), 0, 0)) :
    hd_W Ls xs 6 jm_M189 Q (292, sy_dL F1 [some (.inl (.ref 1000)), some (.inr (.inl 69)), some (.inr (.inl 70)), some (.inr (.inl 71)), some (.inr (.inl 72))], sy_dS F1 [.inr (.inl 74), .inr (.inl 73), .inr (.inl 72), .inl (.ref 1035)], sy_dh F1 X1 X2 (iv_H 4), 0, 0) := by
  have l7 : nfS T ≤ 7 := hC.2.2.1.1
  obtain ⟨hq, j69, j70, j71, e72, hj⟩ := hI
  have on : ∀ (v : Int32) (F2 : Nat → sy_d), iv_in F2 iv_B4 → (∀ j, j < 69 → j ∉ ([57] : List Nat) → F2 j = F1 j) → sy_ai F2 57 = jm_upd (sy_ai F1 57) (sy_i F1 72).toInt.toNat v → sy_i F2 69 = sy_i F1 69 → sy_i F2 70 = sy_i F1 70 → sy_i F2 71 = sy_i F1 71 → (sy_i F2 72).toInt = (sy_i F1 72).toInt + 1 → v = Int32.ofInt (hdz 0 99 (g 1 n + Int32.ofInt (rpS T g n)).toInt) → loI T sd g F (n + 1) F2 := fun v F2 hb gg a57 f69 f70 f71 f72 hv => by
    refine ⟨qq_on hq hb gg (by decide), f69.trans j69, f70.trans j70, f71.trans j71, by omega, fun j hj2 => ?_⟩
    have a56 := nz_fa (gg 56 (by decide) (by decide))
    have a58 := nz_fa (gg 58 (by decide) (by decide))
    have a59 := nz_fa (gg 59 (by decide) (by decide))
    have en : (sy_i F1 72).toInt.toNat = n := by omega
    rw [en] at a57
    by_cases q : j = n
    · subst q
      unfold lkS
      rw [a56, a57, a58, a59, up_eq rfl, if_neg (fun z => hl z.2), if_pos ⟨h0, hl⟩]
      exact ⟨c56, hv, fun _ => c58, fun _ => c59⟩
    · exact lk_eq (hj j (by omega)) ⟨by rw [a56], by rw [a57, up_ne q], by rw [a58], by rw [a59]⟩
  refine ylo_292 (by decide) F1 X1 X2 hq.1 (by omega) ?_ ?_ ?_
  · intro c0 c1 F2 hb gg a57 e69 i69 e70 i70 e71 i71 e72' i72
    rw [i73, i74] at c0 c1 a57
    refine K F2 (on _ F2 hb gg a57 i69 i70 i71 e72' ?_)
    unfold hdz
    rw [if_neg (by omega), if_neg (by omega), Int32.ofInt_toInt]
  · intro c0 c1 F2 hb gg a57 e69 i69 e70 i70 e71 i71 e72' i72
    rw [i73, i74] at c0 c1
    refine K F2 (on _ F2 hb gg a57 i69 i70 i71 e72' ?_)
    unfold hdz
    rw [if_neg (by omega), if_pos (by omega)]
    rfl
  · intro c0 F2 hb gg a57 e69 i69 e70 i70 e71 i71 e72' i72
    rw [i73, i74] at c0
    refine K F2 (on _ F2 hb gg a57 i69 i70 i71 e72' ?_)
    unfold hdz
    rw [if_pos (by omega)]
    rfl
theorem lo_225 (hC : cR T F) (hG : gRow T F g) {n : Nat} {Q : Option Value → jm_h → Prop} (hn : n < nfS T) (F1 : Nat → sy_d) (hI : loI T sd g F n F1) (h0 : (g 2 n).toInt = 0) (c56 : (sy_ai F1 56).getD n 0 = if (lotS sd ((16 : Int32) * g 9 0 + Int32.ofInt n)).toInt < flS T g n then 1 else 0) (c57 : (sy_ai F1 57).getD n 0 = g 1 n) (c58 : (sy_ai F1 58).getD n 0 = Int32.ofInt (woS T g n)) (i73 : sy_i F1 73 = Int32.ofInt (bnS T g n))
    (K : ∀ F2 : Nat → sy_d, loI T sd g F (n + 1) F2 → hd_W Ls xs 6 jm_M189 Q (27, sy_dL F2 [some (.inl (.ref 1000)), some (.inr (.inl 69)), some (.inr (.inl 70)), some (.inr (.inl 71)), some (.inr (.inl 72))], sy_dS F2 [], sy_dh F2 X1 X2 (iv_H 4), 0, 0)) :
    hd_W Ls xs 6 jm_M189 Q (225, sy_dL F1 [some (.inl (.ref 1000)), some (.inr (.inl 69)), some (.inr (.inl 70)), some (.inr (.inl 71)), some (.inr (.inl 72))], sy_dS F1 [.inr (.inl 73), .inr (.inl 72), .inl (.ref 1037)], sy_dh F1 X1 X2 (iv_H 4), 0, 0) := by
  have l7 : nfS T ≤ 7 := hC.2.2.1.1
  obtain ⟨hq, j69, j70, j71, e72, hj⟩ := hI
  have en : (sy_i F1 72).toInt.toNat = n := by omega
  refine ylo_225 (by decide) F1 X1 X2 hq.1 (by omega) ?_ ?_
  · intro c0 F2 hb gg a59 e69 i69 e70 i70 e71 i71 e72' i72
    rw [en] at c0 a59
    have hl : (lotS sd ((16 : Int32) * g 9 0 + Int32.ofInt n)).toInt < flS T g n := by
      by_cases q : (lotS sd ((16 : Int32) * g 9 0 + Int32.ofInt n)).toInt < flS T g n
      · exact q
      · rw [c56, if_neg q] at c0
        exact absurd (by decide) c0
    refine K F2 ⟨qq_on hq hb gg (by decide), i69.trans j69, i70.trans j70, i71.trans j71, by omega, fun j hj2 => ?_⟩
    have a56 := nz_fa (gg 56 (by decide) (by decide))
    have a57 := nz_fa (gg 57 (by decide) (by decide))
    have a58 := nz_fa (gg 58 (by decide) (by decide))
    by_cases q : j = n
    · subst q
      unfold lkS
      rw [a56, a57, a58, a59, up_eq rfl, if_pos ⟨h0, hl⟩, if_neg (fun z => z.2 hl), i73]
      rw [if_pos hl] at c56
      exact ⟨c56, c57, fun _ => c58, fun _ => rfl⟩
    · exact lk_eq (hj j (by omega)) ⟨by rw [a56], by rw [a57], by rw [a58], by rw [a59, up_ne q]⟩
  · intro c0 F2 hb gg a59 e69 i69 e70 i70 e71 i71 e72' i72 e73' i73' e74' i74' e75' i75' e76' i76'
    rw [en] at c0 a59
    have hl : ¬ (lotS sd ((16 : Int32) * g 9 0 + Int32.ofInt n)).toInt < flS T g n := fun q => by
      rw [c56, if_pos q] at c0
      exact absurd c0 (by decide)
    have q2 : qR W7 F F2 := qq_on hq hb gg (by decide)
    have n7 : (7 + (sy_i F1 72).toInt).toNat = ra 1 + n := by show _ = 7 + n; omega
    have n42 : (42 + (sy_i F1 72).toInt).toNat = ra 6 + n := by show _ = 42 + n; omega
    have n35 : (35 + (sy_i F1 72).toInt).toNat = ra 5 + n := by show _ = 35 + n; omega
    rw [n7, lo_row F hG hq (by decide) (vF (by decide) hn)] at i73' i74'
    rw [n42, lo_row F hG hq (by decide) (vF (by decide) hn)] at i75'
    rw [n35, lo_row F hG hq (by decide) (vF (by decide) hn)] at i76'
    refine hd_calI (R := fun x F' => qR [17, 52, 53] F2 F' ∧ x.toInt = ripeT T (sy_i F2 72).toInt.toNat (sy_i F2 74) (sy_i F2 75) (sy_i F2 76) (sy_i F2 71) (sy_i F2 70) (sy_i F2 69)) (nh := 69) (nv := 74) (s := 4) (s1 := 4) (d1 := 5) (M1 := jm_M185) (As := [.inl (.ref 1000), .inl (.int 1), .inr (.inl 72), .inr (.inl 74), .inr (.inl 75), .inr (.inl 76), .inr (.inl 71), .inr (.inl 70), .inr (.inl 69)]) (rest := [.inr (.inl 73), .inr (.inl 72), .inl (.ref 1035)]) jm_ok189 rfl rfl (by decide) (by decide +kernel) (hr_V F2 X1 X2 (cR_q hC q2 (by decide)) _ _ _ _ _ _ _ (by have := e72'; show 0 ≤ _ ∧ _ < (nfS T : Int); omega)) (fun F3 F' x hR p1 p2 p3 => ?_)
    obtain ⟨r1, r2⟩ := hR
    have q3 : qR W7 F F3 := qq_trans q2 (qR_dst (qq_up r1 (by decide)) p1)
    have r1' : qR [17, 52, 53] F2 F3 := qR_dst r1 p1
    have en2 : (sy_i F2 72).toInt.toNat = n := by omega
    rw [en2, i74', i75', i76', i71, i70, i69, j69, j70, j71] at r2
    refine lo_292 F X1 X2 hC hG hn F3 ⟨q3, (eI (p2 69 (by decide) (by decide))).trans (i69.trans j69), (eI (p2 70 (by decide) (by decide))).trans (i70.trans j70), (eI (p2 71 (by decide) (by decide))).trans (i71.trans j71), by rw [nz_fi (p2 72 (by decide) (by decide))]; omega, fun j hj2 => ?_⟩ h0 hl ?_ ?_ ?_ ((eI (p2 73 (by decide) (by decide))).trans i73') ?_ K
    · refine lk_eq (hj j hj2) ⟨?_, ?_, ?_, ?_⟩
      · rw [qq_a r1' (by decide) (by decide), nz_fa (gg 56 (by decide) (by decide))]
      · rw [qq_a r1' (by decide) (by decide), nz_fa (gg 57 (by decide) (by decide))]
      · rw [qq_a r1' (by decide) (by decide), nz_fa (gg 58 (by decide) (by decide))]
      · rw [qq_a r1' (by decide) (by decide), a59, up_ne (by omega)]
    · rw [qq_a r1' (by decide) (by decide), nz_fa (gg 56 (by decide) (by decide)), c56, if_neg hl]
    · rw [qq_a r1' (by decide) (by decide), nz_fa (gg 58 (by decide) (by decide))]
      exact c58
    · rw [qq_a r1' (by decide) (by decide), a59, up_eq rfl]
      exact i73
    · rw [zz_i p3]
      exact (ofi r2).symm
end LO
end
section
/-! ===== the reference looks at an hour: all fruit ===== -/
section LQ
variable {Ls : Nat} {xs : Nat → Int32} {T : tX} {g : gS} {sd : Int32} (F : Nat → sy_d) (X1 X2 : List jm_c)
theorem lo_192 (hC : cR T F) (hG : gRow T F g) {n : Nat} {Q : Option Value → jm_h → Prop} (hn : n < nfS T) (F1 : Nat → sy_d) (hI : loI T sd g F n F1) (h0 : (g 2 n).toInt = 0) (c57 : (sy_ai F1 57).getD n 0 = g 1 n) (c58 : (sy_ai F1 58).getD n 0 = Int32.ofInt (woS T g n)) (i73 : sy_i F1 73 = lotS sd ((16 : Int32) * g 9 0 + Int32.ofInt n)) (i74 : (sy_i F1 74).toInt = flS T g n)
    (K : ∀ F2 : Nat → sy_d, loI T sd g F (n + 1) F2 → hd_W Ls xs 6 jm_M189 Q (27, sy_dL F2 [some (.inl (.ref 1000)), some (.inr (.inl 69)), some (.inr (.inl 70)), some (.inr (.inl 71)), some (.inr (.inl 72))], sy_dS F2 [], sy_dh F2 X1 X2 (iv_H 4), 0, 0)) :
    hd_W Ls xs 6 jm_M189 Q (192, sy_dL F1 [some (.inl (.ref 1000)), some (.inr (.inl 69)), some (.inr (.inl 70)), some (.inr (.inl 71)), some (.inr (.inl 72))], sy_dS F1 [.inr (.inl 74), .inr (.inl 73), .inr (.inl 72), .inl (.ref 1034)], sy_dh F1 X1 X2 (iv_H 4), 0, 0) := by
  have l7 : nfS T ≤ 7 := hC.2.2.1.1
  obtain ⟨hq, j69, j70, j71, e72, hj⟩ := hI
  have en : (sy_i F1 72).toInt.toNat = n := by omega
  have n7 : (7 + (sy_i F1 72).toInt).toNat = ra 1 + n := by show _ = 7 + n; omega
  have on : ∀ (v : Int32) (F2 : Nat → sy_d), iv_in F2 iv_B4 → (∀ j, j < 69 → j ∉ ([56] : List Nat) → F2 j = F1 j) → sy_ai F2 56 = jm_upd (sy_ai F1 56) n v → sy_i F2 69 = sy_i F1 69 → sy_i F2 70 = sy_i F1 70 → sy_i F2 71 = sy_i F1 71 → (sy_i F2 72).toInt = (sy_i F1 72).toInt → sy_i F2 73 = g 1 n → v = (if (lotS sd ((16 : Int32) * g 9 0 + Int32.ofInt n)).toInt < flS T g n then 1 else 0) →
      hd_W Ls xs 6 jm_M189 Q (222, sy_dL F2 [some (.inl (.ref 1000)), some (.inr (.inl 69)), some (.inr (.inl 70)), some (.inr (.inl 71)), some (.inr (.inl 72))], sy_dS F2 [.inr (.inl 69), .inr (.inl 70), .inr (.inl 73), .inr (.inl 72), .inl (.ref 1000), .inr (.inl 72), .inl (.ref 1037)], sy_dh F2 X1 X2 (iv_H 4), 0, 0) := fun v F2 hb gg a56 f69 f70 f71 f72 i73' hv => by
    have q2 : qR W7 F F2 := qq_on hq hb gg (by decide)
    have en2 : (sy_i F2 72).toInt.toNat = n := by omega
    refine hd_calI (R := fun x F' => qR [17, 52, 53] F2 F' ∧ x.toInt = bncT T (sy_i F2 72).toInt.toNat (sy_i F2 73) (sy_i F2 70) (sy_i F2 69)) (nh := 69) (nv := 73) (s := 4) (s1 := 4) (d1 := 5) (M1 := jm_M184) (As := [.inl (.ref 1000), .inr (.inl 72), .inr (.inl 73), .inr (.inl 70), .inr (.inl 69)]) (rest := [.inr (.inl 72), .inl (.ref 1037)]) jm_ok189 rfl rfl (by decide) (by decide +kernel) (bo_V F2 X1 X2 (cR_q hC q2 (by decide)) _ _ _ _ (by show 0 ≤ _ ∧ _ < (nfS T : Int); omega)) (fun F3 F' x hR p1 p2 p3 => ?_)
    obtain ⟨r1, r2⟩ := hR
    have r1' : qR [17, 52, 53] F2 F3 := qR_dst r1 p1
    have q3 : qR W7 F F3 := qq_trans q2 (qR_dst (qq_up r1 (by decide)) p1)
    rw [en2, i73', f70, f69, j69, j70] at r2
    refine lo_225 F X1 X2 hC hG hn F3 ⟨q3, (eI (p2 69 (by decide) (by decide))).trans (f69.trans j69), (eI (p2 70 (by decide) (by decide))).trans (f70.trans j70), (eI (p2 71 (by decide) (by decide))).trans (f71.trans j71), by rw [nz_fi (p2 72 (by decide) (by decide))]; omega, fun j hj2 => ?_⟩ h0 ?_ ?_ ?_ ?_ K
    · refine lk_eq (hj j hj2) ⟨?_, ?_, ?_, ?_⟩
      · rw [qq_a r1' (by decide) (by decide), a56, up_ne (by omega)]
      · rw [qq_a r1' (by decide) (by decide), nz_fa (gg 57 (by decide) (by decide))]
      · rw [qq_a r1' (by decide) (by decide), nz_fa (gg 58 (by decide) (by decide))]
      · rw [qq_a r1' (by decide) (by decide), nz_fa (gg 59 (by decide) (by decide))]
    · rw [qq_a r1' (by decide) (by decide), a56, up_eq rfl]
      exact hv
    · rw [qq_a r1' (by decide) (by decide), nz_fa (gg 57 (by decide) (by decide))]
      exact c57
    · rw [qq_a r1' (by decide) (by decide), nz_fa (gg 58 (by decide) (by decide))]
      exact c58
    · rw [zz_i p3]
      exact (ofi r2).symm
  refine ylo_192 (by decide) F1 X1 X2 hq.1 (by omega) ?_ ?_
  · intro c0 F2 hb gg a56 e69 i69 e70 i70 e71 i71 e72' i72 e73' i73'
    rw [en] at a56
    rw [n7, lo_row F hG hq (by decide) (vF (by decide) hn)] at i73'
    rw [i73] at c0
    exact on _ F2 hb gg a56 i69 i70 i71 e72' i73' (by rw [if_neg (by omega)])
  · intro c0 F2 hb gg a56 e69 i69 e70 i70 e71 i71 e72' i72 e73' i73'
    rw [en] at a56
    rw [n7, lo_row F hG hq (by decide) (vF (by decide) hn)] at i73'
    rw [i73] at c0
    exact on _ F2 hb gg a56 i69 i70 i71 e72' i73' (by rw [if_pos (by omega)])
theorem lo_117 (hC : cR T F) (hG : gRow T F g) (hO : okS T g) (hsd : sy_i F 18 = sd) {n : Nat} {Q : Option Value → jm_h → Prop} (hn : n < nfS T) (F1 : Nat → sy_d) (hI : loI T sd g F n F1) (h1 : (g 2 n).toInt ≤ 1) (c56 : (sy_ai F1 56).getD n 0 = 0) (c57 : (sy_ai F1 57).getD n 0 = g 1 n) (i73 : sy_i F1 73 = Int32.ofInt (woS T g n))
    (K : ∀ F2 : Nat → sy_d, loI T sd g F (n + 1) F2 → hd_W Ls xs 6 jm_M189 Q (27, sy_dL F2 [some (.inl (.ref 1000)), some (.inr (.inl 69)), some (.inr (.inl 70)), some (.inr (.inl 71)), some (.inr (.inl 72))], sy_dS F2 [], sy_dh F2 X1 X2 (iv_H 4), 0, 0)) :
    hd_W Ls xs 6 jm_M189 Q (117, sy_dL F1 [some (.inl (.ref 1000)), some (.inr (.inl 69)), some (.inr (.inl 70)), some (.inr (.inl 71)), some (.inr (.inl 72))], sy_dS F1 [.inr (.inl 73), .inr (.inl 72), .inl (.ref 1036)], sy_dh F1 X1 X2 (iv_H 4), 0, 0) := by
  have l7 : nfS T ≤ 7 := hC.2.2.1.1
  obtain ⟨hq, j69, j70, j71, e72, hj⟩ := hI
  have en : (sy_i F1 72).toInt.toNat = n := by omega
  have hh := hO.2.2.1 n hn
  have n14 : (14 + (sy_i F1 72).toInt).toNat = ra 2 + n := by show _ = 14 + n; omega
  have n7 : (7 + (sy_i F1 72).toInt).toNat = ra 1 + n := by show _ = 7 + n; omega
  have n42 : (42 + (sy_i F1 72).toInt).toNat = ra 6 + n := by show _ = 42 + n; omega
  have n35 : (35 + (sy_i F1 72).toInt).toNat = ra 5 + n := by show _ = 35 + n; omega
  have r14 : (sy_ai F1 55).getD (14 + (sy_i F1 72).toInt).toNat 0 = g 2 n := by
    rw [n14]
    exact lo_row F hG hq (by decide) (vF (by decide) hn)
  refine ylo_117 (by decide) F1 X1 X2 hq.1 (by omega) ?_ ?_
  · intro c0 F2 hb gg a58 e69 i69 e70 i70 e71 i71 e72' i72 e73' i73' e74' i74' e75' i75' e76' i76'
    rw [r14] at c0
    rw [en] at a58
    have h0 : (g 2 n).toInt = 0 := by omega
    rw [n7, lo_row F hG hq (by decide) (vF (by decide) hn)] at i74'
    rw [n42, lo_row F hG hq (by decide) (vF (by decide) hn)] at i75'
    rw [n35, lo_row F hG hq (by decide) (vF (by decide) hn)] at i76'
    rw [qq_i hq (j := 18) (by decide) (by decide), hsd, j70, ← ofi e72] at i73'
    have i73' : sy_i F2 73 = lotS sd ((16 : Int32) * g 9 0 + Int32.ofInt n) := i73'
    have q2 : qR W7 F F2 := qq_on hq hb gg (by decide)
    have en2 : (sy_i F2 72).toInt.toNat = n := by omega
    refine hd_calI (R := fun x F' => qR [17, 52, 53] F2 F' ∧ x.toInt = fallT T (sy_i F2 72).toInt.toNat (sy_i F2 74) (sy_i F2 75) (sy_i F2 76) (sy_i F2 71) (sy_i F2 70) (sy_i F2 69)) (nh := 69) (nv := 74) (s := 4) (s1 := 4) (d1 := 5) (M1 := jm_M185) (As := [.inl (.ref 1000), .inl (.int 2), .inr (.inl 72), .inr (.inl 74), .inr (.inl 75), .inr (.inl 76), .inr (.inl 71), .inr (.inl 70), .inr (.inl 69)]) (rest := [.inr (.inl 73), .inr (.inl 72), .inl (.ref 1034)]) jm_ok189 rfl rfl (by decide) (by decide +kernel) (hf_V F2 X1 X2 (cR_q hC q2 (by decide)) _ _ _ _ _ _ _ (by show 0 ≤ _ ∧ _ < (nfS T : Int); omega)) (fun F3 F' x hR p1 p2 p3 => ?_)
    obtain ⟨r1, r2⟩ := hR
    have r1' : qR [17, 52, 53] F2 F3 := qR_dst r1 p1
    have q3 : qR W7 F F3 := qq_trans q2 (qR_dst (qq_up r1 (by decide)) p1)
    rw [en2, i74', i75', i76', i71, i70, i69, j69, j70, j71] at r2
    refine lo_192 F X1 X2 hC hG hn F3 ⟨q3, (eI (p2 69 (by decide) (by decide))).trans (i69.trans j69), (eI (p2 70 (by decide) (by decide))).trans (i70.trans j70), (eI (p2 71 (by decide) (by decide))).trans (i71.trans j71), by rw [nz_fi (p2 72 (by decide) (by decide))]; omega, fun j hj2 => ?_⟩ h0 ?_ ?_ ((eI (p2 73 (by decide) (by decide))).trans i73') ?_ K
    · refine lk_eq (hj j hj2) ⟨?_, ?_, ?_, ?_⟩
      · rw [qq_a r1' (by decide) (by decide), nz_fa (gg 56 (by decide) (by decide))]
      · rw [qq_a r1' (by decide) (by decide), nz_fa (gg 57 (by decide) (by decide))]
      · rw [qq_a r1' (by decide) (by decide), a58, up_ne (by omega)]
      · rw [qq_a r1' (by decide) (by decide), nz_fa (gg 59 (by decide) (by decide))]
    · rw [qq_a r1' (by decide) (by decide), nz_fa (gg 57 (by decide) (by decide))]
      exact c57
    · rw [qq_a r1' (by decide) (by decide), a58, up_eq rfl]
      exact i73
    · rw [zz_i p3]
      exact r2
  · intro c0 F2 hb gg a58 e69 i69 e70 i70 e71 i71 e72' i72
    rw [r14] at c0
    rw [en] at a58
    refine K F2 ⟨qq_on hq hb gg (by decide), i69.trans j69, i70.trans j70, i71.trans j71, by omega, fun j hj2 => ?_⟩
    have a56 := nz_fa (gg 56 (by decide) (by decide))
    have a57 := nz_fa (gg 57 (by decide) (by decide))
    have a59 := nz_fa (gg 59 (by decide) (by decide))
    by_cases q : j = n
    · subst q
      unfold lkS
      rw [a56, a57, a58, a59, up_eq rfl, if_neg (fun z => by omega), if_neg (fun z => by omega), i73]
      exact ⟨c56, c57, fun _ => rfl, fun z => by omega⟩
    · exact lk_eq (hj j (by omega)) ⟨by rw [a56], by rw [a57], by rw [a58, up_ne q], by rw [a59]⟩
theorem lo_27 (hC : cR T F) (hG : gRow T F g) (hO : okS T g) (hsd : sy_i F 18 = sd) : ∀ (m : Nat) (F1 : Nat → sy_d) (n : Nat), n + m = nfS T → loI T sd g F n F1 →
    hd_W Ls xs 6 jm_M189 (pV 4 X1 X2 (fun F' => qR W7 F F' ∧ ∀ j, j < nfS T → lkS T sd g F' j)) (27, sy_dL F1 [some (.inl (.ref 1000)), some (.inr (.inl 69)), some (.inr (.inl 70)), some (.inr (.inl 71)), some (.inr (.inl 72))], sy_dS F1 [], sy_dh F1 X1 X2 (iv_H 4), 0, 0) := by
  have l7 : nfS T ≤ 7 := hC.2.2.1.1
  have en31 : ((sy_ai F 31).getD (sy_i F 11).toInt.toNat 0).toInt = (nfS T : Int) := (rX_n hC.2.1).1
  intro m
  induction m with
  | zero =>
    intro F1 n hm hI
    obtain ⟨hq, j69, j70, j71, e72, hj⟩ := hI
    have e31 : ((sy_ai F1 31).getD (sy_i F1 11).toInt.toNat 0).toInt = (nfS T : Int) := by rw [qq_a hq (by decide) (by decide), qq_i hq (j := 11) (by decide) (by decide)]; exact en31
    refine ylo_27 (by decide) F1 X1 X2 hq.1 (by omega) ?_ ?_ ?_
    · intro c0 F2 hb gg
      refine ⟨F2, rfl, rfl, qq_on hq hb gg (by decide), fun j hj2 => lk_eq (hj j (by omega)) ⟨?_, ?_, ?_, ?_⟩⟩
      · rw [nz_fa (gg 56 (by decide) (by decide))]
      · rw [nz_fa (gg 57 (by decide) (by decide))]
      · rw [nz_fa (gg 58 (by decide) (by decide))]
      · rw [nz_fa (gg 59 (by decide) (by decide))]
    · intros
      omega
    · intros
      omega
  | succ m ih =>
    intro F1 n hm hI
    obtain ⟨hq, j69, j70, j71, e72, hj⟩ := hI
    have hn : n < nfS T := by omega
    have en : (sy_i F1 72).toInt.toNat = n := by omega
    have e31 : ((sy_ai F1 31).getD (sy_i F1 11).toInt.toNat 0).toInt = (nfS T : Int) := by rw [qq_a hq (by decide) (by decide), qq_i hq (j := 11) (by decide) (by decide)]; exact en31
    have n14 : (14 + (sy_i F1 72).toInt).toNat = ra 2 + n := by show _ = 14 + n; omega
    have n7 : (7 + (sy_i F1 72).toInt).toNat = ra 1 + n := by show _ = 7 + n; omega
    have n28 : (28 + (sy_i F1 72).toInt).toNat = ra 4 + n := by show _ = 28 + n; omega
    have r14 : (sy_ai F1 55).getD (14 + (sy_i F1 72).toInt).toNat 0 = g 2 n := by
      rw [n14]
      exact lo_row F hG hq (by decide) (vF (by decide) hn)
    have r7 : (sy_ai F1 55).getD (7 + (sy_i F1 72).toInt).toNat 0 = g 1 n := by
      rw [n7]
      exact lo_row F hG hq (by decide) (vF (by decide) hn)
    have r28 : (sy_ai F1 55).getD (28 + (sy_i F1 72).toInt).toNat 0 = g 4 n := by
      rw [n28]
      exact lo_row F hG hq (by decide) (vF (by decide) hn)
    refine ylo_27 (by decide) F1 X1 X2 hq.1 (by omega) ?_ ?_ ?_
    · intros
      omega
    · intro c0 c1 F2 hb gg a56 a57 e69 i69 e70 i70 e71 i71 e72' i72 e73' i73' e74' i74'
      rw [r14] at c1
      rw [en] at a56 a57
      rw [r7] at a57 i73'
      rw [r28] at i74'
      have q2 : qR W7 F F2 := qq_on hq hb gg (by decide)
      have en2 : (sy_i F2 72).toInt.toNat = n := by omega
      refine hd_calI (R := fun x F' => qR [17, 52, 53] F2 F' ∧ x.toInt = worthT T (sy_i F2 72).toInt.toNat (sy_i F2 73) (sy_i F2 74) (sy_i F2 70) (sy_i F2 69)) (nh := 69) (nv := 73) (s := 4) (s1 := 4) (d1 := 5) (M1 := jm_M183) (As := [.inl (.ref 1000), .inr (.inl 72), .inr (.inl 73), .inr (.inl 74), .inr (.inl 70), .inr (.inl 69)]) (rest := [.inr (.inl 72), .inl (.ref 1036)]) jm_ok189 rfl rfl (by decide) (by decide +kernel) (wo_V F2 X1 X2 (cR_q hC q2 (by decide)) _ _ _ _ _ (by show 0 ≤ _ ∧ _ < (nfS T : Int); omega)) (fun F3 F' x hR p1 p2 p3 => ?_)
      obtain ⟨r1, r2⟩ := hR
      have r1' : qR [17, 52, 53] F2 F3 := qR_dst r1 p1
      have q3 : qR W7 F F3 := qq_trans q2 (qR_dst (qq_up r1 (by decide)) p1)
      rw [en2, i73', i74', i70, i69, j69, j70] at r2
      refine lo_117 F X1 X2 hC hG hO hsd hn F3 ⟨q3, (eI (p2 69 (by decide) (by decide))).trans (i69.trans j69), (eI (p2 70 (by decide) (by decide))).trans (i70.trans j70), (eI (p2 71 (by decide) (by decide))).trans (i71.trans j71), by rw [nz_fi (p2 72 (by decide) (by decide))]; omega, fun j hj2 => ?_⟩ c1 ?_ ?_ ?_ (fun F4 h4 => ih F4 (n + 1) (by omega) h4)
      · refine lk_eq (hj j hj2) ⟨?_, ?_, ?_, ?_⟩
        · rw [qq_a r1' (by decide) (by decide), a56, up_ne (by omega)]
        · rw [qq_a r1' (by decide) (by decide), a57, up_ne (by omega)]
        · rw [qq_a r1' (by decide) (by decide), nz_fa (gg 58 (by decide) (by decide))]
        · rw [qq_a r1' (by decide) (by decide), nz_fa (gg 59 (by decide) (by decide))]
      · rw [qq_a r1' (by decide) (by decide), a56, up_eq rfl]
      · rw [qq_a r1' (by decide) (by decide), a57, up_eq rfl]
      · rw [zz_i p3]
        exact (ofi r2).symm
    · intro c0 c1 F2 hb gg a56 a57 e69 i69 e70 i70 e71 i71 e72' i72
      rw [r14] at c1
      rw [en] at a56 a57
      rw [r7] at a57
      refine ih F2 (n + 1) (by omega) ⟨qq_on hq hb gg (by decide), i69.trans j69, i70.trans j70, i71.trans j71, by omega, fun j hj2 => ?_⟩
      have a58 := nz_fa (gg 58 (by decide) (by decide))
      have a59 := nz_fa (gg 59 (by decide) (by decide))
      by_cases q : j = n
      · subst q
        unfold lkS
        rw [a56, a57, a58, a59, up_eq rfl, up_eq rfl, if_neg (fun z => by omega), if_neg (fun z => by omega)]
        exact ⟨rfl, rfl, fun z => by omega, fun z => by omega⟩
      · exact lk_eq (hj j (by omega)) ⟨by rw [a56, up_ne q], by rw [a57, up_ne q], by rw [a58], by rw [a59]⟩
theorem lo_V (hC : cR T F) (hG : gRow T F g) (hO : okS T g) (hsd : sy_i F 18 = sd) : jm_T Ls xs 6 jm_M189 [.ref 1000] (sy_dh F X1 X2 (iv_H 4)) 0 0 (pV 4 X1 X2 (fun F' => qR W7 F F' ∧ ∀ j, j < nfS T → lkS T sd g F' j)) := by
  refine R_T [] [.inl (.ref 1000)] jm_ok189 (by decide) rfl (fun F0 k0 ki => ?_)
  refine ylo_0 (by decide) F0 X1 X2 (hd_iveq hC.1 k0) ?_
  intro F1 hb gg
  have q1 : qR [] F F1 := qq_src (qq_mk hb gg (by decide)) k0
  refine hd_calI (R := fun x F' => qR [] F1 F' ∧ x = mkS g (0 : Int32).toInt (nfS T)) (nh := 69) (nv := 69) (s := 4) (s1 := 4) (d1 := 1) (M1 := jm_M176) (As := [.inl (.ref 1000), .inl (.int 0)]) (rest := []) jm_ok189 rfl rfl (by decide) (by decide +kernel) (bi_V F1 X1 X2 (cR_q hC q1 (by decide)) (gRow_e hG (qq_a q1 (by decide) (by decide))) 0) (fun F3 F' x hR p1 p2 p3 => ?_)
  obtain ⟨r1, r2⟩ := hR
  have q3 : qR [] F F3 := qq_trans q1 (qR_dst r1 p1)
  have k69 : sy_i F3 69 = mkS g 0 (nfS T) := (zz_i p3).trans r2
  refine ylo_5 (by decide) F3 X1 X2 q3.1 ?_
  intro F4 hb4 g4 e69 i69 e70 i70
  have q4' : qR [] F F4 := qq_on q3 hb4 g4 (by decide)
  rw [k69] at i69
  have i69 : sy_i F4 69 = lfS T g := i69
  have i70 : sy_i F4 70 = g 9 0 := by
    rw [i70]
    exact lo_row F hG q3 (by decide) (a := 9) (i := 0) (vH (by decide))
  refine hd_calI (R := fun x F' => qR [17, 52, 53] F4 F' ∧ x.toInt = windT T (sy_i F4 70) (sy_i F4 69)) (nh := 69) (nv := 71) (s := 4) (s1 := 4) (d1 := 5) (M1 := jm_M181) (As := [.inl (.ref 1000), .inr (.inl 70), .inr (.inl 69)]) (rest := []) jm_ok189 rfl rfl (by decide) (by decide +kernel) (wb_V F4 X1 X2 (cR_q hC q4' (by decide)) _ _) (fun F5 F6 y hR2 p1' p2' p3' => ?_)
  obtain ⟨s1, s2⟩ := hR2
  have q5 : qR W7 F F5 := qq_trans (qq_up q4' (by decide)) (qR_dst (qq_up s1 (by decide)) p1')
  rw [i69, i70] at s2
  refine ylo_23 (by decide) F5 X1 X2 q5.1 ?_
  intro F7 hb7 g7 e69' i69' e70' i70' e71' i71' e72' i72'
  refine lo_27 F X1 X2 hC hG hO hsd (nfS T) F7 0 (by omega) ⟨qq_on q5 hb7 g7 (by decide), ?_, ?_, ?_, e72', fun j hj => absurd hj (by omega)⟩
  · rw [i69', eI (p2' 69 (by decide) (by decide))]
    exact i69
  · rw [i70', eI (p2' 70 (by decide) (by decide))]
    exact i70
  · rw [i71', zz_i p3']
    exact (ofi s2).symm
end LQ
end
section
/-! ===== what an hour changes ===== -/
theorem sellS_o {g : gS} {f : Nat} {b : Int} {c : Int32} {a i : Nat} (h : a ≠ 2 ∧ a ≠ 3 ∨ i ≠ f) (h8 : a ≠ 8) : sellS g f b c a i = g a i := by
  unfold sellS
  rw [upS_o (Or.inl h8), upS_o (by omega), upS_o (by omega)]
theorem sellS_2 {g : gS} {f : Nat} {b : Int} {c : Int32} : sellS g f b c 2 f = 2 := by
  unfold sellS
  rw [upS_o (Or.inl (by decide)), upS_o (Or.inl (by decide)), upS_s]
theorem lieS_o {T : tX} {g : gS} {f : Nat} {c : Int32} {a i : Nat} (h : (a ≠ 2 ∧ a ≠ 3 ∧ a ≠ 4) ∨ i ≠ f) (h8 : a ≠ 8) : lieS T g f c a i = g a i := by
  unfold lieS
  split
  · exact sellS_o (by omega) h8
  · split
    · rw [upS_o (by omega), upS_o (by omega)]
    · rw [upS_o (by omega)]
theorem fallS_o {T : tX} {g : gS} {f : Nat} {c : Int32} {bn : Int} {a i : Nat} (h : (a ≠ 0 ∧ a ≠ 2 ∧ a ≠ 3) ∨ i ≠ f) (h8 : a ≠ 8) : fallS T g f c bn a i = g a i := by
  unfold fallS
  split
  · exact sellS_o (by omega) h8
  · rw [upS_o (by omega), upS_o (by omega)]
/-- how it is behind it -/
theorem lieS_2 {T : tX} {g : gS} {f : Nat} {c : Int32} (h : (g 2 f).toInt = 1) : (0 ≤ fsS g (g 0 f) c.toInt (nbS T) → (lieS T g f c 2 f).toInt = 2) ∧ (fsS g (g 0 f) c.toInt (nbS T) < 0 → (lieS T g f c 2 f).toInt = 3 ∨ (lieS T g f c 2 f).toInt = 1) := by
  refine ⟨fun q => ?_, fun q => ?_⟩
  · unfold lieS
    rw [if_pos q, sellS_2]
    decide
  · unfold lieS
    rw [if_neg (by omega)]
    by_cases z : T.2.2.2.1 < (g 4 f + 1).toInt
    · rw [if_pos z, upS_s]
      left
      decide
    · rw [if_neg z, upS_o (Or.inl (by decide))]
      exact Or.inr h
theorem fallS_2 {T : tX} {g : gS} {f : Nat} {c : Int32} {bn : Int} : (0 ≤ (nrS T g (tF T f).1 c.toInt (nbS T)).1 → (fallS T g f c bn 2 f).toInt = 2) ∧ ((nrS T g (tF T f).1 c.toInt (nbS T)).1 < 0 → (fallS T g f c bn 2 f).toInt = 1) := by
  refine ⟨fun q => ?_, fun q => ?_⟩
  · unfold fallS
    rw [if_pos q, sellS_2]
    decide
  · unfold fallS
    rw [if_neg (by omega), upS_o (Or.inl (by decide)), upS_s]
    decide
theorem nm_lie {T : tX} {g : gS} {f : Nat} {c : Int32} {n : Nat} (hf : f < n) (h : (g 2 f).toInt = 1) : (0 ≤ fsS g (g 0 f) c.toInt (nbS T) → nmS (lieS T g f c) 2 n = nmS g 2 n + 1) ∧ (fsS g (g 0 f) c.toInt (nbS T) < 0 → nmS (lieS T g f c) 2 n = nmS g 2 n) := by
  obtain ⟨h1, h2⟩ := lieS_2 (T := T) (c := c) h
  have ho : ∀ i, i ≠ f → lieS T g f c 2 i = g 2 i := fun i hi => lieS_o (Or.inr hi) (by decide)
  refine ⟨fun q => nm_up n hf (by omega) (h1 q) ho, fun q => ?_⟩
  have key : ∀ m : Nat, nmS (lieS T g f c) 2 m = nmS g 2 m := fun m => by
    induction m with
    | zero => rfl
    | succ m ih =>
      unfold nmS
      by_cases z : m = f
      · subst z
        have := h2 q
        rw [if_neg (by omega), if_neg (by omega), ih]
      · rw [ho m z, ih]
  exact key n
theorem nm_fall {T : tX} {g : gS} {f : Nat} {c : Int32} {bn : Int} {n : Nat} (hf : f < n) (h : (g 2 f).toInt = 0) : (0 ≤ (nrS T g (tF T f).1 c.toInt (nbS T)).1 → nmS (fallS T g f c bn) 2 n = nmS g 2 n + 1) ∧ ((nrS T g (tF T f).1 c.toInt (nbS T)).1 < 0 → nmS (fallS T g f c bn) 2 n = nmS g 2 n) := by
  obtain ⟨h1, h2⟩ := fallS_2 (T := T) (g := g) (f := f) (c := c) (bn := bn)
  have ho : ∀ i, i ≠ f → fallS T g f c bn 2 i = g 2 i := fun i hi => fallS_o (Or.inr hi) (by decide)
  refine ⟨fun q => nm_up n hf (by omega) (h1 q) ho, fun q => ?_⟩
  have key : ∀ m : Nat, nmS (fallS T g f c bn) 2 m = nmS g 2 m := fun m => by
    induction m with
    | zero => rfl
    | succ m ih =>
      unfold nmS
      by_cases z : m = f
      · subst z
        have := h2 q
        rw [if_neg (by omega), if_neg (by omega), ih]
      · rw [ho m z, ih]
  exact key n
theorem p1_s {T : tX} {g : gS} : ∀ (n a i : Nat), n ≤ i → a < 7 → p1S T g n a i = g a i
  | 0, a, i, _, _ => rfl
  | n + 1, a, i, h, ha => by
    unfold p1S
    split
    · rw [lieS_o (Or.inr (by omega)) (by omega)]
      exact p1_s n a i (by omega) ha
    · exact p1_s n a i (by omega) ha
/-- what the first pass never changes -/
theorem p1_k {T : tX} {g : gS} : ∀ (n a i : Nat), (a ≠ 2 ∧ a ≠ 3 ∧ a ≠ 4 ∧ a ≠ 8) → p1S T g n a i = g a i
  | 0, a, i, _ => rfl
  | n + 1, a, i, h => by
    unfold p1S
    split
    · rw [lieS_o (Or.inl (by omega)) (by omega)]
      exact p1_k n a i h
    · exact p1_k n a i h
/-- what hangs stays as it is, what does not never hangs again -/
theorem p1_h {T : tX} {g : gS} : ∀ (n i : Nat), ((p1S T g n 2 i).toInt = 0 ↔ (g 2 i).toInt = 0) ∧ ((g 2 i).toInt = 0 → p1S T g n 3 i = g 3 i ∧ p1S T g n 4 i = g 4 i) ∧ ((0 ≤ (g 2 i).toInt ∧ (g 2 i).toInt ≤ 3) → 0 ≤ (p1S T g n 2 i).toInt ∧ (p1S T g n 2 i).toInt ≤ 3)
  | 0, i => ⟨Iff.rfl, fun _ => ⟨rfl, rfl⟩, fun h => h⟩
  | n + 1, i => by
    have ih := p1_h (T := T) (g := g) n i
    unfold p1S
    by_cases q : (p1S T g n 2 n).toInt = 1
    · rw [if_pos q]
      by_cases z : i = n
      · subst z
        obtain ⟨h1, h2⟩ := lieS_2 (T := T) (g := p1S T g i) (f := i) (c := Int32.ofInt (woS T g i)) q
        have h3 : (lieS T (p1S T g i) i (Int32.ofInt (woS T g i)) 2 i).toInt = 2 ∨ (lieS T (p1S T g i) i (Int32.ofInt (woS T g i)) 2 i).toInt = 3 ∨ (lieS T (p1S T g i) i (Int32.ofInt (woS T g i)) 2 i).toInt = 1 := by
          by_cases y : 0 ≤ fsS (p1S T g i) (p1S T g i 0 i) (Int32.ofInt (woS T g i)).toInt (nbS T)
          · exact Or.inl (h1 y)
          · exact Or.inr (h2 (by omega))
        have hne : ¬ (g 2 i).toInt = 0 := fun y => by
          have := ih.1.mpr y
          omega
        exact ⟨⟨fun y => by omega, fun y => absurd y hne⟩, fun y => absurd y hne, fun _ => by omega⟩
      · rw [lieS_o (Or.inr z) (by decide), lieS_o (Or.inr z) (by decide), lieS_o (Or.inr z) (by decide)]
        exact ih
    · rw [if_neg q]
      exact ih
section P2
variable {T : tX} {sd : Int32} {g : gS}
theorem stS_o {g' : gS} {n a i : Nat} (h : i ≠ n ∨ (a ≠ 0 ∧ a ≠ 1 ∧ a ≠ 2 ∧ a ≠ 3)) (h8 : a ≠ 8) : stS T sd g g' n a i = g' a i := by
  unfold stS
  split
  · split
    · exact fallS_o (by omega) h8
    · exact upS_o (by omega)
  · rfl
theorem p2_s : ∀ (n a i : Nat), n ≤ i → a < 7 → p2S T sd g n a i = p1S T g (nfS T) a i
  | 0, a, i, _, _ => rfl
  | n + 1, a, i, h, ha => by
    show stS T sd g (p2S T sd g n) n a i = _
    rw [stS_o (Or.inl (by omega)) (by omega)]
    exact p2_s n a i (by omega) ha
theorem p2_k : ∀ (n a i : Nat), (a = 5 ∨ a = 6 ∨ a = 7 ∨ a = 9) → p2S T sd g n a i = g a i
  | 0, a, i, h => p1_k _ _ _ (by omega)
  | n + 1, a, i, h => by
    show stS T sd g (p2S T sd g n) n a i = _
    rw [stS_o (Or.inr (by omega)) (by omega)]
    exact p2_k n a i h
theorem p2_h : ∀ (n i : Nat), (((p2S T sd g n 2 i).toInt = 0 → (g 2 i).toInt = 0 ∧ p2S T sd g n 0 i = g 0 i ∧ p2S T sd g n 4 i = g 4 i) ∧ ((0 ≤ (g 2 i).toInt ∧ (g 2 i).toInt ≤ 3) → 0 ≤ (p2S T sd g n 2 i).toInt ∧ (p2S T sd g n 2 i).toInt ≤ 3))
  | 0, i => by
    obtain ⟨h1, h2, h3⟩ := p1_h (T := T) (g := g) (nfS T) i
    exact ⟨fun z => ⟨h1.mp z, p1_k _ _ _ (by omega), (h2 (h1.mp z)).2⟩, h3⟩
  | n + 1, i => by
    obtain ⟨h1, h2⟩ := p2_h n i
    show ((stS T sd g (p2S T sd g n) n 2 i).toInt = 0 → (g 2 i).toInt = 0 ∧ stS T sd g (p2S T sd g n) n 0 i = g 0 i ∧ stS T sd g (p2S T sd g n) n 4 i = g 4 i) ∧ ((0 ≤ (g 2 i).toInt ∧ (g 2 i).toInt ≤ 3) → 0 ≤ (stS T sd g (p2S T sd g n) n 2 i).toInt ∧ (stS T sd g (p2S T sd g n) n 2 i).toInt ≤ 3)
    by_cases z : i = n
    · subst z
      unfold stS
      by_cases q : (g 2 i).toInt = 0
      · rw [if_pos q]
        by_cases y : (lotS sd ((16 : Int32) * g 9 0 + Int32.ofInt i)).toInt < flS T g i
        · rw [if_pos y]
          obtain ⟨f1, f2⟩ := fallS_2 (T := T) (g := p2S T sd g i) (f := i) (c := Int32.ofInt (woS T g i)) (bn := bnS T g i)
          have h3 : (fallS T (p2S T sd g i) i (Int32.ofInt (woS T g i)) (bnS T g i) 2 i).toInt = 2 ∨ (fallS T (p2S T sd g i) i (Int32.ofInt (woS T g i)) (bnS T g i) 2 i).toInt = 1 := by
            by_cases w : 0 ≤ (nrS T (p2S T sd g i) (tF T i).1 (Int32.ofInt (woS T g i)).toInt (nbS T)).1
            · exact Or.inl (f1 w)
            · exact Or.inr (f2 (by omega))
          exact ⟨fun w => by omega, fun _ => by omega⟩
        · rw [if_neg y, upS_o (Or.inl (by decide)), upS_o (Or.inl (by decide)), upS_o (Or.inl (by decide))]
          exact ⟨h1, h2⟩
      · rw [if_neg q]
        exact ⟨h1, h2⟩
    · rw [stS_o (Or.inl z) (by decide), stS_o (Or.inl z) (by decide), stS_o (Or.inl z) (by decide)]
      exact ⟨h1, h2⟩
theorem hourS_o {a i : Nat} (h6 : a ≠ 6) (h9 : a ≠ 9 ∨ i ≠ 0) : hourS T sd g a i = p2S T sd g (nfS T) a i := by
  unfold hourS zsS
  rw [upS_o h9]
  exact if_neg h6
theorem okS_hour (h : okS T g) : okS T (hourS T sd g) := by
  obtain ⟨h1, h2, h3, h4⟩ := h
  refine ⟨fun b hb => ?_, fun f hf z => ?_, fun f hf => ?_, ?_⟩
  · rw [hourS_o (by decide) (Or.inl (by decide)), p2_k _ _ _ (by omega)]
    exact h1 b hb
  · rw [hourS_o (by decide) (Or.inl (by decide))] at z
    obtain ⟨y1, y2, y3⟩ := (p2_h (nfS T) f).1 z
    rw [hourS_o (by decide) (Or.inl (by decide)), hourS_o (by decide) (Or.inl (by decide)), y2, y3]
    exact h2 f hf y1
  · rw [hourS_o (by decide) (Or.inl (by decide))]
    exact (p2_h (nfS T) f).2 (h3 f hf)
  · rw [hourS_o (by decide) (Or.inr (by decide)), hourS_o (by decide) (Or.inr (by decide)), p2_k _ _ _ (by omega), p2_k _ _ _ (by omega)]
    exact h4
theorem okS_hrs (h : okS T g) : ∀ n : Nat, okS T (hrsS T sd g n)
  | 0 => h
  | n + 1 => okS_hour (okS_hrs h n)
end P2
/-- none of the first n is shaken -/
def znS (n : Nat) (g : gS) : gS := fun a i => if a = 6 ∧ i < n then 0 else g a i
theorem znS_o {n : Nat} {g : gS} {a i : Nat} (h : a ≠ 6 ∨ n ≤ i) : znS n g a i = g a i := if_neg (by omega)
theorem znS_0 (g : gS) : znS 0 g = g := by
  funext a i
  exact znS_o (Or.inr (Nat.zero_le _))
theorem znS_up {n : Nat} {g : gS} {a i : Nat} {v : Int32} (h : a ≠ 6) : upS (znS n g) a i v = znS n (upS g a i v) := by
  funext a' i'
  by_cases q : a' = a ∧ i' = i
  · obtain ⟨q1, q2⟩ := q
    subst q1
    subst q2
    rw [upS_s, znS_o (Or.inl h), upS_s]
  · have q' : a' ≠ a ∨ i' ≠ i := by omega
    rw [upS_o q']
    unfold znS
    by_cases z : a' = 6 ∧ i' < n
    · rw [if_pos z, if_pos z]
    · rw [if_neg z, if_neg z, upS_o q']
theorem nr_cg {T : tX} {g g' : gS} {x c : Int} (h7 : ∀ i, g 7 i = g' 7 i) (h8 : ∀ i, g 8 i = g' 8 i) : ∀ n : Nat, nrS T g x c n = nrS T g' x c n
  | 0 => rfl
  | n + 1 => by
    unfold nrS
    rw [nr_cg h7 h8 n, h7 n, h8 n]
theorem znS_fall {T : tX} {n : Nat} {g : gS} {f : Nat} {c : Int32} {bn : Int} : fallS T (znS n g) f c bn = znS n (fallS T g f c bn) := by
  have e := nr_cg (T := T) (g := znS n g) (g' := g) (x := (tF T f).1) (c := c.toInt) (fun i => znS_o (Or.inl (by decide))) (fun i => znS_o (Or.inl (by decide))) (nbS T)
  unfold fallS
  rw [e]
  split
  · unfold sellS
    rw [znS_up (by decide), znS_up (by decide), znS_up (by decide), znS_o (Or.inl (by decide))]
  · rw [znS_up (by decide), znS_up (by decide)]
theorem gL_sm {nf nb : Nat} {l : List Int32} {g : gS} (hf : nf ≤ 7) (hb : nb ≤ 4) (h : gL nf nb l g) {a i n : Nat} {v : Int32} (hv : vlS nf nb a i) (hn : n = ra a + i) (e : v = g a i) : gL nf nb (jm_upd l n v) g := by
  have := gL_up (v := v) hf hb h hv hn
  intro a' i' h'
  rw [this a' i' h']
  by_cases q : a' = a ∧ i' = i
  · obtain ⟨q1, q2⟩ := q
    subst q1
    subst q2
    rw [upS_s, e]
  · rw [upS_o (by omega)]
end
section
/-! ===== the reference: an hour, hours ===== -/
abbrev W9 : List Nat := [17, 19, 52, 53, 55, 56, 57, 58, 59]
/-- the mark of a sale; N how much was sold -/
def sfS (F : Nat → sy_d) (N0 N : Nat) : Prop := ((sy_i F 19).toInt = 1 ∧ N0 < N) ∨ ((sy_i F 19).toInt = 0 ∧ N = N0)
theorem sfS_e {F F1 : Nat → sy_d} {N0 N : Nat} (h : sfS F N0 N) (e : F1 19 = F 19) : sfS F1 N0 N := by
  unfold sfS
  rw [nz_fi e]
  exact h
section HG
variable {Ls : Nat} {xs : Nat → Int32} {T : tX} {g : gS} {sd : Int32} (F : Nat → sy_d) (X1 X2 : List jm_c)
noncomputable def hgP (T : tX) (sd : Int32) (g : gS) (F F' : Nat → sy_d) : Prop := qR W9 F F' ∧ gRow T F' (hourS T sd g) ∧ sfS F' (nmS g 2 (nfS T)) (nmS (hourS T sd g) 2 (nfS T))
theorem hg_50 (hC : cR T F) (hO : okS T g) : ∀ (m : Nat) (F1 : Nat → sy_d) (n : Nat), n + m = nfS T → qR W9 F F1 → (∀ j, j < nfS T → lkS T sd g F1 j) → (sy_i F1 69).toInt = n → gRow T F1 (znS n (p2S T sd g n)) → sfS F1 (nmS g 2 (nfS T)) (nmS (p2S T sd g n) 2 (nfS T)) →
    hd_W Ls xs 7 jm_M192 (pV 4 X1 X2 (hgP T sd g F)) (50, sy_dL F1 [some (.inl (.ref 1000)), some (.inr (.inl 69))], sy_dS F1 [], sy_dh F1 X1 X2 (iv_H 4), 0, 0) := by
  have l7 : nfS T ≤ 7 := hC.2.2.1.1
  have l4 : nbS T ≤ 4 := hC.2.2.1.2.1
  have en31 : ((sy_ai F 31).getD (sy_i F 11).toInt.toNat 0).toInt = (nfS T : Int) := (rX_n hC.2.1).1
  intro m
  induction m with
  | zero =>
    intro F1 n hm hq hj e69 hG hS
    have e31 : ((sy_ai F1 31).getD (sy_i F1 11).toInt.toNat 0).toInt = (nfS T : Int) := by rw [qq_a hq (by decide) (by decide), qq_i hq (j := 11) (by decide) (by decide)]; exact en31
    have hn : n = nfS T := by omega
    subst hn
    have g0 : gRow T F1 (zsS (p2S T sd g (nfS T))) := fun a i hv => by
      rw [hG a i hv]
      unfold znS zsS
      by_cases z : a = 6
      · rw [if_pos z, if_pos]
        refine ⟨z, ?_⟩
        rcases hv with h | h | h <;> omega
      · rw [if_neg z, if_neg (fun w => z w.1)]
    refine yhg_50 (by decide) F1 X1 X2 hq.1 (by omega) ?_ ?_ ?_
    · intro c0 F2 hb gg a55
      refine ⟨F2, rfl, rfl, qq_on hq hb gg (by decide), ?_, ?_⟩
      · have e57 : (sy_ai F1 55).getD (57 : Int).toNat 0 = g 9 0 := by
          have := g0 9 0 (vH (by decide))
          have k : zsS (p2S T sd g (nfS T)) 9 0 = g 9 0 := by
            unfold zsS
            rw [if_neg (by decide)]
            exact p2_k _ _ _ (by omega)
          rw [k] at this
          exact this
        rw [e57] at a55
        unfold gRow
        rw [a55]
        exact gL_up l7 l4 g0 (vH (by decide)) rfl
      · refine sfS_e ?_ (gg 19 (by decide) (by decide))
        rw [nm_cg (g := hourS T sd g) (g' := p2S T sd g (nfS T)) (nfS T) (fun i _ => hourS_o (by decide) (Or.inl (by decide)))]
        exact hS
    · intros
      omega
    · intros
      omega
  | succ m ih =>
    intro F1 n hm hq hj e69 hG hS
    have hn : n < nfS T := by omega
    have e31 : ((sy_ai F1 31).getD (sy_i F1 11).toInt.toNat 0).toInt = (nfS T : Int) := by rw [qq_a hq (by decide) (by decide), qq_i hq (j := 11) (by decide) (by decide)]; exact en31
    obtain ⟨k1, k2, k3, k4⟩ := hj n hn
    have en : (sy_i F1 69).toInt.toNat = n := by omega
    -- behind what falls: the ripeness, none shaken
    have fin : ∀ (F2 : Nat → sy_d) (gd : gS), qR W9 F F2 → (∀ j, j < nfS T → lkS T sd g F2 j) → (sy_i F2 69).toInt = n → gRow T F2 (znS n gd) → sfS F2 (nmS g 2 (nfS T)) (nmS (p2S T sd g (n + 1)) 2 (nfS T)) → (p2S T sd g (n + 1) = gd ∧ gd 1 n = (sy_ai F2 57).getD n 0 ∨ p2S T sd g (n + 1) = upS gd 1 n ((sy_ai F2 57).getD n 0)) →
        hd_W Ls xs 7 jm_M192 (pV 4 X1 X2 (hgP T sd g F)) (77, sy_dL F2 [some (.inl (.ref 1000)), some (.inr (.inl 69))], sy_dS F2 [], sy_dh F2 X1 X2 (iv_H 4), 0, 0) := fun F2 gd hq2 hj2 f69 hG2 hS2 hgd => by
      have n7 : (7 + (sy_i F2 69).toInt).toNat = ra 1 + n := by show _ = 7 + n; omega
      have n42 : (42 + (sy_i F2 69).toInt).toNat = ra 6 + n := by show _ = 42 + n; omega
      have en2 : (sy_i F2 69).toInt.toNat = n := by omega
      refine yhg_77 (by decide) F2 X1 X2 hq2.1 (by omega) ?_
      intro F3 hb gg a55 f69' i69
      rw [n7, n42, en2] at a55
      refine ih F3 (n + 1) (by omega) (qq_on hq2 hb gg (by decide)) (fun j h => lk_eq (hj2 j h) ⟨?_, ?_, ?_, ?_⟩) (by omega) ?_ (sfS_e hS2 (gg 19 (by decide) (by decide)))
      · rw [nz_fa (gg 56 (by decide) (by decide))]
      · rw [nz_fa (gg 57 (by decide) (by decide))]
      · rw [nz_fa (gg 58 (by decide) (by decide))]
      · rw [nz_fa (gg 59 (by decide) (by decide))]
      · have h1 : gL (nfS T) (nbS T) (jm_upd (sy_ai F2 55) (ra 1 + n) ((sy_ai F2 57).getD n 0)) (znS n (p2S T sd g (n + 1))) := by
          rcases hgd with ⟨w1, w2⟩ | w
          · rw [w1]
            exact gL_sm l7 l4 hG2 (vF (by decide) hn) rfl (by rw [znS_o (Or.inl (by decide))]; exact w2.symm)
          · rw [w, ← znS_up (by decide)]
            exact gL_up l7 l4 hG2 (vF (by decide) hn) rfl
        have h2 := gL_up (v := 0) l7 l4 h1 (vF (a := 6) (i := n) (by decide) hn) rfl
        unfold gRow
        rw [a55]
        intro a i hv
        rw [h2 a i hv]
        by_cases z : a = 6 ∧ i = n
        · obtain ⟨z1, z2⟩ := z
          subst z1
          subst z2
          rw [upS_s]
          exact (if_pos ⟨rfl, by omega⟩).symm
        · rw [upS_o (by omega)]
          unfold znS
          by_cases y : a = 6 ∧ i < n
          · rw [if_pos y, if_pos ⟨y.1, by omega⟩]
          · rw [if_neg y, if_neg (by omega)]
    have how : p2S T sd g n 2 n = p1S T g (nfS T) 2 n := p2_s n 2 n (Nat.le_refl _) (by decide)
    have hp2 : p2S T sd g (n + 1) = stS T sd g (p2S T sd g n) n := rfl
    have rp : p2S T sd g n 1 n = g 1 n := by
      rw [p2_s n 1 n (Nat.le_refl _) (by decide)]
      exact p1_k _ _ _ (by omega)
    refine yhg_50 (by decide) F1 X1 X2 hq.1 (by omega) ?_ ?_ ?_
    · intros
      omega
    · intro c0 c1 F2 hb gg f69 i69
      rw [en, k1] at c1
      have hnf : ¬ ((g 2 n).toInt = 0 ∧ (lotS sd ((16 : Int32) * g 9 0 + Int32.ofInt n)).toInt < flS T g n) := fun z => by
        rw [if_pos z] at c1
        exact absurd c1 (by decide)
      have a57 : (sy_ai F2 57).getD n 0 = (sy_ai F1 57).getD n 0 := by rw [nz_fa (gg 57 (by decide) (by decide))]
      have hst : p2S T sd g (n + 1) = p2S T sd g n ∧ p2S T sd g n 1 n = (sy_ai F2 57).getD n 0 ∨ p2S T sd g (n + 1) = upS (p2S T sd g n) 1 n ((sy_ai F2 57).getD n 0) := by
        rw [a57, k2, hp2]
        unfold stS
        by_cases z : (g 2 n).toInt = 0
        · right
          rw [if_pos z, if_neg (fun w => hnf ⟨z, w⟩), if_pos ⟨z, fun w => hnf ⟨z, w⟩⟩]
        · left
          rw [if_neg z, if_neg (fun w => z w.1)]
          exact ⟨rfl, rp⟩
      refine fin F2 (p2S T sd g n) (qq_on hq hb gg (by decide)) (fun j h => lk_eq (hj j h) ⟨?_, ?_, ?_, ?_⟩) (by omega) (gRow_e hG (nz_fa (gg 55 (by decide) (by decide)))) ?_ hst
      · rw [nz_fa (gg 56 (by decide) (by decide))]
      · rw [nz_fa (gg 57 (by decide) (by decide))]
      · rw [nz_fa (gg 58 (by decide) (by decide))]
      · rw [nz_fa (gg 59 (by decide) (by decide))]
      · refine sfS_e ?_ (gg 19 (by decide) (by decide))
        have : nmS (p2S T sd g (n + 1)) 2 (nfS T) = nmS (p2S T sd g n) 2 (nfS T) := nm_cg _ (fun i _ => by
          rcases hst with ⟨w, -⟩ | w
          · rw [w]
          · rw [w, upS_o (Or.inl (by decide))])
        rw [this]
        exact hS
    · intro c0 c1 F2 hb gg f69 i69
      rw [en, k1] at c1
      have hf : (g 2 n).toInt = 0 ∧ (lotS sd ((16 : Int32) * g 9 0 + Int32.ofInt n)).toInt < flS T g n := by
        by_cases z : (g 2 n).toInt = 0 ∧ (lotS sd ((16 : Int32) * g 9 0 + Int32.ofInt n)).toInt < flS T g n
        · exact z
        · rw [if_neg z] at c1
          exact absurd (by decide) c1
      obtain ⟨h0, hl⟩ := hf
      have q2 : qR W9 F F2 := qq_on hq hb gg (by decide)
      have en2 : (sy_i F2 69).toInt.toNat = n := by omega
      have w58 := k3 (by omega)
      have w59 := k4 h0
      have hx : znS n (p2S T sd g n) 0 n = Int32.ofInt (tF T n).1 := by
        rw [znS_o (Or.inl (by decide)), p2_s n 0 n (Nat.le_refl _) (by decide), p1_k _ _ _ (by omega)]
        exact (hO.2.1 n hn h0).2
      have hO2 : okS T (znS n (p2S T sd g n)) := by
        refine ⟨fun b hb => ?_, fun f hf z => ?_, fun f hf => ?_, ?_⟩
        · rw [znS_o (Or.inl (by decide)), p2_k _ _ _ (by omega)]
          exact hO.1 b hb
        · rw [znS_o (Or.inl (by decide))] at z
          obtain ⟨y1, y2, y3⟩ := (p2_h n f).1 z
          rw [znS_o (Or.inl (by decide)), znS_o (Or.inl (by decide)), y2, y3]
          exact hO.2.1 f hf y1
        · rw [znS_o (Or.inl (by decide))]
          exact (p2_h n f).2 (hO.2.2.1 f hf)
        · rw [znS_o (Or.inl (by decide)), znS_o (Or.inl (by decide)), p2_k _ _ _ (by omega), p2_k _ _ _ (by omega)]
          exact hO.2.2.2
      have how0 : (p2S T sd g n 2 n).toInt = 0 := by
        rw [how]
        exact (p1_h (nfS T) n).1.mpr h0
      refine hd_calV (R := fun F' => qR [19, 55] F2 F' ∧ gRow T F' (fallS T (znS n (p2S T sd g n)) (sy_i F2 69).toInt.toNat (Int32.ofInt (woS T g n)) (Int32.ofInt (bnS T g n)).toInt) ∧ (0 ≤ (nrS T (znS n (p2S T sd g n)) (tF T (sy_i F2 69).toInt.toNat).1 (Int32.ofInt (woS T g n)).toInt (nbS T)).1 → (sy_i F' 19).toInt = 1) ∧ ((nrS T (znS n (p2S T sd g n)) (tF T (sy_i F2 69).toInt.toNat).1 (Int32.ofInt (woS T g n)).toInt (nbS T)).1 < 0 → F' 19 = F2 19)) (nh := 69) (nv := 70) (s := 4) (s1 := 4) (d1 := 3) (M1 := jm_M191) (As := [.inl (.ref 1000), .inr (.inl 69)]) (rest := []) jm_ok192 rfl rfl (by decide) (by decide +kernel) (fa_V F2 X1 X2 (cR_q hC q2 (by decide)) (gRow_e hG (nz_fa (gg 55 (by decide) (by decide)))) hO2 (by show 0 ≤ _ ∧ _ < (nfS T : Int); omega) (by rw [en2]; exact hx) (by rw [en2, nz_fa (gg 58 (by decide) (by decide))]; exact w58) (by rw [en2, nz_fa (gg 59 (by decide) (by decide))]; exact w59)) (fun F3 F' hR p1 p2 => ?_)
      obtain ⟨r1, r2, r3, r4⟩ := hR
      rw [en2] at r2 r3 r4
      have eb : (Int32.ofInt (bnS T g n)).toInt = bnS T g n := by
        have := lwT_in T 4 (vrs (g 1 n) (Int32.ofInt (tF T n).2.1) (g 9 0) 0 (Int32.ofInt (tF T n).1) 0 0 0 (lfS T g))
        have hb1 : -9 ≤ bnS T g n ∧ bnS T g n ≤ 9 := this
        rw [Int32.toInt_ofInt_of_le (by omega) (by omega)]
      rw [eb, znS_fall] at r2
      have enr := nr_cg (T := T) (g := znS n (p2S T sd g n)) (g' := p2S T sd g n) (x := (tF T n).1) (c := (Int32.ofInt (woS T g n)).toInt) (fun i => znS_o (Or.inl (by decide))) (fun i => znS_o (Or.inl (by decide))) (nbS T)
      rw [enr] at r3 r4
      have r1' : qR [19, 55] F2 F3 := qR_dst r1 p1
      have hst : p2S T sd g (n + 1) = fallS T (p2S T sd g n) n (Int32.ofInt (woS T g n)) (bnS T g n) := by
        rw [hp2]
        unfold stS
        rw [if_pos h0, if_pos hl]
      refine fin F3 _ (qq_trans q2 (qq_up r1' (by decide))) (fun j h => lk_eq (hj j h) ⟨?_, ?_, ?_, ?_⟩) (by rw [nz_fi (p2 69 (by decide) (by decide))]; omega) (gRow_e r2 (nz_fa (p1 55 (by decide)))) ?_ (Or.inl ⟨hst, ?_⟩)
      · rw [qq_a r1' (by decide) (by decide), nz_fa (gg 56 (by decide) (by decide))]
      · rw [qq_a r1' (by decide) (by decide), nz_fa (gg 57 (by decide) (by decide))]
      · rw [qq_a r1' (by decide) (by decide), nz_fa (gg 58 (by decide) (by decide))]
      · rw [qq_a r1' (by decide) (by decide), nz_fa (gg 59 (by decide) (by decide))]
      · obtain ⟨m1, m2⟩ := nm_fall (T := T) (g := p2S T sd g n) (f := n) (c := Int32.ofInt (woS T g n)) (bn := bnS T g n) hn how0
        have e19 : (sy_i F3 19).toInt = (sy_i F' 19).toInt := nz_fi (p1 19 (by decide))
        have e19b : (sy_i F2 19).toInt = (sy_i F1 19).toInt := nz_fi (gg 19 (by decide) (by decide))
        rw [hst]
        by_cases z : 0 ≤ (nrS T (p2S T sd g n) (tF T n).1 (Int32.ofInt (woS T g n)).toInt (nbS T)).1
        · rw [m1 z]
          left
          refine ⟨by rw [e19]; exact r3 z, ?_⟩
          rcases hS with ⟨-, s2⟩ | ⟨-, s2⟩ <;> omega
        · rw [m2 (by omega)]
          have := nz_fi (r4 (by omega))
          rcases hS with ⟨s1, s2⟩ | ⟨s1, s2⟩
          · exact Or.inl ⟨by omega, s2⟩
          · exact Or.inr ⟨by omega, s2⟩
      · rw [fallS_o (Or.inl (by decide)) (by decide), rp, qq_a r1' (by decide) (by decide), nz_fa (gg 57 (by decide) (by decide)), k2, if_neg (fun w => w.2 hl)]
end HG
end
section
/-! ===== the reference: an hour from its beginning ===== -/
section HH
variable {Ls : Nat} {xs : Nat → Int32} {T : tX} {g : gS} {sd : Int32} (F : Nat → sy_d) (X1 X2 : List jm_c)
theorem hg_11 (hC : cR T F) (hO : okS T g) : ∀ (m : Nat) (F1 : Nat → sy_d) (n : Nat), n + m = nfS T → qR W9 F F1 → (∀ j, j < nfS T → lkS T sd g F1 j) → (sy_i F1 69).toInt = n → gRow T F1 (p1S T g n) → sfS F1 (nmS g 2 (nfS T)) (nmS (p1S T g n) 2 (nfS T)) →
    hd_W Ls xs 7 jm_M192 (pV 4 X1 X2 (hgP T sd g F)) (11, sy_dL F1 [some (.inl (.ref 1000)), some (.inr (.inl 69))], sy_dS F1 [], sy_dh F1 X1 X2 (iv_H 4), 0, 0) := by
  have l7 : nfS T ≤ 7 := hC.2.2.1.1
  have l4 : nbS T ≤ 4 := hC.2.2.1.2.1
  have en31 : ((sy_ai F 31).getD (sy_i F 11).toInt.toNat 0).toInt = (nfS T : Int) := (rX_n hC.2.1).1
  intro m
  induction m with
  | zero =>
    intro F1 n hm hq hj e69 hG hS
    have e31 : ((sy_ai F1 31).getD (sy_i F1 11).toInt.toNat 0).toInt = (nfS T : Int) := by rw [qq_a hq (by decide) (by decide), qq_i hq (j := 11) (by decide) (by decide)]; exact en31
    have hn : n = nfS T := by omega
    subst hn
    refine yhg_11 (by decide) F1 X1 X2 hq.1 (by omega) ?_ ?_ ?_
    · intro c0 F2 hb gg f69 i69
      refine hg_50 F X1 X2 hC hO (nfS T) F2 0 (by omega) (qq_on hq hb gg (by decide)) (fun j h => lk_eq (hj j h) ⟨?_, ?_, ?_, ?_⟩) f69 ?_ (sfS_e hS (gg 19 (by decide) (by decide)))
      · rw [nz_fa (gg 56 (by decide) (by decide))]
      · rw [nz_fa (gg 57 (by decide) (by decide))]
      · rw [nz_fa (gg 58 (by decide) (by decide))]
      · rw [nz_fa (gg 59 (by decide) (by decide))]
      · rw [znS_0]
        exact gRow_e hG (nz_fa (gg 55 (by decide) (by decide)))
    · intros
      omega
    · intros
      omega
  | succ m ih =>
    intro F1 n hm hq hj e69 hG hS
    have hn : n < nfS T := by omega
    have e31 : ((sy_ai F1 31).getD (sy_i F1 11).toInt.toNat 0).toInt = (nfS T : Int) := by rw [qq_a hq (by decide) (by decide), qq_i hq (j := 11) (by decide) (by decide)]; exact en31
    have n14 : (14 + (sy_i F1 69).toInt).toNat = ra 2 + n := by show _ = 14 + n; omega
    have r14 : (sy_ai F1 55).getD (14 + (sy_i F1 69).toInt).toNat 0 = p1S T g n 2 n := by
      rw [n14]
      exact hG 2 n (vF (by decide) hn)
    have h2n : p1S T g n 2 n = g 2 n := p1_s n 2 n (Nat.le_refl _) (by decide)
    refine yhg_11 (by decide) F1 X1 X2 hq.1 (by omega) ?_ ?_ ?_
    · intros
      omega
    · intro c0 c1 F2 hb gg f69 i69
      rw [r14] at c1
      have hp : p1S T g (n + 1) = p1S T g n := by
        show (if _ then _ else _) = _
        rw [if_neg c1]
      refine ih F2 (n + 1) (by omega) (qq_on hq hb gg (by decide)) (fun j h => lk_eq (hj j h) ⟨?_, ?_, ?_, ?_⟩) (by omega) ?_ ?_
      · rw [nz_fa (gg 56 (by decide) (by decide))]
      · rw [nz_fa (gg 57 (by decide) (by decide))]
      · rw [nz_fa (gg 58 (by decide) (by decide))]
      · rw [nz_fa (gg 59 (by decide) (by decide))]
      · rw [hp]
        exact gRow_e hG (nz_fa (gg 55 (by decide) (by decide)))
      · rw [hp]
        exact sfS_e hS (gg 19 (by decide) (by decide))
    · intro c0 c1 F2 hb gg f69 i69
      rw [r14] at c1
      have hp : p1S T g (n + 1) = lieS T (p1S T g n) n (Int32.ofInt (woS T g n)) := by
        show (if _ then _ else _) = _
        rw [if_pos c1]
      have q2 : qR W9 F F2 := qq_on hq hb gg (by decide)
      have en2 : (sy_i F2 69).toInt.toNat = n := by omega
      have w58 := (hj n hn).2.2.1 (by rw [← h2n]; omega)
      refine hd_calV (R := fun F' => qR [19, 55] F2 F' ∧ gRow T F' (lieS T (p1S T g n) (sy_i F2 69).toInt.toNat (Int32.ofInt (woS T g n))) ∧ (0 ≤ fsS (p1S T g n) (p1S T g n 0 (sy_i F2 69).toInt.toNat) (Int32.ofInt (woS T g n)).toInt (nbS T) → (sy_i F' 19).toInt = 1) ∧ (fsS (p1S T g n) (p1S T g n 0 (sy_i F2 69).toInt.toNat) (Int32.ofInt (woS T g n)).toInt (nbS T) < 0 → F' 19 = F2 19)) (nh := 69) (nv := 70) (s := 4) (s1 := 4) (d1 := 2) (M1 := jm_M190) (As := [.inl (.ref 1000), .inr (.inl 69)]) (rest := []) jm_ok192 rfl rfl (by decide) (by decide +kernel) (li_V F2 X1 X2 (cR_q hC q2 (by decide)) (gRow_e hG (nz_fa (gg 55 (by decide) (by decide)))) (by omega) (by rw [en2, nz_fa (gg 58 (by decide) (by decide))]; exact w58)) (fun F3 F' hR p1 p2 => ?_)
      obtain ⟨r1, r2, r3, r4⟩ := hR
      rw [en2] at r2 r3 r4
      have r1' : qR [19, 55] F2 F3 := qR_dst r1 p1
      have q3 : qR W9 F F3 := qq_trans q2 (qq_up r1' (by decide))
      refine yhg_42 (by decide) F3 X1 X2 q3.1 (by rw [nz_fi (p2 69 (by decide) (by decide))]; omega) ?_
      intro F4 hb4 g4 h69 k69
      refine ih F4 (n + 1) (by omega) (qq_on q3 hb4 g4 (by decide)) (fun j h => lk_eq (hj j h) ⟨?_, ?_, ?_, ?_⟩) (by rw [h69, nz_fi (p2 69 (by decide) (by decide))]; omega) ?_ ?_
      · rw [nz_fa (g4 56 (by decide) (by decide)), qq_a r1' (by decide) (by decide), nz_fa (gg 56 (by decide) (by decide))]
      · rw [nz_fa (g4 57 (by decide) (by decide)), qq_a r1' (by decide) (by decide), nz_fa (gg 57 (by decide) (by decide))]
      · rw [nz_fa (g4 58 (by decide) (by decide)), qq_a r1' (by decide) (by decide), nz_fa (gg 58 (by decide) (by decide))]
      · rw [nz_fa (g4 59 (by decide) (by decide)), qq_a r1' (by decide) (by decide), nz_fa (gg 59 (by decide) (by decide))]
      · rw [hp]
        exact gRow_e r2 ((nz_fa (g4 55 (by decide) (by decide))).trans (nz_fa (p1 55 (by decide))))
      · refine sfS_e ?_ (g4 19 (by decide) (by decide))
        obtain ⟨m1, m2⟩ := nm_lie (T := T) (g := p1S T g n) (f := n) (c := Int32.ofInt (woS T g n)) hn c1
        have e19 : (sy_i F3 19).toInt = (sy_i F' 19).toInt := nz_fi (p1 19 (by decide))
        have e19b : (sy_i F2 19).toInt = (sy_i F1 19).toInt := nz_fi (gg 19 (by decide) (by decide))
        rw [hp]
        by_cases z : 0 ≤ fsS (p1S T g n) (p1S T g n 0 n) (Int32.ofInt (woS T g n)).toInt (nbS T)
        · rw [m1 z]
          left
          refine ⟨by rw [e19]; exact r3 z, ?_⟩
          rcases hS with ⟨-, s2⟩ | ⟨-, s2⟩ <;> omega
        · rw [m2 (by omega)]
          have := nz_fi (r4 (by omega))
          rcases hS with ⟨s1, s2⟩ | ⟨s1, s2⟩
          · exact Or.inl ⟨by omega, s2⟩
          · exact Or.inr ⟨by omega, s2⟩
/-- an hour goes by -/
theorem hg_V (hC : cR T F) (hG : gRow T F g) (hO : okS T g) (hsd : sy_i F 18 = sd) : jm_T Ls xs 7 jm_M192 [.ref 1000] (sy_dh F X1 X2 (iv_H 4)) 0 0 (pV 4 X1 X2 (hgP T sd g F)) := by
  refine R_T [] [.inl (.ref 1000)] jm_ok192 (by decide) rfl (fun F0 k0 ki => ?_)
  refine yhg_0 (by decide) F0 X1 X2 (hd_iveq hC.1 k0) ?_
  intro F1 hb gg
  have q1 : qR [] F F1 := qq_src (qq_mk hb gg (by decide)) k0
  refine hd_calV (R := fun F' => qR W7 F1 F' ∧ ∀ j, j < nfS T → lkS T sd g F' j) (nh := 69) (nv := 69) (s := 4) (s1 := 4) (d1 := 6) (M1 := jm_M189) (As := [.inl (.ref 1000)]) (rest := []) jm_ok192 rfl rfl (by decide) (by decide +kernel) (lo_V F1 X1 X2 (cR_q hC q1 (by decide)) (gRow_e hG (qq_a q1 (by decide) (by decide))) hO ((qq_i q1 (by decide) (by decide)).trans hsd)) (fun F3 F' hR p1 p2 => ?_)
  obtain ⟨r1, r2⟩ := hR
  have q3 : qR W7 F F3 := qq_trans (qq_up q1 (by decide)) (qR_dst r1 p1)
  refine yhg_4 (by decide) F3 X1 X2 q3.1 ?_
  intro F4 hb4 g4 e19 i19 e69 i69
  refine hg_11 F X1 X2 hC hO (nfS T) F4 0 (by omega) (qq_on (qq_up q3 (by decide)) hb4 g4 (by decide)) (fun j h => lk_eq (r2 j h) ⟨?_, ?_, ?_, ?_⟩) e69 ?_ (Or.inr ⟨e19, rfl⟩)
  · rw [nz_fa (g4 56 (by decide) (by decide)), nz_fa (p1 56 (by decide))]
  · rw [nz_fa (g4 57 (by decide) (by decide)), nz_fa (p1 57 (by decide))]
  · rw [nz_fa (g4 58 (by decide) (by decide)), nz_fa (p1 58 (by decide))]
  · rw [nz_fa (g4 59 (by decide) (by decide)), nz_fa (p1 59 (by decide))]
  · exact gRow_e hG ((nz_fa (g4 55 (by decide) (by decide))).trans (qq_a q3 (by decide) (by decide)))
/-- hours go by -/
theorem go_L (hC : cR T F) (hO : okS T g) (hsd : sy_i F 18 = sd) {N : Nat} (hN : N ≤ 200) : ∀ (m : Nat) (F1 : Nat → sy_d) (n : Nat), n + m = N → qR W9 F F1 → (sy_i F1 69).toInt = N → (sy_i F1 70).toInt = n → gRow T F1 (hrsS T sd g n) →
    hd_W Ls xs 8 jm_M193 (pV 4 X1 X2 (fun F' => qR W9 F F' ∧ gRow T F' (hrsS T sd g N))) (2, sy_dL F1 [some (.inl (.ref 1000)), some (.inr (.inl 69)), some (.inr (.inl 70))], sy_dS F1 [], sy_dh F1 X1 X2 (iv_H 4), 0, 0) := by
  intro m
  induction m with
  | zero =>
    intro F1 n hm hq e69 e70 hG
    refine ygo_2 (by decide) F1 X1 X2 hq.1 (by omega) (by omega) ?_ ?_
    · intro c0 F2 hb gg
      refine ⟨F2, rfl, rfl, qq_on hq hb gg (by decide), ?_⟩
      rw [show N = n by omega]
      exact gRow_e hG (nz_fa (gg 55 (by decide) (by decide)))
    · intros
      omega
  | succ m ih =>
    intro F1 n hm hq e69 e70 hG
    refine ygo_2 (by decide) F1 X1 X2 hq.1 (by omega) (by omega) ?_ ?_
    · intros
      omega
    · intro c0 F2 hb gg f69 i69 f70 i70
      have q2 : qR W9 F F2 := qq_on hq hb gg (by decide)
      refine hd_calV (R := hgP T sd (hrsS T sd g n) F2) (nh := 69) (nv := 71) (s := 4) (s1 := 4) (d1 := 7) (M1 := jm_M192) (As := [.inl (.ref 1000)]) (rest := []) jm_ok193 rfl rfl (by decide) (by decide +kernel) (hg_V F2 X1 X2 (cR_q hC q2 (by decide)) (gRow_e hG (nz_fa (gg 55 (by decide) (by decide)))) (okS_hrs hO n) ((qq_i q2 (by decide) (by decide)).trans hsd)) (fun F3 F' hR p1 p2 => ?_)
      obtain ⟨r1, r2, -⟩ := hR
      have q3 : qR W9 F F3 := qq_trans q2 (qR_dst r1 p1)
      refine ygo_11 (by decide) F3 X1 X2 q3.1 (by rw [nz_fi (p2 70 (by decide) (by decide))]; omega) ?_
      intro F4 hb4 g4 h69 k69 h70 k70
      refine ih F4 (n + 1) (by omega) (qq_on q3 hb4 g4 (by decide)) (by rw [h69, nz_fi (p2 69 (by decide) (by decide))]; omega) (by rw [h70, nz_fi (p2 70 (by decide) (by decide))]; omega) ?_
      exact gRow_e r2 ((nz_fa (g4 55 (by decide) (by decide))).trans (nz_fa (p1 55 (by decide))))
theorem go_V (hC : cR T F) (hG : gRow T F g) (hO : okS T g) (hsd : sy_i F 18 = sd) {n : Int32} (hn : 0 ≤ n.toInt ∧ n.toInt ≤ 200) : jm_T Ls xs 8 jm_M193 [.ref 1000, .int n] (sy_dh F X1 X2 (iv_H 4)) 0 0 (pV 4 X1 X2 (fun F' => qR W9 F F' ∧ gRow T F' (hrsS T sd g n.toInt.toNat))) := by
  refine R_T [n] [.inl (.ref 1000), .inr (.inl 69)] jm_ok193 (by decide) rfl (fun F0 k0 ki => ?_)
  have i69 : sy_i F0 69 = n := ki 0
  refine ygo_0 (by decide) F0 X1 X2 (hd_iveq hC.1 k0) ?_
  intro F1 hb gg e69 j69 e70 j70
  have q1 : qR [] F F1 := qq_src (qq_mk hb gg (by decide)) k0
  rw [i69] at e69
  exact go_L F X1 X2 hC hO hsd (by omega) n.toInt.toNat F1 0 (by omega) (qq_up q1 (by decide)) (by omega) e70 (gRow_e hG (qq_a q1 (by decide) (by decide)))
end HH
end
section
/-! ===== the class: what is so on a ground, who catches, who buys, way by way (shape 0, n) ===== -/
theorem j0nbi_0_p0 {Ls : Nat} {xs : Nat → Int32} {d : Nat} {Q : Option Value → jm_h → Prop} (hd : 1 ≤ d) (F : Nat → sy_d) (X1 X2 : List jm_c) (hB : iv_in F iv_B0)
    (k : ∀ F1 : Nat → sy_d, (∀ j, j < 82 → True → F1 j = F j) → F1 82 = .inl (.int (sy_i F 82)) → F1 83 = .inl (.int (sy_i F 83)) → F1 84 = .inl (.int ((0 : Int32))) → F1 85 = .inl (.int ((0 : Int32))) → hd_W Ls xs d jm_M11 Q (5, sy_dL F1 [some (.inl (.ref 46)), some (.inr (.inl 82)), some (.inr (.inl 83)), some (.inr (.inl 84)), some (.inr (.inl 85))], sy_dS F1 [], sy_dh F1 X1 X2 (iv_H 0), 0, 0)) :
    hd_W Ls xs d jm_M11 Q (0, sy_dL F [some (.inl (.ref 46)), some (.inr (.inl 82)), some (.inr (.inl 83)), none, none], sy_dS F [], sy_dh F X1 X2 (iv_H 0), 0, 0) := by
  refine hd_run (s := 0) (nv := 84) (pc := 5) (L := [some (.inl (.ref 46)), some (.inr (.inl 82)), some (.inr (.inl 83)), some (.inr (.inl 84)), some (.inr (.inl 85))]) (S := []) (uh := hd_ov (iv_id 0 iv_B0) []) (ul := [.inl (.inr (.inl 82)), .inl (.inr (.inl 83)), .inl (.inl (.int 0)), .inl (.inl (.int 0))]) (f := true) (sp := [5]) (d0 := 0) (O := []) (T := []) (P := []) jm_ok11 (by decide +kernel) (by decide +kernel) hd F X1 X2 (fun F' hF hs => ?_)
  have b82 := hd_b (F := F) (F' := F') (k := 82) (hF 82 (by decide))
  have b83 := hd_b (F := F) (F' := F') (k := 83) (hF 83 (by decide))
  have hB' : iv_in F' iv_B0 := iv_in_eq hB (fun j hj => hF j (Nat.lt_of_lt_of_le hj (by decide +kernel)))
  refine ⟨fun _ h => absurd h List.not_mem_nil, ?_⟩
  refine k _ ?_ ?_ ?_ ?_ ?_
  · exact fun j hj _ => (hd_keep hB' (Nat.lt_of_lt_of_le hj (by decide +kernel)) (by simp)).trans (hF j (Nat.lt_of_lt_of_le hj (by decide)))
  · exact hd_gi (x := .inr (.inl 82)) (by decide +kernel) b82
  · exact hd_gi (x := .inr (.inl 83)) (by decide +kernel) b83
  · exact hd_gi (x := .inl (.int 0)) (by decide +kernel) rfl
  · exact hd_gi (x := .inl (.int 0)) (by decide +kernel) rfl
theorem j0nbi_0 {Ls : Nat} {xs : Nat → Int32} {d : Nat} {Q : Option Value → jm_h → Prop} (hd : 1 ≤ d) (F : Nat → sy_d) (X1 X2 : List jm_c) (hB : iv_in F iv_B0)
    (k0 : ∀ F1 : Nat → sy_d, iv_in F1 iv_B0 → (∀ j, j < 82 → j ∉ ([] : List Nat) → F1 j = F j) → (sy_i F1 82).toInt = (sy_i F 82).toInt → sy_i F1 82 = sy_i F 82 → (sy_i F1 83).toInt = (sy_i F 83).toInt → sy_i F1 83 = sy_i F 83 → (sy_i F1 84).toInt = 0 → sy_i F1 84 = (0 : Int32) → (sy_i F1 85).toInt = 0 → sy_i F1 85 = (0 : Int32) → hd_W Ls xs d jm_M11 Q (5, sy_dL F1 [some (.inl (.ref 46)), some (.inr (.inl 82)), some (.inr (.inl 83)), some (.inr (.inl 84)), some (.inr (.inl 85))], sy_dS F1 [], sy_dh F1 X1 X2 (iv_H 0), 0, 0)) :
    hd_W Ls xs d jm_M11 Q (0, sy_dL F [some (.inl (.ref 46)), some (.inr (.inl 82)), some (.inr (.inl 83)), none, none], sy_dS F [], sy_dh F X1 X2 (iv_H 0), 0, 0) := by
  exact j0nbi_0_p0 hd F X1 X2 hB  (fun F1 g e82 e83 e84 e85 => k0 F1 (nz_in0 hB [] (fun j hj hn => g j hj (by simp only [List.mem_cons, List.not_mem_nil, or_false, not_or] at hn; exact trivial)) (List.forall_mem_nil _)) (fun j hj hn => g j hj (by simp only [List.mem_cons, List.not_mem_nil, or_false, not_or] at hn; exact trivial)) ((congrArg Int32.toInt (zz_i e82)).trans (rfl : (sy_i F 82).toInt = (sy_i F 82).toInt)) ((zz_i e82).trans (rfl : sy_i F 82 = sy_i F 82)) ((congrArg Int32.toInt (zz_i e83)).trans (rfl : (sy_i F 83).toInt = (sy_i F 83).toInt)) ((zz_i e83).trans (rfl : sy_i F 83 = sy_i F 83)) ((congrArg Int32.toInt (zz_i e84)).trans (by decide : ((0 : Int32)).toInt = 0)) ((zz_i e84).trans (rfl : (0 : Int32) = (0 : Int32))) ((congrArg Int32.toInt (zz_i e85)).trans (by decide : ((0 : Int32)).toInt = 0)) ((zz_i e85).trans (rfl : (0 : Int32) = (0 : Int32))))
theorem j0nbi_5_p0 {Ls : Nat} {xs : Nat → Int32} {d : Nat} {Q : Option Value → jm_h → Prop} (hd : 1 ≤ d) (F : Nat → sy_d) (X1 X2 : List jm_c) (hB : iv_in F iv_B0)
    (h0 : (sy_i F 83).toInt ≤ (sy_i F 85).toInt)
    (k : ∀ F1 : Nat → sy_d, (∀ j, j < 82 → True → F1 j = F j) → Q (some (.int (sy_i F 84))) (sy_dh F1 X1 X2 (iv_H 0))) :
    hd_W Ls xs d jm_M11 Q (5, sy_dL F [some (.inl (.ref 46)), some (.inr (.inl 82)), some (.inr (.inl 83)), some (.inr (.inl 84)), some (.inr (.inl 85))], sy_dS F [], sy_dh F X1 X2 (iv_H 0), 0, 0) := by
  refine hd_ret (s := 0) (nv := 86) (v := some (.inr (.inl 84))) (uh := hd_ov (iv_id 0 iv_B0) []) (f := true) (sp := [5]) (d0 := 0) (O := [true]) (T := []) (P := [(4, .inr (.inl 83), .inr (.inl 85))]) jm_ok11 (by decide +kernel) (by decide +kernel) hd F X1 X2 (fun F' hF hs => ?_)
  have b83 := hd_b (F := F) (F' := F') (k := 83) (hF 83 (by decide))
  have b85 := hd_b (F := F) (F' := F') (k := 85) (hF 85 (by decide))
  have b84 := hd_b (F := F) (F' := F') (k := 84) (hF 84 (by decide))
  have hB' : iv_in F' iv_B0 := iv_in_eq hB (fun j hj => hF j (Nat.lt_of_lt_of_le hj (by decide +kernel)))
  have hk := k (sy_cm F' (hd_ov (iv_id 0 iv_B0) [] ++ [])) (fun j hj _ => (hd_keep hB' (Nat.lt_of_lt_of_le hj (by decide +kernel)) (by simp)).trans (hF j (Nat.lt_of_lt_of_le hj (by decide))))
  refine ⟨List.forall_mem_cons.mpr ⟨hd_p4 b83 b85 h0, fun _ h => absurd h List.not_mem_nil⟩, ?_⟩
  show Q (some (sy_dv F' (.inr (.inl 84)))) _
  rw [b84]
  exact hk
theorem j0nbi_5_p1 {Ls : Nat} {xs : Nat → Int32} {d : Nat} {Q : Option Value → jm_h → Prop} (hd : 1 ≤ d) (F : Nat → sy_d) (X1 X2 : List jm_c) (hB : iv_in F iv_B0)
    (h0 : (sy_i F 85).toInt < (sy_i F 83).toInt)
    (h1 : (sy_i F 85).toInt < 7)
    (h2 : 0 ≤ (sy_i F 85).toInt ∧ (sy_i F 85).toInt < 7)
    (h3 : ((sy_ai F 54).getD (sy_i F 85).toNatClampNeg 0).toInt ≠ (sy_i F 82).toInt)
    (k : ∀ F1 : Nat → sy_d, (∀ j, j < 82 → True → F1 j = F j) → F1 82 = .inl (.int (sy_i F 82)) → F1 83 = .inl (.int (sy_i F 83)) → F1 84 = .inl (.int (sy_i F 84)) → F1 85 = .inl (.int ((sy_i F 85) + ((1 : Int32)))) → hd_W Ls xs d jm_M11 Q (5, sy_dL F1 [some (.inl (.ref 46)), some (.inr (.inl 82)), some (.inr (.inl 83)), some (.inr (.inl 84)), some (.inr (.inl 85))], sy_dS F1 [], sy_dh F1 X1 X2 (iv_H 0), 0, 0)) :
    hd_W Ls xs d jm_M11 Q (5, sy_dL F [some (.inl (.ref 46)), some (.inr (.inl 82)), some (.inr (.inl 83)), some (.inr (.inl 84)), some (.inr (.inl 85))], sy_dS F [], sy_dh F X1 X2 (iv_H 0), 0, 0) := by
  refine hd_run (s := 0) (nv := 86) (pc := 5) (L := [some (.inl (.ref 46)), some (.inr (.inl 82)), some (.inr (.inl 83)), some (.inr (.inl 84)), some (.inr (.inl 85))]) (S := []) (uh := hd_ov (iv_id 0 iv_B0) []) (ul := [.inl (.inr (.inl 82)), .inl (.inr (.inl 83)), .inl (.inr (.inl 84)), .inl (.inr (.inl 87))]) (f := true) (sp := [5]) (d0 := 0) (O := [false, false, true]) (T := [(30, [.inr (.inl 85)], [.inr (.inl 54)]), (0, [.inr (.inl 85), .inl (.int 1)], [])]) (P := [(5, .inr (.inl 83), .inr (.inl 85)), (5, .inl (.int 7), .inr (.inl 85)), (6, .inr (.inl 85), .inl (.ref 7)), (1, .inr (.inl 86), .inr (.inl 82))]) jm_ok11 (by decide +kernel) (by decide +kernel) hd F X1 X2 (fun F' hF hs => ?_)
  have b83 := hd_b (F := F) (F' := F') (k := 83) (hF 83 (by decide))
  have b85 := hd_b (F := F) (F' := F') (k := 85) (hF 85 (by decide))
  have a54 := hd_ba (F := F) (F' := F') (k := 54) (hF 54 (by decide))
  have t86 : sy_dv F' (.inr (.inl 86)) = .int ((sy_ai F 54).getD (sy_i F 85).toNatClampNeg 0) := hd_rd (hs 0 _ rfl) b85 a54
  have b82 := hd_b (F := F) (F' := F') (k := 82) (hF 82 (by decide))
  have b84 := hd_b (F := F) (F' := F') (k := 84) (hF 84 (by decide))
  have t87 : sy_dv F' (.inr (.inl 87)) = .int ((sy_i F 85) + ((1 : Int32))) := hd_o (hs 1 _ rfl) b85 rfl rfl
  have hB' : iv_in F' iv_B0 := iv_in_eq hB (fun j hj => hF j (Nat.lt_of_lt_of_le hj (by decide +kernel)))
  refine ⟨List.forall_mem_cons.mpr ⟨hd_p5 b83 b85 h0, List.forall_mem_cons.mpr ⟨hd_p5 rfl b85 (by have hc : ((7) : Int32).toInt = 7 := (by decide); omega), List.forall_mem_cons.mpr ⟨hd_pb b85 (by first | exact h2 | exact h2), List.forall_mem_cons.mpr ⟨hd_p1 t86 b82 h3, fun _ h => absurd h List.not_mem_nil⟩⟩⟩⟩, ?_⟩
  refine k _ ?_ ?_ ?_ ?_ ?_
  · exact fun j hj _ => (hd_keep hB' (Nat.lt_of_lt_of_le hj (by decide +kernel)) (by simp)).trans (hF j (Nat.lt_of_lt_of_le hj (by decide)))
  · exact hd_gi (x := .inr (.inl 82)) (by decide +kernel) b82
  · exact hd_gi (x := .inr (.inl 83)) (by decide +kernel) b83
  · exact hd_gi (x := .inr (.inl 84)) (by decide +kernel) b84
  · exact hd_gi (x := .inr (.inl 87)) (by decide +kernel) t87
theorem j0nbi_5_p2 {Ls : Nat} {xs : Nat → Int32} {d : Nat} {Q : Option Value → jm_h → Prop} (hd : 1 ≤ d) (F : Nat → sy_d) (X1 X2 : List jm_c) (hB : iv_in F iv_B0)
    (h0 : (sy_i F 85).toInt < (sy_i F 83).toInt)
    (h1 : (sy_i F 85).toInt < 7)
    (h2 : 0 ≤ (sy_i F 85).toInt ∧ (sy_i F 85).toInt < 7)
    (h3 : ((sy_ai F 54).getD (sy_i F 85).toNatClampNeg 0).toInt = (sy_i F 82).toInt)
    (k : ∀ F1 : Nat → sy_d, (∀ j, j < 82 → True → F1 j = F j) → F1 82 = .inl (.int (sy_i F 82)) → F1 83 = .inl (.int (sy_i F 83)) → F1 84 = .inl (.int ((sy_i F 84) ||| (((1 : Int32)) <<< ((sy_i F 85) &&& 31)))) → F1 85 = .inl (.int ((sy_i F 85) + ((1 : Int32)))) → hd_W Ls xs d jm_M11 Q (5, sy_dL F1 [some (.inl (.ref 46)), some (.inr (.inl 82)), some (.inr (.inl 83)), some (.inr (.inl 84)), some (.inr (.inl 85))], sy_dS F1 [], sy_dh F1 X1 X2 (iv_H 0), 0, 0)) :
    hd_W Ls xs d jm_M11 Q (5, sy_dL F [some (.inl (.ref 46)), some (.inr (.inl 82)), some (.inr (.inl 83)), some (.inr (.inl 84)), some (.inr (.inl 85))], sy_dS F [], sy_dh F X1 X2 (iv_H 0), 0, 0) := by
  refine hd_run (s := 0) (nv := 86) (pc := 5) (L := [some (.inl (.ref 46)), some (.inr (.inl 82)), some (.inr (.inl 83)), some (.inr (.inl 84)), some (.inr (.inl 85))]) (S := []) (uh := hd_ov (iv_id 0 iv_B0) []) (ul := [.inl (.inr (.inl 82)), .inl (.inr (.inl 83)), .inl (.inr (.inl 88)), .inl (.inr (.inl 89))]) (f := true) (sp := [5]) (d0 := 0) (O := [false, false, false]) (T := [(30, [.inr (.inl 85)], [.inr (.inl 54)]), (6, [.inl (.int 1), .inr (.inl 85)], []), (4, [.inr (.inl 84), .inr (.inl 87)], []), (0, [.inr (.inl 85), .inl (.int 1)], [])]) (P := [(5, .inr (.inl 83), .inr (.inl 85)), (5, .inl (.int 7), .inr (.inl 85)), (6, .inr (.inl 85), .inl (.ref 7)), (0, .inr (.inl 86), .inr (.inl 82))]) jm_ok11 (by decide +kernel) (by decide +kernel) hd F X1 X2 (fun F' hF hs => ?_)
  have b83 := hd_b (F := F) (F' := F') (k := 83) (hF 83 (by decide))
  have b85 := hd_b (F := F) (F' := F') (k := 85) (hF 85 (by decide))
  have a54 := hd_ba (F := F) (F' := F') (k := 54) (hF 54 (by decide))
  have t86 : sy_dv F' (.inr (.inl 86)) = .int ((sy_ai F 54).getD (sy_i F 85).toNatClampNeg 0) := hd_rd (hs 0 _ rfl) b85 a54
  have b82 := hd_b (F := F) (F' := F') (k := 82) (hF 82 (by decide))
  have b84 := hd_b (F := F) (F' := F') (k := 84) (hF 84 (by decide))
  have t87 : sy_dv F' (.inr (.inl 87)) = .int (((1 : Int32)) <<< ((sy_i F 85) &&& 31)) := hd_o (hs 1 _ rfl) rfl b85 rfl
  have t88 : sy_dv F' (.inr (.inl 88)) = .int ((sy_i F 84) ||| (((1 : Int32)) <<< ((sy_i F 85) &&& 31))) := hd_o (hs 2 _ rfl) b84 t87 rfl
  have t89 : sy_dv F' (.inr (.inl 89)) = .int ((sy_i F 85) + ((1 : Int32))) := hd_o (hs 3 _ rfl) b85 rfl rfl
  have hB' : iv_in F' iv_B0 := iv_in_eq hB (fun j hj => hF j (Nat.lt_of_lt_of_le hj (by decide +kernel)))
  refine ⟨List.forall_mem_cons.mpr ⟨hd_p5 b83 b85 h0, List.forall_mem_cons.mpr ⟨hd_p5 rfl b85 (by have hc : ((7) : Int32).toInt = 7 := (by decide); omega), List.forall_mem_cons.mpr ⟨hd_pb b85 (by first | exact h2 | exact h2), List.forall_mem_cons.mpr ⟨hd_p0 t86 b82 h3, fun _ h => absurd h List.not_mem_nil⟩⟩⟩⟩, ?_⟩
  refine k _ ?_ ?_ ?_ ?_ ?_
  · exact fun j hj _ => (hd_keep hB' (Nat.lt_of_lt_of_le hj (by decide +kernel)) (by simp)).trans (hF j (Nat.lt_of_lt_of_le hj (by decide)))
  · exact hd_gi (x := .inr (.inl 82)) (by decide +kernel) b82
  · exact hd_gi (x := .inr (.inl 83)) (by decide +kernel) b83
  · exact hd_gi (x := .inr (.inl 88)) (by decide +kernel) t88
  · exact hd_gi (x := .inr (.inl 89)) (by decide +kernel) t89
theorem j0nbi_5 {Ls : Nat} {xs : Nat → Int32} {d : Nat} {Q : Option Value → jm_h → Prop} (hd : 1 ≤ d) (F : Nat → sy_d) (X1 X2 : List jm_c) (hB : iv_in F iv_B0)
    (a83 : 0 ≤ (sy_i F 83).toInt ∧ (sy_i F 83).toInt ≤ 7)
    (a85 : 0 ≤ (sy_i F 85).toInt ∧ (sy_i F 85).toInt ≤ 7)
    (k0 : (sy_i F 83).toInt ≤ (sy_i F 85).toInt → ∀ F1 : Nat → sy_d, iv_in F1 iv_B0 → (∀ j, j < 82 → j ∉ ([] : List Nat) → F1 j = F j) → Q (some (.int (sy_i F 84))) (sy_dh F1 X1 X2 (iv_H 0)))
    (k1 : (sy_i F 85).toInt < (sy_i F 83).toInt → (sy_i F 85).toInt < 7 → ((sy_ai F 54).getD ((sy_i F 85).toInt).toNat 0).toInt ≠ (sy_i F 82).toInt → ∀ F1 : Nat → sy_d, iv_in F1 iv_B0 → (∀ j, j < 82 → j ∉ ([] : List Nat) → F1 j = F j) → (sy_i F1 82).toInt = (sy_i F 82).toInt → sy_i F1 82 = sy_i F 82 → (sy_i F1 83).toInt = (sy_i F 83).toInt → sy_i F1 83 = sy_i F 83 → (sy_i F1 84).toInt = (sy_i F 84).toInt → sy_i F1 84 = sy_i F 84 → (sy_i F1 85).toInt = ((sy_i F 85).toInt + 1) → sy_i F1 85 = (sy_i F 85) + ((1 : Int32)) → hd_W Ls xs d jm_M11 Q (5, sy_dL F1 [some (.inl (.ref 46)), some (.inr (.inl 82)), some (.inr (.inl 83)), some (.inr (.inl 84)), some (.inr (.inl 85))], sy_dS F1 [], sy_dh F1 X1 X2 (iv_H 0), 0, 0))
    (k2 : (sy_i F 85).toInt < (sy_i F 83).toInt → (sy_i F 85).toInt < 7 → ((sy_ai F 54).getD ((sy_i F 85).toInt).toNat 0).toInt = (sy_i F 82).toInt → ∀ F1 : Nat → sy_d, iv_in F1 iv_B0 → (∀ j, j < 82 → j ∉ ([] : List Nat) → F1 j = F j) → (sy_i F1 82).toInt = (sy_i F 82).toInt → sy_i F1 82 = sy_i F 82 → (sy_i F1 83).toInt = (sy_i F 83).toInt → sy_i F1 83 = sy_i F 83 → (sy_i F1 84).toInt = ((sy_i F 84) ||| (((1 : Int32)) <<< ((sy_i F 85) &&& 31))).toInt → sy_i F1 84 = (sy_i F 84) ||| (((1 : Int32)) <<< ((sy_i F 85) &&& 31)) → (sy_i F1 85).toInt = ((sy_i F 85).toInt + 1) → sy_i F1 85 = (sy_i F 85) + ((1 : Int32)) → hd_W Ls xs d jm_M11 Q (5, sy_dL F1 [some (.inl (.ref 46)), some (.inr (.inl 82)), some (.inr (.inl 83)), some (.inr (.inl 84)), some (.inr (.inl 85))], sy_dS F1 [], sy_dh F1 X1 X2 (iv_H 0), 0, 0)) :
    hd_W Ls xs d jm_M11 Q (5, sy_dL F [some (.inl (.ref 46)), some (.inr (.inl 82)), some (.inr (.inl 83)), some (.inr (.inl 84)), some (.inr (.inl 85))], sy_dS F [], sy_dh F X1 X2 (iv_H 0), 0, 0) := by
  by_cases g0 : (sy_i F 83).toInt ≤ (sy_i F 85).toInt
  · exact j0nbi_5_p0 hd F X1 X2 hB (by first | exact g0 | (simp only [nz_c]; exact g0)) (fun F1 g  => by rw [(rfl : sy_i F 84 = sy_i F 84)]; exact k0 g0 F1 (nz_in0 hB [] (fun j hj hn => g j hj (by simp only [List.mem_cons, List.not_mem_nil, or_false, not_or] at hn; exact trivial)) (List.forall_mem_nil _)) (fun j hj hn => g j hj (by simp only [List.mem_cons, List.not_mem_nil, or_false, not_or] at hn; exact trivial)) )
  replace g0 : (sy_i F 85).toInt < (sy_i F 83).toInt := by omega
  by_cases g1 : 7 ≤ (sy_i F 85).toInt
  · exfalso
    omega
  replace g1 : (sy_i F 85).toInt < 7 := by omega
  by_cases g2 : ((sy_ai F 54).getD ((sy_i F 85).toInt).toNat 0).toInt ≠ (sy_i F 82).toInt
  · have q86 : (sy_ai F 54).getD (sy_i F 85).toNatClampNeg 0 = (sy_ai F 54).getD ((sy_i F 85).toInt).toNat 0 := by simp only [nz_c]
    have n86 : nzI ((sy_ai F 54).getD (sy_i F 85).toNatClampNeg 0) (((sy_ai F 54).getD ((sy_i F 85).toInt).toNat 0).toInt) := congrArg Int32.toInt q86
    have n87 : nzI ((sy_i F 85) + ((1 : Int32))) (((sy_i F 85).toInt + 1)) := nz_add (rfl : (sy_i F 85).toInt = (sy_i F 85).toInt) (by decide : ((1 : Int32)).toInt = 1) (by omega) (by omega)
    exact j0nbi_5_p1 hd F X1 X2 hB (by first | exact g0 | (simp only [nz_c]; exact g0)) (by first | exact g1 | (simp only [nz_c]; exact g1)) (by first | exact ⟨by omega, by omega⟩ | (simp only [nz_c]; exact ⟨by omega, by omega⟩)) (by first | exact g2 | (simp only [nz_c]; exact g2) | (rw [(nzE n86)]; exact g2)) (fun F1 g e82 e83 e84 e85 => k1 g0 g1 g2 F1 (nz_in0 hB [] (fun j hj hn => g j hj (by simp only [List.mem_cons, List.not_mem_nil, or_false, not_or] at hn; exact trivial)) (List.forall_mem_nil _)) (fun j hj hn => g j hj (by simp only [List.mem_cons, List.not_mem_nil, or_false, not_or] at hn; exact trivial)) ((congrArg Int32.toInt (zz_i e82)).trans (rfl : (sy_i F 82).toInt = (sy_i F 82).toInt)) ((zz_i e82).trans (rfl : sy_i F 82 = sy_i F 82)) ((congrArg Int32.toInt (zz_i e83)).trans (rfl : (sy_i F 83).toInt = (sy_i F 83).toInt)) ((zz_i e83).trans (rfl : sy_i F 83 = sy_i F 83)) ((congrArg Int32.toInt (zz_i e84)).trans (rfl : (sy_i F 84).toInt = (sy_i F 84).toInt)) ((zz_i e84).trans (rfl : sy_i F 84 = sy_i F 84)) ((congrArg Int32.toInt (zz_i e85)).trans (nzE n87)) ((zz_i e85).trans (rfl : (sy_i F 85) + ((1 : Int32)) = (sy_i F 85) + ((1 : Int32)))))
  replace g2 : ((sy_ai F 54).getD ((sy_i F 85).toInt).toNat 0).toInt = (sy_i F 82).toInt := by omega
  have q86 : (sy_ai F 54).getD (sy_i F 85).toNatClampNeg 0 = (sy_ai F 54).getD ((sy_i F 85).toInt).toNat 0 := by simp only [nz_c]
  have n86 : nzI ((sy_ai F 54).getD (sy_i F 85).toNatClampNeg 0) (((sy_ai F 54).getD ((sy_i F 85).toInt).toNat 0).toInt) := congrArg Int32.toInt q86
  have n88 : nzI ((sy_i F 84) ||| (((1 : Int32)) <<< ((sy_i F 85) &&& 31))) (((sy_i F 84) ||| (((1 : Int32)) <<< ((sy_i F 85) &&& 31))).toInt) := congrArg Int32.toInt (rfl : (sy_i F 84) ||| (((1 : Int32)) <<< ((sy_i F 85) &&& 31)) = (sy_i F 84) ||| (((1 : Int32)) <<< ((sy_i F 85) &&& 31)))
  have n89 : nzI ((sy_i F 85) + ((1 : Int32))) (((sy_i F 85).toInt + 1)) := nz_add (rfl : (sy_i F 85).toInt = (sy_i F 85).toInt) (by decide : ((1 : Int32)).toInt = 1) (by omega) (by omega)
  exact j0nbi_5_p2 hd F X1 X2 hB (by first | exact g0 | (simp only [nz_c]; exact g0)) (by first | exact g1 | (simp only [nz_c]; exact g1)) (by first | exact ⟨by omega, by omega⟩ | (simp only [nz_c]; exact ⟨by omega, by omega⟩)) (by first | exact g2 | (simp only [nz_c]; exact g2) | (rw [(nzE n86)]; exact g2)) (fun F1 g e82 e83 e84 e85 => k2 g0 g1 g2 F1 (nz_in0 hB [] (fun j hj hn => g j hj (by simp only [List.mem_cons, List.not_mem_nil, or_false, not_or] at hn; exact trivial)) (List.forall_mem_nil _)) (fun j hj hn => g j hj (by simp only [List.mem_cons, List.not_mem_nil, or_false, not_or] at hn; exact trivial)) ((congrArg Int32.toInt (zz_i e82)).trans (rfl : (sy_i F 82).toInt = (sy_i F 82).toInt)) ((zz_i e82).trans (rfl : sy_i F 82 = sy_i F 82)) ((congrArg Int32.toInt (zz_i e83)).trans (rfl : (sy_i F 83).toInt = (sy_i F 83).toInt)) ((zz_i e83).trans (rfl : sy_i F 83 = sy_i F 83)) ((congrArg Int32.toInt (zz_i e84)).trans (nzE n88)) ((zz_i e84).trans (rfl : (sy_i F 84) ||| (((1 : Int32)) <<< ((sy_i F 85) &&& 31)) = (sy_i F 84) ||| (((1 : Int32)) <<< ((sy_i F 85) &&& 31)))) ((congrArg Int32.toInt (zz_i e85)).trans (nzE n89)) ((zz_i e85).trans (rfl : (sy_i F 85) + ((1 : Int32)) = (sy_i F 85) + ((1 : Int32)))))
theorem j0nhm_0_p0 {Ls : Nat} {xs : Nat → Int32} {d : Nat} {Q : Option Value → jm_h → Prop} (hd : 1 ≤ d) (F : Nat → sy_d) (X1 X2 : List jm_c) (hB : iv_in F iv_B0)
    (k : ∀ F1 : Nat → sy_d, (∀ j, j < 82 → True → F1 j = F j) → F1 82 = .inl (.int (sy_i F 82)) → F1 83 = .inl (.int (sy_i F 83)) → hd_W Ls xs d jm_M12 Q (3, sy_dL F1 [none, none, none], sy_dS F1 [.inr (.inl 83), .inr (.inl 82), .inl (.ref 46)], sy_dh F1 X1 X2 (iv_H 0), 0, 0)) :
    hd_W Ls xs d jm_M12 Q (0, sy_dL F [some (.inl (.ref 46)), some (.inr (.inl 82)), some (.inr (.inl 83))], sy_dS F [], sy_dh F X1 X2 (iv_H 0), 0, 0) := by
  refine hd_run (s := 0) (nv := 84) (pc := 3) (L := [none, none, none]) (S := [.inr (.inl 83), .inr (.inl 82), .inl (.ref 46)]) (uh := hd_ov (iv_id 0 iv_B0) []) (ul := [.inl (.inr (.inl 82)), .inl (.inr (.inl 83))]) (f := true) (sp := [3]) (d0 := 0) (O := []) (T := []) (P := []) jm_ok12 (by decide +kernel) (by decide +kernel) hd F X1 X2 (fun F' hF hs => ?_)
  have b82 := hd_b (F := F) (F' := F') (k := 82) (hF 82 (by decide))
  have b83 := hd_b (F := F) (F' := F') (k := 83) (hF 83 (by decide))
  have hB' : iv_in F' iv_B0 := iv_in_eq hB (fun j hj => hF j (Nat.lt_of_lt_of_le hj (by decide +kernel)))
  refine ⟨fun _ h => absurd h List.not_mem_nil, ?_⟩
  refine k _ ?_ ?_ ?_
  · exact fun j hj _ => (hd_keep hB' (Nat.lt_of_lt_of_le hj (by decide +kernel)) (by simp)).trans (hF j (Nat.lt_of_lt_of_le hj (by decide)))
  · exact hd_gi (x := .inr (.inl 82)) (by decide +kernel) b82
  · exact hd_gi (x := .inr (.inl 83)) (by decide +kernel) b83
theorem j0nhm_0 {Ls : Nat} {xs : Nat → Int32} {d : Nat} {Q : Option Value → jm_h → Prop} (hd : 1 ≤ d) (F : Nat → sy_d) (X1 X2 : List jm_c) (hB : iv_in F iv_B0)
    (k0 : ∀ F1 : Nat → sy_d, iv_in F1 iv_B0 → (∀ j, j < 82 → j ∉ ([] : List Nat) → F1 j = F j) → (sy_i F1 82).toInt = (sy_i F 82).toInt → sy_i F1 82 = sy_i F 82 → (sy_i F1 83).toInt = (sy_i F 83).toInt → sy_i F1 83 = sy_i F 83 → hd_W Ls xs d jm_M12 Q (3, sy_dL F1 [none, none, none], sy_dS F1 [.inr (.inl 83), .inr (.inl 82), .inl (.ref 46)], sy_dh F1 X1 X2 (iv_H 0), 0, 0)) :
    hd_W Ls xs d jm_M12 Q (0, sy_dL F [some (.inl (.ref 46)), some (.inr (.inl 82)), some (.inr (.inl 83))], sy_dS F [], sy_dh F X1 X2 (iv_H 0), 0, 0) := by
  exact j0nhm_0_p0 hd F X1 X2 hB  (fun F1 g e82 e83 => k0 F1 (nz_in0 hB [] (fun j hj hn => g j hj (by simp only [List.mem_cons, List.not_mem_nil, or_false, not_or] at hn; exact trivial)) (List.forall_mem_nil _)) (fun j hj hn => g j hj (by simp only [List.mem_cons, List.not_mem_nil, or_false, not_or] at hn; exact trivial)) ((congrArg Int32.toInt (zz_i e82)).trans (rfl : (sy_i F 82).toInt = (sy_i F 82).toInt)) ((zz_i e82).trans (rfl : sy_i F 82 = sy_i F 82)) ((congrArg Int32.toInt (zz_i e83)).trans (rfl : (sy_i F 83).toInt = (sy_i F 83).toInt)) ((zz_i e83).trans (rfl : sy_i F 83 = sy_i F 83)))
theorem j0nhm_6_p0 {Ls : Nat} {xs : Nat → Int32} {d : Nat} {Q : Option Value → jm_h → Prop} (hd : 2 ≤ d) (F : Nat → sy_d) (X1 X2 : List jm_c) (hB : iv_in F iv_B0)
    (k : ∀ F1 : Nat → sy_d, (∀ j, j < 82 → True → F1 j = F j) → Q (some (.int (((((((((sy_i F 82) - (((((sy_i F 82)).toUInt32 >>> ((((1 : Int32))).toUInt32 &&& Int32.toUInt32 31)).toInt32) &&& ((1431655765 : Int32)))) &&& ((858993459 : Int32))) + ((((((sy_i F 82) - (((((sy_i F 82)).toUInt32 >>> ((((1 : Int32))).toUInt32 &&& Int32.toUInt32 31)).toInt32) &&& ((1431655765 : Int32))))).toUInt32 >>> ((((2 : Int32))).toUInt32 &&& Int32.toUInt32 31)).toInt32) &&& ((858993459 : Int32)))) + (((((((sy_i F 82) - (((((sy_i F 82)).toUInt32 >>> ((((1 : Int32))).toUInt32 &&& Int32.toUInt32 31)).toInt32) &&& ((1431655765 : Int32)))) &&& ((858993459 : Int32))) + ((((((sy_i F 82) - (((((sy_i F 82)).toUInt32 >>> ((((1 : Int32))).toUInt32 &&& Int32.toUInt32 31)).toInt32) &&& ((1431655765 : Int32))))).toUInt32 >>> ((((2 : Int32))).toUInt32 &&& Int32.toUInt32 31)).toInt32) &&& ((858993459 : Int32))))).toUInt32 >>> ((((4 : Int32))).toUInt32 &&& Int32.toUInt32 31)).toInt32)) &&& ((252645135 : Int32))) + (((((((((sy_i F 82) - (((((sy_i F 82)).toUInt32 >>> ((((1 : Int32))).toUInt32 &&& Int32.toUInt32 31)).toInt32) &&& ((1431655765 : Int32)))) &&& ((858993459 : Int32))) + ((((((sy_i F 82) - (((((sy_i F 82)).toUInt32 >>> ((((1 : Int32))).toUInt32 &&& Int32.toUInt32 31)).toInt32) &&& ((1431655765 : Int32))))).toUInt32 >>> ((((2 : Int32))).toUInt32 &&& Int32.toUInt32 31)).toInt32) &&& ((858993459 : Int32)))) + (((((((sy_i F 82) - (((((sy_i F 82)).toUInt32 >>> ((((1 : Int32))).toUInt32 &&& Int32.toUInt32 31)).toInt32) &&& ((1431655765 : Int32)))) &&& ((858993459 : Int32))) + ((((((sy_i F 82) - (((((sy_i F 82)).toUInt32 >>> ((((1 : Int32))).toUInt32 &&& Int32.toUInt32 31)).toInt32) &&& ((1431655765 : Int32))))).toUInt32 >>> ((((2 : Int32))).toUInt32 &&& Int32.toUInt32 31)).toInt32) &&& ((858993459 : Int32))))).toUInt32 >>> ((((4 : Int32))).toUInt32 &&& Int32.toUInt32 31)).toInt32)) &&& ((252645135 : Int32)))).toUInt32 >>> ((((8 : Int32))).toUInt32 &&& Int32.toUInt32 31)).toInt32)) + ((((((((((sy_i F 82) - (((((sy_i F 82)).toUInt32 >>> ((((1 : Int32))).toUInt32 &&& Int32.toUInt32 31)).toInt32) &&& ((1431655765 : Int32)))) &&& ((858993459 : Int32))) + ((((((sy_i F 82) - (((((sy_i F 82)).toUInt32 >>> ((((1 : Int32))).toUInt32 &&& Int32.toUInt32 31)).toInt32) &&& ((1431655765 : Int32))))).toUInt32 >>> ((((2 : Int32))).toUInt32 &&& Int32.toUInt32 31)).toInt32) &&& ((858993459 : Int32)))) + (((((((sy_i F 82) - (((((sy_i F 82)).toUInt32 >>> ((((1 : Int32))).toUInt32 &&& Int32.toUInt32 31)).toInt32) &&& ((1431655765 : Int32)))) &&& ((858993459 : Int32))) + ((((((sy_i F 82) - (((((sy_i F 82)).toUInt32 >>> ((((1 : Int32))).toUInt32 &&& Int32.toUInt32 31)).toInt32) &&& ((1431655765 : Int32))))).toUInt32 >>> ((((2 : Int32))).toUInt32 &&& Int32.toUInt32 31)).toInt32) &&& ((858993459 : Int32))))).toUInt32 >>> ((((4 : Int32))).toUInt32 &&& Int32.toUInt32 31)).toInt32)) &&& ((252645135 : Int32))) + (((((((((sy_i F 82) - (((((sy_i F 82)).toUInt32 >>> ((((1 : Int32))).toUInt32 &&& Int32.toUInt32 31)).toInt32) &&& ((1431655765 : Int32)))) &&& ((858993459 : Int32))) + ((((((sy_i F 82) - (((((sy_i F 82)).toUInt32 >>> ((((1 : Int32))).toUInt32 &&& Int32.toUInt32 31)).toInt32) &&& ((1431655765 : Int32))))).toUInt32 >>> ((((2 : Int32))).toUInt32 &&& Int32.toUInt32 31)).toInt32) &&& ((858993459 : Int32)))) + (((((((sy_i F 82) - (((((sy_i F 82)).toUInt32 >>> ((((1 : Int32))).toUInt32 &&& Int32.toUInt32 31)).toInt32) &&& ((1431655765 : Int32)))) &&& ((858993459 : Int32))) + ((((((sy_i F 82) - (((((sy_i F 82)).toUInt32 >>> ((((1 : Int32))).toUInt32 &&& Int32.toUInt32 31)).toInt32) &&& ((1431655765 : Int32))))).toUInt32 >>> ((((2 : Int32))).toUInt32 &&& Int32.toUInt32 31)).toInt32) &&& ((858993459 : Int32))))).toUInt32 >>> ((((4 : Int32))).toUInt32 &&& Int32.toUInt32 31)).toInt32)) &&& ((252645135 : Int32)))).toUInt32 >>> ((((8 : Int32))).toUInt32 &&& Int32.toUInt32 31)).toInt32))).toUInt32 >>> ((((16 : Int32))).toUInt32 &&& Int32.toUInt32 31)).toInt32)) &&& ((63 : Int32))))) (sy_dh F1 X1 X2 (iv_H 0))) :
    hd_W Ls xs d jm_M12 Q (6, sy_dL F [none, none, none], sy_dS F [.inr (.inl 82)], sy_dh F X1 X2 (iv_H 0), 0, 0) := by
  refine hd_ret (s := 0) (nv := 83) (v := some (.inr (.inl 97))) (uh := hd_ov (iv_id 0 iv_B0) []) (f := false) (sp := []) (d0 := 1) (O := []) (T := [(8, [.inr (.inl 82), .inl (.int 1)], []), (3, [.inr (.inl 83), .inl (.int 1431655765)], []), (1, [.inr (.inl 82), .inr (.inl 84)], []), (3, [.inr (.inl 85), .inl (.int 858993459)], []), (8, [.inr (.inl 85), .inl (.int 2)], []), (3, [.inr (.inl 87), .inl (.int 858993459)], []), (0, [.inr (.inl 86), .inr (.inl 88)], []), (8, [.inr (.inl 89), .inl (.int 4)], []), (0, [.inr (.inl 89), .inr (.inl 90)], []), (3, [.inr (.inl 91), .inl (.int 252645135)], []), (8, [.inr (.inl 92), .inl (.int 8)], []), (0, [.inr (.inl 92), .inr (.inl 93)], []), (8, [.inr (.inl 94), .inl (.int 16)], []), (0, [.inr (.inl 94), .inr (.inl 95)], []), (3, [.inr (.inl 96), .inl (.int 63)], [])]) (P := []) jm_ok12 (by decide +kernel) (by decide +kernel) hd F X1 X2 (fun F' hF hs => ?_)
  have b82 := hd_b (F := F) (F' := F') (k := 82) (hF 82 (by decide))
  have t83 : sy_dv F' (.inr (.inl 83)) = .int ((((sy_i F 82)).toUInt32 >>> ((((1 : Int32))).toUInt32 &&& Int32.toUInt32 31)).toInt32) := hd_o (hs 0 _ rfl) b82 rfl rfl
  have t84 : sy_dv F' (.inr (.inl 84)) = .int (((((sy_i F 82)).toUInt32 >>> ((((1 : Int32))).toUInt32 &&& Int32.toUInt32 31)).toInt32) &&& ((1431655765 : Int32))) := hd_o (hs 1 _ rfl) t83 rfl rfl
  have t85 : sy_dv F' (.inr (.inl 85)) = .int ((sy_i F 82) - (((((sy_i F 82)).toUInt32 >>> ((((1 : Int32))).toUInt32 &&& Int32.toUInt32 31)).toInt32) &&& ((1431655765 : Int32)))) := hd_o (hs 2 _ rfl) b82 t84 rfl
  have t86 : sy_dv F' (.inr (.inl 86)) = .int (((sy_i F 82) - (((((sy_i F 82)).toUInt32 >>> ((((1 : Int32))).toUInt32 &&& Int32.toUInt32 31)).toInt32) &&& ((1431655765 : Int32)))) &&& ((858993459 : Int32))) := hd_o (hs 3 _ rfl) t85 rfl rfl
  have t87 : sy_dv F' (.inr (.inl 87)) = .int (((((sy_i F 82) - (((((sy_i F 82)).toUInt32 >>> ((((1 : Int32))).toUInt32 &&& Int32.toUInt32 31)).toInt32) &&& ((1431655765 : Int32))))).toUInt32 >>> ((((2 : Int32))).toUInt32 &&& Int32.toUInt32 31)).toInt32) := hd_o (hs 4 _ rfl) t85 rfl rfl
  have t88 : sy_dv F' (.inr (.inl 88)) = .int ((((((sy_i F 82) - (((((sy_i F 82)).toUInt32 >>> ((((1 : Int32))).toUInt32 &&& Int32.toUInt32 31)).toInt32) &&& ((1431655765 : Int32))))).toUInt32 >>> ((((2 : Int32))).toUInt32 &&& Int32.toUInt32 31)).toInt32) &&& ((858993459 : Int32))) := hd_o (hs 5 _ rfl) t87 rfl rfl
  have t89 : sy_dv F' (.inr (.inl 89)) = .int ((((sy_i F 82) - (((((sy_i F 82)).toUInt32 >>> ((((1 : Int32))).toUInt32 &&& Int32.toUInt32 31)).toInt32) &&& ((1431655765 : Int32)))) &&& ((858993459 : Int32))) + ((((((sy_i F 82) - (((((sy_i F 82)).toUInt32 >>> ((((1 : Int32))).toUInt32 &&& Int32.toUInt32 31)).toInt32) &&& ((1431655765 : Int32))))).toUInt32 >>> ((((2 : Int32))).toUInt32 &&& Int32.toUInt32 31)).toInt32) &&& ((858993459 : Int32)))) := hd_o (hs 6 _ rfl) t86 t88 rfl
  have t90 : sy_dv F' (.inr (.inl 90)) = .int (((((((sy_i F 82) - (((((sy_i F 82)).toUInt32 >>> ((((1 : Int32))).toUInt32 &&& Int32.toUInt32 31)).toInt32) &&& ((1431655765 : Int32)))) &&& ((858993459 : Int32))) + ((((((sy_i F 82) - (((((sy_i F 82)).toUInt32 >>> ((((1 : Int32))).toUInt32 &&& Int32.toUInt32 31)).toInt32) &&& ((1431655765 : Int32))))).toUInt32 >>> ((((2 : Int32))).toUInt32 &&& Int32.toUInt32 31)).toInt32) &&& ((858993459 : Int32))))).toUInt32 >>> ((((4 : Int32))).toUInt32 &&& Int32.toUInt32 31)).toInt32) := hd_o (hs 7 _ rfl) t89 rfl rfl
  have t91 : sy_dv F' (.inr (.inl 91)) = .int (((((sy_i F 82) - (((((sy_i F 82)).toUInt32 >>> ((((1 : Int32))).toUInt32 &&& Int32.toUInt32 31)).toInt32) &&& ((1431655765 : Int32)))) &&& ((858993459 : Int32))) + ((((((sy_i F 82) - (((((sy_i F 82)).toUInt32 >>> ((((1 : Int32))).toUInt32 &&& Int32.toUInt32 31)).toInt32) &&& ((1431655765 : Int32))))).toUInt32 >>> ((((2 : Int32))).toUInt32 &&& Int32.toUInt32 31)).toInt32) &&& ((858993459 : Int32)))) + (((((((sy_i F 82) - (((((sy_i F 82)).toUInt32 >>> ((((1 : Int32))).toUInt32 &&& Int32.toUInt32 31)).toInt32) &&& ((1431655765 : Int32)))) &&& ((858993459 : Int32))) + ((((((sy_i F 82) - (((((sy_i F 82)).toUInt32 >>> ((((1 : Int32))).toUInt32 &&& Int32.toUInt32 31)).toInt32) &&& ((1431655765 : Int32))))).toUInt32 >>> ((((2 : Int32))).toUInt32 &&& Int32.toUInt32 31)).toInt32) &&& ((858993459 : Int32))))).toUInt32 >>> ((((4 : Int32))).toUInt32 &&& Int32.toUInt32 31)).toInt32)) := hd_o (hs 8 _ rfl) t89 t90 rfl
  have t92 : sy_dv F' (.inr (.inl 92)) = .int ((((((sy_i F 82) - (((((sy_i F 82)).toUInt32 >>> ((((1 : Int32))).toUInt32 &&& Int32.toUInt32 31)).toInt32) &&& ((1431655765 : Int32)))) &&& ((858993459 : Int32))) + ((((((sy_i F 82) - (((((sy_i F 82)).toUInt32 >>> ((((1 : Int32))).toUInt32 &&& Int32.toUInt32 31)).toInt32) &&& ((1431655765 : Int32))))).toUInt32 >>> ((((2 : Int32))).toUInt32 &&& Int32.toUInt32 31)).toInt32) &&& ((858993459 : Int32)))) + (((((((sy_i F 82) - (((((sy_i F 82)).toUInt32 >>> ((((1 : Int32))).toUInt32 &&& Int32.toUInt32 31)).toInt32) &&& ((1431655765 : Int32)))) &&& ((858993459 : Int32))) + ((((((sy_i F 82) - (((((sy_i F 82)).toUInt32 >>> ((((1 : Int32))).toUInt32 &&& Int32.toUInt32 31)).toInt32) &&& ((1431655765 : Int32))))).toUInt32 >>> ((((2 : Int32))).toUInt32 &&& Int32.toUInt32 31)).toInt32) &&& ((858993459 : Int32))))).toUInt32 >>> ((((4 : Int32))).toUInt32 &&& Int32.toUInt32 31)).toInt32)) &&& ((252645135 : Int32))) := hd_o (hs 9 _ rfl) t91 rfl rfl
  have t93 : sy_dv F' (.inr (.inl 93)) = .int (((((((((sy_i F 82) - (((((sy_i F 82)).toUInt32 >>> ((((1 : Int32))).toUInt32 &&& Int32.toUInt32 31)).toInt32) &&& ((1431655765 : Int32)))) &&& ((858993459 : Int32))) + ((((((sy_i F 82) - (((((sy_i F 82)).toUInt32 >>> ((((1 : Int32))).toUInt32 &&& Int32.toUInt32 31)).toInt32) &&& ((1431655765 : Int32))))).toUInt32 >>> ((((2 : Int32))).toUInt32 &&& Int32.toUInt32 31)).toInt32) &&& ((858993459 : Int32)))) + (((((((sy_i F 82) - (((((sy_i F 82)).toUInt32 >>> ((((1 : Int32))).toUInt32 &&& Int32.toUInt32 31)).toInt32) &&& ((1431655765 : Int32)))) &&& ((858993459 : Int32))) + ((((((sy_i F 82) - (((((sy_i F 82)).toUInt32 >>> ((((1 : Int32))).toUInt32 &&& Int32.toUInt32 31)).toInt32) &&& ((1431655765 : Int32))))).toUInt32 >>> ((((2 : Int32))).toUInt32 &&& Int32.toUInt32 31)).toInt32) &&& ((858993459 : Int32))))).toUInt32 >>> ((((4 : Int32))).toUInt32 &&& Int32.toUInt32 31)).toInt32)) &&& ((252645135 : Int32)))).toUInt32 >>> ((((8 : Int32))).toUInt32 &&& Int32.toUInt32 31)).toInt32) := hd_o (hs 10 _ rfl) t92 rfl rfl
  have t94 : sy_dv F' (.inr (.inl 94)) = .int (((((((sy_i F 82) - (((((sy_i F 82)).toUInt32 >>> ((((1 : Int32))).toUInt32 &&& Int32.toUInt32 31)).toInt32) &&& ((1431655765 : Int32)))) &&& ((858993459 : Int32))) + ((((((sy_i F 82) - (((((sy_i F 82)).toUInt32 >>> ((((1 : Int32))).toUInt32 &&& Int32.toUInt32 31)).toInt32) &&& ((1431655765 : Int32))))).toUInt32 >>> ((((2 : Int32))).toUInt32 &&& Int32.toUInt32 31)).toInt32) &&& ((858993459 : Int32)))) + (((((((sy_i F 82) - (((((sy_i F 82)).toUInt32 >>> ((((1 : Int32))).toUInt32 &&& Int32.toUInt32 31)).toInt32) &&& ((1431655765 : Int32)))) &&& ((858993459 : Int32))) + ((((((sy_i F 82) - (((((sy_i F 82)).toUInt32 >>> ((((1 : Int32))).toUInt32 &&& Int32.toUInt32 31)).toInt32) &&& ((1431655765 : Int32))))).toUInt32 >>> ((((2 : Int32))).toUInt32 &&& Int32.toUInt32 31)).toInt32) &&& ((858993459 : Int32))))).toUInt32 >>> ((((4 : Int32))).toUInt32 &&& Int32.toUInt32 31)).toInt32)) &&& ((252645135 : Int32))) + (((((((((sy_i F 82) - (((((sy_i F 82)).toUInt32 >>> ((((1 : Int32))).toUInt32 &&& Int32.toUInt32 31)).toInt32) &&& ((1431655765 : Int32)))) &&& ((858993459 : Int32))) + ((((((sy_i F 82) - (((((sy_i F 82)).toUInt32 >>> ((((1 : Int32))).toUInt32 &&& Int32.toUInt32 31)).toInt32) &&& ((1431655765 : Int32))))).toUInt32 >>> ((((2 : Int32))).toUInt32 &&& Int32.toUInt32 31)).toInt32) &&& ((858993459 : Int32)))) + (((((((sy_i F 82) - (((((sy_i F 82)).toUInt32 >>> ((((1 : Int32))).toUInt32 &&& Int32.toUInt32 31)).toInt32) &&& ((1431655765 : Int32)))) &&& ((858993459 : Int32))) + ((((((sy_i F 82) - (((((sy_i F 82)).toUInt32 >>> ((((1 : Int32))).toUInt32 &&& Int32.toUInt32 31)).toInt32) &&& ((1431655765 : Int32))))).toUInt32 >>> ((((2 : Int32))).toUInt32 &&& Int32.toUInt32 31)).toInt32) &&& ((858993459 : Int32))))).toUInt32 >>> ((((4 : Int32))).toUInt32 &&& Int32.toUInt32 31)).toInt32)) &&& ((252645135 : Int32)))).toUInt32 >>> ((((8 : Int32))).toUInt32 &&& Int32.toUInt32 31)).toInt32)) := hd_o (hs 11 _ rfl) t92 t93 rfl
  have t95 : sy_dv F' (.inr (.inl 95)) = .int ((((((((((sy_i F 82) - (((((sy_i F 82)).toUInt32 >>> ((((1 : Int32))).toUInt32 &&& Int32.toUInt32 31)).toInt32) &&& ((1431655765 : Int32)))) &&& ((858993459 : Int32))) + ((((((sy_i F 82) - (((((sy_i F 82)).toUInt32 >>> ((((1 : Int32))).toUInt32 &&& Int32.toUInt32 31)).toInt32) &&& ((1431655765 : Int32))))).toUInt32 >>> ((((2 : Int32))).toUInt32 &&& Int32.toUInt32 31)).toInt32) &&& ((858993459 : Int32)))) + (((((((sy_i F 82) - (((((sy_i F 82)).toUInt32 >>> ((((1 : Int32))).toUInt32 &&& Int32.toUInt32 31)).toInt32) &&& ((1431655765 : Int32)))) &&& ((858993459 : Int32))) + ((((((sy_i F 82) - (((((sy_i F 82)).toUInt32 >>> ((((1 : Int32))).toUInt32 &&& Int32.toUInt32 31)).toInt32) &&& ((1431655765 : Int32))))).toUInt32 >>> ((((2 : Int32))).toUInt32 &&& Int32.toUInt32 31)).toInt32) &&& ((858993459 : Int32))))).toUInt32 >>> ((((4 : Int32))).toUInt32 &&& Int32.toUInt32 31)).toInt32)) &&& ((252645135 : Int32))) + (((((((((sy_i F 82) - (((((sy_i F 82)).toUInt32 >>> ((((1 : Int32))).toUInt32 &&& Int32.toUInt32 31)).toInt32) &&& ((1431655765 : Int32)))) &&& ((858993459 : Int32))) + ((((((sy_i F 82) - (((((sy_i F 82)).toUInt32 >>> ((((1 : Int32))).toUInt32 &&& Int32.toUInt32 31)).toInt32) &&& ((1431655765 : Int32))))).toUInt32 >>> ((((2 : Int32))).toUInt32 &&& Int32.toUInt32 31)).toInt32) &&& ((858993459 : Int32)))) + (((((((sy_i F 82) - (((((sy_i F 82)).toUInt32 >>> ((((1 : Int32))).toUInt32 &&& Int32.toUInt32 31)).toInt32) &&& ((1431655765 : Int32)))) &&& ((858993459 : Int32))) + ((((((sy_i F 82) - (((((sy_i F 82)).toUInt32 >>> ((((1 : Int32))).toUInt32 &&& Int32.toUInt32 31)).toInt32) &&& ((1431655765 : Int32))))).toUInt32 >>> ((((2 : Int32))).toUInt32 &&& Int32.toUInt32 31)).toInt32) &&& ((858993459 : Int32))))).toUInt32 >>> ((((4 : Int32))).toUInt32 &&& Int32.toUInt32 31)).toInt32)) &&& ((252645135 : Int32)))).toUInt32 >>> ((((8 : Int32))).toUInt32 &&& Int32.toUInt32 31)).toInt32))).toUInt32 >>> ((((16 : Int32))).toUInt32 &&& Int32.toUInt32 31)).toInt32) := hd_o (hs 12 _ rfl) t94 rfl rfl
  have t96 : sy_dv F' (.inr (.inl 96)) = .int ((((((((sy_i F 82) - (((((sy_i F 82)).toUInt32 >>> ((((1 : Int32))).toUInt32 &&& Int32.toUInt32 31)).toInt32) &&& ((1431655765 : Int32)))) &&& ((858993459 : Int32))) + ((((((sy_i F 82) - (((((sy_i F 82)).toUInt32 >>> ((((1 : Int32))).toUInt32 &&& Int32.toUInt32 31)).toInt32) &&& ((1431655765 : Int32))))).toUInt32 >>> ((((2 : Int32))).toUInt32 &&& Int32.toUInt32 31)).toInt32) &&& ((858993459 : Int32)))) + (((((((sy_i F 82) - (((((sy_i F 82)).toUInt32 >>> ((((1 : Int32))).toUInt32 &&& Int32.toUInt32 31)).toInt32) &&& ((1431655765 : Int32)))) &&& ((858993459 : Int32))) + ((((((sy_i F 82) - (((((sy_i F 82)).toUInt32 >>> ((((1 : Int32))).toUInt32 &&& Int32.toUInt32 31)).toInt32) &&& ((1431655765 : Int32))))).toUInt32 >>> ((((2 : Int32))).toUInt32 &&& Int32.toUInt32 31)).toInt32) &&& ((858993459 : Int32))))).toUInt32 >>> ((((4 : Int32))).toUInt32 &&& Int32.toUInt32 31)).toInt32)) &&& ((252645135 : Int32))) + (((((((((sy_i F 82) - (((((sy_i F 82)).toUInt32 >>> ((((1 : Int32))).toUInt32 &&& Int32.toUInt32 31)).toInt32) &&& ((1431655765 : Int32)))) &&& ((858993459 : Int32))) + ((((((sy_i F 82) - (((((sy_i F 82)).toUInt32 >>> ((((1 : Int32))).toUInt32 &&& Int32.toUInt32 31)).toInt32) &&& ((1431655765 : Int32))))).toUInt32 >>> ((((2 : Int32))).toUInt32 &&& Int32.toUInt32 31)).toInt32) &&& ((858993459 : Int32)))) + (((((((sy_i F 82) - (((((sy_i F 82)).toUInt32 >>> ((((1 : Int32))).toUInt32 &&& Int32.toUInt32 31)).toInt32) &&& ((1431655765 : Int32)))) &&& ((858993459 : Int32))) + ((((((sy_i F 82) - (((((sy_i F 82)).toUInt32 >>> ((((1 : Int32))).toUInt32 &&& Int32.toUInt32 31)).toInt32) &&& ((1431655765 : Int32))))).toUInt32 >>> ((((2 : Int32))).toUInt32 &&& Int32.toUInt32 31)).toInt32) &&& ((858993459 : Int32))))).toUInt32 >>> ((((4 : Int32))).toUInt32 &&& Int32.toUInt32 31)).toInt32)) &&& ((252645135 : Int32)))).toUInt32 >>> ((((8 : Int32))).toUInt32 &&& Int32.toUInt32 31)).toInt32)) + ((((((((((sy_i F 82) - (((((sy_i F 82)).toUInt32 >>> ((((1 : Int32))).toUInt32 &&& Int32.toUInt32 31)).toInt32) &&& ((1431655765 : Int32)))) &&& ((858993459 : Int32))) + ((((((sy_i F 82) - (((((sy_i F 82)).toUInt32 >>> ((((1 : Int32))).toUInt32 &&& Int32.toUInt32 31)).toInt32) &&& ((1431655765 : Int32))))).toUInt32 >>> ((((2 : Int32))).toUInt32 &&& Int32.toUInt32 31)).toInt32) &&& ((858993459 : Int32)))) + (((((((sy_i F 82) - (((((sy_i F 82)).toUInt32 >>> ((((1 : Int32))).toUInt32 &&& Int32.toUInt32 31)).toInt32) &&& ((1431655765 : Int32)))) &&& ((858993459 : Int32))) + ((((((sy_i F 82) - (((((sy_i F 82)).toUInt32 >>> ((((1 : Int32))).toUInt32 &&& Int32.toUInt32 31)).toInt32) &&& ((1431655765 : Int32))))).toUInt32 >>> ((((2 : Int32))).toUInt32 &&& Int32.toUInt32 31)).toInt32) &&& ((858993459 : Int32))))).toUInt32 >>> ((((4 : Int32))).toUInt32 &&& Int32.toUInt32 31)).toInt32)) &&& ((252645135 : Int32))) + (((((((((sy_i F 82) - (((((sy_i F 82)).toUInt32 >>> ((((1 : Int32))).toUInt32 &&& Int32.toUInt32 31)).toInt32) &&& ((1431655765 : Int32)))) &&& ((858993459 : Int32))) + ((((((sy_i F 82) - (((((sy_i F 82)).toUInt32 >>> ((((1 : Int32))).toUInt32 &&& Int32.toUInt32 31)).toInt32) &&& ((1431655765 : Int32))))).toUInt32 >>> ((((2 : Int32))).toUInt32 &&& Int32.toUInt32 31)).toInt32) &&& ((858993459 : Int32)))) + (((((((sy_i F 82) - (((((sy_i F 82)).toUInt32 >>> ((((1 : Int32))).toUInt32 &&& Int32.toUInt32 31)).toInt32) &&& ((1431655765 : Int32)))) &&& ((858993459 : Int32))) + ((((((sy_i F 82) - (((((sy_i F 82)).toUInt32 >>> ((((1 : Int32))).toUInt32 &&& Int32.toUInt32 31)).toInt32) &&& ((1431655765 : Int32))))).toUInt32 >>> ((((2 : Int32))).toUInt32 &&& Int32.toUInt32 31)).toInt32) &&& ((858993459 : Int32))))).toUInt32 >>> ((((4 : Int32))).toUInt32 &&& Int32.toUInt32 31)).toInt32)) &&& ((252645135 : Int32)))).toUInt32 >>> ((((8 : Int32))).toUInt32 &&& Int32.toUInt32 31)).toInt32))).toUInt32 >>> ((((16 : Int32))).toUInt32 &&& Int32.toUInt32 31)).toInt32)) := hd_o (hs 13 _ rfl) t94 t95 rfl
  have t97 : sy_dv F' (.inr (.inl 97)) = .int (((((((((sy_i F 82) - (((((sy_i F 82)).toUInt32 >>> ((((1 : Int32))).toUInt32 &&& Int32.toUInt32 31)).toInt32) &&& ((1431655765 : Int32)))) &&& ((858993459 : Int32))) + ((((((sy_i F 82) - (((((sy_i F 82)).toUInt32 >>> ((((1 : Int32))).toUInt32 &&& Int32.toUInt32 31)).toInt32) &&& ((1431655765 : Int32))))).toUInt32 >>> ((((2 : Int32))).toUInt32 &&& Int32.toUInt32 31)).toInt32) &&& ((858993459 : Int32)))) + (((((((sy_i F 82) - (((((sy_i F 82)).toUInt32 >>> ((((1 : Int32))).toUInt32 &&& Int32.toUInt32 31)).toInt32) &&& ((1431655765 : Int32)))) &&& ((858993459 : Int32))) + ((((((sy_i F 82) - (((((sy_i F 82)).toUInt32 >>> ((((1 : Int32))).toUInt32 &&& Int32.toUInt32 31)).toInt32) &&& ((1431655765 : Int32))))).toUInt32 >>> ((((2 : Int32))).toUInt32 &&& Int32.toUInt32 31)).toInt32) &&& ((858993459 : Int32))))).toUInt32 >>> ((((4 : Int32))).toUInt32 &&& Int32.toUInt32 31)).toInt32)) &&& ((252645135 : Int32))) + (((((((((sy_i F 82) - (((((sy_i F 82)).toUInt32 >>> ((((1 : Int32))).toUInt32 &&& Int32.toUInt32 31)).toInt32) &&& ((1431655765 : Int32)))) &&& ((858993459 : Int32))) + ((((((sy_i F 82) - (((((sy_i F 82)).toUInt32 >>> ((((1 : Int32))).toUInt32 &&& Int32.toUInt32 31)).toInt32) &&& ((1431655765 : Int32))))).toUInt32 >>> ((((2 : Int32))).toUInt32 &&& Int32.toUInt32 31)).toInt32) &&& ((858993459 : Int32)))) + (((((((sy_i F 82) - (((((sy_i F 82)).toUInt32 >>> ((((1 : Int32))).toUInt32 &&& Int32.toUInt32 31)).toInt32) &&& ((1431655765 : Int32)))) &&& ((858993459 : Int32))) + ((((((sy_i F 82) - (((((sy_i F 82)).toUInt32 >>> ((((1 : Int32))).toUInt32 &&& Int32.toUInt32 31)).toInt32) &&& ((1431655765 : Int32))))).toUInt32 >>> ((((2 : Int32))).toUInt32 &&& Int32.toUInt32 31)).toInt32) &&& ((858993459 : Int32))))).toUInt32 >>> ((((4 : Int32))).toUInt32 &&& Int32.toUInt32 31)).toInt32)) &&& ((252645135 : Int32)))).toUInt32 >>> ((((8 : Int32))).toUInt32 &&& Int32.toUInt32 31)).toInt32)) + ((((((((((sy_i F 82) - (((((sy_i F 82)).toUInt32 >>> ((((1 : Int32))).toUInt32 &&& Int32.toUInt32 31)).toInt32) &&& ((1431655765 : Int32)))) &&& ((858993459 : Int32))) + ((((((sy_i F 82) - (((((sy_i F 82)).toUInt32 >>> ((((1 : Int32))).toUInt32 &&& Int32.toUInt32 31)).toInt32) &&& ((1431655765 : Int32))))).toUInt32 >>> ((((2 : Int32))).toUInt32 &&& Int32.toUInt32 31)).toInt32) &&& ((858993459 : Int32)))) + (((((((sy_i F 82) - (((((sy_i F 82)).toUInt32 >>> ((((1 : Int32))).toUInt32 &&& Int32.toUInt32 31)).toInt32) &&& ((1431655765 : Int32)))) &&& ((858993459 : Int32))) + ((((((sy_i F 82) - (((((sy_i F 82)).toUInt32 >>> ((((1 : Int32))).toUInt32 &&& Int32.toUInt32 31)).toInt32) &&& ((1431655765 : Int32))))).toUInt32 >>> ((((2 : Int32))).toUInt32 &&& Int32.toUInt32 31)).toInt32) &&& ((858993459 : Int32))))).toUInt32 >>> ((((4 : Int32))).toUInt32 &&& Int32.toUInt32 31)).toInt32)) &&& ((252645135 : Int32))) + (((((((((sy_i F 82) - (((((sy_i F 82)).toUInt32 >>> ((((1 : Int32))).toUInt32 &&& Int32.toUInt32 31)).toInt32) &&& ((1431655765 : Int32)))) &&& ((858993459 : Int32))) + ((((((sy_i F 82) - (((((sy_i F 82)).toUInt32 >>> ((((1 : Int32))).toUInt32 &&& Int32.toUInt32 31)).toInt32) &&& ((1431655765 : Int32))))).toUInt32 >>> ((((2 : Int32))).toUInt32 &&& Int32.toUInt32 31)).toInt32) &&& ((858993459 : Int32)))) + (((((((sy_i F 82) - (((((sy_i F 82)).toUInt32 >>> ((((1 : Int32))).toUInt32 &&& Int32.toUInt32 31)).toInt32) &&& ((1431655765 : Int32)))) &&& ((858993459 : Int32))) + ((((((sy_i F 82) - (((((sy_i F 82)).toUInt32 >>> ((((1 : Int32))).toUInt32 &&& Int32.toUInt32 31)).toInt32) &&& ((1431655765 : Int32))))).toUInt32 >>> ((((2 : Int32))).toUInt32 &&& Int32.toUInt32 31)).toInt32) &&& ((858993459 : Int32))))).toUInt32 >>> ((((4 : Int32))).toUInt32 &&& Int32.toUInt32 31)).toInt32)) &&& ((252645135 : Int32)))).toUInt32 >>> ((((8 : Int32))).toUInt32 &&& Int32.toUInt32 31)).toInt32))).toUInt32 >>> ((((16 : Int32))).toUInt32 &&& Int32.toUInt32 31)).toInt32)) &&& ((63 : Int32))) := hd_o (hs 14 _ rfl) t96 rfl rfl
  have hB' : iv_in F' iv_B0 := iv_in_eq hB (fun j hj => hF j (Nat.lt_of_lt_of_le hj (by decide +kernel)))
  have hk := k (sy_cm F' (hd_ov (iv_id 0 iv_B0) [] ++ [])) (fun j hj _ => (hd_keep hB' (Nat.lt_of_lt_of_le hj (by decide +kernel)) (by simp)).trans (hF j (Nat.lt_of_lt_of_le hj (by decide))))
  refine ⟨fun _ h => absurd h List.not_mem_nil, ?_⟩
  show Q (some (sy_dv F' (.inr (.inl 97)))) _
  rw [t97]
  exact hk
theorem j0nhm_6 {Ls : Nat} {xs : Nat → Int32} {d : Nat} {Q : Option Value → jm_h → Prop} (hd : 2 ≤ d) (F : Nat → sy_d) (X1 X2 : List jm_c) (hB : iv_in F iv_B0)
    (k0 : ∀ F1 : Nat → sy_d, iv_in F1 iv_B0 → (∀ j, j < 82 → j ∉ ([] : List Nat) → F1 j = F j) → Q (some (.int (((((((((sy_i F 82) - (((((sy_i F 82)).toUInt32 >>> ((((1 : Int32))).toUInt32 &&& Int32.toUInt32 31)).toInt32) &&& ((1431655765 : Int32)))) &&& ((858993459 : Int32))) + ((((((sy_i F 82) - (((((sy_i F 82)).toUInt32 >>> ((((1 : Int32))).toUInt32 &&& Int32.toUInt32 31)).toInt32) &&& ((1431655765 : Int32))))).toUInt32 >>> ((((2 : Int32))).toUInt32 &&& Int32.toUInt32 31)).toInt32) &&& ((858993459 : Int32)))) + (((((((sy_i F 82) - (((((sy_i F 82)).toUInt32 >>> ((((1 : Int32))).toUInt32 &&& Int32.toUInt32 31)).toInt32) &&& ((1431655765 : Int32)))) &&& ((858993459 : Int32))) + ((((((sy_i F 82) - (((((sy_i F 82)).toUInt32 >>> ((((1 : Int32))).toUInt32 &&& Int32.toUInt32 31)).toInt32) &&& ((1431655765 : Int32))))).toUInt32 >>> ((((2 : Int32))).toUInt32 &&& Int32.toUInt32 31)).toInt32) &&& ((858993459 : Int32))))).toUInt32 >>> ((((4 : Int32))).toUInt32 &&& Int32.toUInt32 31)).toInt32)) &&& ((252645135 : Int32))) + (((((((((sy_i F 82) - (((((sy_i F 82)).toUInt32 >>> ((((1 : Int32))).toUInt32 &&& Int32.toUInt32 31)).toInt32) &&& ((1431655765 : Int32)))) &&& ((858993459 : Int32))) + ((((((sy_i F 82) - (((((sy_i F 82)).toUInt32 >>> ((((1 : Int32))).toUInt32 &&& Int32.toUInt32 31)).toInt32) &&& ((1431655765 : Int32))))).toUInt32 >>> ((((2 : Int32))).toUInt32 &&& Int32.toUInt32 31)).toInt32) &&& ((858993459 : Int32)))) + (((((((sy_i F 82) - (((((sy_i F 82)).toUInt32 >>> ((((1 : Int32))).toUInt32 &&& Int32.toUInt32 31)).toInt32) &&& ((1431655765 : Int32)))) &&& ((858993459 : Int32))) + ((((((sy_i F 82) - (((((sy_i F 82)).toUInt32 >>> ((((1 : Int32))).toUInt32 &&& Int32.toUInt32 31)).toInt32) &&& ((1431655765 : Int32))))).toUInt32 >>> ((((2 : Int32))).toUInt32 &&& Int32.toUInt32 31)).toInt32) &&& ((858993459 : Int32))))).toUInt32 >>> ((((4 : Int32))).toUInt32 &&& Int32.toUInt32 31)).toInt32)) &&& ((252645135 : Int32)))).toUInt32 >>> ((((8 : Int32))).toUInt32 &&& Int32.toUInt32 31)).toInt32)) + ((((((((((sy_i F 82) - (((((sy_i F 82)).toUInt32 >>> ((((1 : Int32))).toUInt32 &&& Int32.toUInt32 31)).toInt32) &&& ((1431655765 : Int32)))) &&& ((858993459 : Int32))) + ((((((sy_i F 82) - (((((sy_i F 82)).toUInt32 >>> ((((1 : Int32))).toUInt32 &&& Int32.toUInt32 31)).toInt32) &&& ((1431655765 : Int32))))).toUInt32 >>> ((((2 : Int32))).toUInt32 &&& Int32.toUInt32 31)).toInt32) &&& ((858993459 : Int32)))) + (((((((sy_i F 82) - (((((sy_i F 82)).toUInt32 >>> ((((1 : Int32))).toUInt32 &&& Int32.toUInt32 31)).toInt32) &&& ((1431655765 : Int32)))) &&& ((858993459 : Int32))) + ((((((sy_i F 82) - (((((sy_i F 82)).toUInt32 >>> ((((1 : Int32))).toUInt32 &&& Int32.toUInt32 31)).toInt32) &&& ((1431655765 : Int32))))).toUInt32 >>> ((((2 : Int32))).toUInt32 &&& Int32.toUInt32 31)).toInt32) &&& ((858993459 : Int32))))).toUInt32 >>> ((((4 : Int32))).toUInt32 &&& Int32.toUInt32 31)).toInt32)) &&& ((252645135 : Int32))) + (((((((((sy_i F 82) - (((((sy_i F 82)).toUInt32 >>> ((((1 : Int32))).toUInt32 &&& Int32.toUInt32 31)).toInt32) &&& ((1431655765 : Int32)))) &&& ((858993459 : Int32))) + ((((((sy_i F 82) - (((((sy_i F 82)).toUInt32 >>> ((((1 : Int32))).toUInt32 &&& Int32.toUInt32 31)).toInt32) &&& ((1431655765 : Int32))))).toUInt32 >>> ((((2 : Int32))).toUInt32 &&& Int32.toUInt32 31)).toInt32) &&& ((858993459 : Int32)))) + (((((((sy_i F 82) - (((((sy_i F 82)).toUInt32 >>> ((((1 : Int32))).toUInt32 &&& Int32.toUInt32 31)).toInt32) &&& ((1431655765 : Int32)))) &&& ((858993459 : Int32))) + ((((((sy_i F 82) - (((((sy_i F 82)).toUInt32 >>> ((((1 : Int32))).toUInt32 &&& Int32.toUInt32 31)).toInt32) &&& ((1431655765 : Int32))))).toUInt32 >>> ((((2 : Int32))).toUInt32 &&& Int32.toUInt32 31)).toInt32) &&& ((858993459 : Int32))))).toUInt32 >>> ((((4 : Int32))).toUInt32 &&& Int32.toUInt32 31)).toInt32)) &&& ((252645135 : Int32)))).toUInt32 >>> ((((8 : Int32))).toUInt32 &&& Int32.toUInt32 31)).toInt32))).toUInt32 >>> ((((16 : Int32))).toUInt32 &&& Int32.toUInt32 31)).toInt32)) &&& ((63 : Int32))))) (sy_dh F1 X1 X2 (iv_H 0))) :
    hd_W Ls xs d jm_M12 Q (6, sy_dL F [none, none, none], sy_dS F [.inr (.inl 82)], sy_dh F X1 X2 (iv_H 0), 0, 0) := by
  exact j0nhm_6_p0 hd F X1 X2 hB  (fun F1 g  => by rw [(rfl : ((((((((sy_i F 82) - (((((sy_i F 82)).toUInt32 >>> ((((1 : Int32))).toUInt32 &&& Int32.toUInt32 31)).toInt32) &&& ((1431655765 : Int32)))) &&& ((858993459 : Int32))) + ((((((sy_i F 82) - (((((sy_i F 82)).toUInt32 >>> ((((1 : Int32))).toUInt32 &&& Int32.toUInt32 31)).toInt32) &&& ((1431655765 : Int32))))).toUInt32 >>> ((((2 : Int32))).toUInt32 &&& Int32.toUInt32 31)).toInt32) &&& ((858993459 : Int32)))) + (((((((sy_i F 82) - (((((sy_i F 82)).toUInt32 >>> ((((1 : Int32))).toUInt32 &&& Int32.toUInt32 31)).toInt32) &&& ((1431655765 : Int32)))) &&& ((858993459 : Int32))) + ((((((sy_i F 82) - (((((sy_i F 82)).toUInt32 >>> ((((1 : Int32))).toUInt32 &&& Int32.toUInt32 31)).toInt32) &&& ((1431655765 : Int32))))).toUInt32 >>> ((((2 : Int32))).toUInt32 &&& Int32.toUInt32 31)).toInt32) &&& ((858993459 : Int32))))).toUInt32 >>> ((((4 : Int32))).toUInt32 &&& Int32.toUInt32 31)).toInt32)) &&& ((252645135 : Int32))) + (((((((((sy_i F 82) - (((((sy_i F 82)).toUInt32 >>> ((((1 : Int32))).toUInt32 &&& Int32.toUInt32 31)).toInt32) &&& ((1431655765 : Int32)))) &&& ((858993459 : Int32))) + ((((((sy_i F 82) - (((((sy_i F 82)).toUInt32 >>> ((((1 : Int32))).toUInt32 &&& Int32.toUInt32 31)).toInt32) &&& ((1431655765 : Int32))))).toUInt32 >>> ((((2 : Int32))).toUInt32 &&& Int32.toUInt32 31)).toInt32) &&& ((858993459 : Int32)))) + (((((((sy_i F 82) - (((((sy_i F 82)).toUInt32 >>> ((((1 : Int32))).toUInt32 &&& Int32.toUInt32 31)).toInt32) &&& ((1431655765 : Int32)))) &&& ((858993459 : Int32))) + ((((((sy_i F 82) - (((((sy_i F 82)).toUInt32 >>> ((((1 : Int32))).toUInt32 &&& Int32.toUInt32 31)).toInt32) &&& ((1431655765 : Int32))))).toUInt32 >>> ((((2 : Int32))).toUInt32 &&& Int32.toUInt32 31)).toInt32) &&& ((858993459 : Int32))))).toUInt32 >>> ((((4 : Int32))).toUInt32 &&& Int32.toUInt32 31)).toInt32)) &&& ((252645135 : Int32)))).toUInt32 >>> ((((8 : Int32))).toUInt32 &&& Int32.toUInt32 31)).toInt32)) + ((((((((((sy_i F 82) - (((((sy_i F 82)).toUInt32 >>> ((((1 : Int32))).toUInt32 &&& Int32.toUInt32 31)).toInt32) &&& ((1431655765 : Int32)))) &&& ((858993459 : Int32))) + ((((((sy_i F 82) - (((((sy_i F 82)).toUInt32 >>> ((((1 : Int32))).toUInt32 &&& Int32.toUInt32 31)).toInt32) &&& ((1431655765 : Int32))))).toUInt32 >>> ((((2 : Int32))).toUInt32 &&& Int32.toUInt32 31)).toInt32) &&& ((858993459 : Int32)))) + (((((((sy_i F 82) - (((((sy_i F 82)).toUInt32 >>> ((((1 : Int32))).toUInt32 &&& Int32.toUInt32 31)).toInt32) &&& ((1431655765 : Int32)))) &&& ((858993459 : Int32))) + ((((((sy_i F 82) - (((((sy_i F 82)).toUInt32 >>> ((((1 : Int32))).toUInt32 &&& Int32.toUInt32 31)).toInt32) &&& ((1431655765 : Int32))))).toUInt32 >>> ((((2 : Int32))).toUInt32 &&& Int32.toUInt32 31)).toInt32) &&& ((858993459 : Int32))))).toUInt32 >>> ((((4 : Int32))).toUInt32 &&& Int32.toUInt32 31)).toInt32)) &&& ((252645135 : Int32))) + (((((((((sy_i F 82) - (((((sy_i F 82)).toUInt32 >>> ((((1 : Int32))).toUInt32 &&& Int32.toUInt32 31)).toInt32) &&& ((1431655765 : Int32)))) &&& ((858993459 : Int32))) + ((((((sy_i F 82) - (((((sy_i F 82)).toUInt32 >>> ((((1 : Int32))).toUInt32 &&& Int32.toUInt32 31)).toInt32) &&& ((1431655765 : Int32))))).toUInt32 >>> ((((2 : Int32))).toUInt32 &&& Int32.toUInt32 31)).toInt32) &&& ((858993459 : Int32)))) + (((((((sy_i F 82) - (((((sy_i F 82)).toUInt32 >>> ((((1 : Int32))).toUInt32 &&& Int32.toUInt32 31)).toInt32) &&& ((1431655765 : Int32)))) &&& ((858993459 : Int32))) + ((((((sy_i F 82) - (((((sy_i F 82)).toUInt32 >>> ((((1 : Int32))).toUInt32 &&& Int32.toUInt32 31)).toInt32) &&& ((1431655765 : Int32))))).toUInt32 >>> ((((2 : Int32))).toUInt32 &&& Int32.toUInt32 31)).toInt32) &&& ((858993459 : Int32))))).toUInt32 >>> ((((4 : Int32))).toUInt32 &&& Int32.toUInt32 31)).toInt32)) &&& ((252645135 : Int32)))).toUInt32 >>> ((((8 : Int32))).toUInt32 &&& Int32.toUInt32 31)).toInt32))).toUInt32 >>> ((((16 : Int32))).toUInt32 &&& Int32.toUInt32 31)).toInt32)) &&& ((63 : Int32)) = ((((((((sy_i F 82) - (((((sy_i F 82)).toUInt32 >>> ((((1 : Int32))).toUInt32 &&& Int32.toUInt32 31)).toInt32) &&& ((1431655765 : Int32)))) &&& ((858993459 : Int32))) + ((((((sy_i F 82) - (((((sy_i F 82)).toUInt32 >>> ((((1 : Int32))).toUInt32 &&& Int32.toUInt32 31)).toInt32) &&& ((1431655765 : Int32))))).toUInt32 >>> ((((2 : Int32))).toUInt32 &&& Int32.toUInt32 31)).toInt32) &&& ((858993459 : Int32)))) + (((((((sy_i F 82) - (((((sy_i F 82)).toUInt32 >>> ((((1 : Int32))).toUInt32 &&& Int32.toUInt32 31)).toInt32) &&& ((1431655765 : Int32)))) &&& ((858993459 : Int32))) + ((((((sy_i F 82) - (((((sy_i F 82)).toUInt32 >>> ((((1 : Int32))).toUInt32 &&& Int32.toUInt32 31)).toInt32) &&& ((1431655765 : Int32))))).toUInt32 >>> ((((2 : Int32))).toUInt32 &&& Int32.toUInt32 31)).toInt32) &&& ((858993459 : Int32))))).toUInt32 >>> ((((4 : Int32))).toUInt32 &&& Int32.toUInt32 31)).toInt32)) &&& ((252645135 : Int32))) + (((((((((sy_i F 82) - (((((sy_i F 82)).toUInt32 >>> ((((1 : Int32))).toUInt32 &&& Int32.toUInt32 31)).toInt32) &&& ((1431655765 : Int32)))) &&& ((858993459 : Int32))) + ((((((sy_i F 82) - (((((sy_i F 82)).toUInt32 >>> ((((1 : Int32))).toUInt32 &&& Int32.toUInt32 31)).toInt32) &&& ((1431655765 : Int32))))).toUInt32 >>> ((((2 : Int32))).toUInt32 &&& Int32.toUInt32 31)).toInt32) &&& ((858993459 : Int32)))) + (((((((sy_i F 82) - (((((sy_i F 82)).toUInt32 >>> ((((1 : Int32))).toUInt32 &&& Int32.toUInt32 31)).toInt32) &&& ((1431655765 : Int32)))) &&& ((858993459 : Int32))) + ((((((sy_i F 82) - (((((sy_i F 82)).toUInt32 >>> ((((1 : Int32))).toUInt32 &&& Int32.toUInt32 31)).toInt32) &&& ((1431655765 : Int32))))).toUInt32 >>> ((((2 : Int32))).toUInt32 &&& Int32.toUInt32 31)).toInt32) &&& ((858993459 : Int32))))).toUInt32 >>> ((((4 : Int32))).toUInt32 &&& Int32.toUInt32 31)).toInt32)) &&& ((252645135 : Int32)))).toUInt32 >>> ((((8 : Int32))).toUInt32 &&& Int32.toUInt32 31)).toInt32)) + ((((((((((sy_i F 82) - (((((sy_i F 82)).toUInt32 >>> ((((1 : Int32))).toUInt32 &&& Int32.toUInt32 31)).toInt32) &&& ((1431655765 : Int32)))) &&& ((858993459 : Int32))) + ((((((sy_i F 82) - (((((sy_i F 82)).toUInt32 >>> ((((1 : Int32))).toUInt32 &&& Int32.toUInt32 31)).toInt32) &&& ((1431655765 : Int32))))).toUInt32 >>> ((((2 : Int32))).toUInt32 &&& Int32.toUInt32 31)).toInt32) &&& ((858993459 : Int32)))) + (((((((sy_i F 82) - (((((sy_i F 82)).toUInt32 >>> ((((1 : Int32))).toUInt32 &&& Int32.toUInt32 31)).toInt32) &&& ((1431655765 : Int32)))) &&& ((858993459 : Int32))) + ((((((sy_i F 82) - (((((sy_i F 82)).toUInt32 >>> ((((1 : Int32))).toUInt32 &&& Int32.toUInt32 31)).toInt32) &&& ((1431655765 : Int32))))).toUInt32 >>> ((((2 : Int32))).toUInt32 &&& Int32.toUInt32 31)).toInt32) &&& ((858993459 : Int32))))).toUInt32 >>> ((((4 : Int32))).toUInt32 &&& Int32.toUInt32 31)).toInt32)) &&& ((252645135 : Int32))) + (((((((((sy_i F 82) - (((((sy_i F 82)).toUInt32 >>> ((((1 : Int32))).toUInt32 &&& Int32.toUInt32 31)).toInt32) &&& ((1431655765 : Int32)))) &&& ((858993459 : Int32))) + ((((((sy_i F 82) - (((((sy_i F 82)).toUInt32 >>> ((((1 : Int32))).toUInt32 &&& Int32.toUInt32 31)).toInt32) &&& ((1431655765 : Int32))))).toUInt32 >>> ((((2 : Int32))).toUInt32 &&& Int32.toUInt32 31)).toInt32) &&& ((858993459 : Int32)))) + (((((((sy_i F 82) - (((((sy_i F 82)).toUInt32 >>> ((((1 : Int32))).toUInt32 &&& Int32.toUInt32 31)).toInt32) &&& ((1431655765 : Int32)))) &&& ((858993459 : Int32))) + ((((((sy_i F 82) - (((((sy_i F 82)).toUInt32 >>> ((((1 : Int32))).toUInt32 &&& Int32.toUInt32 31)).toInt32) &&& ((1431655765 : Int32))))).toUInt32 >>> ((((2 : Int32))).toUInt32 &&& Int32.toUInt32 31)).toInt32) &&& ((858993459 : Int32))))).toUInt32 >>> ((((4 : Int32))).toUInt32 &&& Int32.toUInt32 31)).toInt32)) &&& ((252645135 : Int32)))).toUInt32 >>> ((((8 : Int32))).toUInt32 &&& Int32.toUInt32 31)).toInt32))).toUInt32 >>> ((((16 : Int32))).toUInt32 &&& Int32.toUInt32 31)).toInt32)) &&& ((63 : Int32)))]; exact k0 F1 (nz_in0 hB [] (fun j hj hn => g j hj (by simp only [List.mem_cons, List.not_mem_nil, or_false, not_or] at hn; exact trivial)) (List.forall_mem_nil _)) (fun j hj hn => g j hj (by simp only [List.mem_cons, List.not_mem_nil, or_false, not_or] at hn; exact trivial)) )
theorem j0nnr_0_p0 {Ls : Nat} {xs : Nat → Int32} {d : Nat} {Q : Option Value → jm_h → Prop} (hd : 1 ≤ d) (F : Nat → sy_d) (X1 X2 : List jm_c) (hB : iv_in F iv_B0)
    (k : ∀ F1 : Nat → sy_d, (∀ j, j < 82 → True → F1 j = F j) → F1 82 = .inl (.int (sy_i F 82)) → F1 83 = .inl (.int (sy_i F 83)) → F1 84 = .inl (.int (((-2) : Int32))) → F1 85 = .inl (.int ((4 : Int32))) → F1 86 = .inl (.int ((0 : Int32))) → hd_W Ls xs d jm_M13 Q (10, sy_dL F1 [some (.inl (.ref 46)), some (.inl (.ref 10)), some (.inr (.inl 82)), some (.inr (.inl 83)), some (.inr (.inl 84)), some (.inr (.inl 85)), some (.inr (.inl 86)), none], sy_dS F1 [], sy_dh F1 X1 X2 (iv_H 0), 0, 0)) :
    hd_W Ls xs d jm_M13 Q (0, sy_dL F [some (.inl (.ref 46)), some (.inl (.ref 10)), some (.inr (.inl 82)), some (.inr (.inl 83)), none, none, none, none], sy_dS F [], sy_dh F X1 X2 (iv_H 0), 0, 0) := by
  refine hd_run (s := 0) (nv := 84) (pc := 10) (L := [some (.inl (.ref 46)), some (.inl (.ref 10)), some (.inr (.inl 82)), some (.inr (.inl 83)), some (.inr (.inl 84)), some (.inr (.inl 85)), some (.inr (.inl 86)), none]) (S := []) (uh := hd_ov (iv_id 0 iv_B0) []) (ul := [.inl (.inr (.inl 82)), .inl (.inr (.inl 83)), .inl (.inl (.int (-2))), .inl (.inl (.int 4)), .inl (.inl (.int 0))]) (f := true) (sp := [10]) (d0 := 0) (O := []) (T := []) (P := []) jm_ok13 (by decide +kernel) (by decide +kernel) hd F X1 X2 (fun F' hF hs => ?_)
  have b82 := hd_b (F := F) (F' := F') (k := 82) (hF 82 (by decide))
  have b83 := hd_b (F := F) (F' := F') (k := 83) (hF 83 (by decide))
  have hB' : iv_in F' iv_B0 := iv_in_eq hB (fun j hj => hF j (Nat.lt_of_lt_of_le hj (by decide +kernel)))
  refine ⟨fun _ h => absurd h List.not_mem_nil, ?_⟩
  refine k _ ?_ ?_ ?_ ?_ ?_ ?_
  · exact fun j hj _ => (hd_keep hB' (Nat.lt_of_lt_of_le hj (by decide +kernel)) (by simp)).trans (hF j (Nat.lt_of_lt_of_le hj (by decide)))
  · exact hd_gi (x := .inr (.inl 82)) (by decide +kernel) b82
  · exact hd_gi (x := .inr (.inl 83)) (by decide +kernel) b83
  · exact hd_gi (x := .inl (.int (-2))) (by decide +kernel) rfl
  · exact hd_gi (x := .inl (.int 4)) (by decide +kernel) rfl
  · exact hd_gi (x := .inl (.int 0)) (by decide +kernel) rfl
theorem j0nnr_0 {Ls : Nat} {xs : Nat → Int32} {d : Nat} {Q : Option Value → jm_h → Prop} (hd : 1 ≤ d) (F : Nat → sy_d) (X1 X2 : List jm_c) (hB : iv_in F iv_B0)
    (k0 : ∀ F1 : Nat → sy_d, iv_in F1 iv_B0 → (∀ j, j < 82 → j ∉ ([] : List Nat) → F1 j = F j) → (sy_i F1 82).toInt = (sy_i F 82).toInt → sy_i F1 82 = sy_i F 82 → (sy_i F1 83).toInt = (sy_i F 83).toInt → sy_i F1 83 = sy_i F 83 → (sy_i F1 84).toInt = (-2 : Int) → sy_i F1 84 = ((-2) : Int32) → (sy_i F1 85).toInt = 4 → sy_i F1 85 = (4 : Int32) → (sy_i F1 86).toInt = 0 → sy_i F1 86 = (0 : Int32) → hd_W Ls xs d jm_M13 Q (10, sy_dL F1 [some (.inl (.ref 46)), some (.inl (.ref 10)), some (.inr (.inl 82)), some (.inr (.inl 83)), some (.inr (.inl 84)), some (.inr (.inl 85)), some (.inr (.inl 86)), none], sy_dS F1 [], sy_dh F1 X1 X2 (iv_H 0), 0, 0)) :
    hd_W Ls xs d jm_M13 Q (0, sy_dL F [some (.inl (.ref 46)), some (.inl (.ref 10)), some (.inr (.inl 82)), some (.inr (.inl 83)), none, none, none, none], sy_dS F [], sy_dh F X1 X2 (iv_H 0), 0, 0) := by
  exact j0nnr_0_p0 hd F X1 X2 hB  (fun F1 g e82 e83 e84 e85 e86 => k0 F1 (nz_in0 hB [] (fun j hj hn => g j hj (by simp only [List.mem_cons, List.not_mem_nil, or_false, not_or] at hn; exact trivial)) (List.forall_mem_nil _)) (fun j hj hn => g j hj (by simp only [List.mem_cons, List.not_mem_nil, or_false, not_or] at hn; exact trivial)) ((congrArg Int32.toInt (zz_i e82)).trans (rfl : (sy_i F 82).toInt = (sy_i F 82).toInt)) ((zz_i e82).trans (rfl : sy_i F 82 = sy_i F 82)) ((congrArg Int32.toInt (zz_i e83)).trans (rfl : (sy_i F 83).toInt = (sy_i F 83).toInt)) ((zz_i e83).trans (rfl : sy_i F 83 = sy_i F 83)) ((congrArg Int32.toInt (zz_i e84)).trans (by decide : (((-2) : Int32)).toInt = (-2 : Int))) ((zz_i e84).trans (rfl : ((-2) : Int32) = ((-2) : Int32))) ((congrArg Int32.toInt (zz_i e85)).trans (by decide : ((4 : Int32)).toInt = 4)) ((zz_i e85).trans (rfl : (4 : Int32) = (4 : Int32))) ((congrArg Int32.toInt (zz_i e86)).trans (by decide : ((0 : Int32)).toInt = 0)) ((zz_i e86).trans (rfl : (0 : Int32) = (0 : Int32))))
theorem j0nnr_10_p0 {Ls : Nat} {xs : Nat → Int32} {d : Nat} {Q : Option Value → jm_h → Prop} (hd : 2 ≤ d) (F : Nat → sy_d) (X1 X2 : List jm_c) (hB : iv_in F iv_B0)
    (h0 : (sy_i F 4).toInt ≤ (sy_i F 86).toInt)
    (k : ∀ F1 : Nat → sy_d, (∀ j, j < 82 → True → F1 j = F j) → Q (some (.int (sy_i F 84))) (sy_dh F1 X1 X2 (iv_H 0))) :
    hd_W Ls xs d jm_M13 Q (10, sy_dL F [some (.inl (.ref 46)), some (.inl (.ref 10)), some (.inr (.inl 82)), some (.inr (.inl 83)), some (.inr (.inl 84)), some (.inr (.inl 85)), some (.inr (.inl 86)), none], sy_dS F [], sy_dh F X1 X2 (iv_H 0), 0, 0) := by
  refine hd_ret (s := 0) (nv := 87) (v := some (.inr (.inl 84))) (uh := hd_ov (iv_id 0 iv_B0) []) (f := true) (sp := [10]) (d0 := 1) (O := [true]) (T := []) (P := [(4, .inr (.inl 4), .inr (.inl 86))]) jm_ok13 (by decide +kernel) (by decide +kernel) hd F X1 X2 (fun F' hF hs => ?_)
  have b4 := hd_b (F := F) (F' := F') (k := 4) (hF 4 (by decide))
  have b86 := hd_b (F := F) (F' := F') (k := 86) (hF 86 (by decide))
  have b84 := hd_b (F := F) (F' := F') (k := 84) (hF 84 (by decide))
  have hB' : iv_in F' iv_B0 := iv_in_eq hB (fun j hj => hF j (Nat.lt_of_lt_of_le hj (by decide +kernel)))
  have hk := k (sy_cm F' (hd_ov (iv_id 0 iv_B0) [] ++ [])) (fun j hj _ => (hd_keep hB' (Nat.lt_of_lt_of_le hj (by decide +kernel)) (by simp)).trans (hF j (Nat.lt_of_lt_of_le hj (by decide))))
  refine ⟨List.forall_mem_cons.mpr ⟨hd_p4 b4 b86 h0, fun _ h => absurd h List.not_mem_nil⟩, ?_⟩
  show Q (some (sy_dv F' (.inr (.inl 84)))) _
  rw [b84]
  exact hk
theorem j0nnr_10_p1 {Ls : Nat} {xs : Nat → Int32} {d : Nat} {Q : Option Value → jm_h → Prop} (hd : 2 ≤ d) (F : Nat → sy_d) (X1 X2 : List jm_c) (hB : iv_in F iv_B0)
    (h0 : (sy_i F 86).toInt < (sy_i F 4).toInt)
    (h1 : 0 ≤ (sy_i F 86).toInt ∧ (sy_i F 86).toInt < 4)
    (h2 : 0 ≤ (((sy_ai F 60).getD (sy_i F 86).toNatClampNeg 0) - (sy_i F 82)).toInt)
    (h3 : 0 ≤ (sy_i F 86).toInt ∧ (sy_i F 86).toInt < 4)
    (h4 : ((sy_ai F 14).getD (sy_i F 86).toNatClampNeg 0).toInt < (((sy_ai F 60).getD (sy_i F 86).toNatClampNeg 0) - (sy_i F 82)).toInt)
    (k : ∀ F1 : Nat → sy_d, (∀ j, j < 82 → True → F1 j = F j) → F1 82 = .inl (.int (sy_i F 82)) → F1 83 = .inl (.int (sy_i F 83)) → F1 84 = .inl (.int (sy_i F 84)) → F1 85 = .inl (.int (sy_i F 85)) → F1 86 = .inl (.int ((sy_i F 86) + ((1 : Int32)))) → hd_W Ls xs d jm_M13 Q (10, sy_dL F1 [some (.inl (.ref 46)), some (.inl (.ref 10)), some (.inr (.inl 82)), some (.inr (.inl 83)), some (.inr (.inl 84)), some (.inr (.inl 85)), some (.inr (.inl 86)), none], sy_dS F1 [], sy_dh F1 X1 X2 (iv_H 0), 0, 0)) :
    hd_W Ls xs d jm_M13 Q (10, sy_dL F [some (.inl (.ref 46)), some (.inl (.ref 10)), some (.inr (.inl 82)), some (.inr (.inl 83)), some (.inr (.inl 84)), some (.inr (.inl 85)), some (.inr (.inl 86)), none], sy_dS F [], sy_dh F X1 X2 (iv_H 0), 0, 0) := by
  refine hd_run (s := 0) (nv := 87) (pc := 10) (L := [some (.inl (.ref 46)), some (.inl (.ref 10)), some (.inr (.inl 82)), some (.inr (.inl 83)), some (.inr (.inl 84)), some (.inr (.inl 85)), some (.inr (.inl 86)), none]) (S := []) (uh := hd_ov (iv_id 0 iv_B0) []) (ul := [.inl (.inr (.inl 82)), .inl (.inr (.inl 83)), .inl (.inr (.inl 84)), .inl (.inr (.inl 85)), .inl (.inr (.inl 90))]) (f := true) (sp := [10]) (d0 := 1) (O := [false, true, true]) (T := [(30, [.inr (.inl 86)], [.inr (.inl 60)]), (1, [.inr (.inl 87), .inr (.inl 82)], []), (30, [.inr (.inl 86)], [.inr (.inl 14)]), (0, [.inr (.inl 86), .inl (.int 1)], [])]) (P := [(5, .inr (.inl 4), .inr (.inl 86)), (6, .inr (.inl 86), .inl (.ref 4)), (4, .inl (.int 0), .inr (.inl 88)), (6, .inr (.inl 86), .inl (.ref 4)), (2, .inr (.inl 89), .inr (.inl 88))]) jm_ok13 (by decide +kernel) (by decide +kernel) hd F X1 X2 (fun F' hF hs => ?_)
  have b4 := hd_b (F := F) (F' := F') (k := 4) (hF 4 (by decide))
  have b86 := hd_b (F := F) (F' := F') (k := 86) (hF 86 (by decide))
  have a60 := hd_ba (F := F) (F' := F') (k := 60) (hF 60 (by decide))
  have t87 : sy_dv F' (.inr (.inl 87)) = .int ((sy_ai F 60).getD (sy_i F 86).toNatClampNeg 0) := hd_rd (hs 0 _ rfl) b86 a60
  have b82 := hd_b (F := F) (F' := F') (k := 82) (hF 82 (by decide))
  have t88 : sy_dv F' (.inr (.inl 88)) = .int (((sy_ai F 60).getD (sy_i F 86).toNatClampNeg 0) - (sy_i F 82)) := hd_o (hs 1 _ rfl) t87 b82 rfl
  have a14 := hd_ba (F := F) (F' := F') (k := 14) (hF 14 (by decide))
  have t89 : sy_dv F' (.inr (.inl 89)) = .int ((sy_ai F 14).getD (sy_i F 86).toNatClampNeg 0) := hd_rd (hs 2 _ rfl) b86 a14
  have b83 := hd_b (F := F) (F' := F') (k := 83) (hF 83 (by decide))
  have b84 := hd_b (F := F) (F' := F') (k := 84) (hF 84 (by decide))
  have b85 := hd_b (F := F) (F' := F') (k := 85) (hF 85 (by decide))
  have t90 : sy_dv F' (.inr (.inl 90)) = .int ((sy_i F 86) + ((1 : Int32))) := hd_o (hs 3 _ rfl) b86 rfl rfl
  have hB' : iv_in F' iv_B0 := iv_in_eq hB (fun j hj => hF j (Nat.lt_of_lt_of_le hj (by decide +kernel)))
  refine ⟨List.forall_mem_cons.mpr ⟨hd_p5 b4 b86 h0, List.forall_mem_cons.mpr ⟨hd_pb b86 (by first | exact h1 | exact h1), List.forall_mem_cons.mpr ⟨hd_p4 rfl t88 (by have hc : ((0) : Int32).toInt = 0 := (by decide); omega), List.forall_mem_cons.mpr ⟨hd_pb b86 (by first | exact h3 | exact h3), List.forall_mem_cons.mpr ⟨hd_p2 t89 t88 h4, fun _ h => absurd h List.not_mem_nil⟩⟩⟩⟩⟩, ?_⟩
  refine k _ ?_ ?_ ?_ ?_ ?_ ?_
  · exact fun j hj _ => (hd_keep hB' (Nat.lt_of_lt_of_le hj (by decide +kernel)) (by simp)).trans (hF j (Nat.lt_of_lt_of_le hj (by decide)))
  · exact hd_gi (x := .inr (.inl 82)) (by decide +kernel) b82
  · exact hd_gi (x := .inr (.inl 83)) (by decide +kernel) b83
  · exact hd_gi (x := .inr (.inl 84)) (by decide +kernel) b84
  · exact hd_gi (x := .inr (.inl 85)) (by decide +kernel) b85
  · exact hd_gi (x := .inr (.inl 90)) (by decide +kernel) t90
theorem j0nnr_10_p2 {Ls : Nat} {xs : Nat → Int32} {d : Nat} {Q : Option Value → jm_h → Prop} (hd : 2 ≤ d) (F : Nat → sy_d) (X1 X2 : List jm_c) (hB : iv_in F iv_B0)
    (h0 : (sy_i F 86).toInt < (sy_i F 4).toInt)
    (h1 : 0 ≤ (sy_i F 86).toInt ∧ (sy_i F 86).toInt < 4)
    (h2 : 0 ≤ (((sy_ai F 60).getD (sy_i F 86).toNatClampNeg 0) - (sy_i F 82)).toInt)
    (h3 : 0 ≤ (sy_i F 86).toInt ∧ (sy_i F 86).toInt < 4)
    (h4 : (((sy_ai F 60).getD (sy_i F 86).toNatClampNeg 0) - (sy_i F 82)).toInt ≤ ((sy_ai F 14).getD (sy_i F 86).toNatClampNeg 0).toInt)
    (h5 : (sy_i F 85).toInt ≤ (((sy_ai F 60).getD (sy_i F 86).toNatClampNeg 0) - (sy_i F 82)).toInt)
    (k : ∀ F1 : Nat → sy_d, (∀ j, j < 82 → True → F1 j = F j) → F1 82 = .inl (.int (sy_i F 82)) → F1 83 = .inl (.int (sy_i F 83)) → F1 84 = .inl (.int (sy_i F 84)) → F1 85 = .inl (.int (sy_i F 85)) → F1 86 = .inl (.int ((sy_i F 86) + ((1 : Int32)))) → hd_W Ls xs d jm_M13 Q (10, sy_dL F1 [some (.inl (.ref 46)), some (.inl (.ref 10)), some (.inr (.inl 82)), some (.inr (.inl 83)), some (.inr (.inl 84)), some (.inr (.inl 85)), some (.inr (.inl 86)), none], sy_dS F1 [], sy_dh F1 X1 X2 (iv_H 0), 0, 0)) :
    hd_W Ls xs d jm_M13 Q (10, sy_dL F [some (.inl (.ref 46)), some (.inl (.ref 10)), some (.inr (.inl 82)), some (.inr (.inl 83)), some (.inr (.inl 84)), some (.inr (.inl 85)), some (.inr (.inl 86)), none], sy_dS F [], sy_dh F X1 X2 (iv_H 0), 0, 0) := by
  refine hd_run (s := 0) (nv := 87) (pc := 10) (L := [some (.inl (.ref 46)), some (.inl (.ref 10)), some (.inr (.inl 82)), some (.inr (.inl 83)), some (.inr (.inl 84)), some (.inr (.inl 85)), some (.inr (.inl 86)), none]) (S := []) (uh := hd_ov (iv_id 0 iv_B0) []) (ul := [.inl (.inr (.inl 82)), .inl (.inr (.inl 83)), .inl (.inr (.inl 84)), .inl (.inr (.inl 85)), .inl (.inr (.inl 90))]) (f := true) (sp := [10]) (d0 := 1) (O := [false, true, false, true]) (T := [(30, [.inr (.inl 86)], [.inr (.inl 60)]), (1, [.inr (.inl 87), .inr (.inl 82)], []), (30, [.inr (.inl 86)], [.inr (.inl 14)]), (0, [.inr (.inl 86), .inl (.int 1)], [])]) (P := [(5, .inr (.inl 4), .inr (.inl 86)), (6, .inr (.inl 86), .inl (.ref 4)), (4, .inl (.int 0), .inr (.inl 88)), (6, .inr (.inl 86), .inl (.ref 4)), (3, .inr (.inl 89), .inr (.inl 88)), (4, .inr (.inl 85), .inr (.inl 88))]) jm_ok13 (by decide +kernel) (by decide +kernel) hd F X1 X2 (fun F' hF hs => ?_)
  have b4 := hd_b (F := F) (F' := F') (k := 4) (hF 4 (by decide))
  have b86 := hd_b (F := F) (F' := F') (k := 86) (hF 86 (by decide))
  have a60 := hd_ba (F := F) (F' := F') (k := 60) (hF 60 (by decide))
  have t87 : sy_dv F' (.inr (.inl 87)) = .int ((sy_ai F 60).getD (sy_i F 86).toNatClampNeg 0) := hd_rd (hs 0 _ rfl) b86 a60
  have b82 := hd_b (F := F) (F' := F') (k := 82) (hF 82 (by decide))
  have t88 : sy_dv F' (.inr (.inl 88)) = .int (((sy_ai F 60).getD (sy_i F 86).toNatClampNeg 0) - (sy_i F 82)) := hd_o (hs 1 _ rfl) t87 b82 rfl
  have a14 := hd_ba (F := F) (F' := F') (k := 14) (hF 14 (by decide))
  have t89 : sy_dv F' (.inr (.inl 89)) = .int ((sy_ai F 14).getD (sy_i F 86).toNatClampNeg 0) := hd_rd (hs 2 _ rfl) b86 a14
  have b85 := hd_b (F := F) (F' := F') (k := 85) (hF 85 (by decide))
  have b83 := hd_b (F := F) (F' := F') (k := 83) (hF 83 (by decide))
  have b84 := hd_b (F := F) (F' := F') (k := 84) (hF 84 (by decide))
  have t90 : sy_dv F' (.inr (.inl 90)) = .int ((sy_i F 86) + ((1 : Int32))) := hd_o (hs 3 _ rfl) b86 rfl rfl
  have hB' : iv_in F' iv_B0 := iv_in_eq hB (fun j hj => hF j (Nat.lt_of_lt_of_le hj (by decide +kernel)))
  refine ⟨List.forall_mem_cons.mpr ⟨hd_p5 b4 b86 h0, List.forall_mem_cons.mpr ⟨hd_pb b86 (by first | exact h1 | exact h1), List.forall_mem_cons.mpr ⟨hd_p4 rfl t88 (by have hc : ((0) : Int32).toInt = 0 := (by decide); omega), List.forall_mem_cons.mpr ⟨hd_pb b86 (by first | exact h3 | exact h3), List.forall_mem_cons.mpr ⟨hd_p3 t89 t88 h4, List.forall_mem_cons.mpr ⟨hd_p4 b85 t88 h5, fun _ h => absurd h List.not_mem_nil⟩⟩⟩⟩⟩⟩, ?_⟩
  refine k _ ?_ ?_ ?_ ?_ ?_ ?_
  · exact fun j hj _ => (hd_keep hB' (Nat.lt_of_lt_of_le hj (by decide +kernel)) (by simp)).trans (hF j (Nat.lt_of_lt_of_le hj (by decide)))
  · exact hd_gi (x := .inr (.inl 82)) (by decide +kernel) b82
  · exact hd_gi (x := .inr (.inl 83)) (by decide +kernel) b83
  · exact hd_gi (x := .inr (.inl 84)) (by decide +kernel) b84
  · exact hd_gi (x := .inr (.inl 85)) (by decide +kernel) b85
  · exact hd_gi (x := .inr (.inl 90)) (by decide +kernel) t90
theorem j0nnr_10_p3 {Ls : Nat} {xs : Nat → Int32} {d : Nat} {Q : Option Value → jm_h → Prop} (hd : 2 ≤ d) (F : Nat → sy_d) (X1 X2 : List jm_c) (hB : iv_in F iv_B0)
    (h0 : (sy_i F 86).toInt < (sy_i F 4).toInt)
    (h1 : 0 ≤ (sy_i F 86).toInt ∧ (sy_i F 86).toInt < 4)
    (h2 : 0 ≤ (((sy_ai F 60).getD (sy_i F 86).toNatClampNeg 0) - (sy_i F 82)).toInt)
    (h3 : 0 ≤ (sy_i F 86).toInt ∧ (sy_i F 86).toInt < 4)
    (h4 : (((sy_ai F 60).getD (sy_i F 86).toNatClampNeg 0) - (sy_i F 82)).toInt ≤ ((sy_ai F 14).getD (sy_i F 86).toNatClampNeg 0).toInt)
    (h5 : (((sy_ai F 60).getD (sy_i F 86).toNatClampNeg 0) - (sy_i F 82)).toInt < (sy_i F 85).toInt)
    (h6 : 0 ≤ (sy_i F 86).toInt ∧ (sy_i F 86).toInt < 4)
    (h7 : ((sy_ai F 61).getD (sy_i F 86).toNatClampNeg 0).toInt < (sy_i F 83).toInt)
    (k : ∀ F1 : Nat → sy_d, (∀ j, j < 82 → True → F1 j = F j) → F1 82 = .inl (.int (sy_i F 82)) → F1 83 = .inl (.int (sy_i F 83)) → F1 84 = .inl (.int (sy_i F 84)) → F1 85 = .inl (.int (sy_i F 85)) → F1 86 = .inl (.int ((sy_i F 86) + ((1 : Int32)))) → hd_W Ls xs d jm_M13 Q (10, sy_dL F1 [some (.inl (.ref 46)), some (.inl (.ref 10)), some (.inr (.inl 82)), some (.inr (.inl 83)), some (.inr (.inl 84)), some (.inr (.inl 85)), some (.inr (.inl 86)), none], sy_dS F1 [], sy_dh F1 X1 X2 (iv_H 0), 0, 0)) :
    hd_W Ls xs d jm_M13 Q (10, sy_dL F [some (.inl (.ref 46)), some (.inl (.ref 10)), some (.inr (.inl 82)), some (.inr (.inl 83)), some (.inr (.inl 84)), some (.inr (.inl 85)), some (.inr (.inl 86)), none], sy_dS F [], sy_dh F X1 X2 (iv_H 0), 0, 0) := by
  refine hd_run (s := 0) (nv := 87) (pc := 10) (L := [some (.inl (.ref 46)), some (.inl (.ref 10)), some (.inr (.inl 82)), some (.inr (.inl 83)), some (.inr (.inl 84)), some (.inr (.inl 85)), some (.inr (.inl 86)), none]) (S := []) (uh := hd_ov (iv_id 0 iv_B0) []) (ul := [.inl (.inr (.inl 82)), .inl (.inr (.inl 83)), .inl (.inr (.inl 84)), .inl (.inr (.inl 85)), .inl (.inr (.inl 91))]) (f := true) (sp := [10]) (d0 := 1) (O := [false, true, false, false, true]) (T := [(30, [.inr (.inl 86)], [.inr (.inl 60)]), (1, [.inr (.inl 87), .inr (.inl 82)], []), (30, [.inr (.inl 86)], [.inr (.inl 14)]), (30, [.inr (.inl 86)], [.inr (.inl 61)]), (0, [.inr (.inl 86), .inl (.int 1)], [])]) (P := [(5, .inr (.inl 4), .inr (.inl 86)), (6, .inr (.inl 86), .inl (.ref 4)), (4, .inl (.int 0), .inr (.inl 88)), (6, .inr (.inl 86), .inl (.ref 4)), (3, .inr (.inl 89), .inr (.inl 88)), (5, .inr (.inl 85), .inr (.inl 88)), (6, .inr (.inl 86), .inl (.ref 4)), (2, .inr (.inl 90), .inr (.inl 83))]) jm_ok13 (by decide +kernel) (by decide +kernel) hd F X1 X2 (fun F' hF hs => ?_)
  have b4 := hd_b (F := F) (F' := F') (k := 4) (hF 4 (by decide))
  have b86 := hd_b (F := F) (F' := F') (k := 86) (hF 86 (by decide))
  have a60 := hd_ba (F := F) (F' := F') (k := 60) (hF 60 (by decide))
  have t87 : sy_dv F' (.inr (.inl 87)) = .int ((sy_ai F 60).getD (sy_i F 86).toNatClampNeg 0) := hd_rd (hs 0 _ rfl) b86 a60
  have b82 := hd_b (F := F) (F' := F') (k := 82) (hF 82 (by decide))
  have t88 : sy_dv F' (.inr (.inl 88)) = .int (((sy_ai F 60).getD (sy_i F 86).toNatClampNeg 0) - (sy_i F 82)) := hd_o (hs 1 _ rfl) t87 b82 rfl
  have a14 := hd_ba (F := F) (F' := F') (k := 14) (hF 14 (by decide))
  have t89 : sy_dv F' (.inr (.inl 89)) = .int ((sy_ai F 14).getD (sy_i F 86).toNatClampNeg 0) := hd_rd (hs 2 _ rfl) b86 a14
  have b85 := hd_b (F := F) (F' := F') (k := 85) (hF 85 (by decide))
  have a61 := hd_ba (F := F) (F' := F') (k := 61) (hF 61 (by decide))
  have t90 : sy_dv F' (.inr (.inl 90)) = .int ((sy_ai F 61).getD (sy_i F 86).toNatClampNeg 0) := hd_rd (hs 3 _ rfl) b86 a61
  have b83 := hd_b (F := F) (F' := F') (k := 83) (hF 83 (by decide))
  have b84 := hd_b (F := F) (F' := F') (k := 84) (hF 84 (by decide))
  have t91 : sy_dv F' (.inr (.inl 91)) = .int ((sy_i F 86) + ((1 : Int32))) := hd_o (hs 4 _ rfl) b86 rfl rfl
  have hB' : iv_in F' iv_B0 := iv_in_eq hB (fun j hj => hF j (Nat.lt_of_lt_of_le hj (by decide +kernel)))
  refine ⟨List.forall_mem_cons.mpr ⟨hd_p5 b4 b86 h0, List.forall_mem_cons.mpr ⟨hd_pb b86 (by first | exact h1 | exact h1), List.forall_mem_cons.mpr ⟨hd_p4 rfl t88 (by have hc : ((0) : Int32).toInt = 0 := (by decide); omega), List.forall_mem_cons.mpr ⟨hd_pb b86 (by first | exact h3 | exact h3), List.forall_mem_cons.mpr ⟨hd_p3 t89 t88 h4, List.forall_mem_cons.mpr ⟨hd_p5 b85 t88 h5, List.forall_mem_cons.mpr ⟨hd_pb b86 (by first | exact h6 | exact h6), List.forall_mem_cons.mpr ⟨hd_p2 t90 b83 h7, fun _ h => absurd h List.not_mem_nil⟩⟩⟩⟩⟩⟩⟩⟩, ?_⟩
  refine k _ ?_ ?_ ?_ ?_ ?_ ?_
  · exact fun j hj _ => (hd_keep hB' (Nat.lt_of_lt_of_le hj (by decide +kernel)) (by simp)).trans (hF j (Nat.lt_of_lt_of_le hj (by decide)))
  · exact hd_gi (x := .inr (.inl 82)) (by decide +kernel) b82
  · exact hd_gi (x := .inr (.inl 83)) (by decide +kernel) b83
  · exact hd_gi (x := .inr (.inl 84)) (by decide +kernel) b84
  · exact hd_gi (x := .inr (.inl 85)) (by decide +kernel) b85
  · exact hd_gi (x := .inr (.inl 91)) (by decide +kernel) t91
theorem j0nnr_10_p4 {Ls : Nat} {xs : Nat → Int32} {d : Nat} {Q : Option Value → jm_h → Prop} (hd : 2 ≤ d) (F : Nat → sy_d) (X1 X2 : List jm_c) (hB : iv_in F iv_B0)
    (h0 : (sy_i F 86).toInt < (sy_i F 4).toInt)
    (h1 : 0 ≤ (sy_i F 86).toInt ∧ (sy_i F 86).toInt < 4)
    (h2 : 0 ≤ (((sy_ai F 60).getD (sy_i F 86).toNatClampNeg 0) - (sy_i F 82)).toInt)
    (h3 : 0 ≤ (sy_i F 86).toInt ∧ (sy_i F 86).toInt < 4)
    (h4 : (((sy_ai F 60).getD (sy_i F 86).toNatClampNeg 0) - (sy_i F 82)).toInt ≤ ((sy_ai F 14).getD (sy_i F 86).toNatClampNeg 0).toInt)
    (h5 : (((sy_ai F 60).getD (sy_i F 86).toNatClampNeg 0) - (sy_i F 82)).toInt < (sy_i F 85).toInt)
    (h6 : 0 ≤ (sy_i F 86).toInt ∧ (sy_i F 86).toInt < 4)
    (h7 : (sy_i F 83).toInt ≤ ((sy_ai F 61).getD (sy_i F 86).toNatClampNeg 0).toInt)
    (k : ∀ F1 : Nat → sy_d, (∀ j, j < 82 → True → F1 j = F j) → F1 82 = .inl (.int (sy_i F 82)) → F1 83 = .inl (.int (sy_i F 83)) → F1 84 = .inl (.int (sy_i F 86)) → F1 85 = .inl (.int (((sy_ai F 60).getD (sy_i F 86).toNatClampNeg 0) - (sy_i F 82))) → F1 86 = .inl (.int ((sy_i F 86) + ((1 : Int32)))) → hd_W Ls xs d jm_M13 Q (10, sy_dL F1 [some (.inl (.ref 46)), some (.inl (.ref 10)), some (.inr (.inl 82)), some (.inr (.inl 83)), some (.inr (.inl 84)), some (.inr (.inl 85)), some (.inr (.inl 86)), none], sy_dS F1 [], sy_dh F1 X1 X2 (iv_H 0), 0, 0)) :
    hd_W Ls xs d jm_M13 Q (10, sy_dL F [some (.inl (.ref 46)), some (.inl (.ref 10)), some (.inr (.inl 82)), some (.inr (.inl 83)), some (.inr (.inl 84)), some (.inr (.inl 85)), some (.inr (.inl 86)), none], sy_dS F [], sy_dh F X1 X2 (iv_H 0), 0, 0) := by
  refine hd_run (s := 0) (nv := 87) (pc := 10) (L := [some (.inl (.ref 46)), some (.inl (.ref 10)), some (.inr (.inl 82)), some (.inr (.inl 83)), some (.inr (.inl 84)), some (.inr (.inl 85)), some (.inr (.inl 86)), none]) (S := []) (uh := hd_ov (iv_id 0 iv_B0) []) (ul := [.inl (.inr (.inl 82)), .inl (.inr (.inl 83)), .inl (.inr (.inl 86)), .inl (.inr (.inl 88)), .inl (.inr (.inl 91))]) (f := true) (sp := [10]) (d0 := 1) (O := [false, true, false, false, false]) (T := [(30, [.inr (.inl 86)], [.inr (.inl 60)]), (1, [.inr (.inl 87), .inr (.inl 82)], []), (30, [.inr (.inl 86)], [.inr (.inl 14)]), (30, [.inr (.inl 86)], [.inr (.inl 61)]), (0, [.inr (.inl 86), .inl (.int 1)], [])]) (P := [(5, .inr (.inl 4), .inr (.inl 86)), (6, .inr (.inl 86), .inl (.ref 4)), (4, .inl (.int 0), .inr (.inl 88)), (6, .inr (.inl 86), .inl (.ref 4)), (3, .inr (.inl 89), .inr (.inl 88)), (5, .inr (.inl 85), .inr (.inl 88)), (6, .inr (.inl 86), .inl (.ref 4)), (3, .inr (.inl 90), .inr (.inl 83))]) jm_ok13 (by decide +kernel) (by decide +kernel) hd F X1 X2 (fun F' hF hs => ?_)
  have b4 := hd_b (F := F) (F' := F') (k := 4) (hF 4 (by decide))
  have b86 := hd_b (F := F) (F' := F') (k := 86) (hF 86 (by decide))
  have a60 := hd_ba (F := F) (F' := F') (k := 60) (hF 60 (by decide))
  have t87 : sy_dv F' (.inr (.inl 87)) = .int ((sy_ai F 60).getD (sy_i F 86).toNatClampNeg 0) := hd_rd (hs 0 _ rfl) b86 a60
  have b82 := hd_b (F := F) (F' := F') (k := 82) (hF 82 (by decide))
  have t88 : sy_dv F' (.inr (.inl 88)) = .int (((sy_ai F 60).getD (sy_i F 86).toNatClampNeg 0) - (sy_i F 82)) := hd_o (hs 1 _ rfl) t87 b82 rfl
  have a14 := hd_ba (F := F) (F' := F') (k := 14) (hF 14 (by decide))
  have t89 : sy_dv F' (.inr (.inl 89)) = .int ((sy_ai F 14).getD (sy_i F 86).toNatClampNeg 0) := hd_rd (hs 2 _ rfl) b86 a14
  have b85 := hd_b (F := F) (F' := F') (k := 85) (hF 85 (by decide))
  have a61 := hd_ba (F := F) (F' := F') (k := 61) (hF 61 (by decide))
  have t90 : sy_dv F' (.inr (.inl 90)) = .int ((sy_ai F 61).getD (sy_i F 86).toNatClampNeg 0) := hd_rd (hs 3 _ rfl) b86 a61
  have b83 := hd_b (F := F) (F' := F') (k := 83) (hF 83 (by decide))
  have t91 : sy_dv F' (.inr (.inl 91)) = .int ((sy_i F 86) + ((1 : Int32))) := hd_o (hs 4 _ rfl) b86 rfl rfl
  have hB' : iv_in F' iv_B0 := iv_in_eq hB (fun j hj => hF j (Nat.lt_of_lt_of_le hj (by decide +kernel)))
  refine ⟨List.forall_mem_cons.mpr ⟨hd_p5 b4 b86 h0, List.forall_mem_cons.mpr ⟨hd_pb b86 (by first | exact h1 | exact h1), List.forall_mem_cons.mpr ⟨hd_p4 rfl t88 (by have hc : ((0) : Int32).toInt = 0 := (by decide); omega), List.forall_mem_cons.mpr ⟨hd_pb b86 (by first | exact h3 | exact h3), List.forall_mem_cons.mpr ⟨hd_p3 t89 t88 h4, List.forall_mem_cons.mpr ⟨hd_p5 b85 t88 h5, List.forall_mem_cons.mpr ⟨hd_pb b86 (by first | exact h6 | exact h6), List.forall_mem_cons.mpr ⟨hd_p3 t90 b83 h7, fun _ h => absurd h List.not_mem_nil⟩⟩⟩⟩⟩⟩⟩⟩, ?_⟩
  refine k _ ?_ ?_ ?_ ?_ ?_ ?_
  · exact fun j hj _ => (hd_keep hB' (Nat.lt_of_lt_of_le hj (by decide +kernel)) (by simp)).trans (hF j (Nat.lt_of_lt_of_le hj (by decide)))
  · exact hd_gi (x := .inr (.inl 82)) (by decide +kernel) b82
  · exact hd_gi (x := .inr (.inl 83)) (by decide +kernel) b83
  · exact hd_gi (x := .inr (.inl 86)) (by decide +kernel) b86
  · exact hd_gi (x := .inr (.inl 88)) (by decide +kernel) t88
  · exact hd_gi (x := .inr (.inl 91)) (by decide +kernel) t91
theorem j0nnr_10_p5 {Ls : Nat} {xs : Nat → Int32} {d : Nat} {Q : Option Value → jm_h → Prop} (hd : 2 ≤ d) (F : Nat → sy_d) (X1 X2 : List jm_c) (hB : iv_in F iv_B0)
    (h0 : (sy_i F 86).toInt < (sy_i F 4).toInt)
    (h1 : 0 ≤ (sy_i F 86).toInt ∧ (sy_i F 86).toInt < 4)
    (h2 : (((sy_ai F 60).getD (sy_i F 86).toNatClampNeg 0) - (sy_i F 82)).toInt < 0)
    (h3 : 0 ≤ (sy_i F 86).toInt ∧ (sy_i F 86).toInt < 4)
    (h4 : ((sy_ai F 14).getD (sy_i F 86).toNatClampNeg 0).toInt < (0 - (((sy_ai F 60).getD (sy_i F 86).toNatClampNeg 0) - (sy_i F 82))).toInt)
    (k : ∀ F1 : Nat → sy_d, (∀ j, j < 82 → True → F1 j = F j) → F1 82 = .inl (.int (sy_i F 82)) → F1 83 = .inl (.int (sy_i F 83)) → F1 84 = .inl (.int (sy_i F 84)) → F1 85 = .inl (.int (sy_i F 85)) → F1 86 = .inl (.int ((sy_i F 86) + ((1 : Int32)))) → hd_W Ls xs d jm_M13 Q (10, sy_dL F1 [some (.inl (.ref 46)), some (.inl (.ref 10)), some (.inr (.inl 82)), some (.inr (.inl 83)), some (.inr (.inl 84)), some (.inr (.inl 85)), some (.inr (.inl 86)), none], sy_dS F1 [], sy_dh F1 X1 X2 (iv_H 0), 0, 0)) :
    hd_W Ls xs d jm_M13 Q (10, sy_dL F [some (.inl (.ref 46)), some (.inl (.ref 10)), some (.inr (.inl 82)), some (.inr (.inl 83)), some (.inr (.inl 84)), some (.inr (.inl 85)), some (.inr (.inl 86)), none], sy_dS F [], sy_dh F X1 X2 (iv_H 0), 0, 0) := by
  refine hd_run (s := 0) (nv := 87) (pc := 10) (L := [some (.inl (.ref 46)), some (.inl (.ref 10)), some (.inr (.inl 82)), some (.inr (.inl 83)), some (.inr (.inl 84)), some (.inr (.inl 85)), some (.inr (.inl 86)), none]) (S := []) (uh := hd_ov (iv_id 0 iv_B0) []) (ul := [.inl (.inr (.inl 82)), .inl (.inr (.inl 83)), .inl (.inr (.inl 84)), .inl (.inr (.inl 85)), .inl (.inr (.inl 91))]) (f := true) (sp := [10]) (d0 := 1) (O := [false, false, true]) (T := [(30, [.inr (.inl 86)], [.inr (.inl 60)]), (1, [.inr (.inl 87), .inr (.inl 82)], []), (20, [.inr (.inl 88)], []), (30, [.inr (.inl 86)], [.inr (.inl 14)]), (0, [.inr (.inl 86), .inl (.int 1)], [])]) (P := [(5, .inr (.inl 4), .inr (.inl 86)), (6, .inr (.inl 86), .inl (.ref 4)), (5, .inl (.int 0), .inr (.inl 88)), (6, .inr (.inl 86), .inl (.ref 4)), (2, .inr (.inl 90), .inr (.inl 89))]) jm_ok13 (by decide +kernel) (by decide +kernel) hd F X1 X2 (fun F' hF hs => ?_)
  have b4 := hd_b (F := F) (F' := F') (k := 4) (hF 4 (by decide))
  have b86 := hd_b (F := F) (F' := F') (k := 86) (hF 86 (by decide))
  have a60 := hd_ba (F := F) (F' := F') (k := 60) (hF 60 (by decide))
  have t87 : sy_dv F' (.inr (.inl 87)) = .int ((sy_ai F 60).getD (sy_i F 86).toNatClampNeg 0) := hd_rd (hs 0 _ rfl) b86 a60
  have b82 := hd_b (F := F) (F' := F') (k := 82) (hF 82 (by decide))
  have t88 : sy_dv F' (.inr (.inl 88)) = .int (((sy_ai F 60).getD (sy_i F 86).toNatClampNeg 0) - (sy_i F 82)) := hd_o (hs 1 _ rfl) t87 b82 rfl
  have a14 := hd_ba (F := F) (F' := F') (k := 14) (hF 14 (by decide))
  have t90 : sy_dv F' (.inr (.inl 90)) = .int ((sy_ai F 14).getD (sy_i F 86).toNatClampNeg 0) := hd_rd (hs 3 _ rfl) b86 a14
  have t89 : sy_dv F' (.inr (.inl 89)) = .int (0 - (((sy_ai F 60).getD (sy_i F 86).toNatClampNeg 0) - (sy_i F 82))) := hd_u (hs 2 _ rfl) t88 rfl
  have b83 := hd_b (F := F) (F' := F') (k := 83) (hF 83 (by decide))
  have b84 := hd_b (F := F) (F' := F') (k := 84) (hF 84 (by decide))
  have b85 := hd_b (F := F) (F' := F') (k := 85) (hF 85 (by decide))
  have t91 : sy_dv F' (.inr (.inl 91)) = .int ((sy_i F 86) + ((1 : Int32))) := hd_o (hs 4 _ rfl) b86 rfl rfl
  have hB' : iv_in F' iv_B0 := iv_in_eq hB (fun j hj => hF j (Nat.lt_of_lt_of_le hj (by decide +kernel)))
  refine ⟨List.forall_mem_cons.mpr ⟨hd_p5 b4 b86 h0, List.forall_mem_cons.mpr ⟨hd_pb b86 (by first | exact h1 | exact h1), List.forall_mem_cons.mpr ⟨hd_p5 rfl t88 (by have hc : ((0) : Int32).toInt = 0 := (by decide); omega), List.forall_mem_cons.mpr ⟨hd_pb b86 (by first | exact h3 | exact h3), List.forall_mem_cons.mpr ⟨hd_p2 t90 t89 h4, fun _ h => absurd h List.not_mem_nil⟩⟩⟩⟩⟩, ?_⟩
  refine k _ ?_ ?_ ?_ ?_ ?_ ?_
  · exact fun j hj _ => (hd_keep hB' (Nat.lt_of_lt_of_le hj (by decide +kernel)) (by simp)).trans (hF j (Nat.lt_of_lt_of_le hj (by decide)))
  · exact hd_gi (x := .inr (.inl 82)) (by decide +kernel) b82
  · exact hd_gi (x := .inr (.inl 83)) (by decide +kernel) b83
  · exact hd_gi (x := .inr (.inl 84)) (by decide +kernel) b84
  · exact hd_gi (x := .inr (.inl 85)) (by decide +kernel) b85
  · exact hd_gi (x := .inr (.inl 91)) (by decide +kernel) t91
theorem j0nnr_10_p6 {Ls : Nat} {xs : Nat → Int32} {d : Nat} {Q : Option Value → jm_h → Prop} (hd : 2 ≤ d) (F : Nat → sy_d) (X1 X2 : List jm_c) (hB : iv_in F iv_B0)
    (h0 : (sy_i F 86).toInt < (sy_i F 4).toInt)
    (h1 : 0 ≤ (sy_i F 86).toInt ∧ (sy_i F 86).toInt < 4)
    (h2 : (((sy_ai F 60).getD (sy_i F 86).toNatClampNeg 0) - (sy_i F 82)).toInt < 0)
    (h3 : 0 ≤ (sy_i F 86).toInt ∧ (sy_i F 86).toInt < 4)
    (h4 : (0 - (((sy_ai F 60).getD (sy_i F 86).toNatClampNeg 0) - (sy_i F 82))).toInt ≤ ((sy_ai F 14).getD (sy_i F 86).toNatClampNeg 0).toInt)
    (h5 : (sy_i F 85).toInt ≤ (0 - (((sy_ai F 60).getD (sy_i F 86).toNatClampNeg 0) - (sy_i F 82))).toInt)
    (k : ∀ F1 : Nat → sy_d, (∀ j, j < 82 → True → F1 j = F j) → F1 82 = .inl (.int (sy_i F 82)) → F1 83 = .inl (.int (sy_i F 83)) → F1 84 = .inl (.int (sy_i F 84)) → F1 85 = .inl (.int (sy_i F 85)) → F1 86 = .inl (.int ((sy_i F 86) + ((1 : Int32)))) → hd_W Ls xs d jm_M13 Q (10, sy_dL F1 [some (.inl (.ref 46)), some (.inl (.ref 10)), some (.inr (.inl 82)), some (.inr (.inl 83)), some (.inr (.inl 84)), some (.inr (.inl 85)), some (.inr (.inl 86)), none], sy_dS F1 [], sy_dh F1 X1 X2 (iv_H 0), 0, 0)) :
    hd_W Ls xs d jm_M13 Q (10, sy_dL F [some (.inl (.ref 46)), some (.inl (.ref 10)), some (.inr (.inl 82)), some (.inr (.inl 83)), some (.inr (.inl 84)), some (.inr (.inl 85)), some (.inr (.inl 86)), none], sy_dS F [], sy_dh F X1 X2 (iv_H 0), 0, 0) := by
  refine hd_run (s := 0) (nv := 87) (pc := 10) (L := [some (.inl (.ref 46)), some (.inl (.ref 10)), some (.inr (.inl 82)), some (.inr (.inl 83)), some (.inr (.inl 84)), some (.inr (.inl 85)), some (.inr (.inl 86)), none]) (S := []) (uh := hd_ov (iv_id 0 iv_B0) []) (ul := [.inl (.inr (.inl 82)), .inl (.inr (.inl 83)), .inl (.inr (.inl 84)), .inl (.inr (.inl 85)), .inl (.inr (.inl 91))]) (f := true) (sp := [10]) (d0 := 1) (O := [false, false, false, true]) (T := [(30, [.inr (.inl 86)], [.inr (.inl 60)]), (1, [.inr (.inl 87), .inr (.inl 82)], []), (20, [.inr (.inl 88)], []), (30, [.inr (.inl 86)], [.inr (.inl 14)]), (0, [.inr (.inl 86), .inl (.int 1)], [])]) (P := [(5, .inr (.inl 4), .inr (.inl 86)), (6, .inr (.inl 86), .inl (.ref 4)), (5, .inl (.int 0), .inr (.inl 88)), (6, .inr (.inl 86), .inl (.ref 4)), (3, .inr (.inl 90), .inr (.inl 89)), (4, .inr (.inl 85), .inr (.inl 89))]) jm_ok13 (by decide +kernel) (by decide +kernel) hd F X1 X2 (fun F' hF hs => ?_)
  have b4 := hd_b (F := F) (F' := F') (k := 4) (hF 4 (by decide))
  have b86 := hd_b (F := F) (F' := F') (k := 86) (hF 86 (by decide))
  have a60 := hd_ba (F := F) (F' := F') (k := 60) (hF 60 (by decide))
  have t87 : sy_dv F' (.inr (.inl 87)) = .int ((sy_ai F 60).getD (sy_i F 86).toNatClampNeg 0) := hd_rd (hs 0 _ rfl) b86 a60
  have b82 := hd_b (F := F) (F' := F') (k := 82) (hF 82 (by decide))
  have t88 : sy_dv F' (.inr (.inl 88)) = .int (((sy_ai F 60).getD (sy_i F 86).toNatClampNeg 0) - (sy_i F 82)) := hd_o (hs 1 _ rfl) t87 b82 rfl
  have a14 := hd_ba (F := F) (F' := F') (k := 14) (hF 14 (by decide))
  have t90 : sy_dv F' (.inr (.inl 90)) = .int ((sy_ai F 14).getD (sy_i F 86).toNatClampNeg 0) := hd_rd (hs 3 _ rfl) b86 a14
  have t89 : sy_dv F' (.inr (.inl 89)) = .int (0 - (((sy_ai F 60).getD (sy_i F 86).toNatClampNeg 0) - (sy_i F 82))) := hd_u (hs 2 _ rfl) t88 rfl
  have b85 := hd_b (F := F) (F' := F') (k := 85) (hF 85 (by decide))
  have b83 := hd_b (F := F) (F' := F') (k := 83) (hF 83 (by decide))
  have b84 := hd_b (F := F) (F' := F') (k := 84) (hF 84 (by decide))
  have t91 : sy_dv F' (.inr (.inl 91)) = .int ((sy_i F 86) + ((1 : Int32))) := hd_o (hs 4 _ rfl) b86 rfl rfl
  have hB' : iv_in F' iv_B0 := iv_in_eq hB (fun j hj => hF j (Nat.lt_of_lt_of_le hj (by decide +kernel)))
  refine ⟨List.forall_mem_cons.mpr ⟨hd_p5 b4 b86 h0, List.forall_mem_cons.mpr ⟨hd_pb b86 (by first | exact h1 | exact h1), List.forall_mem_cons.mpr ⟨hd_p5 rfl t88 (by have hc : ((0) : Int32).toInt = 0 := (by decide); omega), List.forall_mem_cons.mpr ⟨hd_pb b86 (by first | exact h3 | exact h3), List.forall_mem_cons.mpr ⟨hd_p3 t90 t89 h4, List.forall_mem_cons.mpr ⟨hd_p4 b85 t89 h5, fun _ h => absurd h List.not_mem_nil⟩⟩⟩⟩⟩⟩, ?_⟩
  refine k _ ?_ ?_ ?_ ?_ ?_ ?_
  · exact fun j hj _ => (hd_keep hB' (Nat.lt_of_lt_of_le hj (by decide +kernel)) (by simp)).trans (hF j (Nat.lt_of_lt_of_le hj (by decide)))
  · exact hd_gi (x := .inr (.inl 82)) (by decide +kernel) b82
  · exact hd_gi (x := .inr (.inl 83)) (by decide +kernel) b83
  · exact hd_gi (x := .inr (.inl 84)) (by decide +kernel) b84
  · exact hd_gi (x := .inr (.inl 85)) (by decide +kernel) b85
  · exact hd_gi (x := .inr (.inl 91)) (by decide +kernel) t91
theorem j0nnr_10_p7 {Ls : Nat} {xs : Nat → Int32} {d : Nat} {Q : Option Value → jm_h → Prop} (hd : 2 ≤ d) (F : Nat → sy_d) (X1 X2 : List jm_c) (hB : iv_in F iv_B0)
    (h0 : (sy_i F 86).toInt < (sy_i F 4).toInt)
    (h1 : 0 ≤ (sy_i F 86).toInt ∧ (sy_i F 86).toInt < 4)
    (h2 : (((sy_ai F 60).getD (sy_i F 86).toNatClampNeg 0) - (sy_i F 82)).toInt < 0)
    (h3 : 0 ≤ (sy_i F 86).toInt ∧ (sy_i F 86).toInt < 4)
    (h4 : (0 - (((sy_ai F 60).getD (sy_i F 86).toNatClampNeg 0) - (sy_i F 82))).toInt ≤ ((sy_ai F 14).getD (sy_i F 86).toNatClampNeg 0).toInt)
    (h5 : (0 - (((sy_ai F 60).getD (sy_i F 86).toNatClampNeg 0) - (sy_i F 82))).toInt < (sy_i F 85).toInt)
    (h6 : 0 ≤ (sy_i F 86).toInt ∧ (sy_i F 86).toInt < 4)
    (h7 : ((sy_ai F 61).getD (sy_i F 86).toNatClampNeg 0).toInt < (sy_i F 83).toInt)
    (k : ∀ F1 : Nat → sy_d, (∀ j, j < 82 → True → F1 j = F j) → F1 82 = .inl (.int (sy_i F 82)) → F1 83 = .inl (.int (sy_i F 83)) → F1 84 = .inl (.int (sy_i F 84)) → F1 85 = .inl (.int (sy_i F 85)) → F1 86 = .inl (.int ((sy_i F 86) + ((1 : Int32)))) → hd_W Ls xs d jm_M13 Q (10, sy_dL F1 [some (.inl (.ref 46)), some (.inl (.ref 10)), some (.inr (.inl 82)), some (.inr (.inl 83)), some (.inr (.inl 84)), some (.inr (.inl 85)), some (.inr (.inl 86)), none], sy_dS F1 [], sy_dh F1 X1 X2 (iv_H 0), 0, 0)) :
    hd_W Ls xs d jm_M13 Q (10, sy_dL F [some (.inl (.ref 46)), some (.inl (.ref 10)), some (.inr (.inl 82)), some (.inr (.inl 83)), some (.inr (.inl 84)), some (.inr (.inl 85)), some (.inr (.inl 86)), none], sy_dS F [], sy_dh F X1 X2 (iv_H 0), 0, 0) := by
  refine hd_run (s := 0) (nv := 87) (pc := 10) (L := [some (.inl (.ref 46)), some (.inl (.ref 10)), some (.inr (.inl 82)), some (.inr (.inl 83)), some (.inr (.inl 84)), some (.inr (.inl 85)), some (.inr (.inl 86)), none]) (S := []) (uh := hd_ov (iv_id 0 iv_B0) []) (ul := [.inl (.inr (.inl 82)), .inl (.inr (.inl 83)), .inl (.inr (.inl 84)), .inl (.inr (.inl 85)), .inl (.inr (.inl 92))]) (f := true) (sp := [10]) (d0 := 1) (O := [false, false, false, false, true]) (T := [(30, [.inr (.inl 86)], [.inr (.inl 60)]), (1, [.inr (.inl 87), .inr (.inl 82)], []), (20, [.inr (.inl 88)], []), (30, [.inr (.inl 86)], [.inr (.inl 14)]), (30, [.inr (.inl 86)], [.inr (.inl 61)]), (0, [.inr (.inl 86), .inl (.int 1)], [])]) (P := [(5, .inr (.inl 4), .inr (.inl 86)), (6, .inr (.inl 86), .inl (.ref 4)), (5, .inl (.int 0), .inr (.inl 88)), (6, .inr (.inl 86), .inl (.ref 4)), (3, .inr (.inl 90), .inr (.inl 89)), (5, .inr (.inl 85), .inr (.inl 89)), (6, .inr (.inl 86), .inl (.ref 4)), (2, .inr (.inl 91), .inr (.inl 83))]) jm_ok13 (by decide +kernel) (by decide +kernel) hd F X1 X2 (fun F' hF hs => ?_)
  have b4 := hd_b (F := F) (F' := F') (k := 4) (hF 4 (by decide))
  have b86 := hd_b (F := F) (F' := F') (k := 86) (hF 86 (by decide))
  have a60 := hd_ba (F := F) (F' := F') (k := 60) (hF 60 (by decide))
  have t87 : sy_dv F' (.inr (.inl 87)) = .int ((sy_ai F 60).getD (sy_i F 86).toNatClampNeg 0) := hd_rd (hs 0 _ rfl) b86 a60
  have b82 := hd_b (F := F) (F' := F') (k := 82) (hF 82 (by decide))
  have t88 : sy_dv F' (.inr (.inl 88)) = .int (((sy_ai F 60).getD (sy_i F 86).toNatClampNeg 0) - (sy_i F 82)) := hd_o (hs 1 _ rfl) t87 b82 rfl
  have a14 := hd_ba (F := F) (F' := F') (k := 14) (hF 14 (by decide))
  have t90 : sy_dv F' (.inr (.inl 90)) = .int ((sy_ai F 14).getD (sy_i F 86).toNatClampNeg 0) := hd_rd (hs 3 _ rfl) b86 a14
  have t89 : sy_dv F' (.inr (.inl 89)) = .int (0 - (((sy_ai F 60).getD (sy_i F 86).toNatClampNeg 0) - (sy_i F 82))) := hd_u (hs 2 _ rfl) t88 rfl
  have b85 := hd_b (F := F) (F' := F') (k := 85) (hF 85 (by decide))
  have a61 := hd_ba (F := F) (F' := F') (k := 61) (hF 61 (by decide))
  have t91 : sy_dv F' (.inr (.inl 91)) = .int ((sy_ai F 61).getD (sy_i F 86).toNatClampNeg 0) := hd_rd (hs 4 _ rfl) b86 a61
  have b83 := hd_b (F := F) (F' := F') (k := 83) (hF 83 (by decide))
  have b84 := hd_b (F := F) (F' := F') (k := 84) (hF 84 (by decide))
  have t92 : sy_dv F' (.inr (.inl 92)) = .int ((sy_i F 86) + ((1 : Int32))) := hd_o (hs 5 _ rfl) b86 rfl rfl
  have hB' : iv_in F' iv_B0 := iv_in_eq hB (fun j hj => hF j (Nat.lt_of_lt_of_le hj (by decide +kernel)))
  refine ⟨List.forall_mem_cons.mpr ⟨hd_p5 b4 b86 h0, List.forall_mem_cons.mpr ⟨hd_pb b86 (by first | exact h1 | exact h1), List.forall_mem_cons.mpr ⟨hd_p5 rfl t88 (by have hc : ((0) : Int32).toInt = 0 := (by decide); omega), List.forall_mem_cons.mpr ⟨hd_pb b86 (by first | exact h3 | exact h3), List.forall_mem_cons.mpr ⟨hd_p3 t90 t89 h4, List.forall_mem_cons.mpr ⟨hd_p5 b85 t89 h5, List.forall_mem_cons.mpr ⟨hd_pb b86 (by first | exact h6 | exact h6), List.forall_mem_cons.mpr ⟨hd_p2 t91 b83 h7, fun _ h => absurd h List.not_mem_nil⟩⟩⟩⟩⟩⟩⟩⟩, ?_⟩
  refine k _ ?_ ?_ ?_ ?_ ?_ ?_
  · exact fun j hj _ => (hd_keep hB' (Nat.lt_of_lt_of_le hj (by decide +kernel)) (by simp)).trans (hF j (Nat.lt_of_lt_of_le hj (by decide)))
  · exact hd_gi (x := .inr (.inl 82)) (by decide +kernel) b82
  · exact hd_gi (x := .inr (.inl 83)) (by decide +kernel) b83
  · exact hd_gi (x := .inr (.inl 84)) (by decide +kernel) b84
  · exact hd_gi (x := .inr (.inl 85)) (by decide +kernel) b85
  · exact hd_gi (x := .inr (.inl 92)) (by decide +kernel) t92
theorem j0nnr_10_p8 {Ls : Nat} {xs : Nat → Int32} {d : Nat} {Q : Option Value → jm_h → Prop} (hd : 2 ≤ d) (F : Nat → sy_d) (X1 X2 : List jm_c) (hB : iv_in F iv_B0)
    (h0 : (sy_i F 86).toInt < (sy_i F 4).toInt)
    (h1 : 0 ≤ (sy_i F 86).toInt ∧ (sy_i F 86).toInt < 4)
    (h2 : (((sy_ai F 60).getD (sy_i F 86).toNatClampNeg 0) - (sy_i F 82)).toInt < 0)
    (h3 : 0 ≤ (sy_i F 86).toInt ∧ (sy_i F 86).toInt < 4)
    (h4 : (0 - (((sy_ai F 60).getD (sy_i F 86).toNatClampNeg 0) - (sy_i F 82))).toInt ≤ ((sy_ai F 14).getD (sy_i F 86).toNatClampNeg 0).toInt)
    (h5 : (0 - (((sy_ai F 60).getD (sy_i F 86).toNatClampNeg 0) - (sy_i F 82))).toInt < (sy_i F 85).toInt)
    (h6 : 0 ≤ (sy_i F 86).toInt ∧ (sy_i F 86).toInt < 4)
    (h7 : (sy_i F 83).toInt ≤ ((sy_ai F 61).getD (sy_i F 86).toNatClampNeg 0).toInt)
    (k : ∀ F1 : Nat → sy_d, (∀ j, j < 82 → True → F1 j = F j) → F1 82 = .inl (.int (sy_i F 82)) → F1 83 = .inl (.int (sy_i F 83)) → F1 84 = .inl (.int (sy_i F 86)) → F1 85 = .inl (.int (0 - (((sy_ai F 60).getD (sy_i F 86).toNatClampNeg 0) - (sy_i F 82)))) → F1 86 = .inl (.int ((sy_i F 86) + ((1 : Int32)))) → hd_W Ls xs d jm_M13 Q (10, sy_dL F1 [some (.inl (.ref 46)), some (.inl (.ref 10)), some (.inr (.inl 82)), some (.inr (.inl 83)), some (.inr (.inl 84)), some (.inr (.inl 85)), some (.inr (.inl 86)), none], sy_dS F1 [], sy_dh F1 X1 X2 (iv_H 0), 0, 0)) :
    hd_W Ls xs d jm_M13 Q (10, sy_dL F [some (.inl (.ref 46)), some (.inl (.ref 10)), some (.inr (.inl 82)), some (.inr (.inl 83)), some (.inr (.inl 84)), some (.inr (.inl 85)), some (.inr (.inl 86)), none], sy_dS F [], sy_dh F X1 X2 (iv_H 0), 0, 0) := by
  refine hd_run (s := 0) (nv := 87) (pc := 10) (L := [some (.inl (.ref 46)), some (.inl (.ref 10)), some (.inr (.inl 82)), some (.inr (.inl 83)), some (.inr (.inl 84)), some (.inr (.inl 85)), some (.inr (.inl 86)), none]) (S := []) (uh := hd_ov (iv_id 0 iv_B0) []) (ul := [.inl (.inr (.inl 82)), .inl (.inr (.inl 83)), .inl (.inr (.inl 86)), .inl (.inr (.inl 89)), .inl (.inr (.inl 92))]) (f := true) (sp := [10]) (d0 := 1) (O := [false, false, false, false, false]) (T := [(30, [.inr (.inl 86)], [.inr (.inl 60)]), (1, [.inr (.inl 87), .inr (.inl 82)], []), (20, [.inr (.inl 88)], []), (30, [.inr (.inl 86)], [.inr (.inl 14)]), (30, [.inr (.inl 86)], [.inr (.inl 61)]), (0, [.inr (.inl 86), .inl (.int 1)], [])]) (P := [(5, .inr (.inl 4), .inr (.inl 86)), (6, .inr (.inl 86), .inl (.ref 4)), (5, .inl (.int 0), .inr (.inl 88)), (6, .inr (.inl 86), .inl (.ref 4)), (3, .inr (.inl 90), .inr (.inl 89)), (5, .inr (.inl 85), .inr (.inl 89)), (6, .inr (.inl 86), .inl (.ref 4)), (3, .inr (.inl 91), .inr (.inl 83))]) jm_ok13 (by decide +kernel) (by decide +kernel) hd F X1 X2 (fun F' hF hs => ?_)
  have b4 := hd_b (F := F) (F' := F') (k := 4) (hF 4 (by decide))
  have b86 := hd_b (F := F) (F' := F') (k := 86) (hF 86 (by decide))
  have a60 := hd_ba (F := F) (F' := F') (k := 60) (hF 60 (by decide))
  have t87 : sy_dv F' (.inr (.inl 87)) = .int ((sy_ai F 60).getD (sy_i F 86).toNatClampNeg 0) := hd_rd (hs 0 _ rfl) b86 a60
  have b82 := hd_b (F := F) (F' := F') (k := 82) (hF 82 (by decide))
  have t88 : sy_dv F' (.inr (.inl 88)) = .int (((sy_ai F 60).getD (sy_i F 86).toNatClampNeg 0) - (sy_i F 82)) := hd_o (hs 1 _ rfl) t87 b82 rfl
  have a14 := hd_ba (F := F) (F' := F') (k := 14) (hF 14 (by decide))
  have t90 : sy_dv F' (.inr (.inl 90)) = .int ((sy_ai F 14).getD (sy_i F 86).toNatClampNeg 0) := hd_rd (hs 3 _ rfl) b86 a14
  have t89 : sy_dv F' (.inr (.inl 89)) = .int (0 - (((sy_ai F 60).getD (sy_i F 86).toNatClampNeg 0) - (sy_i F 82))) := hd_u (hs 2 _ rfl) t88 rfl
  have b85 := hd_b (F := F) (F' := F') (k := 85) (hF 85 (by decide))
  have a61 := hd_ba (F := F) (F' := F') (k := 61) (hF 61 (by decide))
  have t91 : sy_dv F' (.inr (.inl 91)) = .int ((sy_ai F 61).getD (sy_i F 86).toNatClampNeg 0) := hd_rd (hs 4 _ rfl) b86 a61
  have b83 := hd_b (F := F) (F' := F') (k := 83) (hF 83 (by decide))
  have t92 : sy_dv F' (.inr (.inl 92)) = .int ((sy_i F 86) + ((1 : Int32))) := hd_o (hs 5 _ rfl) b86 rfl rfl
  have hB' : iv_in F' iv_B0 := iv_in_eq hB (fun j hj => hF j (Nat.lt_of_lt_of_le hj (by decide +kernel)))
  refine ⟨List.forall_mem_cons.mpr ⟨hd_p5 b4 b86 h0, List.forall_mem_cons.mpr ⟨hd_pb b86 (by first | exact h1 | exact h1), List.forall_mem_cons.mpr ⟨hd_p5 rfl t88 (by have hc : ((0) : Int32).toInt = 0 := (by decide); omega), List.forall_mem_cons.mpr ⟨hd_pb b86 (by first | exact h3 | exact h3), List.forall_mem_cons.mpr ⟨hd_p3 t90 t89 h4, List.forall_mem_cons.mpr ⟨hd_p5 b85 t89 h5, List.forall_mem_cons.mpr ⟨hd_pb b86 (by first | exact h6 | exact h6), List.forall_mem_cons.mpr ⟨hd_p3 t91 b83 h7, fun _ h => absurd h List.not_mem_nil⟩⟩⟩⟩⟩⟩⟩⟩, ?_⟩
  refine k _ ?_ ?_ ?_ ?_ ?_ ?_
  · exact fun j hj _ => (hd_keep hB' (Nat.lt_of_lt_of_le hj (by decide +kernel)) (by simp)).trans (hF j (Nat.lt_of_lt_of_le hj (by decide)))
  · exact hd_gi (x := .inr (.inl 82)) (by decide +kernel) b82
  · exact hd_gi (x := .inr (.inl 83)) (by decide +kernel) b83
  · exact hd_gi (x := .inr (.inl 86)) (by decide +kernel) b86
  · exact hd_gi (x := .inr (.inl 89)) (by decide +kernel) t89
  · exact hd_gi (x := .inr (.inl 92)) (by decide +kernel) t92
theorem j0nnr_10 {Ls : Nat} {xs : Nat → Int32} {d : Nat} {Q : Option Value → jm_h → Prop} (hd : 2 ≤ d) (F : Nat → sy_d) (X1 X2 : List jm_c) (hB : iv_in F iv_B0)
    (a86 : 0 ≤ (sy_i F 86).toInt ∧ (sy_i F 86).toInt ≤ 4)
    (k0 : (sy_i F 4).toInt ≤ (sy_i F 86).toInt → ∀ F1 : Nat → sy_d, iv_in F1 iv_B0 → (∀ j, j < 82 → j ∉ ([] : List Nat) → F1 j = F j) → Q (some (.int (sy_i F 84))) (sy_dh F1 X1 X2 (iv_H 0)))
    (k1 : (sy_i F 86).toInt < (sy_i F 4).toInt → 0 ≤ (((sy_ai F 60).getD ((sy_i F 86).toInt).toNat 0) - (sy_i F 82)).toInt → ((sy_ai F 14).getD ((sy_i F 86).toInt).toNat 0).toInt < (((sy_ai F 60).getD ((sy_i F 86).toInt).toNat 0) - (sy_i F 82)).toInt → ∀ F1 : Nat → sy_d, iv_in F1 iv_B0 → (∀ j, j < 82 → j ∉ ([] : List Nat) → F1 j = F j) → (sy_i F1 82).toInt = (sy_i F 82).toInt → sy_i F1 82 = sy_i F 82 → (sy_i F1 83).toInt = (sy_i F 83).toInt → sy_i F1 83 = sy_i F 83 → (sy_i F1 84).toInt = (sy_i F 84).toInt → sy_i F1 84 = sy_i F 84 → (sy_i F1 85).toInt = (sy_i F 85).toInt → sy_i F1 85 = sy_i F 85 → (sy_i F1 86).toInt = ((sy_i F 86).toInt + 1) → sy_i F1 86 = (sy_i F 86) + ((1 : Int32)) → hd_W Ls xs d jm_M13 Q (10, sy_dL F1 [some (.inl (.ref 46)), some (.inl (.ref 10)), some (.inr (.inl 82)), some (.inr (.inl 83)), some (.inr (.inl 84)), some (.inr (.inl 85)), some (.inr (.inl 86)), none], sy_dS F1 [], sy_dh F1 X1 X2 (iv_H 0), 0, 0))
    (k2 : (sy_i F 86).toInt < (sy_i F 4).toInt → 0 ≤ (((sy_ai F 60).getD ((sy_i F 86).toInt).toNat 0) - (sy_i F 82)).toInt → (((sy_ai F 60).getD ((sy_i F 86).toInt).toNat 0) - (sy_i F 82)).toInt ≤ ((sy_ai F 14).getD ((sy_i F 86).toInt).toNat 0).toInt → (sy_i F 85).toInt ≤ (((sy_ai F 60).getD ((sy_i F 86).toInt).toNat 0) - (sy_i F 82)).toInt → ∀ F1 : Nat → sy_d, iv_in F1 iv_B0 → (∀ j, j < 82 → j ∉ ([] : List Nat) → F1 j = F j) → (sy_i F1 82).toInt = (sy_i F 82).toInt → sy_i F1 82 = sy_i F 82 → (sy_i F1 83).toInt = (sy_i F 83).toInt → sy_i F1 83 = sy_i F 83 → (sy_i F1 84).toInt = (sy_i F 84).toInt → sy_i F1 84 = sy_i F 84 → (sy_i F1 85).toInt = (sy_i F 85).toInt → sy_i F1 85 = sy_i F 85 → (sy_i F1 86).toInt = ((sy_i F 86).toInt + 1) → sy_i F1 86 = (sy_i F 86) + ((1 : Int32)) → hd_W Ls xs d jm_M13 Q (10, sy_dL F1 [some (.inl (.ref 46)), some (.inl (.ref 10)), some (.inr (.inl 82)), some (.inr (.inl 83)), some (.inr (.inl 84)), some (.inr (.inl 85)), some (.inr (.inl 86)), none], sy_dS F1 [], sy_dh F1 X1 X2 (iv_H 0), 0, 0))
    (k3 : (sy_i F 86).toInt < (sy_i F 4).toInt → 0 ≤ (((sy_ai F 60).getD ((sy_i F 86).toInt).toNat 0) - (sy_i F 82)).toInt → (((sy_ai F 60).getD ((sy_i F 86).toInt).toNat 0) - (sy_i F 82)).toInt ≤ ((sy_ai F 14).getD ((sy_i F 86).toInt).toNat 0).toInt → (((sy_ai F 60).getD ((sy_i F 86).toInt).toNat 0) - (sy_i F 82)).toInt < (sy_i F 85).toInt → ((sy_ai F 61).getD ((sy_i F 86).toInt).toNat 0).toInt < (sy_i F 83).toInt → ∀ F1 : Nat → sy_d, iv_in F1 iv_B0 → (∀ j, j < 82 → j ∉ ([] : List Nat) → F1 j = F j) → (sy_i F1 82).toInt = (sy_i F 82).toInt → sy_i F1 82 = sy_i F 82 → (sy_i F1 83).toInt = (sy_i F 83).toInt → sy_i F1 83 = sy_i F 83 → (sy_i F1 84).toInt = (sy_i F 84).toInt → sy_i F1 84 = sy_i F 84 → (sy_i F1 85).toInt = (sy_i F 85).toInt → sy_i F1 85 = sy_i F 85 → (sy_i F1 86).toInt = ((sy_i F 86).toInt + 1) → sy_i F1 86 = (sy_i F 86) + ((1 : Int32)) → hd_W Ls xs d jm_M13 Q (10, sy_dL F1 [some (.inl (.ref 46)), some (.inl (.ref 10)), some (.inr (.inl 82)), some (.inr (.inl 83)), some (.inr (.inl 84)), some (.inr (.inl 85)), some (.inr (.inl 86)), none], sy_dS F1 [], sy_dh F1 X1 X2 (iv_H 0), 0, 0))
    (k4 : (sy_i F 86).toInt < (sy_i F 4).toInt → 0 ≤ (((sy_ai F 60).getD ((sy_i F 86).toInt).toNat 0) - (sy_i F 82)).toInt → (((sy_ai F 60).getD ((sy_i F 86).toInt).toNat 0) - (sy_i F 82)).toInt ≤ ((sy_ai F 14).getD ((sy_i F 86).toInt).toNat 0).toInt → (((sy_ai F 60).getD ((sy_i F 86).toInt).toNat 0) - (sy_i F 82)).toInt < (sy_i F 85).toInt → (sy_i F 83).toInt ≤ ((sy_ai F 61).getD ((sy_i F 86).toInt).toNat 0).toInt → ∀ F1 : Nat → sy_d, iv_in F1 iv_B0 → (∀ j, j < 82 → j ∉ ([] : List Nat) → F1 j = F j) → (sy_i F1 82).toInt = (sy_i F 82).toInt → sy_i F1 82 = sy_i F 82 → (sy_i F1 83).toInt = (sy_i F 83).toInt → sy_i F1 83 = sy_i F 83 → (sy_i F1 84).toInt = (sy_i F 86).toInt → sy_i F1 84 = sy_i F 86 → (sy_i F1 85).toInt = (((sy_ai F 60).getD ((sy_i F 86).toInt).toNat 0) - (sy_i F 82)).toInt → sy_i F1 85 = ((sy_ai F 60).getD ((sy_i F 86).toInt).toNat 0) - (sy_i F 82) → (sy_i F1 86).toInt = ((sy_i F 86).toInt + 1) → sy_i F1 86 = (sy_i F 86) + ((1 : Int32)) → hd_W Ls xs d jm_M13 Q (10, sy_dL F1 [some (.inl (.ref 46)), some (.inl (.ref 10)), some (.inr (.inl 82)), some (.inr (.inl 83)), some (.inr (.inl 84)), some (.inr (.inl 85)), some (.inr (.inl 86)), none], sy_dS F1 [], sy_dh F1 X1 X2 (iv_H 0), 0, 0))
    (k5 : (sy_i F 86).toInt < (sy_i F 4).toInt → (((sy_ai F 60).getD ((sy_i F 86).toInt).toNat 0) - (sy_i F 82)).toInt < 0 → ((sy_ai F 14).getD ((sy_i F 86).toInt).toNat 0).toInt < (0 - (((sy_ai F 60).getD ((sy_i F 86).toInt).toNat 0) - (sy_i F 82))).toInt → ∀ F1 : Nat → sy_d, iv_in F1 iv_B0 → (∀ j, j < 82 → j ∉ ([] : List Nat) → F1 j = F j) → (sy_i F1 82).toInt = (sy_i F 82).toInt → sy_i F1 82 = sy_i F 82 → (sy_i F1 83).toInt = (sy_i F 83).toInt → sy_i F1 83 = sy_i F 83 → (sy_i F1 84).toInt = (sy_i F 84).toInt → sy_i F1 84 = sy_i F 84 → (sy_i F1 85).toInt = (sy_i F 85).toInt → sy_i F1 85 = sy_i F 85 → (sy_i F1 86).toInt = ((sy_i F 86).toInt + 1) → sy_i F1 86 = (sy_i F 86) + ((1 : Int32)) → hd_W Ls xs d jm_M13 Q (10, sy_dL F1 [some (.inl (.ref 46)), some (.inl (.ref 10)), some (.inr (.inl 82)), some (.inr (.inl 83)), some (.inr (.inl 84)), some (.inr (.inl 85)), some (.inr (.inl 86)), none], sy_dS F1 [], sy_dh F1 X1 X2 (iv_H 0), 0, 0))
    (k6 : (sy_i F 86).toInt < (sy_i F 4).toInt → (((sy_ai F 60).getD ((sy_i F 86).toInt).toNat 0) - (sy_i F 82)).toInt < 0 → (0 - (((sy_ai F 60).getD ((sy_i F 86).toInt).toNat 0) - (sy_i F 82))).toInt ≤ ((sy_ai F 14).getD ((sy_i F 86).toInt).toNat 0).toInt → (sy_i F 85).toInt ≤ (0 - (((sy_ai F 60).getD ((sy_i F 86).toInt).toNat 0) - (sy_i F 82))).toInt → ∀ F1 : Nat → sy_d, iv_in F1 iv_B0 → (∀ j, j < 82 → j ∉ ([] : List Nat) → F1 j = F j) → (sy_i F1 82).toInt = (sy_i F 82).toInt → sy_i F1 82 = sy_i F 82 → (sy_i F1 83).toInt = (sy_i F 83).toInt → sy_i F1 83 = sy_i F 83 → (sy_i F1 84).toInt = (sy_i F 84).toInt → sy_i F1 84 = sy_i F 84 → (sy_i F1 85).toInt = (sy_i F 85).toInt → sy_i F1 85 = sy_i F 85 → (sy_i F1 86).toInt = ((sy_i F 86).toInt + 1) → sy_i F1 86 = (sy_i F 86) + ((1 : Int32)) → hd_W Ls xs d jm_M13 Q (10, sy_dL F1 [some (.inl (.ref 46)), some (.inl (.ref 10)), some (.inr (.inl 82)), some (.inr (.inl 83)), some (.inr (.inl 84)), some (.inr (.inl 85)), some (.inr (.inl 86)), none], sy_dS F1 [], sy_dh F1 X1 X2 (iv_H 0), 0, 0))
    (k7 : (sy_i F 86).toInt < (sy_i F 4).toInt → (((sy_ai F 60).getD ((sy_i F 86).toInt).toNat 0) - (sy_i F 82)).toInt < 0 → (0 - (((sy_ai F 60).getD ((sy_i F 86).toInt).toNat 0) - (sy_i F 82))).toInt ≤ ((sy_ai F 14).getD ((sy_i F 86).toInt).toNat 0).toInt → (0 - (((sy_ai F 60).getD ((sy_i F 86).toInt).toNat 0) - (sy_i F 82))).toInt < (sy_i F 85).toInt → ((sy_ai F 61).getD ((sy_i F 86).toInt).toNat 0).toInt < (sy_i F 83).toInt → ∀ F1 : Nat → sy_d, iv_in F1 iv_B0 → (∀ j, j < 82 → j ∉ ([] : List Nat) → F1 j = F j) → (sy_i F1 82).toInt = (sy_i F 82).toInt → sy_i F1 82 = sy_i F 82 → (sy_i F1 83).toInt = (sy_i F 83).toInt → sy_i F1 83 = sy_i F 83 → (sy_i F1 84).toInt = (sy_i F 84).toInt → sy_i F1 84 = sy_i F 84 → (sy_i F1 85).toInt = (sy_i F 85).toInt → sy_i F1 85 = sy_i F 85 → (sy_i F1 86).toInt = ((sy_i F 86).toInt + 1) → sy_i F1 86 = (sy_i F 86) + ((1 : Int32)) → hd_W Ls xs d jm_M13 Q (10, sy_dL F1 [some (.inl (.ref 46)), some (.inl (.ref 10)), some (.inr (.inl 82)), some (.inr (.inl 83)), some (.inr (.inl 84)), some (.inr (.inl 85)), some (.inr (.inl 86)), none], sy_dS F1 [], sy_dh F1 X1 X2 (iv_H 0), 0, 0))
    (k8 : (sy_i F 86).toInt < (sy_i F 4).toInt → (((sy_ai F 60).getD ((sy_i F 86).toInt).toNat 0) - (sy_i F 82)).toInt < 0 → (0 - (((sy_ai F 60).getD ((sy_i F 86).toInt).toNat 0) - (sy_i F 82))).toInt ≤ ((sy_ai F 14).getD ((sy_i F 86).toInt).toNat 0).toInt → (0 - (((sy_ai F 60).getD ((sy_i F 86).toInt).toNat 0) - (sy_i F 82))).toInt < (sy_i F 85).toInt → (sy_i F 83).toInt ≤ ((sy_ai F 61).getD ((sy_i F 86).toInt).toNat 0).toInt → ∀ F1 : Nat → sy_d, iv_in F1 iv_B0 → (∀ j, j < 82 → j ∉ ([] : List Nat) → F1 j = F j) → (sy_i F1 82).toInt = (sy_i F 82).toInt → sy_i F1 82 = sy_i F 82 → (sy_i F1 83).toInt = (sy_i F 83).toInt → sy_i F1 83 = sy_i F 83 → (sy_i F1 84).toInt = (sy_i F 86).toInt → sy_i F1 84 = sy_i F 86 → (sy_i F1 85).toInt = (0 - (((sy_ai F 60).getD ((sy_i F 86).toInt).toNat 0) - (sy_i F 82))).toInt → sy_i F1 85 = 0 - (((sy_ai F 60).getD ((sy_i F 86).toInt).toNat 0) - (sy_i F 82)) → (sy_i F1 86).toInt = ((sy_i F 86).toInt + 1) → sy_i F1 86 = (sy_i F 86) + ((1 : Int32)) → hd_W Ls xs d jm_M13 Q (10, sy_dL F1 [some (.inl (.ref 46)), some (.inl (.ref 10)), some (.inr (.inl 82)), some (.inr (.inl 83)), some (.inr (.inl 84)), some (.inr (.inl 85)), some (.inr (.inl 86)), none], sy_dS F1 [], sy_dh F1 X1 X2 (iv_H 0), 0, 0)) :
    hd_W Ls xs d jm_M13 Q (10, sy_dL F [some (.inl (.ref 46)), some (.inl (.ref 10)), some (.inr (.inl 82)), some (.inr (.inl 83)), some (.inr (.inl 84)), some (.inr (.inl 85)), some (.inr (.inl 86)), none], sy_dS F [], sy_dh F X1 X2 (iv_H 0), 0, 0) := by
  by_cases g0 : (sy_i F 4).toInt ≤ (sy_i F 86).toInt
  · have c4 := nz_bx hB (k := 4) (lo := 0) (hi := 4) rfl
    exact j0nnr_10_p0 hd F X1 X2 hB (by first | exact g0 | (simp only [nz_c]; exact g0)) (fun F1 g  => by rw [(rfl : sy_i F 84 = sy_i F 84)]; exact k0 g0 F1 (nz_in0 hB [] (fun j hj hn => g j hj (by simp only [List.mem_cons, List.not_mem_nil, or_false, not_or] at hn; exact trivial)) (List.forall_mem_nil _)) (fun j hj hn => g j hj (by simp only [List.mem_cons, List.not_mem_nil, or_false, not_or] at hn; exact trivial)) )
  replace g0 : (sy_i F 86).toInt < (sy_i F 4).toInt := by omega
  by_cases g1 : 0 ≤ (((sy_ai F 60).getD ((sy_i F 86).toInt).toNat 0) - (sy_i F 82)).toInt
  · by_cases g2 : ((sy_ai F 14).getD ((sy_i F 86).toInt).toNat 0).toInt < (((sy_ai F 60).getD ((sy_i F 86).toInt).toNat 0) - (sy_i F 82)).toInt
    · have c4 := nz_bx hB (k := 4) (lo := 0) (hi := 4) rfl
      have q88 : ((sy_ai F 60).getD (sy_i F 86).toNatClampNeg 0) - (sy_i F 82) = ((sy_ai F 60).getD ((sy_i F 86).toInt).toNat 0) - (sy_i F 82) := by simp only [nz_c]
      have n88 : nzI (((sy_ai F 60).getD (sy_i F 86).toNatClampNeg 0) - (sy_i F 82)) ((((sy_ai F 60).getD ((sy_i F 86).toInt).toNat 0) - (sy_i F 82)).toInt) := congrArg Int32.toInt q88
      have q89 : (sy_ai F 14).getD (sy_i F 86).toNatClampNeg 0 = (sy_ai F 14).getD ((sy_i F 86).toInt).toNat 0 := by simp only [nz_c]
      have n89 : nzI ((sy_ai F 14).getD (sy_i F 86).toNatClampNeg 0) (((sy_ai F 14).getD ((sy_i F 86).toInt).toNat 0).toInt) := congrArg Int32.toInt q89
      have n90 : nzI ((sy_i F 86) + ((1 : Int32))) (((sy_i F 86).toInt + 1)) := nz_add (rfl : (sy_i F 86).toInt = (sy_i F 86).toInt) (by decide : ((1 : Int32)).toInt = 1) (by omega) (by omega)
      exact j0nnr_10_p1 hd F X1 X2 hB (by first | exact g0 | (simp only [nz_c]; exact g0)) (by first | exact ⟨by omega, by omega⟩ | (simp only [nz_c]; exact ⟨by omega, by omega⟩)) (by first | exact g1 | (simp only [nz_c]; exact g1) | (rw [(nzE n88)]; exact g1)) (by first | exact ⟨by omega, by omega⟩ | (simp only [nz_c]; exact ⟨by omega, by omega⟩)) (by first | exact g2 | (simp only [nz_c]; exact g2) | (rw [(nzE n89)]; exact g2) | (rw [(nzE n88)]; exact g2) | (rw [(nzE n89), (nzE n88)]; exact g2)) (fun F1 g e82 e83 e84 e85 e86 => k1 g0 g1 g2 F1 (nz_in0 hB [] (fun j hj hn => g j hj (by simp only [List.mem_cons, List.not_mem_nil, or_false, not_or] at hn; exact trivial)) (List.forall_mem_nil _)) (fun j hj hn => g j hj (by simp only [List.mem_cons, List.not_mem_nil, or_false, not_or] at hn; exact trivial)) ((congrArg Int32.toInt (zz_i e82)).trans (rfl : (sy_i F 82).toInt = (sy_i F 82).toInt)) ((zz_i e82).trans (rfl : sy_i F 82 = sy_i F 82)) ((congrArg Int32.toInt (zz_i e83)).trans (rfl : (sy_i F 83).toInt = (sy_i F 83).toInt)) ((zz_i e83).trans (rfl : sy_i F 83 = sy_i F 83)) ((congrArg Int32.toInt (zz_i e84)).trans (rfl : (sy_i F 84).toInt = (sy_i F 84).toInt)) ((zz_i e84).trans (rfl : sy_i F 84 = sy_i F 84)) ((congrArg Int32.toInt (zz_i e85)).trans (rfl : (sy_i F 85).toInt = (sy_i F 85).toInt)) ((zz_i e85).trans (rfl : sy_i F 85 = sy_i F 85)) ((congrArg Int32.toInt (zz_i e86)).trans (nzE n90)) ((zz_i e86).trans (rfl : (sy_i F 86) + ((1 : Int32)) = (sy_i F 86) + ((1 : Int32)))))
    replace g2 : (((sy_ai F 60).getD ((sy_i F 86).toInt).toNat 0) - (sy_i F 82)).toInt ≤ ((sy_ai F 14).getD ((sy_i F 86).toInt).toNat 0).toInt := by omega
    by_cases g3 : (sy_i F 85).toInt ≤ (((sy_ai F 60).getD ((sy_i F 86).toInt).toNat 0) - (sy_i F 82)).toInt
    · have c4 := nz_bx hB (k := 4) (lo := 0) (hi := 4) rfl
      have q88 : ((sy_ai F 60).getD (sy_i F 86).toNatClampNeg 0) - (sy_i F 82) = ((sy_ai F 60).getD ((sy_i F 86).toInt).toNat 0) - (sy_i F 82) := by simp only [nz_c]
      have n88 : nzI (((sy_ai F 60).getD (sy_i F 86).toNatClampNeg 0) - (sy_i F 82)) ((((sy_ai F 60).getD ((sy_i F 86).toInt).toNat 0) - (sy_i F 82)).toInt) := congrArg Int32.toInt q88
      have q89 : (sy_ai F 14).getD (sy_i F 86).toNatClampNeg 0 = (sy_ai F 14).getD ((sy_i F 86).toInt).toNat 0 := by simp only [nz_c]
      have n89 : nzI ((sy_ai F 14).getD (sy_i F 86).toNatClampNeg 0) (((sy_ai F 14).getD ((sy_i F 86).toInt).toNat 0).toInt) := congrArg Int32.toInt q89
      have n90 : nzI ((sy_i F 86) + ((1 : Int32))) (((sy_i F 86).toInt + 1)) := nz_add (rfl : (sy_i F 86).toInt = (sy_i F 86).toInt) (by decide : ((1 : Int32)).toInt = 1) (by omega) (by omega)
      exact j0nnr_10_p2 hd F X1 X2 hB (by first | exact g0 | (simp only [nz_c]; exact g0)) (by first | exact ⟨by omega, by omega⟩ | (simp only [nz_c]; exact ⟨by omega, by omega⟩)) (by first | exact g1 | (simp only [nz_c]; exact g1) | (rw [(nzE n88)]; exact g1)) (by first | exact ⟨by omega, by omega⟩ | (simp only [nz_c]; exact ⟨by omega, by omega⟩)) (by first | exact g2 | (simp only [nz_c]; exact g2) | (rw [(nzE n89)]; exact g2) | (rw [(nzE n88)]; exact g2) | (rw [(nzE n89), (nzE n88)]; exact g2)) (by first | exact g3 | (simp only [nz_c]; exact g3) | (rw [(nzE n88)]; exact g3)) (fun F1 g e82 e83 e84 e85 e86 => k2 g0 g1 g2 g3 F1 (nz_in0 hB [] (fun j hj hn => g j hj (by simp only [List.mem_cons, List.not_mem_nil, or_false, not_or] at hn; exact trivial)) (List.forall_mem_nil _)) (fun j hj hn => g j hj (by simp only [List.mem_cons, List.not_mem_nil, or_false, not_or] at hn; exact trivial)) ((congrArg Int32.toInt (zz_i e82)).trans (rfl : (sy_i F 82).toInt = (sy_i F 82).toInt)) ((zz_i e82).trans (rfl : sy_i F 82 = sy_i F 82)) ((congrArg Int32.toInt (zz_i e83)).trans (rfl : (sy_i F 83).toInt = (sy_i F 83).toInt)) ((zz_i e83).trans (rfl : sy_i F 83 = sy_i F 83)) ((congrArg Int32.toInt (zz_i e84)).trans (rfl : (sy_i F 84).toInt = (sy_i F 84).toInt)) ((zz_i e84).trans (rfl : sy_i F 84 = sy_i F 84)) ((congrArg Int32.toInt (zz_i e85)).trans (rfl : (sy_i F 85).toInt = (sy_i F 85).toInt)) ((zz_i e85).trans (rfl : sy_i F 85 = sy_i F 85)) ((congrArg Int32.toInt (zz_i e86)).trans (nzE n90)) ((zz_i e86).trans (rfl : (sy_i F 86) + ((1 : Int32)) = (sy_i F 86) + ((1 : Int32)))))
    replace g3 : (((sy_ai F 60).getD ((sy_i F 86).toInt).toNat 0) - (sy_i F 82)).toInt < (sy_i F 85).toInt := by omega
    by_cases g4 : ((sy_ai F 61).getD ((sy_i F 86).toInt).toNat 0).toInt < (sy_i F 83).toInt
    · have c4 := nz_bx hB (k := 4) (lo := 0) (hi := 4) rfl
      have q88 : ((sy_ai F 60).getD (sy_i F 86).toNatClampNeg 0) - (sy_i F 82) = ((sy_ai F 60).getD ((sy_i F 86).toInt).toNat 0) - (sy_i F 82) := by simp only [nz_c]
      have n88 : nzI (((sy_ai F 60).getD (sy_i F 86).toNatClampNeg 0) - (sy_i F 82)) ((((sy_ai F 60).getD ((sy_i F 86).toInt).toNat 0) - (sy_i F 82)).toInt) := congrArg Int32.toInt q88
      have q89 : (sy_ai F 14).getD (sy_i F 86).toNatClampNeg 0 = (sy_ai F 14).getD ((sy_i F 86).toInt).toNat 0 := by simp only [nz_c]
      have n89 : nzI ((sy_ai F 14).getD (sy_i F 86).toNatClampNeg 0) (((sy_ai F 14).getD ((sy_i F 86).toInt).toNat 0).toInt) := congrArg Int32.toInt q89
      have q90 : (sy_ai F 61).getD (sy_i F 86).toNatClampNeg 0 = (sy_ai F 61).getD ((sy_i F 86).toInt).toNat 0 := by simp only [nz_c]
      have n90 : nzI ((sy_ai F 61).getD (sy_i F 86).toNatClampNeg 0) (((sy_ai F 61).getD ((sy_i F 86).toInt).toNat 0).toInt) := congrArg Int32.toInt q90
      have n91 : nzI ((sy_i F 86) + ((1 : Int32))) (((sy_i F 86).toInt + 1)) := nz_add (rfl : (sy_i F 86).toInt = (sy_i F 86).toInt) (by decide : ((1 : Int32)).toInt = 1) (by omega) (by omega)
      exact j0nnr_10_p3 hd F X1 X2 hB (by first | exact g0 | (simp only [nz_c]; exact g0)) (by first | exact ⟨by omega, by omega⟩ | (simp only [nz_c]; exact ⟨by omega, by omega⟩)) (by first | exact g1 | (simp only [nz_c]; exact g1) | (rw [(nzE n88)]; exact g1)) (by first | exact ⟨by omega, by omega⟩ | (simp only [nz_c]; exact ⟨by omega, by omega⟩)) (by first | exact g2 | (simp only [nz_c]; exact g2) | (rw [(nzE n89)]; exact g2) | (rw [(nzE n88)]; exact g2) | (rw [(nzE n89), (nzE n88)]; exact g2)) (by first | exact g3 | (simp only [nz_c]; exact g3) | (rw [(nzE n88)]; exact g3)) (by first | exact ⟨by omega, by omega⟩ | (simp only [nz_c]; exact ⟨by omega, by omega⟩)) (by first | exact g4 | (simp only [nz_c]; exact g4) | (rw [(nzE n90)]; exact g4)) (fun F1 g e82 e83 e84 e85 e86 => k3 g0 g1 g2 g3 g4 F1 (nz_in0 hB [] (fun j hj hn => g j hj (by simp only [List.mem_cons, List.not_mem_nil, or_false, not_or] at hn; exact trivial)) (List.forall_mem_nil _)) (fun j hj hn => g j hj (by simp only [List.mem_cons, List.not_mem_nil, or_false, not_or] at hn; exact trivial)) ((congrArg Int32.toInt (zz_i e82)).trans (rfl : (sy_i F 82).toInt = (sy_i F 82).toInt)) ((zz_i e82).trans (rfl : sy_i F 82 = sy_i F 82)) ((congrArg Int32.toInt (zz_i e83)).trans (rfl : (sy_i F 83).toInt = (sy_i F 83).toInt)) ((zz_i e83).trans (rfl : sy_i F 83 = sy_i F 83)) ((congrArg Int32.toInt (zz_i e84)).trans (rfl : (sy_i F 84).toInt = (sy_i F 84).toInt)) ((zz_i e84).trans (rfl : sy_i F 84 = sy_i F 84)) ((congrArg Int32.toInt (zz_i e85)).trans (rfl : (sy_i F 85).toInt = (sy_i F 85).toInt)) ((zz_i e85).trans (rfl : sy_i F 85 = sy_i F 85)) ((congrArg Int32.toInt (zz_i e86)).trans (nzE n91)) ((zz_i e86).trans (rfl : (sy_i F 86) + ((1 : Int32)) = (sy_i F 86) + ((1 : Int32)))))
    replace g4 : (sy_i F 83).toInt ≤ ((sy_ai F 61).getD ((sy_i F 86).toInt).toNat 0).toInt := by omega
    have c4 := nz_bx hB (k := 4) (lo := 0) (hi := 4) rfl
    have q88 : ((sy_ai F 60).getD (sy_i F 86).toNatClampNeg 0) - (sy_i F 82) = ((sy_ai F 60).getD ((sy_i F 86).toInt).toNat 0) - (sy_i F 82) := by simp only [nz_c]
    have n88 : nzI (((sy_ai F 60).getD (sy_i F 86).toNatClampNeg 0) - (sy_i F 82)) ((((sy_ai F 60).getD ((sy_i F 86).toInt).toNat 0) - (sy_i F 82)).toInt) := congrArg Int32.toInt q88
    have q89 : (sy_ai F 14).getD (sy_i F 86).toNatClampNeg 0 = (sy_ai F 14).getD ((sy_i F 86).toInt).toNat 0 := by simp only [nz_c]
    have n89 : nzI ((sy_ai F 14).getD (sy_i F 86).toNatClampNeg 0) (((sy_ai F 14).getD ((sy_i F 86).toInt).toNat 0).toInt) := congrArg Int32.toInt q89
    have q90 : (sy_ai F 61).getD (sy_i F 86).toNatClampNeg 0 = (sy_ai F 61).getD ((sy_i F 86).toInt).toNat 0 := by simp only [nz_c]
    have n90 : nzI ((sy_ai F 61).getD (sy_i F 86).toNatClampNeg 0) (((sy_ai F 61).getD ((sy_i F 86).toInt).toNat 0).toInt) := congrArg Int32.toInt q90
    have n91 : nzI ((sy_i F 86) + ((1 : Int32))) (((sy_i F 86).toInt + 1)) := nz_add (rfl : (sy_i F 86).toInt = (sy_i F 86).toInt) (by decide : ((1 : Int32)).toInt = 1) (by omega) (by omega)
    exact j0nnr_10_p4 hd F X1 X2 hB (by first | exact g0 | (simp only [nz_c]; exact g0)) (by first | exact ⟨by omega, by omega⟩ | (simp only [nz_c]; exact ⟨by omega, by omega⟩)) (by first | exact g1 | (simp only [nz_c]; exact g1) | (rw [(nzE n88)]; exact g1)) (by first | exact ⟨by omega, by omega⟩ | (simp only [nz_c]; exact ⟨by omega, by omega⟩)) (by first | exact g2 | (simp only [nz_c]; exact g2) | (rw [(nzE n89)]; exact g2) | (rw [(nzE n88)]; exact g2) | (rw [(nzE n89), (nzE n88)]; exact g2)) (by first | exact g3 | (simp only [nz_c]; exact g3) | (rw [(nzE n88)]; exact g3)) (by first | exact ⟨by omega, by omega⟩ | (simp only [nz_c]; exact ⟨by omega, by omega⟩)) (by first | exact g4 | (simp only [nz_c]; exact g4) | (rw [(nzE n90)]; exact g4)) (fun F1 g e82 e83 e84 e85 e86 => k4 g0 g1 g2 g3 g4 F1 (nz_in0 hB [] (fun j hj hn => g j hj (by simp only [List.mem_cons, List.not_mem_nil, or_false, not_or] at hn; exact trivial)) (List.forall_mem_nil _)) (fun j hj hn => g j hj (by simp only [List.mem_cons, List.not_mem_nil, or_false, not_or] at hn; exact trivial)) ((congrArg Int32.toInt (zz_i e82)).trans (rfl : (sy_i F 82).toInt = (sy_i F 82).toInt)) ((zz_i e82).trans (rfl : sy_i F 82 = sy_i F 82)) ((congrArg Int32.toInt (zz_i e83)).trans (rfl : (sy_i F 83).toInt = (sy_i F 83).toInt)) ((zz_i e83).trans (rfl : sy_i F 83 = sy_i F 83)) ((congrArg Int32.toInt (zz_i e84)).trans (rfl : (sy_i F 86).toInt = (sy_i F 86).toInt)) ((zz_i e84).trans (rfl : sy_i F 86 = sy_i F 86)) ((congrArg Int32.toInt (zz_i e85)).trans (nzE n88)) ((zz_i e85).trans q88) ((congrArg Int32.toInt (zz_i e86)).trans (nzE n91)) ((zz_i e86).trans (rfl : (sy_i F 86) + ((1 : Int32)) = (sy_i F 86) + ((1 : Int32)))))
  replace g1 : (((sy_ai F 60).getD ((sy_i F 86).toInt).toNat 0) - (sy_i F 82)).toInt < 0 := by omega
  by_cases g2 : ((sy_ai F 14).getD ((sy_i F 86).toInt).toNat 0).toInt < (0 - (((sy_ai F 60).getD ((sy_i F 86).toInt).toNat 0) - (sy_i F 82))).toInt
  · have c4 := nz_bx hB (k := 4) (lo := 0) (hi := 4) rfl
    have q88 : ((sy_ai F 60).getD (sy_i F 86).toNatClampNeg 0) - (sy_i F 82) = ((sy_ai F 60).getD ((sy_i F 86).toInt).toNat 0) - (sy_i F 82) := by simp only [nz_c]
    have n88 : nzI (((sy_ai F 60).getD (sy_i F 86).toNatClampNeg 0) - (sy_i F 82)) ((((sy_ai F 60).getD ((sy_i F 86).toInt).toNat 0) - (sy_i F 82)).toInt) := congrArg Int32.toInt q88
    have q90 : (sy_ai F 14).getD (sy_i F 86).toNatClampNeg 0 = (sy_ai F 14).getD ((sy_i F 86).toInt).toNat 0 := by simp only [nz_c]
    have n90 : nzI ((sy_ai F 14).getD (sy_i F 86).toNatClampNeg 0) (((sy_ai F 14).getD ((sy_i F 86).toInt).toNat 0).toInt) := congrArg Int32.toInt q90
    have q89 : 0 - (((sy_ai F 60).getD (sy_i F 86).toNatClampNeg 0) - (sy_i F 82)) = 0 - (((sy_ai F 60).getD ((sy_i F 86).toInt).toNat 0) - (sy_i F 82)) := by simp only [nz_c]
    have n89 : nzI (0 - (((sy_ai F 60).getD (sy_i F 86).toNatClampNeg 0) - (sy_i F 82))) ((0 - (((sy_ai F 60).getD ((sy_i F 86).toInt).toNat 0) - (sy_i F 82))).toInt) := congrArg Int32.toInt q89
    have n91 : nzI ((sy_i F 86) + ((1 : Int32))) (((sy_i F 86).toInt + 1)) := nz_add (rfl : (sy_i F 86).toInt = (sy_i F 86).toInt) (by decide : ((1 : Int32)).toInt = 1) (by omega) (by omega)
    exact j0nnr_10_p5 hd F X1 X2 hB (by first | exact g0 | (simp only [nz_c]; exact g0)) (by first | exact ⟨by omega, by omega⟩ | (simp only [nz_c]; exact ⟨by omega, by omega⟩)) (by first | exact g1 | (simp only [nz_c]; exact g1) | (rw [(nzE n88)]; exact g1)) (by first | exact ⟨by omega, by omega⟩ | (simp only [nz_c]; exact ⟨by omega, by omega⟩)) (by first | exact g2 | (simp only [nz_c]; exact g2) | (rw [(nzE n90)]; exact g2) | (rw [(nzE n89)]; exact g2) | (rw [(nzE n90), (nzE n89)]; exact g2)) (fun F1 g e82 e83 e84 e85 e86 => k5 g0 g1 g2 F1 (nz_in0 hB [] (fun j hj hn => g j hj (by simp only [List.mem_cons, List.not_mem_nil, or_false, not_or] at hn; exact trivial)) (List.forall_mem_nil _)) (fun j hj hn => g j hj (by simp only [List.mem_cons, List.not_mem_nil, or_false, not_or] at hn; exact trivial)) ((congrArg Int32.toInt (zz_i e82)).trans (rfl : (sy_i F 82).toInt = (sy_i F 82).toInt)) ((zz_i e82).trans (rfl : sy_i F 82 = sy_i F 82)) ((congrArg Int32.toInt (zz_i e83)).trans (rfl : (sy_i F 83).toInt = (sy_i F 83).toInt)) ((zz_i e83).trans (rfl : sy_i F 83 = sy_i F 83)) ((congrArg Int32.toInt (zz_i e84)).trans (rfl : (sy_i F 84).toInt = (sy_i F 84).toInt)) ((zz_i e84).trans (rfl : sy_i F 84 = sy_i F 84)) ((congrArg Int32.toInt (zz_i e85)).trans (rfl : (sy_i F 85).toInt = (sy_i F 85).toInt)) ((zz_i e85).trans (rfl : sy_i F 85 = sy_i F 85)) ((congrArg Int32.toInt (zz_i e86)).trans (nzE n91)) ((zz_i e86).trans (rfl : (sy_i F 86) + ((1 : Int32)) = (sy_i F 86) + ((1 : Int32)))))
  replace g2 : (0 - (((sy_ai F 60).getD ((sy_i F 86).toInt).toNat 0) - (sy_i F 82))).toInt ≤ ((sy_ai F 14).getD ((sy_i F 86).toInt).toNat 0).toInt := by omega
  by_cases g3 : (sy_i F 85).toInt ≤ (0 - (((sy_ai F 60).getD ((sy_i F 86).toInt).toNat 0) - (sy_i F 82))).toInt
  · have c4 := nz_bx hB (k := 4) (lo := 0) (hi := 4) rfl
    have q88 : ((sy_ai F 60).getD (sy_i F 86).toNatClampNeg 0) - (sy_i F 82) = ((sy_ai F 60).getD ((sy_i F 86).toInt).toNat 0) - (sy_i F 82) := by simp only [nz_c]
    have n88 : nzI (((sy_ai F 60).getD (sy_i F 86).toNatClampNeg 0) - (sy_i F 82)) ((((sy_ai F 60).getD ((sy_i F 86).toInt).toNat 0) - (sy_i F 82)).toInt) := congrArg Int32.toInt q88
    have q90 : (sy_ai F 14).getD (sy_i F 86).toNatClampNeg 0 = (sy_ai F 14).getD ((sy_i F 86).toInt).toNat 0 := by simp only [nz_c]
    have n90 : nzI ((sy_ai F 14).getD (sy_i F 86).toNatClampNeg 0) (((sy_ai F 14).getD ((sy_i F 86).toInt).toNat 0).toInt) := congrArg Int32.toInt q90
    have q89 : 0 - (((sy_ai F 60).getD (sy_i F 86).toNatClampNeg 0) - (sy_i F 82)) = 0 - (((sy_ai F 60).getD ((sy_i F 86).toInt).toNat 0) - (sy_i F 82)) := by simp only [nz_c]
    have n89 : nzI (0 - (((sy_ai F 60).getD (sy_i F 86).toNatClampNeg 0) - (sy_i F 82))) ((0 - (((sy_ai F 60).getD ((sy_i F 86).toInt).toNat 0) - (sy_i F 82))).toInt) := congrArg Int32.toInt q89
    have n91 : nzI ((sy_i F 86) + ((1 : Int32))) (((sy_i F 86).toInt + 1)) := nz_add (rfl : (sy_i F 86).toInt = (sy_i F 86).toInt) (by decide : ((1 : Int32)).toInt = 1) (by omega) (by omega)
    exact j0nnr_10_p6 hd F X1 X2 hB (by first | exact g0 | (simp only [nz_c]; exact g0)) (by first | exact ⟨by omega, by omega⟩ | (simp only [nz_c]; exact ⟨by omega, by omega⟩)) (by first | exact g1 | (simp only [nz_c]; exact g1) | (rw [(nzE n88)]; exact g1)) (by first | exact ⟨by omega, by omega⟩ | (simp only [nz_c]; exact ⟨by omega, by omega⟩)) (by first | exact g2 | (simp only [nz_c]; exact g2) | (rw [(nzE n90)]; exact g2) | (rw [(nzE n89)]; exact g2) | (rw [(nzE n90), (nzE n89)]; exact g2)) (by first | exact g3 | (simp only [nz_c]; exact g3) | (rw [(nzE n89)]; exact g3)) (fun F1 g e82 e83 e84 e85 e86 => k6 g0 g1 g2 g3 F1 (nz_in0 hB [] (fun j hj hn => g j hj (by simp only [List.mem_cons, List.not_mem_nil, or_false, not_or] at hn; exact trivial)) (List.forall_mem_nil _)) (fun j hj hn => g j hj (by simp only [List.mem_cons, List.not_mem_nil, or_false, not_or] at hn; exact trivial)) ((congrArg Int32.toInt (zz_i e82)).trans (rfl : (sy_i F 82).toInt = (sy_i F 82).toInt)) ((zz_i e82).trans (rfl : sy_i F 82 = sy_i F 82)) ((congrArg Int32.toInt (zz_i e83)).trans (rfl : (sy_i F 83).toInt = (sy_i F 83).toInt)) ((zz_i e83).trans (rfl : sy_i F 83 = sy_i F 83)) ((congrArg Int32.toInt (zz_i e84)).trans (rfl : (sy_i F 84).toInt = (sy_i F 84).toInt)) ((zz_i e84).trans (rfl : sy_i F 84 = sy_i F 84)) ((congrArg Int32.toInt (zz_i e85)).trans (rfl : (sy_i F 85).toInt = (sy_i F 85).toInt)) ((zz_i e85).trans (rfl : sy_i F 85 = sy_i F 85)) ((congrArg Int32.toInt (zz_i e86)).trans (nzE n91)) ((zz_i e86).trans (rfl : (sy_i F 86) + ((1 : Int32)) = (sy_i F 86) + ((1 : Int32)))))
  replace g3 : (0 - (((sy_ai F 60).getD ((sy_i F 86).toInt).toNat 0) - (sy_i F 82))).toInt < (sy_i F 85).toInt := by omega
  by_cases g4 : ((sy_ai F 61).getD ((sy_i F 86).toInt).toNat 0).toInt < (sy_i F 83).toInt
  · have c4 := nz_bx hB (k := 4) (lo := 0) (hi := 4) rfl
    have q88 : ((sy_ai F 60).getD (sy_i F 86).toNatClampNeg 0) - (sy_i F 82) = ((sy_ai F 60).getD ((sy_i F 86).toInt).toNat 0) - (sy_i F 82) := by simp only [nz_c]
    have n88 : nzI (((sy_ai F 60).getD (sy_i F 86).toNatClampNeg 0) - (sy_i F 82)) ((((sy_ai F 60).getD ((sy_i F 86).toInt).toNat 0) - (sy_i F 82)).toInt) := congrArg Int32.toInt q88
    have q90 : (sy_ai F 14).getD (sy_i F 86).toNatClampNeg 0 = (sy_ai F 14).getD ((sy_i F 86).toInt).toNat 0 := by simp only [nz_c]
    have n90 : nzI ((sy_ai F 14).getD (sy_i F 86).toNatClampNeg 0) (((sy_ai F 14).getD ((sy_i F 86).toInt).toNat 0).toInt) := congrArg Int32.toInt q90
    have q89 : 0 - (((sy_ai F 60).getD (sy_i F 86).toNatClampNeg 0) - (sy_i F 82)) = 0 - (((sy_ai F 60).getD ((sy_i F 86).toInt).toNat 0) - (sy_i F 82)) := by simp only [nz_c]
    have n89 : nzI (0 - (((sy_ai F 60).getD (sy_i F 86).toNatClampNeg 0) - (sy_i F 82))) ((0 - (((sy_ai F 60).getD ((sy_i F 86).toInt).toNat 0) - (sy_i F 82))).toInt) := congrArg Int32.toInt q89
    have q91 : (sy_ai F 61).getD (sy_i F 86).toNatClampNeg 0 = (sy_ai F 61).getD ((sy_i F 86).toInt).toNat 0 := by simp only [nz_c]
    have n91 : nzI ((sy_ai F 61).getD (sy_i F 86).toNatClampNeg 0) (((sy_ai F 61).getD ((sy_i F 86).toInt).toNat 0).toInt) := congrArg Int32.toInt q91
    have n92 : nzI ((sy_i F 86) + ((1 : Int32))) (((sy_i F 86).toInt + 1)) := nz_add (rfl : (sy_i F 86).toInt = (sy_i F 86).toInt) (by decide : ((1 : Int32)).toInt = 1) (by omega) (by omega)
    exact j0nnr_10_p7 hd F X1 X2 hB (by first | exact g0 | (simp only [nz_c]; exact g0)) (by first | exact ⟨by omega, by omega⟩ | (simp only [nz_c]; exact ⟨by omega, by omega⟩)) (by first | exact g1 | (simp only [nz_c]; exact g1) | (rw [(nzE n88)]; exact g1)) (by first | exact ⟨by omega, by omega⟩ | (simp only [nz_c]; exact ⟨by omega, by omega⟩)) (by first | exact g2 | (simp only [nz_c]; exact g2) | (rw [(nzE n90)]; exact g2) | (rw [(nzE n89)]; exact g2) | (rw [(nzE n90), (nzE n89)]; exact g2)) (by first | exact g3 | (simp only [nz_c]; exact g3) | (rw [(nzE n89)]; exact g3)) (by first | exact ⟨by omega, by omega⟩ | (simp only [nz_c]; exact ⟨by omega, by omega⟩)) (by first | exact g4 | (simp only [nz_c]; exact g4) | (rw [(nzE n91)]; exact g4)) (fun F1 g e82 e83 e84 e85 e86 => k7 g0 g1 g2 g3 g4 F1 (nz_in0 hB [] (fun j hj hn => g j hj (by simp only [List.mem_cons, List.not_mem_nil, or_false, not_or] at hn; exact trivial)) (List.forall_mem_nil _)) (fun j hj hn => g j hj (by simp only [List.mem_cons, List.not_mem_nil, or_false, not_or] at hn; exact trivial)) ((congrArg Int32.toInt (zz_i e82)).trans (rfl : (sy_i F 82).toInt = (sy_i F 82).toInt)) ((zz_i e82).trans (rfl : sy_i F 82 = sy_i F 82)) ((congrArg Int32.toInt (zz_i e83)).trans (rfl : (sy_i F 83).toInt = (sy_i F 83).toInt)) ((zz_i e83).trans (rfl : sy_i F 83 = sy_i F 83)) ((congrArg Int32.toInt (zz_i e84)).trans (rfl : (sy_i F 84).toInt = (sy_i F 84).toInt)) ((zz_i e84).trans (rfl : sy_i F 84 = sy_i F 84)) ((congrArg Int32.toInt (zz_i e85)).trans (rfl : (sy_i F 85).toInt = (sy_i F 85).toInt)) ((zz_i e85).trans (rfl : sy_i F 85 = sy_i F 85)) ((congrArg Int32.toInt (zz_i e86)).trans (nzE n92)) ((zz_i e86).trans (rfl : (sy_i F 86) + ((1 : Int32)) = (sy_i F 86) + ((1 : Int32)))))
  replace g4 : (sy_i F 83).toInt ≤ ((sy_ai F 61).getD ((sy_i F 86).toInt).toNat 0).toInt := by omega
  have c4 := nz_bx hB (k := 4) (lo := 0) (hi := 4) rfl
  have q88 : ((sy_ai F 60).getD (sy_i F 86).toNatClampNeg 0) - (sy_i F 82) = ((sy_ai F 60).getD ((sy_i F 86).toInt).toNat 0) - (sy_i F 82) := by simp only [nz_c]
  have n88 : nzI (((sy_ai F 60).getD (sy_i F 86).toNatClampNeg 0) - (sy_i F 82)) ((((sy_ai F 60).getD ((sy_i F 86).toInt).toNat 0) - (sy_i F 82)).toInt) := congrArg Int32.toInt q88
  have q90 : (sy_ai F 14).getD (sy_i F 86).toNatClampNeg 0 = (sy_ai F 14).getD ((sy_i F 86).toInt).toNat 0 := by simp only [nz_c]
  have n90 : nzI ((sy_ai F 14).getD (sy_i F 86).toNatClampNeg 0) (((sy_ai F 14).getD ((sy_i F 86).toInt).toNat 0).toInt) := congrArg Int32.toInt q90
  have q89 : 0 - (((sy_ai F 60).getD (sy_i F 86).toNatClampNeg 0) - (sy_i F 82)) = 0 - (((sy_ai F 60).getD ((sy_i F 86).toInt).toNat 0) - (sy_i F 82)) := by simp only [nz_c]
  have n89 : nzI (0 - (((sy_ai F 60).getD (sy_i F 86).toNatClampNeg 0) - (sy_i F 82))) ((0 - (((sy_ai F 60).getD ((sy_i F 86).toInt).toNat 0) - (sy_i F 82))).toInt) := congrArg Int32.toInt q89
  have q91 : (sy_ai F 61).getD (sy_i F 86).toNatClampNeg 0 = (sy_ai F 61).getD ((sy_i F 86).toInt).toNat 0 := by simp only [nz_c]
  have n91 : nzI ((sy_ai F 61).getD (sy_i F 86).toNatClampNeg 0) (((sy_ai F 61).getD ((sy_i F 86).toInt).toNat 0).toInt) := congrArg Int32.toInt q91
  have n92 : nzI ((sy_i F 86) + ((1 : Int32))) (((sy_i F 86).toInt + 1)) := nz_add (rfl : (sy_i F 86).toInt = (sy_i F 86).toInt) (by decide : ((1 : Int32)).toInt = 1) (by omega) (by omega)
  exact j0nnr_10_p8 hd F X1 X2 hB (by first | exact g0 | (simp only [nz_c]; exact g0)) (by first | exact ⟨by omega, by omega⟩ | (simp only [nz_c]; exact ⟨by omega, by omega⟩)) (by first | exact g1 | (simp only [nz_c]; exact g1) | (rw [(nzE n88)]; exact g1)) (by first | exact ⟨by omega, by omega⟩ | (simp only [nz_c]; exact ⟨by omega, by omega⟩)) (by first | exact g2 | (simp only [nz_c]; exact g2) | (rw [(nzE n90)]; exact g2) | (rw [(nzE n89)]; exact g2) | (rw [(nzE n90), (nzE n89)]; exact g2)) (by first | exact g3 | (simp only [nz_c]; exact g3) | (rw [(nzE n89)]; exact g3)) (by first | exact ⟨by omega, by omega⟩ | (simp only [nz_c]; exact ⟨by omega, by omega⟩)) (by first | exact g4 | (simp only [nz_c]; exact g4) | (rw [(nzE n91)]; exact g4)) (fun F1 g e82 e83 e84 e85 e86 => k8 g0 g1 g2 g3 g4 F1 (nz_in0 hB [] (fun j hj hn => g j hj (by simp only [List.mem_cons, List.not_mem_nil, or_false, not_or] at hn; exact trivial)) (List.forall_mem_nil _)) (fun j hj hn => g j hj (by simp only [List.mem_cons, List.not_mem_nil, or_false, not_or] at hn; exact trivial)) ((congrArg Int32.toInt (zz_i e82)).trans (rfl : (sy_i F 82).toInt = (sy_i F 82).toInt)) ((zz_i e82).trans (rfl : sy_i F 82 = sy_i F 82)) ((congrArg Int32.toInt (zz_i e83)).trans (rfl : (sy_i F 83).toInt = (sy_i F 83).toInt)) ((zz_i e83).trans (rfl : sy_i F 83 = sy_i F 83)) ((congrArg Int32.toInt (zz_i e84)).trans (rfl : (sy_i F 86).toInt = (sy_i F 86).toInt)) ((zz_i e84).trans (rfl : sy_i F 86 = sy_i F 86)) ((congrArg Int32.toInt (zz_i e85)).trans (nzE n89)) ((zz_i e85).trans q89) ((congrArg Int32.toInt (zz_i e86)).trans (nzE n92)) ((zz_i e86).trans (rfl : (sy_i F 86) + ((1 : Int32)) = (sy_i F 86) + ((1 : Int32)))))
theorem j0nfa_0_p0 {Ls : Nat} {xs : Nat → Int32} {d : Nat} {Q : Option Value → jm_h → Prop} (hd : 1 ≤ d) (F : Nat → sy_d) (X1 X2 : List jm_c) (hB : iv_in F iv_B0)
    (k : ∀ F1 : Nat → sy_d, (∀ j, j < 82 → True → F1 j = F j) → F1 82 = .inl (.int (sy_i F 82)) → F1 83 = .inl (.int (sy_i F 83)) → F1 84 = .inl (.int ((0 : Int32))) → hd_W Ls xs d jm_M14 Q (3, sy_dL F1 [some (.inl (.ref 46)), some (.inl (.ref 10)), some (.inr (.inl 82)), some (.inr (.inl 83)), some (.inr (.inl 84))], sy_dS F1 [], sy_dh F1 X1 X2 (iv_H 0), 0, 0)) :
    hd_W Ls xs d jm_M14 Q (0, sy_dL F [some (.inl (.ref 46)), some (.inl (.ref 10)), some (.inr (.inl 82)), some (.inr (.inl 83)), none], sy_dS F [], sy_dh F X1 X2 (iv_H 0), 0, 0) := by
  refine hd_run (s := 0) (nv := 84) (pc := 3) (L := [some (.inl (.ref 46)), some (.inl (.ref 10)), some (.inr (.inl 82)), some (.inr (.inl 83)), some (.inr (.inl 84))]) (S := []) (uh := hd_ov (iv_id 0 iv_B0) []) (ul := [.inl (.inr (.inl 82)), .inl (.inr (.inl 83)), .inl (.inl (.int 0))]) (f := true) (sp := [3]) (d0 := 0) (O := []) (T := []) (P := []) jm_ok14 (by decide +kernel) (by decide +kernel) hd F X1 X2 (fun F' hF hs => ?_)
  have b82 := hd_b (F := F) (F' := F') (k := 82) (hF 82 (by decide))
  have b83 := hd_b (F := F) (F' := F') (k := 83) (hF 83 (by decide))
  have hB' : iv_in F' iv_B0 := iv_in_eq hB (fun j hj => hF j (Nat.lt_of_lt_of_le hj (by decide +kernel)))
  refine ⟨fun _ h => absurd h List.not_mem_nil, ?_⟩
  refine k _ ?_ ?_ ?_ ?_
  · exact fun j hj _ => (hd_keep hB' (Nat.lt_of_lt_of_le hj (by decide +kernel)) (by simp)).trans (hF j (Nat.lt_of_lt_of_le hj (by decide)))
  · exact hd_gi (x := .inr (.inl 82)) (by decide +kernel) b82
  · exact hd_gi (x := .inr (.inl 83)) (by decide +kernel) b83
  · exact hd_gi (x := .inl (.int 0)) (by decide +kernel) rfl
theorem j0nfa_0 {Ls : Nat} {xs : Nat → Int32} {d : Nat} {Q : Option Value → jm_h → Prop} (hd : 1 ≤ d) (F : Nat → sy_d) (X1 X2 : List jm_c) (hB : iv_in F iv_B0)
    (k0 : ∀ F1 : Nat → sy_d, iv_in F1 iv_B0 → (∀ j, j < 82 → j ∉ ([] : List Nat) → F1 j = F j) → (sy_i F1 82).toInt = (sy_i F 82).toInt → sy_i F1 82 = sy_i F 82 → (sy_i F1 83).toInt = (sy_i F 83).toInt → sy_i F1 83 = sy_i F 83 → (sy_i F1 84).toInt = 0 → sy_i F1 84 = (0 : Int32) → hd_W Ls xs d jm_M14 Q (3, sy_dL F1 [some (.inl (.ref 46)), some (.inl (.ref 10)), some (.inr (.inl 82)), some (.inr (.inl 83)), some (.inr (.inl 84))], sy_dS F1 [], sy_dh F1 X1 X2 (iv_H 0), 0, 0)) :
    hd_W Ls xs d jm_M14 Q (0, sy_dL F [some (.inl (.ref 46)), some (.inl (.ref 10)), some (.inr (.inl 82)), some (.inr (.inl 83)), none], sy_dS F [], sy_dh F X1 X2 (iv_H 0), 0, 0) := by
  exact j0nfa_0_p0 hd F X1 X2 hB  (fun F1 g e82 e83 e84 => k0 F1 (nz_in0 hB [] (fun j hj hn => g j hj (by simp only [List.mem_cons, List.not_mem_nil, or_false, not_or] at hn; exact trivial)) (List.forall_mem_nil _)) (fun j hj hn => g j hj (by simp only [List.mem_cons, List.not_mem_nil, or_false, not_or] at hn; exact trivial)) ((congrArg Int32.toInt (zz_i e82)).trans (rfl : (sy_i F 82).toInt = (sy_i F 82).toInt)) ((zz_i e82).trans (rfl : sy_i F 82 = sy_i F 82)) ((congrArg Int32.toInt (zz_i e83)).trans (rfl : (sy_i F 83).toInt = (sy_i F 83).toInt)) ((zz_i e83).trans (rfl : sy_i F 83 = sy_i F 83)) ((congrArg Int32.toInt (zz_i e84)).trans (by decide : ((0 : Int32)).toInt = 0)) ((zz_i e84).trans (rfl : (0 : Int32) = (0 : Int32))))
theorem j0nfa_3_p0 {Ls : Nat} {xs : Nat → Int32} {d : Nat} {Q : Option Value → jm_h → Prop} (hd : 1 ≤ d) (F : Nat → sy_d) (X1 X2 : List jm_c) (hB : iv_in F iv_B0)
    (h0 : (sy_i F 4).toInt ≤ (sy_i F 84).toInt)
    (k : ∀ F1 : Nat → sy_d, (∀ j, j < 82 → True → F1 j = F j) → Q (some (.int (((-2) : Int32)))) (sy_dh F1 X1 X2 (iv_H 0))) :
    hd_W Ls xs d jm_M14 Q (3, sy_dL F [some (.inl (.ref 46)), some (.inl (.ref 10)), some (.inr (.inl 82)), some (.inr (.inl 83)), some (.inr (.inl 84))], sy_dS F [], sy_dh F X1 X2 (iv_H 0), 0, 0) := by
  refine hd_ret (s := 0) (nv := 85) (v := some (.inl (.int (-2)))) (uh := hd_ov (iv_id 0 iv_B0) []) (f := true) (sp := [3]) (d0 := 0) (O := [true]) (T := []) (P := [(4, .inr (.inl 4), .inr (.inl 84))]) jm_ok14 (by decide +kernel) (by decide +kernel) hd F X1 X2 (fun F' hF hs => ?_)
  have b4 := hd_b (F := F) (F' := F') (k := 4) (hF 4 (by decide))
  have b84 := hd_b (F := F) (F' := F') (k := 84) (hF 84 (by decide))
  have hB' : iv_in F' iv_B0 := iv_in_eq hB (fun j hj => hF j (Nat.lt_of_lt_of_le hj (by decide +kernel)))
  refine ⟨List.forall_mem_cons.mpr ⟨hd_p4 b4 b84 h0, fun _ h => absurd h List.not_mem_nil⟩, ?_⟩
  refine k _ ?_
  · exact fun j hj _ => (hd_keep hB' (Nat.lt_of_lt_of_le hj (by decide +kernel)) (by simp)).trans (hF j (Nat.lt_of_lt_of_le hj (by decide)))
theorem j0nfa_3_p1 {Ls : Nat} {xs : Nat → Int32} {d : Nat} {Q : Option Value → jm_h → Prop} (hd : 1 ≤ d) (F : Nat → sy_d) (X1 X2 : List jm_c) (hB : iv_in F iv_B0)
    (h0 : (sy_i F 84).toInt < (sy_i F 4).toInt)
    (h1 : 0 ≤ (sy_i F 84).toInt ∧ (sy_i F 84).toInt < 4)
    (h2 : ((sy_ai F 60).getD (sy_i F 84).toNatClampNeg 0).toInt ≠ (sy_i F 82).toInt)
    (k : ∀ F1 : Nat → sy_d, (∀ j, j < 82 → True → F1 j = F j) → F1 82 = .inl (.int (sy_i F 82)) → F1 83 = .inl (.int (sy_i F 83)) → F1 84 = .inl (.int ((sy_i F 84) + ((1 : Int32)))) → hd_W Ls xs d jm_M14 Q (3, sy_dL F1 [some (.inl (.ref 46)), some (.inl (.ref 10)), some (.inr (.inl 82)), some (.inr (.inl 83)), some (.inr (.inl 84))], sy_dS F1 [], sy_dh F1 X1 X2 (iv_H 0), 0, 0)) :
    hd_W Ls xs d jm_M14 Q (3, sy_dL F [some (.inl (.ref 46)), some (.inl (.ref 10)), some (.inr (.inl 82)), some (.inr (.inl 83)), some (.inr (.inl 84))], sy_dS F [], sy_dh F X1 X2 (iv_H 0), 0, 0) := by
  refine hd_run (s := 0) (nv := 85) (pc := 3) (L := [some (.inl (.ref 46)), some (.inl (.ref 10)), some (.inr (.inl 82)), some (.inr (.inl 83)), some (.inr (.inl 84))]) (S := []) (uh := hd_ov (iv_id 0 iv_B0) []) (ul := [.inl (.inr (.inl 82)), .inl (.inr (.inl 83)), .inl (.inr (.inl 86))]) (f := true) (sp := [3]) (d0 := 0) (O := [false, true]) (T := [(30, [.inr (.inl 84)], [.inr (.inl 60)]), (0, [.inr (.inl 84), .inl (.int 1)], [])]) (P := [(5, .inr (.inl 4), .inr (.inl 84)), (6, .inr (.inl 84), .inl (.ref 4)), (1, .inr (.inl 85), .inr (.inl 82))]) jm_ok14 (by decide +kernel) (by decide +kernel) hd F X1 X2 (fun F' hF hs => ?_)
  have b4 := hd_b (F := F) (F' := F') (k := 4) (hF 4 (by decide))
  have b84 := hd_b (F := F) (F' := F') (k := 84) (hF 84 (by decide))
  have a60 := hd_ba (F := F) (F' := F') (k := 60) (hF 60 (by decide))
  have t85 : sy_dv F' (.inr (.inl 85)) = .int ((sy_ai F 60).getD (sy_i F 84).toNatClampNeg 0) := hd_rd (hs 0 _ rfl) b84 a60
  have b82 := hd_b (F := F) (F' := F') (k := 82) (hF 82 (by decide))
  have b83 := hd_b (F := F) (F' := F') (k := 83) (hF 83 (by decide))
  have t86 : sy_dv F' (.inr (.inl 86)) = .int ((sy_i F 84) + ((1 : Int32))) := hd_o (hs 1 _ rfl) b84 rfl rfl
  have hB' : iv_in F' iv_B0 := iv_in_eq hB (fun j hj => hF j (Nat.lt_of_lt_of_le hj (by decide +kernel)))
  refine ⟨List.forall_mem_cons.mpr ⟨hd_p5 b4 b84 h0, List.forall_mem_cons.mpr ⟨hd_pb b84 (by first | exact h1 | exact h1), List.forall_mem_cons.mpr ⟨hd_p1 t85 b82 h2, fun _ h => absurd h List.not_mem_nil⟩⟩⟩, ?_⟩
  refine k _ ?_ ?_ ?_ ?_
  · exact fun j hj _ => (hd_keep hB' (Nat.lt_of_lt_of_le hj (by decide +kernel)) (by simp)).trans (hF j (Nat.lt_of_lt_of_le hj (by decide)))
  · exact hd_gi (x := .inr (.inl 82)) (by decide +kernel) b82
  · exact hd_gi (x := .inr (.inl 83)) (by decide +kernel) b83
  · exact hd_gi (x := .inr (.inl 86)) (by decide +kernel) t86
theorem j0nfa_3_p2 {Ls : Nat} {xs : Nat → Int32} {d : Nat} {Q : Option Value → jm_h → Prop} (hd : 1 ≤ d) (F : Nat → sy_d) (X1 X2 : List jm_c) (hB : iv_in F iv_B0)
    (h0 : (sy_i F 84).toInt < (sy_i F 4).toInt)
    (h1 : 0 ≤ (sy_i F 84).toInt ∧ (sy_i F 84).toInt < 4)
    (h2 : ((sy_ai F 60).getD (sy_i F 84).toNatClampNeg 0).toInt = (sy_i F 82).toInt)
    (h3 : 0 ≤ (sy_i F 84).toInt ∧ (sy_i F 84).toInt < 4)
    (h4 : ((sy_ai F 61).getD (sy_i F 84).toNatClampNeg 0).toInt < (sy_i F 83).toInt)
    (k : ∀ F1 : Nat → sy_d, (∀ j, j < 82 → True → F1 j = F j) → F1 82 = .inl (.int (sy_i F 82)) → F1 83 = .inl (.int (sy_i F 83)) → F1 84 = .inl (.int ((sy_i F 84) + ((1 : Int32)))) → hd_W Ls xs d jm_M14 Q (3, sy_dL F1 [some (.inl (.ref 46)), some (.inl (.ref 10)), some (.inr (.inl 82)), some (.inr (.inl 83)), some (.inr (.inl 84))], sy_dS F1 [], sy_dh F1 X1 X2 (iv_H 0), 0, 0)) :
    hd_W Ls xs d jm_M14 Q (3, sy_dL F [some (.inl (.ref 46)), some (.inl (.ref 10)), some (.inr (.inl 82)), some (.inr (.inl 83)), some (.inr (.inl 84))], sy_dS F [], sy_dh F X1 X2 (iv_H 0), 0, 0) := by
  refine hd_run (s := 0) (nv := 85) (pc := 3) (L := [some (.inl (.ref 46)), some (.inl (.ref 10)), some (.inr (.inl 82)), some (.inr (.inl 83)), some (.inr (.inl 84))]) (S := []) (uh := hd_ov (iv_id 0 iv_B0) []) (ul := [.inl (.inr (.inl 82)), .inl (.inr (.inl 83)), .inl (.inr (.inl 87))]) (f := true) (sp := [3]) (d0 := 0) (O := [false, false, true]) (T := [(30, [.inr (.inl 84)], [.inr (.inl 60)]), (30, [.inr (.inl 84)], [.inr (.inl 61)]), (0, [.inr (.inl 84), .inl (.int 1)], [])]) (P := [(5, .inr (.inl 4), .inr (.inl 84)), (6, .inr (.inl 84), .inl (.ref 4)), (0, .inr (.inl 85), .inr (.inl 82)), (6, .inr (.inl 84), .inl (.ref 4)), (2, .inr (.inl 86), .inr (.inl 83))]) jm_ok14 (by decide +kernel) (by decide +kernel) hd F X1 X2 (fun F' hF hs => ?_)
  have b4 := hd_b (F := F) (F' := F') (k := 4) (hF 4 (by decide))
  have b84 := hd_b (F := F) (F' := F') (k := 84) (hF 84 (by decide))
  have a60 := hd_ba (F := F) (F' := F') (k := 60) (hF 60 (by decide))
  have t85 : sy_dv F' (.inr (.inl 85)) = .int ((sy_ai F 60).getD (sy_i F 84).toNatClampNeg 0) := hd_rd (hs 0 _ rfl) b84 a60
  have b82 := hd_b (F := F) (F' := F') (k := 82) (hF 82 (by decide))
  have a61 := hd_ba (F := F) (F' := F') (k := 61) (hF 61 (by decide))
  have t86 : sy_dv F' (.inr (.inl 86)) = .int ((sy_ai F 61).getD (sy_i F 84).toNatClampNeg 0) := hd_rd (hs 1 _ rfl) b84 a61
  have b83 := hd_b (F := F) (F' := F') (k := 83) (hF 83 (by decide))
  have t87 : sy_dv F' (.inr (.inl 87)) = .int ((sy_i F 84) + ((1 : Int32))) := hd_o (hs 2 _ rfl) b84 rfl rfl
  have hB' : iv_in F' iv_B0 := iv_in_eq hB (fun j hj => hF j (Nat.lt_of_lt_of_le hj (by decide +kernel)))
  refine ⟨List.forall_mem_cons.mpr ⟨hd_p5 b4 b84 h0, List.forall_mem_cons.mpr ⟨hd_pb b84 (by first | exact h1 | exact h1), List.forall_mem_cons.mpr ⟨hd_p0 t85 b82 h2, List.forall_mem_cons.mpr ⟨hd_pb b84 (by first | exact h3 | exact h3), List.forall_mem_cons.mpr ⟨hd_p2 t86 b83 h4, fun _ h => absurd h List.not_mem_nil⟩⟩⟩⟩⟩, ?_⟩
  refine k _ ?_ ?_ ?_ ?_
  · exact fun j hj _ => (hd_keep hB' (Nat.lt_of_lt_of_le hj (by decide +kernel)) (by simp)).trans (hF j (Nat.lt_of_lt_of_le hj (by decide)))
  · exact hd_gi (x := .inr (.inl 82)) (by decide +kernel) b82
  · exact hd_gi (x := .inr (.inl 83)) (by decide +kernel) b83
  · exact hd_gi (x := .inr (.inl 87)) (by decide +kernel) t87
theorem j0nfa_3_p3 {Ls : Nat} {xs : Nat → Int32} {d : Nat} {Q : Option Value → jm_h → Prop} (hd : 1 ≤ d) (F : Nat → sy_d) (X1 X2 : List jm_c) (hB : iv_in F iv_B0)
    (h0 : (sy_i F 84).toInt < (sy_i F 4).toInt)
    (h1 : 0 ≤ (sy_i F 84).toInt ∧ (sy_i F 84).toInt < 4)
    (h2 : ((sy_ai F 60).getD (sy_i F 84).toNatClampNeg 0).toInt = (sy_i F 82).toInt)
    (h3 : 0 ≤ (sy_i F 84).toInt ∧ (sy_i F 84).toInt < 4)
    (h4 : (sy_i F 83).toInt ≤ ((sy_ai F 61).getD (sy_i F 84).toNatClampNeg 0).toInt)
    (k : ∀ F1 : Nat → sy_d, (∀ j, j < 82 → True → F1 j = F j) → Q (some (.int (sy_i F 84))) (sy_dh F1 X1 X2 (iv_H 0))) :
    hd_W Ls xs d jm_M14 Q (3, sy_dL F [some (.inl (.ref 46)), some (.inl (.ref 10)), some (.inr (.inl 82)), some (.inr (.inl 83)), some (.inr (.inl 84))], sy_dS F [], sy_dh F X1 X2 (iv_H 0), 0, 0) := by
  refine hd_ret (s := 0) (nv := 85) (v := some (.inr (.inl 84))) (uh := hd_ov (iv_id 0 iv_B0) []) (f := true) (sp := [3]) (d0 := 0) (O := [false, false, false]) (T := [(30, [.inr (.inl 84)], [.inr (.inl 60)]), (30, [.inr (.inl 84)], [.inr (.inl 61)])]) (P := [(5, .inr (.inl 4), .inr (.inl 84)), (6, .inr (.inl 84), .inl (.ref 4)), (0, .inr (.inl 85), .inr (.inl 82)), (6, .inr (.inl 84), .inl (.ref 4)), (3, .inr (.inl 86), .inr (.inl 83))]) jm_ok14 (by decide +kernel) (by decide +kernel) hd F X1 X2 (fun F' hF hs => ?_)
  have b4 := hd_b (F := F) (F' := F') (k := 4) (hF 4 (by decide))
  have b84 := hd_b (F := F) (F' := F') (k := 84) (hF 84 (by decide))
  have a60 := hd_ba (F := F) (F' := F') (k := 60) (hF 60 (by decide))
  have t85 : sy_dv F' (.inr (.inl 85)) = .int ((sy_ai F 60).getD (sy_i F 84).toNatClampNeg 0) := hd_rd (hs 0 _ rfl) b84 a60
  have b82 := hd_b (F := F) (F' := F') (k := 82) (hF 82 (by decide))
  have a61 := hd_ba (F := F) (F' := F') (k := 61) (hF 61 (by decide))
  have t86 : sy_dv F' (.inr (.inl 86)) = .int ((sy_ai F 61).getD (sy_i F 84).toNatClampNeg 0) := hd_rd (hs 1 _ rfl) b84 a61
  have b83 := hd_b (F := F) (F' := F') (k := 83) (hF 83 (by decide))
  have hB' : iv_in F' iv_B0 := iv_in_eq hB (fun j hj => hF j (Nat.lt_of_lt_of_le hj (by decide +kernel)))
  have hk := k (sy_cm F' (hd_ov (iv_id 0 iv_B0) [] ++ [])) (fun j hj _ => (hd_keep hB' (Nat.lt_of_lt_of_le hj (by decide +kernel)) (by simp)).trans (hF j (Nat.lt_of_lt_of_le hj (by decide))))
  refine ⟨List.forall_mem_cons.mpr ⟨hd_p5 b4 b84 h0, List.forall_mem_cons.mpr ⟨hd_pb b84 (by first | exact h1 | exact h1), List.forall_mem_cons.mpr ⟨hd_p0 t85 b82 h2, List.forall_mem_cons.mpr ⟨hd_pb b84 (by first | exact h3 | exact h3), List.forall_mem_cons.mpr ⟨hd_p3 t86 b83 h4, fun _ h => absurd h List.not_mem_nil⟩⟩⟩⟩⟩, ?_⟩
  show Q (some (sy_dv F' (.inr (.inl 84)))) _
  rw [b84]
  exact hk
theorem j0nfa_3 {Ls : Nat} {xs : Nat → Int32} {d : Nat} {Q : Option Value → jm_h → Prop} (hd : 1 ≤ d) (F : Nat → sy_d) (X1 X2 : List jm_c) (hB : iv_in F iv_B0)
    (a84 : 0 ≤ (sy_i F 84).toInt ∧ (sy_i F 84).toInt ≤ 4)
    (k0 : (sy_i F 4).toInt ≤ (sy_i F 84).toInt → ∀ F1 : Nat → sy_d, iv_in F1 iv_B0 → (∀ j, j < 82 → j ∉ ([] : List Nat) → F1 j = F j) → Q (some (.int (((-2) : Int32)))) (sy_dh F1 X1 X2 (iv_H 0)))
    (k1 : (sy_i F 84).toInt < (sy_i F 4).toInt → ((sy_ai F 60).getD ((sy_i F 84).toInt).toNat 0).toInt ≠ (sy_i F 82).toInt → ∀ F1 : Nat → sy_d, iv_in F1 iv_B0 → (∀ j, j < 82 → j ∉ ([] : List Nat) → F1 j = F j) → (sy_i F1 82).toInt = (sy_i F 82).toInt → sy_i F1 82 = sy_i F 82 → (sy_i F1 83).toInt = (sy_i F 83).toInt → sy_i F1 83 = sy_i F 83 → (sy_i F1 84).toInt = ((sy_i F 84).toInt + 1) → sy_i F1 84 = (sy_i F 84) + ((1 : Int32)) → hd_W Ls xs d jm_M14 Q (3, sy_dL F1 [some (.inl (.ref 46)), some (.inl (.ref 10)), some (.inr (.inl 82)), some (.inr (.inl 83)), some (.inr (.inl 84))], sy_dS F1 [], sy_dh F1 X1 X2 (iv_H 0), 0, 0))
    (k2 : (sy_i F 84).toInt < (sy_i F 4).toInt → ((sy_ai F 60).getD ((sy_i F 84).toInt).toNat 0).toInt = (sy_i F 82).toInt → ((sy_ai F 61).getD ((sy_i F 84).toInt).toNat 0).toInt < (sy_i F 83).toInt → ∀ F1 : Nat → sy_d, iv_in F1 iv_B0 → (∀ j, j < 82 → j ∉ ([] : List Nat) → F1 j = F j) → (sy_i F1 82).toInt = (sy_i F 82).toInt → sy_i F1 82 = sy_i F 82 → (sy_i F1 83).toInt = (sy_i F 83).toInt → sy_i F1 83 = sy_i F 83 → (sy_i F1 84).toInt = ((sy_i F 84).toInt + 1) → sy_i F1 84 = (sy_i F 84) + ((1 : Int32)) → hd_W Ls xs d jm_M14 Q (3, sy_dL F1 [some (.inl (.ref 46)), some (.inl (.ref 10)), some (.inr (.inl 82)), some (.inr (.inl 83)), some (.inr (.inl 84))], sy_dS F1 [], sy_dh F1 X1 X2 (iv_H 0), 0, 0))
    (k3 : (sy_i F 84).toInt < (sy_i F 4).toInt → ((sy_ai F 60).getD ((sy_i F 84).toInt).toNat 0).toInt = (sy_i F 82).toInt → (sy_i F 83).toInt ≤ ((sy_ai F 61).getD ((sy_i F 84).toInt).toNat 0).toInt → ∀ F1 : Nat → sy_d, iv_in F1 iv_B0 → (∀ j, j < 82 → j ∉ ([] : List Nat) → F1 j = F j) → Q (some (.int (sy_i F 84))) (sy_dh F1 X1 X2 (iv_H 0))) :
    hd_W Ls xs d jm_M14 Q (3, sy_dL F [some (.inl (.ref 46)), some (.inl (.ref 10)), some (.inr (.inl 82)), some (.inr (.inl 83)), some (.inr (.inl 84))], sy_dS F [], sy_dh F X1 X2 (iv_H 0), 0, 0) := by
  by_cases g0 : (sy_i F 4).toInt ≤ (sy_i F 84).toInt
  · have c4 := nz_bx hB (k := 4) (lo := 0) (hi := 4) rfl
    exact j0nfa_3_p0 hd F X1 X2 hB (by first | exact g0 | (simp only [nz_c]; exact g0)) (fun F1 g  => k0 g0 F1 (nz_in0 hB [] (fun j hj hn => g j hj (by simp only [List.mem_cons, List.not_mem_nil, or_false, not_or] at hn; exact trivial)) (List.forall_mem_nil _)) (fun j hj hn => g j hj (by simp only [List.mem_cons, List.not_mem_nil, or_false, not_or] at hn; exact trivial)) )
  replace g0 : (sy_i F 84).toInt < (sy_i F 4).toInt := by omega
  by_cases g1 : ((sy_ai F 60).getD ((sy_i F 84).toInt).toNat 0).toInt ≠ (sy_i F 82).toInt
  · have c4 := nz_bx hB (k := 4) (lo := 0) (hi := 4) rfl
    have q85 : (sy_ai F 60).getD (sy_i F 84).toNatClampNeg 0 = (sy_ai F 60).getD ((sy_i F 84).toInt).toNat 0 := by simp only [nz_c]
    have n85 : nzI ((sy_ai F 60).getD (sy_i F 84).toNatClampNeg 0) (((sy_ai F 60).getD ((sy_i F 84).toInt).toNat 0).toInt) := congrArg Int32.toInt q85
    have n86 : nzI ((sy_i F 84) + ((1 : Int32))) (((sy_i F 84).toInt + 1)) := nz_add (rfl : (sy_i F 84).toInt = (sy_i F 84).toInt) (by decide : ((1 : Int32)).toInt = 1) (by omega) (by omega)
    exact j0nfa_3_p1 hd F X1 X2 hB (by first | exact g0 | (simp only [nz_c]; exact g0)) (by first | exact ⟨by omega, by omega⟩ | (simp only [nz_c]; exact ⟨by omega, by omega⟩)) (by first | exact g1 | (simp only [nz_c]; exact g1) | (rw [(nzE n85)]; exact g1)) (fun F1 g e82 e83 e84 => k1 g0 g1 F1 (nz_in0 hB [] (fun j hj hn => g j hj (by simp only [List.mem_cons, List.not_mem_nil, or_false, not_or] at hn; exact trivial)) (List.forall_mem_nil _)) (fun j hj hn => g j hj (by simp only [List.mem_cons, List.not_mem_nil, or_false, not_or] at hn; exact trivial)) ((congrArg Int32.toInt (zz_i e82)).trans (rfl : (sy_i F 82).toInt = (sy_i F 82).toInt)) ((zz_i e82).trans (rfl : sy_i F 82 = sy_i F 82)) ((congrArg Int32.toInt (zz_i e83)).trans (rfl : (sy_i F 83).toInt = (sy_i F 83).toInt)) ((zz_i e83).trans (rfl : sy_i F 83 = sy_i F 83)) ((congrArg Int32.toInt (zz_i e84)).trans (nzE n86)) ((zz_i e84).trans (rfl : (sy_i F 84) + ((1 : Int32)) = (sy_i F 84) + ((1 : Int32)))))
  replace g1 : ((sy_ai F 60).getD ((sy_i F 84).toInt).toNat 0).toInt = (sy_i F 82).toInt := by omega
  by_cases g2 : ((sy_ai F 61).getD ((sy_i F 84).toInt).toNat 0).toInt < (sy_i F 83).toInt
  · have c4 := nz_bx hB (k := 4) (lo := 0) (hi := 4) rfl
    have q85 : (sy_ai F 60).getD (sy_i F 84).toNatClampNeg 0 = (sy_ai F 60).getD ((sy_i F 84).toInt).toNat 0 := by simp only [nz_c]
    have n85 : nzI ((sy_ai F 60).getD (sy_i F 84).toNatClampNeg 0) (((sy_ai F 60).getD ((sy_i F 84).toInt).toNat 0).toInt) := congrArg Int32.toInt q85
    have q86 : (sy_ai F 61).getD (sy_i F 84).toNatClampNeg 0 = (sy_ai F 61).getD ((sy_i F 84).toInt).toNat 0 := by simp only [nz_c]
    have n86 : nzI ((sy_ai F 61).getD (sy_i F 84).toNatClampNeg 0) (((sy_ai F 61).getD ((sy_i F 84).toInt).toNat 0).toInt) := congrArg Int32.toInt q86
    have n87 : nzI ((sy_i F 84) + ((1 : Int32))) (((sy_i F 84).toInt + 1)) := nz_add (rfl : (sy_i F 84).toInt = (sy_i F 84).toInt) (by decide : ((1 : Int32)).toInt = 1) (by omega) (by omega)
    exact j0nfa_3_p2 hd F X1 X2 hB (by first | exact g0 | (simp only [nz_c]; exact g0)) (by first | exact ⟨by omega, by omega⟩ | (simp only [nz_c]; exact ⟨by omega, by omega⟩)) (by first | exact g1 | (simp only [nz_c]; exact g1) | (rw [(nzE n85)]; exact g1)) (by first | exact ⟨by omega, by omega⟩ | (simp only [nz_c]; exact ⟨by omega, by omega⟩)) (by first | exact g2 | (simp only [nz_c]; exact g2) | (rw [(nzE n86)]; exact g2)) (fun F1 g e82 e83 e84 => k2 g0 g1 g2 F1 (nz_in0 hB [] (fun j hj hn => g j hj (by simp only [List.mem_cons, List.not_mem_nil, or_false, not_or] at hn; exact trivial)) (List.forall_mem_nil _)) (fun j hj hn => g j hj (by simp only [List.mem_cons, List.not_mem_nil, or_false, not_or] at hn; exact trivial)) ((congrArg Int32.toInt (zz_i e82)).trans (rfl : (sy_i F 82).toInt = (sy_i F 82).toInt)) ((zz_i e82).trans (rfl : sy_i F 82 = sy_i F 82)) ((congrArg Int32.toInt (zz_i e83)).trans (rfl : (sy_i F 83).toInt = (sy_i F 83).toInt)) ((zz_i e83).trans (rfl : sy_i F 83 = sy_i F 83)) ((congrArg Int32.toInt (zz_i e84)).trans (nzE n87)) ((zz_i e84).trans (rfl : (sy_i F 84) + ((1 : Int32)) = (sy_i F 84) + ((1 : Int32)))))
  replace g2 : (sy_i F 83).toInt ≤ ((sy_ai F 61).getD ((sy_i F 84).toInt).toNat 0).toInt := by omega
  have c4 := nz_bx hB (k := 4) (lo := 0) (hi := 4) rfl
  have q85 : (sy_ai F 60).getD (sy_i F 84).toNatClampNeg 0 = (sy_ai F 60).getD ((sy_i F 84).toInt).toNat 0 := by simp only [nz_c]
  have n85 : nzI ((sy_ai F 60).getD (sy_i F 84).toNatClampNeg 0) (((sy_ai F 60).getD ((sy_i F 84).toInt).toNat 0).toInt) := congrArg Int32.toInt q85
  have q86 : (sy_ai F 61).getD (sy_i F 84).toNatClampNeg 0 = (sy_ai F 61).getD ((sy_i F 84).toInt).toNat 0 := by simp only [nz_c]
  have n86 : nzI ((sy_ai F 61).getD (sy_i F 84).toNatClampNeg 0) (((sy_ai F 61).getD ((sy_i F 84).toInt).toNat 0).toInt) := congrArg Int32.toInt q86
  exact j0nfa_3_p3 hd F X1 X2 hB (by first | exact g0 | (simp only [nz_c]; exact g0)) (by first | exact ⟨by omega, by omega⟩ | (simp only [nz_c]; exact ⟨by omega, by omega⟩)) (by first | exact g1 | (simp only [nz_c]; exact g1) | (rw [(nzE n85)]; exact g1)) (by first | exact ⟨by omega, by omega⟩ | (simp only [nz_c]; exact ⟨by omega, by omega⟩)) (by first | exact g2 | (simp only [nz_c]; exact g2) | (rw [(nzE n86)]; exact g2)) (fun F1 g  => by rw [(rfl : sy_i F 84 = sy_i F 84)]; exact k3 g0 g1 g2 F1 (nz_in0 hB [] (fun j hj hn => g j hj (by simp only [List.mem_cons, List.not_mem_nil, or_false, not_or] at hn; exact trivial)) (List.forall_mem_nil _)) (fun j hj hn => g j hj (by simp only [List.mem_cons, List.not_mem_nil, or_false, not_or] at hn; exact trivial)) )
end
section
/-! ===== the class: wind, bounces, way by way (shape 0) ===== -/
theorem j0sh_0_p0 {Ls : Nat} {xs : Nat → Int32} {d : Nat} {Q : Option Value → jm_h → Prop} (hd : 1 ≤ d) (F : Nat → sy_d) (X1 X2 : List jm_c) (hB : iv_in F iv_B0)
    (k : ∀ F1 : Nat → sy_d, (∀ j, j < 82 → j ≠ 45 → F1 j = F j) → F1 45 = .inr (.inl (jm_upd (jm_upd (sy_ai F 45) ((2 : Int32)).toNatClampNeg (sy_i F 82)) ((8 : Int32)).toNatClampNeg (sy_i F 83))) → hd_W Ls xs d jm_M17 Q (23, sy_dL F1 [none, none, none, none], sy_dS F1 [.inl (.int 0), .inl (.ref 10), .inl (.ref 38), .inl (.int 3), .inl (.ref 39)], sy_dh F1 X1 X2 (iv_H 0), 0, 0)) :
    hd_W Ls xs d jm_M17 Q (0, sy_dL F [some (.inl (.ref 38)), some (.inl (.ref 10)), some (.inr (.inl 82)), some (.inr (.inl 83))], sy_dS F [], sy_dh F X1 X2 (iv_H 0), 0, 0) := by
  refine hd_run (s := 0) (nv := 84) (pc := 23) (L := [none, none, none, none]) (S := [.inl (.int 0), .inl (.ref 10), .inl (.ref 38), .inl (.int 3), .inl (.ref 39)]) (uh := hd_ov (iv_id 0 iv_B0) [(45, .inr (.inr (.inl 85)))]) (ul := []) (f := true) (sp := [23]) (d0 := 0) (O := []) (T := [(40, [.inl (.int 2), .inr (.inl 82)], [.inr (.inl 45)]), (40, [.inl (.int 8), .inr (.inl 83)], [.inr (.inl 84)])]) (P := []) jm_ok17 (by decide +kernel) (by decide +kernel) hd F X1 X2 (fun F' hF hs => ?_)
  have b83 := hd_b (F := F) (F' := F') (k := 83) (hF 83 (by decide))
  have b82 := hd_b (F := F) (F' := F') (k := 82) (hF 82 (by decide))
  have a45 := hd_ba (F := F) (F' := F') (k := 45) (hF 45 (by decide))
  have t84 : sy_da F' (.inr (.inl 84)) = .inl (jm_upd (sy_ai F 45) ((2 : Int32)).toNatClampNeg (sy_i F 82)) := hd_up (hs 0 _ rfl) rfl b82 a45
  have t85 : sy_da F' (.inr (.inl 85)) = .inl (jm_upd (jm_upd (sy_ai F 45) ((2 : Int32)).toNatClampNeg (sy_i F 82)) ((8 : Int32)).toNatClampNeg (sy_i F 83)) := hd_up (hs 1 _ rfl) rfl b83 t84
  have hB' : iv_in F' iv_B0 := iv_in_eq hB (fun j hj => hF j (Nat.lt_of_lt_of_le hj (by decide +kernel)))
  refine ⟨fun _ h => absurd h List.not_mem_nil, ?_⟩
  refine k _ ?_ ?_
  · exact fun j hj hn => (hd_keep hB' (Nat.lt_of_lt_of_le hj (by decide +kernel)) (by simp; omega)).trans (hF j (Nat.lt_of_lt_of_le hj (by decide)))
  · exact hd_ga (a := .inr (.inl 85)) (by decide +kernel) t85
theorem j0sh_0 {Ls : Nat} {xs : Nat → Int32} {d : Nat} {Q : Option Value → jm_h → Prop} (hd : 1 ≤ d) (F : Nat → sy_d) (X1 X2 : List jm_c) (hB : iv_in F iv_B0)
    (k0 : ∀ F1 : Nat → sy_d, iv_in F1 iv_B0 → (∀ j, j < 82 → j ∉ ([45] : List Nat) → F1 j = F j) → sy_ai F1 45 = jm_upd (jm_upd (sy_ai F 45) (2 : Int).toNat (sy_i F 82)) (8 : Int).toNat (sy_i F 83) → hd_W Ls xs d jm_M17 Q (23, sy_dL F1 [none, none, none, none], sy_dS F1 [.inl (.int 0), .inl (.ref 10), .inl (.ref 38), .inl (.int 3), .inl (.ref 39)], sy_dh F1 X1 X2 (iv_H 0), 0, 0)) :
    hd_W Ls xs d jm_M17 Q (0, sy_dL F [some (.inl (.ref 38)), some (.inl (.ref 10)), some (.inr (.inl 82)), some (.inr (.inl 83))], sy_dS F [], sy_dh F X1 X2 (iv_H 0), 0, 0) := by
  have w85 : jm_upd (jm_upd (sy_ai F 45) ((2 : Int32)).toNatClampNeg (sy_i F 82)) ((8 : Int32)).toNatClampNeg (sy_i F 83) = jm_upd (jm_upd (sy_ai F 45) (2 : Int).toNat (sy_i F 82)) (8 : Int).toNat (sy_i F 83) := by simp only [nz_c, (by decide : ((2 : Int32)).toInt = 2), (by decide : ((8 : Int32)).toInt = 8)]
  exact j0sh_0_p0 hd F X1 X2 hB  (fun F1 g e45 => k0 F1 (nz_in0 hB [45] (fun j hj hn => g j hj (by simp only [List.mem_cons, List.not_mem_nil, or_false, not_or] at hn; omega)) (List.forall_mem_cons.mpr ⟨fun t ht => (Option.some.inj ht) ▸ (nz_hz2 e45), List.forall_mem_nil _⟩)) (fun j hj hn => g j hj (by simp only [List.mem_cons, List.not_mem_nil, or_false, not_or] at hn; omega)) ((zz_ai e45).trans w85))
theorem j0sh_26_p0 {Ls : Nat} {xs : Nat → Int32} {d : Nat} {Q : Option Value → jm_h → Prop} (hd : 1 ≤ d) (F : Nat → sy_d) (X1 X2 : List jm_c) (hB : iv_in F iv_B0)
    (k : ∀ F1 : Nat → sy_d, (∀ j, j < 82 → j ≠ 45 → F1 j = F j) → F1 45 = .inr (.inl (jm_upd (sy_ai F 45) ((3 : Int32)).toNatClampNeg (sy_i F 82))) → Q (none) (sy_dh F1 X1 X2 (iv_H 0))) :
    hd_W Ls xs d jm_M17 Q (26, sy_dL F [none, none, none, none], sy_dS F [.inr (.inl 82), .inl (.int 3), .inl (.ref 39)], sy_dh F X1 X2 (iv_H 0), 0, 0) := by
  refine hd_ret (s := 0) (nv := 83) (v := none) (uh := hd_ov (iv_id 0 iv_B0) [(45, .inr (.inr (.inl 83)))]) (f := false) (sp := []) (d0 := 0) (O := []) (T := [(40, [.inl (.int 3), .inr (.inl 82)], [.inr (.inl 45)])]) (P := []) jm_ok17 (by decide +kernel) (by decide +kernel) hd F X1 X2 (fun F' hF hs => ?_)
  have b82 := hd_b (F := F) (F' := F') (k := 82) (hF 82 (by decide))
  have a45 := hd_ba (F := F) (F' := F') (k := 45) (hF 45 (by decide))
  have t83 : sy_da F' (.inr (.inl 83)) = .inl (jm_upd (sy_ai F 45) ((3 : Int32)).toNatClampNeg (sy_i F 82)) := hd_up (hs 0 _ rfl) rfl b82 a45
  have hB' : iv_in F' iv_B0 := iv_in_eq hB (fun j hj => hF j (Nat.lt_of_lt_of_le hj (by decide +kernel)))
  refine ⟨fun _ h => absurd h List.not_mem_nil, ?_⟩
  refine k _ ?_ ?_
  · exact fun j hj hn => (hd_keep hB' (Nat.lt_of_lt_of_le hj (by decide +kernel)) (by simp; omega)).trans (hF j (Nat.lt_of_lt_of_le hj (by decide)))
  · exact hd_ga (a := .inr (.inl 83)) (by decide +kernel) t83
theorem j0sh_26 {Ls : Nat} {xs : Nat → Int32} {d : Nat} {Q : Option Value → jm_h → Prop} (hd : 1 ≤ d) (F : Nat → sy_d) (X1 X2 : List jm_c) (hB : iv_in F iv_B0)
    (k0 : ∀ F1 : Nat → sy_d, iv_in F1 iv_B0 → (∀ j, j < 82 → j ∉ ([45] : List Nat) → F1 j = F j) → sy_ai F1 45 = jm_upd (sy_ai F 45) (3 : Int).toNat (sy_i F 82) → Q (none) (sy_dh F1 X1 X2 (iv_H 0))) :
    hd_W Ls xs d jm_M17 Q (26, sy_dL F [none, none, none, none], sy_dS F [.inr (.inl 82), .inl (.int 3), .inl (.ref 39)], sy_dh F X1 X2 (iv_H 0), 0, 0) := by
  have w83 : jm_upd (sy_ai F 45) ((3 : Int32)).toNatClampNeg (sy_i F 82) = jm_upd (sy_ai F 45) (3 : Int).toNat (sy_i F 82) := by simp only [nz_c, (by decide : ((3 : Int32)).toInt = 3)]
  exact j0sh_26_p0 hd F X1 X2 hB  (fun F1 g e45 => k0 F1 (nz_in0 hB [45] (fun j hj hn => g j hj (by simp only [List.mem_cons, List.not_mem_nil, or_false, not_or] at hn; omega)) (List.forall_mem_cons.mpr ⟨fun t ht => (Option.some.inj ht) ▸ (nz_hz2 e45), List.forall_mem_nil _⟩)) (fun j hj hn => g j hj (by simp only [List.mem_cons, List.not_mem_nil, or_false, not_or] at hn; omega)) ((zz_ai e45).trans w83))
theorem j0bo_0_p0 {Ls : Nat} {xs : Nat → Int32} {d : Nat} {Q : Option Value → jm_h → Prop} (hd : 1 ≤ d) (F : Nat → sy_d) (X1 X2 : List jm_c) (hB : iv_in F iv_B0)
    (h0 : 0 ≤ (sy_i F 82).toInt ∧ (sy_i F 82).toInt < 7)
    (k : ∀ F1 : Nat → sy_d, (∀ j, j < 82 → True → F1 j = F j) → F1 82 = .inl (.int ((sy_ai F 9).getD (sy_i F 82).toNatClampNeg 0)) → hd_W Ls xs d jm_M20 Q (9, sy_dL F1 [none, none, none], sy_dS F1 [.inl (.int 4), .inl (.ref 10), .inl (.ref 38), .inr (.inl 82)], sy_dh F1 X1 X2 (iv_H 0), 0, 0)) :
    hd_W Ls xs d jm_M20 Q (0, sy_dL F [some (.inl (.ref 38)), some (.inl (.ref 10)), some (.inr (.inl 82))], sy_dS F [], sy_dh F X1 X2 (iv_H 0), 0, 0) := by
  refine hd_run (s := 0) (nv := 83) (pc := 9) (L := [none, none, none]) (S := [.inl (.int 4), .inl (.ref 10), .inl (.ref 38), .inr (.inl 82)]) (uh := hd_ov (iv_id 0 iv_B0) []) (ul := [.inl (.inr (.inl 83))]) (f := true) (sp := [9]) (d0 := 0) (O := []) (T := [(30, [.inr (.inl 82)], [.inr (.inl 9)])]) (P := [(6, .inr (.inl 82), .inl (.ref 7))]) jm_ok20 (by decide +kernel) (by decide +kernel) hd F X1 X2 (fun F' hF hs => ?_)
  have b82 := hd_b (F := F) (F' := F') (k := 82) (hF 82 (by decide))
  have a9 := hd_ba (F := F) (F' := F') (k := 9) (hF 9 (by decide))
  have t83 : sy_dv F' (.inr (.inl 83)) = .int ((sy_ai F 9).getD (sy_i F 82).toNatClampNeg 0) := hd_rd (hs 0 _ rfl) b82 a9
  have hB' : iv_in F' iv_B0 := iv_in_eq hB (fun j hj => hF j (Nat.lt_of_lt_of_le hj (by decide +kernel)))
  refine ⟨List.forall_mem_cons.mpr ⟨hd_pb b82 (by first | exact h0 | exact h0), fun _ h => absurd h List.not_mem_nil⟩, ?_⟩
  refine k _ ?_ ?_
  · exact fun j hj _ => (hd_keep hB' (Nat.lt_of_lt_of_le hj (by decide +kernel)) (by simp)).trans (hF j (Nat.lt_of_lt_of_le hj (by decide)))
  · exact hd_gi (x := .inr (.inl 83)) (by decide +kernel) t83
theorem j0bo_0 {Ls : Nat} {xs : Nat → Int32} {d : Nat} {Q : Option Value → jm_h → Prop} (hd : 1 ≤ d) (F : Nat → sy_d) (X1 X2 : List jm_c) (hB : iv_in F iv_B0)
    (a82 : 0 ≤ (sy_i F 82).toInt ∧ (sy_i F 82).toInt ≤ 6)
    (k0 : ∀ F1 : Nat → sy_d, iv_in F1 iv_B0 → (∀ j, j < 82 → j ∉ ([] : List Nat) → F1 j = F j) → (sy_i F1 82).toInt = ((sy_ai F 9).getD ((sy_i F 82).toInt).toNat 0).toInt → sy_i F1 82 = (sy_ai F 9).getD ((sy_i F 82).toInt).toNat 0 → hd_W Ls xs d jm_M20 Q (9, sy_dL F1 [none, none, none], sy_dS F1 [.inl (.int 4), .inl (.ref 10), .inl (.ref 38), .inr (.inl 82)], sy_dh F1 X1 X2 (iv_H 0), 0, 0)) :
    hd_W Ls xs d jm_M20 Q (0, sy_dL F [some (.inl (.ref 38)), some (.inl (.ref 10)), some (.inr (.inl 82))], sy_dS F [], sy_dh F X1 X2 (iv_H 0), 0, 0) := by
  have q83 : (sy_ai F 9).getD (sy_i F 82).toNatClampNeg 0 = (sy_ai F 9).getD ((sy_i F 82).toInt).toNat 0 := by simp only [nz_c]
  have n83 : nzI ((sy_ai F 9).getD (sy_i F 82).toNatClampNeg 0) (((sy_ai F 9).getD ((sy_i F 82).toInt).toNat 0).toInt) := congrArg Int32.toInt q83
  exact j0bo_0_p0 hd F X1 X2 hB (by first | exact ⟨by omega, by omega⟩ | (simp only [nz_c]; exact ⟨by omega, by omega⟩)) (fun F1 g e82 => k0 F1 (nz_in0 hB [] (fun j hj hn => g j hj (by simp only [List.mem_cons, List.not_mem_nil, or_false, not_or] at hn; exact trivial)) (List.forall_mem_nil _)) (fun j hj hn => g j hj (by simp only [List.mem_cons, List.not_mem_nil, or_false, not_or] at hn; exact trivial)) ((congrArg Int32.toInt (zz_i e82)).trans (nzE n83)) ((zz_i e82).trans q83))
theorem j0bo_12_p0 {Ls : Nat} {xs : Nat → Int32} {d : Nat} {Q : Option Value → jm_h → Prop} (hd : 3 ≤ d) (F : Nat → sy_d) (X1 X2 : List jm_c) (hB : iv_in F iv_B0)
    (h0 : ((sy_i F 82) + (sy_i F 83)).toInt < 9)
    (h1 : 0 < ((sy_i F 82) + (sy_i F 83)).toInt)
    (k : ∀ F1 : Nat → sy_d, (∀ j, j < 82 → True → F1 j = F j) → Q (some (.int ((sy_i F 82) + (sy_i F 83)))) (sy_dh F1 X1 X2 (iv_H 0))) :
    hd_W Ls xs d jm_M20 Q (12, sy_dL F [none, none, none], sy_dS F [.inr (.inl 83), .inr (.inl 82)], sy_dh F X1 X2 (iv_H 0), 0, 0) := by
  refine hd_ret (s := 0) (nv := 84) (v := some (.inr (.inl 84))) (uh := hd_ov (iv_id 0 iv_B0) []) (f := false) (sp := []) (d0 := 2) (O := [true, true]) (T := [(0, [.inr (.inl 82), .inr (.inl 83)], [])]) (P := [(2, .inr (.inl 84), .inl (.int 9)), (2, .inl (.int 0), .inr (.inl 84))]) jm_ok20 (by decide +kernel) (by decide +kernel) hd F X1 X2 (fun F' hF hs => ?_)
  have b82 := hd_b (F := F) (F' := F') (k := 82) (hF 82 (by decide))
  have b83 := hd_b (F := F) (F' := F') (k := 83) (hF 83 (by decide))
  have t84 : sy_dv F' (.inr (.inl 84)) = .int ((sy_i F 82) + (sy_i F 83)) := hd_o (hs 0 _ rfl) b82 b83 rfl
  have hB' : iv_in F' iv_B0 := iv_in_eq hB (fun j hj => hF j (Nat.lt_of_lt_of_le hj (by decide +kernel)))
  have hk := k (sy_cm F' (hd_ov (iv_id 0 iv_B0) [] ++ [])) (fun j hj _ => (hd_keep hB' (Nat.lt_of_lt_of_le hj (by decide +kernel)) (by simp)).trans (hF j (Nat.lt_of_lt_of_le hj (by decide))))
  refine ⟨List.forall_mem_cons.mpr ⟨hd_p2 t84 rfl (by have hc : ((9) : Int32).toInt = 9 := (by decide); omega), List.forall_mem_cons.mpr ⟨hd_p2 rfl t84 (by have hc : ((0) : Int32).toInt = 0 := (by decide); omega), fun _ h => absurd h List.not_mem_nil⟩⟩, ?_⟩
  show Q (some (sy_dv F' (.inr (.inl 84)))) _
  rw [t84]
  exact hk
theorem j0bo_12_p1 {Ls : Nat} {xs : Nat → Int32} {d : Nat} {Q : Option Value → jm_h → Prop} (hd : 3 ≤ d) (F : Nat → sy_d) (X1 X2 : List jm_c) (hB : iv_in F iv_B0)
    (h0 : ((sy_i F 82) + (sy_i F 83)).toInt < 9)
    (h1 : ((sy_i F 82) + (sy_i F 83)).toInt ≤ 0)
    (k : ∀ F1 : Nat → sy_d, (∀ j, j < 82 → True → F1 j = F j) → Q (some (.int ((0 : Int32)))) (sy_dh F1 X1 X2 (iv_H 0))) :
    hd_W Ls xs d jm_M20 Q (12, sy_dL F [none, none, none], sy_dS F [.inr (.inl 83), .inr (.inl 82)], sy_dh F X1 X2 (iv_H 0), 0, 0) := by
  refine hd_ret (s := 0) (nv := 84) (v := some (.inl (.int 0))) (uh := hd_ov (iv_id 0 iv_B0) []) (f := false) (sp := []) (d0 := 2) (O := [true, false]) (T := [(0, [.inr (.inl 82), .inr (.inl 83)], [])]) (P := [(2, .inr (.inl 84), .inl (.int 9)), (3, .inl (.int 0), .inr (.inl 84))]) jm_ok20 (by decide +kernel) (by decide +kernel) hd F X1 X2 (fun F' hF hs => ?_)
  have b82 := hd_b (F := F) (F' := F') (k := 82) (hF 82 (by decide))
  have b83 := hd_b (F := F) (F' := F') (k := 83) (hF 83 (by decide))
  have t84 : sy_dv F' (.inr (.inl 84)) = .int ((sy_i F 82) + (sy_i F 83)) := hd_o (hs 0 _ rfl) b82 b83 rfl
  have hB' : iv_in F' iv_B0 := iv_in_eq hB (fun j hj => hF j (Nat.lt_of_lt_of_le hj (by decide +kernel)))
  refine ⟨List.forall_mem_cons.mpr ⟨hd_p2 t84 rfl (by have hc : ((9) : Int32).toInt = 9 := (by decide); omega), List.forall_mem_cons.mpr ⟨hd_p3 rfl t84 (by have hc : ((0) : Int32).toInt = 0 := (by decide); omega), fun _ h => absurd h List.not_mem_nil⟩⟩, ?_⟩
  refine k _ ?_
  · exact fun j hj _ => (hd_keep hB' (Nat.lt_of_lt_of_le hj (by decide +kernel)) (by simp)).trans (hF j (Nat.lt_of_lt_of_le hj (by decide)))
theorem j0bo_12_p2 {Ls : Nat} {xs : Nat → Int32} {d : Nat} {Q : Option Value → jm_h → Prop} (hd : 3 ≤ d) (F : Nat → sy_d) (X1 X2 : List jm_c) (hB : iv_in F iv_B0)
    (h0 : 9 ≤ ((sy_i F 82) + (sy_i F 83)).toInt)
    (k : ∀ F1 : Nat → sy_d, (∀ j, j < 82 → True → F1 j = F j) → Q (some (.int ((9 : Int32)))) (sy_dh F1 X1 X2 (iv_H 0))) :
    hd_W Ls xs d jm_M20 Q (12, sy_dL F [none, none, none], sy_dS F [.inr (.inl 83), .inr (.inl 82)], sy_dh F X1 X2 (iv_H 0), 0, 0) := by
  refine hd_ret (s := 0) (nv := 84) (v := some (.inl (.int 9))) (uh := hd_ov (iv_id 0 iv_B0) []) (f := false) (sp := []) (d0 := 2) (O := [false]) (T := [(0, [.inr (.inl 82), .inr (.inl 83)], [])]) (P := [(3, .inr (.inl 84), .inl (.int 9))]) jm_ok20 (by decide +kernel) (by decide +kernel) hd F X1 X2 (fun F' hF hs => ?_)
  have b82 := hd_b (F := F) (F' := F') (k := 82) (hF 82 (by decide))
  have b83 := hd_b (F := F) (F' := F') (k := 83) (hF 83 (by decide))
  have t84 : sy_dv F' (.inr (.inl 84)) = .int ((sy_i F 82) + (sy_i F 83)) := hd_o (hs 0 _ rfl) b82 b83 rfl
  have hB' : iv_in F' iv_B0 := iv_in_eq hB (fun j hj => hF j (Nat.lt_of_lt_of_le hj (by decide +kernel)))
  refine ⟨List.forall_mem_cons.mpr ⟨hd_p3 t84 rfl (by have hc : ((9) : Int32).toInt = 9 := (by decide); omega), fun _ h => absurd h List.not_mem_nil⟩, ?_⟩
  refine k _ ?_
  · exact fun j hj _ => (hd_keep hB' (Nat.lt_of_lt_of_le hj (by decide +kernel)) (by simp)).trans (hF j (Nat.lt_of_lt_of_le hj (by decide)))
theorem j0bo_12 {Ls : Nat} {xs : Nat → Int32} {d : Nat} {Q : Option Value → jm_h → Prop} (hd : 3 ≤ d) (F : Nat → sy_d) (X1 X2 : List jm_c) (hB : iv_in F iv_B0)
    (k0 : ((sy_i F 82) + (sy_i F 83)).toInt < 9 → 0 < ((sy_i F 82) + (sy_i F 83)).toInt → ∀ F1 : Nat → sy_d, iv_in F1 iv_B0 → (∀ j, j < 82 → j ∉ ([] : List Nat) → F1 j = F j) → Q (some (.int ((sy_i F 82) + (sy_i F 83)))) (sy_dh F1 X1 X2 (iv_H 0)))
    (k1 : ((sy_i F 82) + (sy_i F 83)).toInt < 9 → ((sy_i F 82) + (sy_i F 83)).toInt ≤ 0 → ∀ F1 : Nat → sy_d, iv_in F1 iv_B0 → (∀ j, j < 82 → j ∉ ([] : List Nat) → F1 j = F j) → Q (some (.int ((0 : Int32)))) (sy_dh F1 X1 X2 (iv_H 0)))
    (k2 : 9 ≤ ((sy_i F 82) + (sy_i F 83)).toInt → ∀ F1 : Nat → sy_d, iv_in F1 iv_B0 → (∀ j, j < 82 → j ∉ ([] : List Nat) → F1 j = F j) → Q (some (.int ((9 : Int32)))) (sy_dh F1 X1 X2 (iv_H 0))) :
    hd_W Ls xs d jm_M20 Q (12, sy_dL F [none, none, none], sy_dS F [.inr (.inl 83), .inr (.inl 82)], sy_dh F X1 X2 (iv_H 0), 0, 0) := by
  by_cases g0 : ((sy_i F 82) + (sy_i F 83)).toInt < 9
  · by_cases g1 : 0 < ((sy_i F 82) + (sy_i F 83)).toInt
    · have n84 : nzI ((sy_i F 82) + (sy_i F 83)) (((sy_i F 82) + (sy_i F 83)).toInt) := congrArg Int32.toInt (rfl : (sy_i F 82) + (sy_i F 83) = (sy_i F 82) + (sy_i F 83))
      exact j0bo_12_p0 hd F X1 X2 hB (by first | exact g0 | (simp only [nz_c]; exact g0) | (rw [(nzE n84)]; exact g0)) (by first | exact g1 | (simp only [nz_c]; exact g1) | (rw [(nzE n84)]; exact g1)) (fun F1 g  => by rw [(rfl : (sy_i F 82) + (sy_i F 83) = (sy_i F 82) + (sy_i F 83))]; exact k0 g0 g1 F1 (nz_in0 hB [] (fun j hj hn => g j hj (by simp only [List.mem_cons, List.not_mem_nil, or_false, not_or] at hn; exact trivial)) (List.forall_mem_nil _)) (fun j hj hn => g j hj (by simp only [List.mem_cons, List.not_mem_nil, or_false, not_or] at hn; exact trivial)) )
    replace g1 : ((sy_i F 82) + (sy_i F 83)).toInt ≤ 0 := by omega
    have n84 : nzI ((sy_i F 82) + (sy_i F 83)) (((sy_i F 82) + (sy_i F 83)).toInt) := congrArg Int32.toInt (rfl : (sy_i F 82) + (sy_i F 83) = (sy_i F 82) + (sy_i F 83))
    exact j0bo_12_p1 hd F X1 X2 hB (by first | exact g0 | (simp only [nz_c]; exact g0) | (rw [(nzE n84)]; exact g0)) (by first | exact g1 | (simp only [nz_c]; exact g1) | (rw [(nzE n84)]; exact g1)) (fun F1 g  => k1 g0 g1 F1 (nz_in0 hB [] (fun j hj hn => g j hj (by simp only [List.mem_cons, List.not_mem_nil, or_false, not_or] at hn; exact trivial)) (List.forall_mem_nil _)) (fun j hj hn => g j hj (by simp only [List.mem_cons, List.not_mem_nil, or_false, not_or] at hn; exact trivial)) )
  replace g0 : 9 ≤ ((sy_i F 82) + (sy_i F 83)).toInt := by omega
  have n84 : nzI ((sy_i F 82) + (sy_i F 83)) (((sy_i F 82) + (sy_i F 83)).toInt) := congrArg Int32.toInt (rfl : (sy_i F 82) + (sy_i F 83) = (sy_i F 82) + (sy_i F 83))
  exact j0bo_12_p2 hd F X1 X2 hB (by first | exact g0 | (simp only [nz_c]; exact g0) | (rw [(nzE n84)]; exact g0)) (fun F1 g  => k2 g0 F1 (nz_in0 hB [] (fun j hj hn => g j hj (by simp only [List.mem_cons, List.not_mem_nil, or_false, not_or] at hn; exact trivial)) (List.forall_mem_nil _)) (fun j hj hn => g j hj (by simp only [List.mem_cons, List.not_mem_nil, or_false, not_or] at hn; exact trivial)) )
end
