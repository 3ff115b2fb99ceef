section
/-! ===== the reference cuts a text into tokens, way by way ===== -/
theorem rc_0_p0 {Ls : Nat} {xs : Nat → Int32} {d : Nat} {Q : Option Value → jm_h → Prop} (hd : 4 ≤ d) (F : Nat → sy_d) (X1 X2 : List jm_c) (hB : iv_in F iv_B4)
    (k : ∀ F1 : Nat → sy_d, (∀ j, j < 69 → j ≠ 3 → F1 j = F j) → F1 3 = .inl (.int ((0 : Int32))) → F1 69 = .inl (.int ((0 : Int32))) → hd_W Ls xs d jm_M142 Q (7, sy_dL F1 [some (.inl (.ref 1000)), some (.inr (.inl 69)), none, none, none, none, none, none], sy_dS F1 [], sy_dh F1 X1 X2 (iv_H 4), 0, 0)) :
    hd_W Ls xs d jm_M142 Q (0, sy_dL F [some (.inl (.ref 1000)), none, none, none, none, none, none, none], sy_dS F [], sy_dh F X1 X2 (iv_H 4), 0, 0) := by
  refine hd_run (s := 4) (nv := 69) (pc := 7) (L := [some (.inl (.ref 1000)), some (.inr (.inl 69)), none, none, none, none, none, none]) (S := []) (uh := hd_ov (iv_id 0 iv_B4) [(3, .inl (.inl (.int 0)))]) (ul := [.inl (.inl (.int 0))]) (f := true) (sp := [7]) (d0 := 3) (O := []) (T := []) (P := []) jm_ok142 (by decide +kernel) (by decide +kernel) hd F X1 X2 (fun F' hF hs => ?_)
  have hB' : iv_in F' iv_B4 := iv_in_eq hB (fun j hj => hF j (Nat.lt_of_lt_of_le hj (by decide +kernel)))
  refine ⟨fun _ h => absurd h List.not_mem_nil, ?_⟩
  refine k _ ?_ ?_ ?_
  · exact fun j hj hn => (hd_keep hB' (Nat.lt_of_lt_of_le hj (by decide +kernel)) (by simp; omega)).trans (hF j (Nat.lt_of_lt_of_le hj (by decide)))
  · exact hd_gi (x := .inl (.int 0)) (by decide +kernel) rfl
  · exact hd_gi (x := .inl (.int 0)) (by decide +kernel) rfl
theorem rc_0 {Ls : Nat} {xs : Nat → Int32} {d : Nat} {Q : Option Value → jm_h → Prop} (hd : 4 ≤ d) (F : Nat → sy_d) (X1 X2 : List jm_c) (hB : iv_in F iv_B4)
    (k0 : ∀ F1 : Nat → sy_d, iv_in F1 iv_B4 → (∀ j, j < 69 → j ∉ ([3] : List Nat) → F1 j = F j) → (sy_i F1 2).toInt = (sy_i F 2).toInt → (sy_i F1 3).toInt = 0 → sy_ai F1 25 = sy_ai F 25 → sy_ai F1 26 = sy_ai F 26 → sy_ai F1 27 = sy_ai F 27 → sy_al F1 28 = sy_al F 28 → (sy_i F1 69).toInt = 0 → hd_W Ls xs d jm_M142 Q (7, sy_dL F1 [some (.inl (.ref 1000)), some (.inr (.inl 69)), none, none, none, none, none, none], sy_dS F1 [], sy_dh F1 X1 X2 (iv_H 4), 0, 0)) :
    hd_W Ls xs d jm_M142 Q (0, sy_dL F [some (.inl (.ref 1000)), none, none, none, none, none, none, none], sy_dS F [], sy_dh F X1 X2 (iv_H 4), 0, 0) := by
  exact rc_0_p0 hd F X1 X2 hB  (fun F1 g e3 e69 => k0 F1 (nz_in hB [3] (fun j hj hn => g j hj (by simp only [List.mem_cons, List.not_mem_nil, or_false, not_or] at hn; omega)) (List.forall_mem_cons.mpr ⟨fun t ht => (Option.some.inj ht) ▸ (nz_hi e3 (by decide : ((0 : Int32)).toInt = 0) (by omega) (by omega)), List.forall_mem_nil _⟩)) (fun j hj hn => g j hj (by simp only [List.mem_cons, List.not_mem_nil, or_false, not_or] at hn; omega)) (nz_fi (g 2 (by decide) (by decide))) ((congrArg Int32.toInt (zz_i e3)).trans (by decide : ((0 : Int32)).toInt = 0)) (nz_fa (g 25 (by decide) (by decide))) (nz_fa (g 26 (by decide) (by decide))) (nz_fa (g 27 (by decide) (by decide))) (nz_fl (g 28 (by decide) (by decide))) ((congrArg Int32.toInt (zz_i e69)).trans (by decide : ((0 : Int32)).toInt = 0)))
theorem rc_7_p0 {Ls : Nat} {xs : Nat → Int32} {d : Nat} {Q : Option Value → jm_h → Prop} (hd : 4 ≤ d) (F : Nat → sy_d) (X1 X2 : List jm_c) (hB : iv_in F iv_B4)
    (h0 : 400 < (sy_i F 3).toInt)
    (k : ∀ F1 : Nat → sy_d, (∀ j, j < 69 → True → F1 j = F j) → Q (none) (sy_dh F1 X1 X2 (iv_H 4))) :
    hd_W Ls xs d jm_M142 Q (7, sy_dL F [some (.inl (.ref 1000)), some (.inr (.inl 69)), none, none, none, none, none, none], sy_dS F [], sy_dh F X1 X2 (iv_H 4), 0, 0) := by
  refine hd_ret (s := 4) (nv := 70) (v := none) (uh := hd_ov (iv_id 0 iv_B4) []) (f := true) (sp := [7, 85, 208, 286]) (d0 := 3) (O := [true]) (T := []) (P := [(2, .inl (.int 400), .inr (.inl 3))]) jm_ok142 (by decide +kernel) (by decide +kernel) hd F X1 X2 (fun F' hF hs => ?_)
  have b3 := hd_b (F := F) (F' := F') (k := 3) (hF 3 (by decide))
  have hB' : iv_in F' iv_B4 := iv_in_eq hB (fun j hj => hF j (Nat.lt_of_lt_of_le hj (by decide +kernel)))
  refine ⟨List.forall_mem_cons.mpr ⟨hd_p2 rfl b3 (by have hc : ((400) : Int32).toInt = 400 := (by decide); omega), fun _ h => absurd h List.not_mem_nil⟩, ?_⟩
  refine k _ ?_
  · exact fun j hj _ => (hd_keep hB' (Nat.lt_of_lt_of_le hj (by decide +kernel)) (by simp)).trans (hF j (Nat.lt_of_lt_of_le hj (by decide)))
theorem rc_7_p1 {Ls : Nat} {xs : Nat → Int32} {d : Nat} {Q : Option Value → jm_h → Prop} (hd : 4 ≤ d) (F : Nat → sy_d) (X1 X2 : List jm_c) (hB : iv_in F iv_B4)
    (h0 : (sy_i F 3).toInt ≤ 400)
    (h1 : (sy_i F 2).toInt ≤ (sy_i F 69).toInt)
    (h2 : (sy_i F 69).toInt < (sy_i F 2).toInt)
    (h3 : (sy_i F 2).toInt ≤ ((sy_i F 69) + ((1 : Int32))).toInt)
    (k : ∀ F1 : Nat → sy_d, (∀ j, j < 69 → True → F1 j = F j) → F1 69 = .inl (.int ((0 : Int32))) → F1 70 = .inl (.int ((0 : Int32))) → F1 71 = .inl (.int (sy_i F 69)) → F1 72 = .inl (.int (sy_i F 69)) → hd_W Ls xs d jm_M142 Q (286, sy_dL F1 [some (.inl (.ref 1000)), none, none, none, none, none, none, none], sy_dS F1 [.inr (.inl 69), .inr (.inl 70), .inr (.inl 71), .inl (.ref 1000), .inr (.inl 72)], sy_dh F1 X1 X2 (iv_H 4), 0, 0)) :
    hd_W Ls xs d jm_M142 Q (7, sy_dL F [some (.inl (.ref 1000)), some (.inr (.inl 69)), none, none, none, none, none, none], sy_dS F [], sy_dh F X1 X2 (iv_H 4), 0, 0) := by
  refine hd_run (s := 4) (nv := 70) (pc := 286) (L := [some (.inl (.ref 1000)), none, none, none, none, none, none, none]) (S := [.inr (.inl 69), .inr (.inl 70), .inr (.inl 71), .inl (.ref 1000), .inr (.inl 72)]) (uh := hd_ov (iv_id 0 iv_B4) []) (ul := [.inl (.inl (.int 0)), .inl (.inl (.int 0)), .inl (.inr (.inl 69)), .inl (.inr (.inl 69))]) (f := true) (sp := [7, 85, 208, 286]) (d0 := 3) (O := [false, true, true, true]) (T := [(0, [.inr (.inl 69), .inl (.int 1)], [])]) (P := [(3, .inl (.int 400), .inr (.inl 3)), (4, .inr (.inl 2), .inr (.inl 69)), (2, .inr (.inl 69), .inr (.inl 2)), (4, .inr (.inl 2), .inr (.inl 70))]) jm_ok142 (by decide +kernel) (by decide +kernel) hd F X1 X2 (fun F' hF hs => ?_)
  have b3 := hd_b (F := F) (F' := F') (k := 3) (hF 3 (by decide))
  have b2 := hd_b (F := F) (F' := F') (k := 2) (hF 2 (by decide))
  have b69 := hd_b (F := F) (F' := F') (k := 69) (hF 69 (by decide))
  have t70 : sy_dv F' (.inr (.inl 70)) = .int ((sy_i F 69) + ((1 : Int32))) := hd_o (hs 0 _ rfl) b69 rfl rfl
  have hB' : iv_in F' iv_B4 := iv_in_eq hB (fun j hj => hF j (Nat.lt_of_lt_of_le hj (by decide +kernel)))
  refine ⟨List.forall_mem_cons.mpr ⟨hd_p3 rfl b3 (by have hc : ((400) : Int32).toInt = 400 := (by decide); omega), List.forall_mem_cons.mpr ⟨hd_p4 b2 b69 h1, List.forall_mem_cons.mpr ⟨hd_p2 b69 b2 h2, List.forall_mem_cons.mpr ⟨hd_p4 b2 t70 h3, fun _ h => absurd h List.not_mem_nil⟩⟩⟩⟩, ?_⟩
  refine k _ ?_ ?_ ?_ ?_ ?_
  · exact fun j hj _ => (hd_keep hB' (Nat.lt_of_lt_of_le hj (by decide +kernel)) (by simp)).trans (hF j (Nat.lt_of_lt_of_le hj (by decide)))
  · exact hd_gi (x := .inl (.int 0)) (by decide +kernel) rfl
  · exact hd_gi (x := .inl (.int 0)) (by decide +kernel) rfl
  · exact hd_gi (x := .inr (.inl 69)) (by decide +kernel) b69
  · exact hd_gi (x := .inr (.inl 69)) (by decide +kernel) b69
theorem rc_7_p2 {Ls : Nat} {xs : Nat → Int32} {d : Nat} {Q : Option Value → jm_h → Prop} (hd : 4 ≤ d) (F : Nat → sy_d) (X1 X2 : List jm_c) (hB : iv_in F iv_B4)
    (h0 : (sy_i F 3).toInt ≤ 400)
    (h1 : (sy_i F 2).toInt ≤ (sy_i F 69).toInt)
    (h2 : (sy_i F 69).toInt < (sy_i F 2).toInt)
    (h3 : ((sy_i F 69) + ((1 : Int32))).toInt < (sy_i F 2).toInt)
    (h4 : 0 ≤ ((sy_i F 69) + ((1 : Int32))).toInt ∧ ((sy_i F 69) + ((1 : Int32))).toInt < 2000)
    (k : ∀ F1 : Nat → sy_d, (∀ j, j < 69 → True → F1 j = F j) → F1 69 = .inl (.int (((sy_ai F 24).getD ((sy_i F 69) + ((1 : Int32))).toNatClampNeg 0) &&& ((255 : Int32)))) → F1 70 = .inl (.int ((0 : Int32))) → F1 71 = .inl (.int (sy_i F 69)) → F1 72 = .inl (.int (sy_i F 69)) → hd_W Ls xs d jm_M142 Q (286, sy_dL F1 [some (.inl (.ref 1000)), none, none, none, none, none, none, none], sy_dS F1 [.inr (.inl 69), .inr (.inl 70), .inr (.inl 71), .inl (.ref 1000), .inr (.inl 72)], sy_dh F1 X1 X2 (iv_H 4), 0, 0)) :
    hd_W Ls xs d jm_M142 Q (7, sy_dL F [some (.inl (.ref 1000)), some (.inr (.inl 69)), none, none, none, none, none, none], sy_dS F [], sy_dh F X1 X2 (iv_H 4), 0, 0) := by
  refine hd_run (s := 4) (nv := 70) (pc := 286) (L := [some (.inl (.ref 1000)), none, none, none, none, none, none, none]) (S := [.inr (.inl 69), .inr (.inl 70), .inr (.inl 71), .inl (.ref 1000), .inr (.inl 72)]) (uh := hd_ov (iv_id 0 iv_B4) []) (ul := [.inl (.inr (.inl 72)), .inl (.inl (.int 0)), .inl (.inr (.inl 69)), .inl (.inr (.inl 69))]) (f := true) (sp := [7, 85, 208, 286]) (d0 := 3) (O := [false, true, true, false]) (T := [(0, [.inr (.inl 69), .inl (.int 1)], []), (30, [.inr (.inl 70)], [.inr (.inl 24)]), (3, [.inr (.inl 71), .inl (.int 255)], [])]) (P := [(3, .inl (.int 400), .inr (.inl 3)), (4, .inr (.inl 2), .inr (.inl 69)), (2, .inr (.inl 69), .inr (.inl 2)), (5, .inr (.inl 2), .inr (.inl 70)), (6, .inr (.inl 70), .inl (.ref 2000))]) jm_ok142 (by decide +kernel) (by decide +kernel) hd F X1 X2 (fun F' hF hs => ?_)
  have b3 := hd_b (F := F) (F' := F') (k := 3) (hF 3 (by decide))
  have b2 := hd_b (F := F) (F' := F') (k := 2) (hF 2 (by decide))
  have b69 := hd_b (F := F) (F' := F') (k := 69) (hF 69 (by decide))
  have t70 : sy_dv F' (.inr (.inl 70)) = .int ((sy_i F 69) + ((1 : Int32))) := hd_o (hs 0 _ rfl) b69 rfl rfl
  have a24 := hd_ba (F := F) (F' := F') (k := 24) (hF 24 (by decide))
  have t71 : sy_dv F' (.inr (.inl 71)) = .int ((sy_ai F 24).getD ((sy_i F 69) + ((1 : Int32))).toNatClampNeg 0) := hd_rd (hs 1 _ rfl) t70 a24
  have t72 : sy_dv F' (.inr (.inl 72)) = .int (((sy_ai F 24).getD ((sy_i F 69) + ((1 : Int32))).toNatClampNeg 0) &&& ((255 : Int32))) := hd_o (hs 2 _ rfl) t71 rfl rfl
  have hB' : iv_in F' iv_B4 := iv_in_eq hB (fun j hj => hF j (Nat.lt_of_lt_of_le hj (by decide +kernel)))
  refine ⟨List.forall_mem_cons.mpr ⟨hd_p3 rfl b3 (by have hc : ((400) : Int32).toInt = 400 := (by decide); omega), List.forall_mem_cons.mpr ⟨hd_p4 b2 b69 h1, List.forall_mem_cons.mpr ⟨hd_p2 b69 b2 h2, List.forall_mem_cons.mpr ⟨hd_p5 b2 t70 h3, List.forall_mem_cons.mpr ⟨hd_pb t70 (by first | exact h4 | exact h4), fun _ h => absurd h List.not_mem_nil⟩⟩⟩⟩⟩, ?_⟩
  refine k _ ?_ ?_ ?_ ?_ ?_
  · exact fun j hj _ => (hd_keep hB' (Nat.lt_of_lt_of_le hj (by decide +kernel)) (by simp)).trans (hF j (Nat.lt_of_lt_of_le hj (by decide)))
  · exact hd_gi (x := .inr (.inl 72)) (by decide +kernel) t72
  · exact hd_gi (x := .inl (.int 0)) (by decide +kernel) rfl
  · exact hd_gi (x := .inr (.inl 69)) (by decide +kernel) b69
  · exact hd_gi (x := .inr (.inl 69)) (by decide +kernel) b69
theorem rc_7_p3 {Ls : Nat} {xs : Nat → Int32} {d : Nat} {Q : Option Value → jm_h → Prop} (hd : 4 ≤ d) (F : Nat → sy_d) (X1 X2 : List jm_c) (hB : iv_in F iv_B4)
    (h0 : (sy_i F 3).toInt ≤ 400)
    (h1 : (sy_i F 2).toInt ≤ (sy_i F 69).toInt)
    (h2 : (sy_i F 2).toInt ≤ (sy_i F 69).toInt)
    (h3 : 0 ≤ (sy_i F 3).toInt ∧ (sy_i F 3).toInt < 403)
    (h4 : 0 ≤ (sy_i F 3).toInt ∧ (sy_i F 3).toInt < 403)
    (h5 : 0 ≤ (sy_i F 3).toInt ∧ (sy_i F 3).toInt < 403)
    (h6 : 0 ≤ (sy_i F 3).toInt ∧ (sy_i F 3).toInt < 403)
    (k : ∀ F1 : Nat → sy_d, (∀ j, j < 69 → j ≠ 3 ∧ j ≠ 25 ∧ j ≠ 26 ∧ j ≠ 27 ∧ j ≠ 28 → F1 j = F j) → F1 3 = .inl (.int ((sy_i F 3) + ((1 : Int32)))) → F1 25 = .inr (.inl (jm_upd (sy_ai F 25) (sy_i F 3).toNatClampNeg ((0 : Int32)))) → F1 26 = .inr (.inl (jm_upd (sy_ai F 26) (sy_i F 3).toNatClampNeg (sy_i F 2))) → F1 27 = .inr (.inl (jm_upd (sy_ai F 27) (sy_i F 3).toNatClampNeg ((0 : Int32)))) → F1 28 = .inr (.inr (jm_updL (sy_al F 28) (sy_i F 3).toNatClampNeg ((0 : Int64)))) → Q (none) (sy_dh F1 X1 X2 (iv_H 4))) :
    hd_W Ls xs d jm_M142 Q (7, sy_dL F [some (.inl (.ref 1000)), some (.inr (.inl 69)), none, none, none, none, none, none], sy_dS F [], sy_dh F X1 X2 (iv_H 4), 0, 0) := by
  refine hd_ret (s := 4) (nv := 70) (v := none) (uh := hd_ov (iv_id 0 iv_B4) [(3, .inl (.inr (.inl 74))), (25, .inr (.inr (.inl 70))), (26, .inr (.inr (.inl 71))), (27, .inr (.inr (.inl 72))), (28, .inr (.inr (.inr 73)))]) (f := true) (sp := [7, 85, 208, 286]) (d0 := 3) (O := [false, true, false]) (T := [(40, [.inr (.inl 3), .inl (.int 0)], [.inr (.inl 25)]), (40, [.inr (.inl 3), .inr (.inl 2)], [.inr (.inl 26)]), (40, [.inr (.inl 3), .inl (.int 0)], [.inr (.inl 27)]), (40, [.inr (.inl 3), .inl (.long 0)], [.inr (.inr 28)]), (0, [.inr (.inl 3), .inl (.int 1)], [])]) (P := [(3, .inl (.int 400), .inr (.inl 3)), (4, .inr (.inl 2), .inr (.inl 69)), (3, .inr (.inl 69), .inr (.inl 2)), (6, .inr (.inl 3), .inl (.ref 403)), (6, .inr (.inl 3), .inl (.ref 403)), (6, .inr (.inl 3), .inl (.ref 403)), (6, .inr (.inl 3), .inl (.ref 403))]) jm_ok142 (by decide +kernel) (by decide +kernel) hd F X1 X2 (fun F' hF hs => ?_)
  have b3 := hd_b (F := F) (F' := F') (k := 3) (hF 3 (by decide))
  have b2 := hd_b (F := F) (F' := F') (k := 2) (hF 2 (by decide))
  have b69 := hd_b (F := F) (F' := F') (k := 69) (hF 69 (by decide))
  have t74 : sy_dv F' (.inr (.inl 74)) = .int ((sy_i F 3) + ((1 : Int32))) := hd_o (hs 4 _ rfl) b3 rfl rfl
  have a25 := hd_ba (F := F) (F' := F') (k := 25) (hF 25 (by decide))
  have t70 : sy_da F' (.inr (.inl 70)) = .inl (jm_upd (sy_ai F 25) (sy_i F 3).toNatClampNeg ((0 : Int32))) := hd_up (hs 0 _ rfl) b3 rfl a25
  have a26 := hd_ba (F := F) (F' := F') (k := 26) (hF 26 (by decide))
  have t71 : sy_da F' (.inr (.inl 71)) = .inl (jm_upd (sy_ai F 26) (sy_i F 3).toNatClampNeg (sy_i F 2)) := hd_up (hs 1 _ rfl) b3 b2 a26
  have a27 := hd_ba (F := F) (F' := F') (k := 27) (hF 27 (by decide))
  have t72 : sy_da F' (.inr (.inl 72)) = .inl (jm_upd (sy_ai F 27) (sy_i F 3).toNatClampNeg ((0 : Int32))) := hd_up (hs 2 _ rfl) b3 rfl a27
  have a28 := hd_bA (F := F) (F' := F') (k := 28) (hF 28 (by decide))
  have t73 : sy_da F' (.inr (.inr 73)) = .inr (jm_updL (sy_al F 28) (sy_i F 3).toNatClampNeg ((0 : Int64))) := hd_uA (hs 3 _ rfl) b3 rfl a28
  have hB' : iv_in F' iv_B4 := iv_in_eq hB (fun j hj => hF j (Nat.lt_of_lt_of_le hj (by decide +kernel)))
  refine ⟨List.forall_mem_cons.mpr ⟨hd_p3 rfl b3 (by have hc : ((400) : Int32).toInt = 400 := (by decide); omega), List.forall_mem_cons.mpr ⟨hd_p4 b2 b69 h1, List.forall_mem_cons.mpr ⟨hd_p3 b69 b2 h2, List.forall_mem_cons.mpr ⟨hd_pb b3 (by first | exact h3 | exact h3), List.forall_mem_cons.mpr ⟨hd_pb b3 (by first | exact h4 | exact h4), List.forall_mem_cons.mpr ⟨hd_pb b3 (by first | exact h5 | exact h5), List.forall_mem_cons.mpr ⟨hd_pb b3 (by first | exact h6 | exact h6), fun _ h => absurd h List.not_mem_nil⟩⟩⟩⟩⟩⟩⟩, ?_⟩
  refine k _ ?_ ?_ ?_ ?_ ?_ ?_
  · exact fun j hj hn => (hd_keep hB' (Nat.lt_of_lt_of_le hj (by decide +kernel)) (by simp; omega)).trans (hF j (Nat.lt_of_lt_of_le hj (by decide)))
  · exact hd_gi (x := .inr (.inl 74)) (by decide +kernel) t74
  · exact hd_ga (a := .inr (.inl 70)) (by decide +kernel) t70
  · exact hd_ga (a := .inr (.inl 71)) (by decide +kernel) t71
  · exact hd_ga (a := .inr (.inl 72)) (by decide +kernel) t72
  · exact hd_gA (a := .inr (.inr 73)) (by decide +kernel) t73
theorem rc_7_p4 {Ls : Nat} {xs : Nat → Int32} {d : Nat} {Q : Option Value → jm_h → Prop} (hd : 4 ≤ d) (F : Nat → sy_d) (X1 X2 : List jm_c) (hB : iv_in F iv_B4)
    (h0 : (sy_i F 3).toInt ≤ 400)
    (h1 : (sy_i F 69).toInt < (sy_i F 2).toInt)
    (h2 : 0 ≤ (sy_i F 69).toInt ∧ (sy_i F 69).toInt < 2000)
    (h3 : (sy_i F 69).toInt < (sy_i F 2).toInt)
    (h4 : (((sy_ai F 24).getD (sy_i F 69).toNatClampNeg 0) &&& ((255 : Int32))).toInt = 9)
    (k : ∀ F1 : Nat → sy_d, (∀ j, j < 69 → True → F1 j = F j) → F1 69 = .inl (.int ((sy_i F 69) + ((1 : Int32)))) → hd_W Ls xs d jm_M142 Q (7, sy_dL F1 [some (.inl (.ref 1000)), some (.inr (.inl 69)), none, none, none, none, none, none], sy_dS F1 [], sy_dh F1 X1 X2 (iv_H 4), 0, 0)) :
    hd_W Ls xs d jm_M142 Q (7, sy_dL F [some (.inl (.ref 1000)), some (.inr (.inl 69)), none, none, none, none, none, none], sy_dS F [], sy_dh F X1 X2 (iv_H 4), 0, 0) := by
  refine hd_run (s := 4) (nv := 70) (pc := 7) (L := [some (.inl (.ref 1000)), some (.inr (.inl 69)), none, none, none, none, none, none]) (S := []) (uh := hd_ov (iv_id 0 iv_B4) []) (ul := [.inl (.inr (.inl 72))]) (f := true) (sp := [7, 85, 208, 286]) (d0 := 3) (O := [false, false, true, true]) (T := [(30, [.inr (.inl 69)], [.inr (.inl 24)]), (3, [.inr (.inl 70), .inl (.int 255)], []), (0, [.inr (.inl 69), .inl (.int 1)], [])]) (P := [(3, .inl (.int 400), .inr (.inl 3)), (5, .inr (.inl 2), .inr (.inl 69)), (6, .inr (.inl 69), .inl (.ref 2000)), (2, .inr (.inl 69), .inr (.inl 2)), (0, .inr (.inl 71), .inl (.int 9))]) jm_ok142 (by decide +kernel) (by decide +kernel) hd F X1 X2 (fun F' hF hs => ?_)
  have b3 := hd_b (F := F) (F' := F') (k := 3) (hF 3 (by decide))
  have b2 := hd_b (F := F) (F' := F') (k := 2) (hF 2 (by decide))
  have b69 := hd_b (F := F) (F' := F') (k := 69) (hF 69 (by decide))
  have a24 := hd_ba (F := F) (F' := F') (k := 24) (hF 24 (by decide))
  have t70 : sy_dv F' (.inr (.inl 70)) = .int ((sy_ai F 24).getD (sy_i F 69).toNatClampNeg 0) := hd_rd (hs 0 _ rfl) b69 a24
  have t71 : sy_dv F' (.inr (.inl 71)) = .int (((sy_ai F 24).getD (sy_i F 69).toNatClampNeg 0) &&& ((255 : Int32))) := hd_o (hs 1 _ rfl) t70 rfl rfl
  have t72 : sy_dv F' (.inr (.inl 72)) = .int ((sy_i F 69) + ((1 : Int32))) := hd_o (hs 2 _ rfl) b69 rfl rfl
  have hB' : iv_in F' iv_B4 := iv_in_eq hB (fun j hj => hF j (Nat.lt_of_lt_of_le hj (by decide +kernel)))
  refine ⟨List.forall_mem_cons.mpr ⟨hd_p3 rfl b3 (by have hc : ((400) : Int32).toInt = 400 := (by decide); omega), List.forall_mem_cons.mpr ⟨hd_p5 b2 b69 h1, List.forall_mem_cons.mpr ⟨hd_pb b69 (by first | exact h2 | exact h2), List.forall_mem_cons.mpr ⟨hd_p2 b69 b2 h3, List.forall_mem_cons.mpr ⟨hd_p0 t71 rfl (by have hc : ((9) : Int32).toInt = 9 := (by decide); omega), fun _ h => absurd h List.not_mem_nil⟩⟩⟩⟩⟩, ?_⟩
  refine k _ ?_ ?_
  · exact fun j hj _ => (hd_keep hB' (Nat.lt_of_lt_of_le hj (by decide +kernel)) (by simp)).trans (hF j (Nat.lt_of_lt_of_le hj (by decide)))
  · exact hd_gi (x := .inr (.inl 72)) (by decide +kernel) t72
theorem rc_7_p5 {Ls : Nat} {xs : Nat → Int32} {d : Nat} {Q : Option Value → jm_h → Prop} (hd : 4 ≤ d) (F : Nat → sy_d) (X1 X2 : List jm_c) (hB : iv_in F iv_B4)
    (h0 : (sy_i F 3).toInt ≤ 400)
    (h1 : (sy_i F 69).toInt < (sy_i F 2).toInt)
    (h2 : 0 ≤ (sy_i F 69).toInt ∧ (sy_i F 69).toInt < 2000)
    (h3 : (sy_i F 69).toInt < (sy_i F 2).toInt)
    (h4 : (((sy_ai F 24).getD (sy_i F 69).toNatClampNeg 0) &&& ((255 : Int32))).toInt ≠ 9)
    (h5 : (((sy_ai F 24).getD (sy_i F 69).toNatClampNeg 0) &&& ((255 : Int32))).toInt = 10)
    (k : ∀ F1 : Nat → sy_d, (∀ j, j < 69 → True → F1 j = F j) → F1 69 = .inl (.int ((sy_i F 69) + ((1 : Int32)))) → hd_W Ls xs d jm_M142 Q (7, sy_dL F1 [some (.inl (.ref 1000)), some (.inr (.inl 69)), none, none, none, none, none, none], sy_dS F1 [], sy_dh F1 X1 X2 (iv_H 4), 0, 0)) :
    hd_W Ls xs d jm_M142 Q (7, sy_dL F [some (.inl (.ref 1000)), some (.inr (.inl 69)), none, none, none, none, none, none], sy_dS F [], sy_dh F X1 X2 (iv_H 4), 0, 0) := by
  refine hd_run (s := 4) (nv := 70) (pc := 7) (L := [some (.inl (.ref 1000)), some (.inr (.inl 69)), none, none, none, none, none, none]) (S := []) (uh := hd_ov (iv_id 0 iv_B4) []) (ul := [.inl (.inr (.inl 72))]) (f := true) (sp := [7, 85, 208, 286]) (d0 := 3) (O := [false, false, true, false, true]) (T := [(30, [.inr (.inl 69)], [.inr (.inl 24)]), (3, [.inr (.inl 70), .inl (.int 255)], []), (0, [.inr (.inl 69), .inl (.int 1)], [])]) (P := [(3, .inl (.int 400), .inr (.inl 3)), (5, .inr (.inl 2), .inr (.inl 69)), (6, .inr (.inl 69), .inl (.ref 2000)), (2, .inr (.inl 69), .inr (.inl 2)), (1, .inr (.inl 71), .inl (.int 9)), (0, .inr (.inl 71), .inl (.int 10))]) jm_ok142 (by decide +kernel) (by decide +kernel) hd F X1 X2 (fun F' hF hs => ?_)
  have b3 := hd_b (F := F) (F' := F') (k := 3) (hF 3 (by decide))
  have b2 := hd_b (F := F) (F' := F') (k := 2) (hF 2 (by decide))
  have b69 := hd_b (F := F) (F' := F') (k := 69) (hF 69 (by decide))
  have a24 := hd_ba (F := F) (F' := F') (k := 24) (hF 24 (by decide))
  have t70 : sy_dv F' (.inr (.inl 70)) = .int ((sy_ai F 24).getD (sy_i F 69).toNatClampNeg 0) := hd_rd (hs 0 _ rfl) b69 a24
  have t71 : sy_dv F' (.inr (.inl 71)) = .int (((sy_ai F 24).getD (sy_i F 69).toNatClampNeg 0) &&& ((255 : Int32))) := hd_o (hs 1 _ rfl) t70 rfl rfl
  have t72 : sy_dv F' (.inr (.inl 72)) = .int ((sy_i F 69) + ((1 : Int32))) := hd_o (hs 2 _ rfl) b69 rfl rfl
  have hB' : iv_in F' iv_B4 := iv_in_eq hB (fun j hj => hF j (Nat.lt_of_lt_of_le hj (by decide +kernel)))
  refine ⟨List.forall_mem_cons.mpr ⟨hd_p3 rfl b3 (by have hc : ((400) : Int32).toInt = 400 := (by decide); omega), List.forall_mem_cons.mpr ⟨hd_p5 b2 b69 h1, List.forall_mem_cons.mpr ⟨hd_pb b69 (by first | exact h2 | exact h2), List.forall_mem_cons.mpr ⟨hd_p2 b69 b2 h3, List.forall_mem_cons.mpr ⟨hd_p1 t71 rfl (by have hc : ((9) : Int32).toInt = 9 := (by decide); omega), List.forall_mem_cons.mpr ⟨hd_p0 t71 rfl (by have hc : ((10) : Int32).toInt = 10 := (by decide); omega), fun _ h => absurd h List.not_mem_nil⟩⟩⟩⟩⟩⟩, ?_⟩
  refine k _ ?_ ?_
  · exact fun j hj _ => (hd_keep hB' (Nat.lt_of_lt_of_le hj (by decide +kernel)) (by simp)).trans (hF j (Nat.lt_of_lt_of_le hj (by decide)))
  · exact hd_gi (x := .inr (.inl 72)) (by decide +kernel) t72
theorem rc_7_p6 {Ls : Nat} {xs : Nat → Int32} {d : Nat} {Q : Option Value → jm_h → Prop} (hd : 4 ≤ d) (F : Nat → sy_d) (X1 X2 : List jm_c) (hB : iv_in F iv_B4)
    (h0 : (sy_i F 3).toInt ≤ 400)
    (h1 : (sy_i F 69).toInt < (sy_i F 2).toInt)
    (h2 : 0 ≤ (sy_i F 69).toInt ∧ (sy_i F 69).toInt < 2000)
    (h3 : (sy_i F 69).toInt < (sy_i F 2).toInt)
    (h4 : (((sy_ai F 24).getD (sy_i F 69).toNatClampNeg 0) &&& ((255 : Int32))).toInt ≠ 9)
    (h5 : (((sy_ai F 24).getD (sy_i F 69).toNatClampNeg 0) &&& ((255 : Int32))).toInt ≠ 10)
    (h6 : (((sy_ai F 24).getD (sy_i F 69).toNatClampNeg 0) &&& ((255 : Int32))).toInt = 13)
    (k : ∀ F1 : Nat → sy_d, (∀ j, j < 69 → True → F1 j = F j) → F1 69 = .inl (.int ((sy_i F 69) + ((1 : Int32)))) → hd_W Ls xs d jm_M142 Q (7, sy_dL F1 [some (.inl (.ref 1000)), some (.inr (.inl 69)), none, none, none, none, none, none], sy_dS F1 [], sy_dh F1 X1 X2 (iv_H 4), 0, 0)) :
    hd_W Ls xs d jm_M142 Q (7, sy_dL F [some (.inl (.ref 1000)), some (.inr (.inl 69)), none, none, none, none, none, none], sy_dS F [], sy_dh F X1 X2 (iv_H 4), 0, 0) := by
  refine hd_run (s := 4) (nv := 70) (pc := 7) (L := [some (.inl (.ref 1000)), some (.inr (.inl 69)), none, none, none, none, none, none]) (S := []) (uh := hd_ov (iv_id 0 iv_B4) []) (ul := [.inl (.inr (.inl 72))]) (f := true) (sp := [7, 85, 208, 286]) (d0 := 3) (O := [false, false, true, false, false, true]) (T := [(30, [.inr (.inl 69)], [.inr (.inl 24)]), (3, [.inr (.inl 70), .inl (.int 255)], []), (0, [.inr (.inl 69), .inl (.int 1)], [])]) (P := [(3, .inl (.int 400), .inr (.inl 3)), (5, .inr (.inl 2), .inr (.inl 69)), (6, .inr (.inl 69), .inl (.ref 2000)), (2, .inr (.inl 69), .inr (.inl 2)), (1, .inr (.inl 71), .inl (.int 9)), (1, .inr (.inl 71), .inl (.int 10)), (0, .inr (.inl 71), .inl (.int 13))]) jm_ok142 (by decide +kernel) (by decide +kernel) hd F X1 X2 (fun F' hF hs => ?_)
  have b3 := hd_b (F := F) (F' := F') (k := 3) (hF 3 (by decide))
  have b2 := hd_b (F := F) (F' := F') (k := 2) (hF 2 (by decide))
  have b69 := hd_b (F := F) (F' := F') (k := 69) (hF 69 (by decide))
  have a24 := hd_ba (F := F) (F' := F') (k := 24) (hF 24 (by decide))
  have t70 : sy_dv F' (.inr (.inl 70)) = .int ((sy_ai F 24).getD (sy_i F 69).toNatClampNeg 0) := hd_rd (hs 0 _ rfl) b69 a24
  have t71 : sy_dv F' (.inr (.inl 71)) = .int (((sy_ai F 24).getD (sy_i F 69).toNatClampNeg 0) &&& ((255 : Int32))) := hd_o (hs 1 _ rfl) t70 rfl rfl
  have t72 : sy_dv F' (.inr (.inl 72)) = .int ((sy_i F 69) + ((1 : Int32))) := hd_o (hs 2 _ rfl) b69 rfl rfl
  have hB' : iv_in F' iv_B4 := iv_in_eq hB (fun j hj => hF j (Nat.lt_of_lt_of_le hj (by decide +kernel)))
  refine ⟨List.forall_mem_cons.mpr ⟨hd_p3 rfl b3 (by have hc : ((400) : Int32).toInt = 400 := (by decide); omega), List.forall_mem_cons.mpr ⟨hd_p5 b2 b69 h1, List.forall_mem_cons.mpr ⟨hd_pb b69 (by first | exact h2 | exact h2), List.forall_mem_cons.mpr ⟨hd_p2 b69 b2 h3, List.forall_mem_cons.mpr ⟨hd_p1 t71 rfl (by have hc : ((9) : Int32).toInt = 9 := (by decide); omega), List.forall_mem_cons.mpr ⟨hd_p1 t71 rfl (by have hc : ((10) : Int32).toInt = 10 := (by decide); omega), List.forall_mem_cons.mpr ⟨hd_p0 t71 rfl (by have hc : ((13) : Int32).toInt = 13 := (by decide); omega), fun _ h => absurd h List.not_mem_nil⟩⟩⟩⟩⟩⟩⟩, ?_⟩
  refine k _ ?_ ?_
  · exact fun j hj _ => (hd_keep hB' (Nat.lt_of_lt_of_le hj (by decide +kernel)) (by simp)).trans (hF j (Nat.lt_of_lt_of_le hj (by decide)))
  · exact hd_gi (x := .inr (.inl 72)) (by decide +kernel) t72
theorem rc_7_p7 {Ls : Nat} {xs : Nat → Int32} {d : Nat} {Q : Option Value → jm_h → Prop} (hd : 4 ≤ d) (F : Nat → sy_d) (X1 X2 : List jm_c) (hB : iv_in F iv_B4)
    (h0 : (sy_i F 3).toInt ≤ 400)
    (h1 : (sy_i F 69).toInt < (sy_i F 2).toInt)
    (h2 : 0 ≤ (sy_i F 69).toInt ∧ (sy_i F 69).toInt < 2000)
    (h3 : (sy_i F 69).toInt < (sy_i F 2).toInt)
    (h4 : (((sy_ai F 24).getD (sy_i F 69).toNatClampNeg 0) &&& ((255 : Int32))).toInt ≠ 9)
    (h5 : (((sy_ai F 24).getD (sy_i F 69).toNatClampNeg 0) &&& ((255 : Int32))).toInt ≠ 10)
    (h6 : (((sy_ai F 24).getD (sy_i F 69).toNatClampNeg 0) &&& ((255 : Int32))).toInt ≠ 13)
    (h7 : (((sy_ai F 24).getD (sy_i F 69).toNatClampNeg 0) &&& ((255 : Int32))).toInt ≠ 32)
    (h8 : (((sy_ai F 24).getD (sy_i F 69).toNatClampNeg 0) &&& ((255 : Int32))).toInt < 97)
    (h9 : (((sy_ai F 24).getD (sy_i F 69).toNatClampNeg 0) &&& ((255 : Int32))).toInt < 48)
    (h10 : (sy_i F 2).toInt ≤ ((sy_i F 69) + ((1 : Int32))).toInt)
    (k : ∀ F1 : Nat → sy_d, (∀ j, j < 69 → True → F1 j = F j) → F1 69 = .inl (.int ((0 : Int32))) → F1 70 = .inl (.int (((sy_ai F 24).getD (sy_i F 69).toNatClampNeg 0) &&& ((255 : Int32)))) → F1 71 = .inl (.int (sy_i F 69)) → F1 72 = .inl (.int (sy_i F 69)) → hd_W Ls xs d jm_M142 Q (286, sy_dL F1 [some (.inl (.ref 1000)), none, none, none, none, none, none, none], sy_dS F1 [.inr (.inl 69), .inr (.inl 70), .inr (.inl 71), .inl (.ref 1000), .inr (.inl 72)], sy_dh F1 X1 X2 (iv_H 4), 0, 0)) :
    hd_W Ls xs d jm_M142 Q (7, sy_dL F [some (.inl (.ref 1000)), some (.inr (.inl 69)), none, none, none, none, none, none], sy_dS F [], sy_dh F X1 X2 (iv_H 4), 0, 0) := by
  refine hd_run (s := 4) (nv := 70) (pc := 286) (L := [some (.inl (.ref 1000)), none, none, none, none, none, none, none]) (S := [.inr (.inl 69), .inr (.inl 70), .inr (.inl 71), .inl (.ref 1000), .inr (.inl 72)]) (uh := hd_ov (iv_id 0 iv_B4) []) (ul := [.inl (.inl (.int 0)), .inl (.inr (.inl 71)), .inl (.inr (.inl 69)), .inl (.inr (.inl 69))]) (f := true) (sp := [7, 85, 208, 286]) (d0 := 3) (O := [false, false, true, false, false, false, true, true, true, true]) (T := [(30, [.inr (.inl 69)], [.inr (.inl 24)]), (3, [.inr (.inl 70), .inl (.int 255)], []), (0, [.inr (.inl 69), .inl (.int 1)], [])]) (P := [(3, .inl (.int 400), .inr (.inl 3)), (5, .inr (.inl 2), .inr (.inl 69)), (6, .inr (.inl 69), .inl (.ref 2000)), (2, .inr (.inl 69), .inr (.inl 2)), (1, .inr (.inl 71), .inl (.int 9)), (1, .inr (.inl 71), .inl (.int 10)), (1, .inr (.inl 71), .inl (.int 13)), (1, .inr (.inl 71), .inl (.int 32)), (2, .inr (.inl 71), .inl (.int 97)), (2, .inr (.inl 71), .inl (.int 48)), (4, .inr (.inl 2), .inr (.inl 72))]) jm_ok142 (by decide +kernel) (by decide +kernel) hd F X1 X2 (fun F' hF hs => ?_)
  have b3 := hd_b (F := F) (F' := F') (k := 3) (hF 3 (by decide))
  have b2 := hd_b (F := F) (F' := F') (k := 2) (hF 2 (by decide))
  have b69 := hd_b (F := F) (F' := F') (k := 69) (hF 69 (by decide))
  have a24 := hd_ba (F := F) (F' := F') (k := 24) (hF 24 (by decide))
  have t70 : sy_dv F' (.inr (.inl 70)) = .int ((sy_ai F 24).getD (sy_i F 69).toNatClampNeg 0) := hd_rd (hs 0 _ rfl) b69 a24
  have t71 : sy_dv F' (.inr (.inl 71)) = .int (((sy_ai F 24).getD (sy_i F 69).toNatClampNeg 0) &&& ((255 : Int32))) := hd_o (hs 1 _ rfl) t70 rfl rfl
  have t72 : sy_dv F' (.inr (.inl 72)) = .int ((sy_i F 69) + ((1 : Int32))) := hd_o (hs 2 _ rfl) b69 rfl rfl
  have hB' : iv_in F' iv_B4 := iv_in_eq hB (fun j hj => hF j (Nat.lt_of_lt_of_le hj (by decide +kernel)))
  refine ⟨List.forall_mem_cons.mpr ⟨hd_p3 rfl b3 (by have hc : ((400) : Int32).toInt = 400 := (by decide); omega), List.forall_mem_cons.mpr ⟨hd_p5 b2 b69 h1, List.forall_mem_cons.mpr ⟨hd_pb b69 (by first | exact h2 | exact h2), List.forall_mem_cons.mpr ⟨hd_p2 b69 b2 h3, List.forall_mem_cons.mpr ⟨hd_p1 t71 rfl (by have hc : ((9) : Int32).toInt = 9 := (by decide); omega), List.forall_mem_cons.mpr ⟨hd_p1 t71 rfl (by have hc : ((10) : Int32).toInt = 10 := (by decide); omega), List.forall_mem_cons.mpr ⟨hd_p1 t71 rfl (by have hc : ((13) : Int32).toInt = 13 := (by decide); omega), List.forall_mem_cons.mpr ⟨hd_p1 t71 rfl (by have hc : ((32) : Int32).toInt = 32 := (by decide); omega), List.forall_mem_cons.mpr ⟨hd_p2 t71 rfl (by have hc : ((97) : Int32).toInt = 97 := (by decide); omega), List.forall_mem_cons.mpr ⟨hd_p2 t71 rfl (by have hc : ((48) : Int32).toInt = 48 := (by decide); omega), List.forall_mem_cons.mpr ⟨hd_p4 b2 t72 h10, fun _ h => absurd h List.not_mem_nil⟩⟩⟩⟩⟩⟩⟩⟩⟩⟩⟩, ?_⟩
  refine k _ ?_ ?_ ?_ ?_ ?_
  · exact fun j hj _ => (hd_keep hB' (Nat.lt_of_lt_of_le hj (by decide +kernel)) (by simp)).trans (hF j (Nat.lt_of_lt_of_le hj (by decide)))
  · exact hd_gi (x := .inl (.int 0)) (by decide +kernel) rfl
  · exact hd_gi (x := .inr (.inl 71)) (by decide +kernel) t71
  · exact hd_gi (x := .inr (.inl 69)) (by decide +kernel) b69
  · exact hd_gi (x := .inr (.inl 69)) (by decide +kernel) b69
theorem rc_7_p8 {Ls : Nat} {xs : Nat → Int32} {d : Nat} {Q : Option Value → jm_h → Prop} (hd : 4 ≤ d) (F : Nat → sy_d) (X1 X2 : List jm_c) (hB : iv_in F iv_B4)
    (h0 : (sy_i F 3).toInt ≤ 400)
    (h1 : (sy_i F 69).toInt < (sy_i F 2).toInt)
    (h2 : 0 ≤ (sy_i F 69).toInt ∧ (sy_i F 69).toInt < 2000)
    (h3 : (sy_i F 69).toInt < (sy_i F 2).toInt)
    (h4 : (((sy_ai F 24).getD (sy_i F 69).toNatClampNeg 0) &&& ((255 : Int32))).toInt ≠ 9)
    (h5 : (((sy_ai F 24).getD (sy_i F 69).toNatClampNeg 0) &&& ((255 : Int32))).toInt ≠ 10)
    (h6 : (((sy_ai F 24).getD (sy_i F 69).toNatClampNeg 0) &&& ((255 : Int32))).toInt ≠ 13)
    (h7 : (((sy_ai F 24).getD (sy_i F 69).toNatClampNeg 0) &&& ((255 : Int32))).toInt ≠ 32)
    (h8 : (((sy_ai F 24).getD (sy_i F 69).toNatClampNeg 0) &&& ((255 : Int32))).toInt < 97)
    (h9 : (((sy_ai F 24).getD (sy_i F 69).toNatClampNeg 0) &&& ((255 : Int32))).toInt < 48)
    (h10 : ((sy_i F 69) + ((1 : Int32))).toInt < (sy_i F 2).toInt)
    (h11 : 0 ≤ ((sy_i F 69) + ((1 : Int32))).toInt ∧ ((sy_i F 69) + ((1 : Int32))).toInt < 2000)
    (k : ∀ F1 : Nat → sy_d, (∀ j, j < 69 → True → F1 j = F j) → F1 69 = .inl (.int (((sy_ai F 24).getD ((sy_i F 69) + ((1 : Int32))).toNatClampNeg 0) &&& ((255 : Int32)))) → F1 70 = .inl (.int (((sy_ai F 24).getD (sy_i F 69).toNatClampNeg 0) &&& ((255 : Int32)))) → F1 71 = .inl (.int (sy_i F 69)) → F1 72 = .inl (.int (sy_i F 69)) → hd_W Ls xs d jm_M142 Q (286, sy_dL F1 [some (.inl (.ref 1000)), none, none, none, none, none, none, none], sy_dS F1 [.inr (.inl 69), .inr (.inl 70), .inr (.inl 71), .inl (.ref 1000), .inr (.inl 72)], sy_dh F1 X1 X2 (iv_H 4), 0, 0)) :
    hd_W Ls xs d jm_M142 Q (7, sy_dL F [some (.inl (.ref 1000)), some (.inr (.inl 69)), none, none, none, none, none, none], sy_dS F [], sy_dh F X1 X2 (iv_H 4), 0, 0) := by
  refine hd_run (s := 4) (nv := 70) (pc := 286) (L := [some (.inl (.ref 1000)), none, none, none, none, none, none, none]) (S := [.inr (.inl 69), .inr (.inl 70), .inr (.inl 71), .inl (.ref 1000), .inr (.inl 72)]) (uh := hd_ov (iv_id 0 iv_B4) []) (ul := [.inl (.inr (.inl 74)), .inl (.inr (.inl 71)), .inl (.inr (.inl 69)), .inl (.inr (.inl 69))]) (f := true) (sp := [7, 85, 208, 286]) (d0 := 3) (O := [false, false, true, false, false, false, true, true, true, false]) (T := [(30, [.inr (.inl 69)], [.inr (.inl 24)]), (3, [.inr (.inl 70), .inl (.int 255)], []), (0, [.inr (.inl 69), .inl (.int 1)], []), (30, [.inr (.inl 72)], [.inr (.inl 24)]), (3, [.inr (.inl 73), .inl (.int 255)], [])]) (P := [(3, .inl (.int 400), .inr (.inl 3)), (5, .inr (.inl 2), .inr (.inl 69)), (6, .inr (.inl 69), .inl (.ref 2000)), (2, .inr (.inl 69), .inr (.inl 2)), (1, .inr (.inl 71), .inl (.int 9)), (1, .inr (.inl 71), .inl (.int 10)), (1, .inr (.inl 71), .inl (.int 13)), (1, .inr (.inl 71), .inl (.int 32)), (2, .inr (.inl 71), .inl (.int 97)), (2, .inr (.inl 71), .inl (.int 48)), (5, .inr (.inl 2), .inr (.inl 72)), (6, .inr (.inl 72), .inl (.ref 2000))]) jm_ok142 (by decide +kernel) (by decide +kernel) hd F X1 X2 (fun F' hF hs => ?_)
  have b3 := hd_b (F := F) (F' := F') (k := 3) (hF 3 (by decide))
  have b2 := hd_b (F := F) (F' := F') (k := 2) (hF 2 (by decide))
  have b69 := hd_b (F := F) (F' := F') (k := 69) (hF 69 (by decide))
  have a24 := hd_ba (F := F) (F' := F') (k := 24) (hF 24 (by decide))
  have t70 : sy_dv F' (.inr (.inl 70)) = .int ((sy_ai F 24).getD (sy_i F 69).toNatClampNeg 0) := hd_rd (hs 0 _ rfl) b69 a24
  have t71 : sy_dv F' (.inr (.inl 71)) = .int (((sy_ai F 24).getD (sy_i F 69).toNatClampNeg 0) &&& ((255 : Int32))) := hd_o (hs 1 _ rfl) t70 rfl rfl
  have t72 : sy_dv F' (.inr (.inl 72)) = .int ((sy_i F 69) + ((1 : Int32))) := hd_o (hs 2 _ rfl) b69 rfl rfl
  have t73 : sy_dv F' (.inr (.inl 73)) = .int ((sy_ai F 24).getD ((sy_i F 69) + ((1 : Int32))).toNatClampNeg 0) := hd_rd (hs 3 _ rfl) t72 a24
  have t74 : sy_dv F' (.inr (.inl 74)) = .int (((sy_ai F 24).getD ((sy_i F 69) + ((1 : Int32))).toNatClampNeg 0) &&& ((255 : Int32))) := hd_o (hs 4 _ rfl) t73 rfl rfl
  have hB' : iv_in F' iv_B4 := iv_in_eq hB (fun j hj => hF j (Nat.lt_of_lt_of_le hj (by decide +kernel)))
  refine ⟨List.forall_mem_cons.mpr ⟨hd_p3 rfl b3 (by have hc : ((400) : Int32).toInt = 400 := (by decide); omega), List.forall_mem_cons.mpr ⟨hd_p5 b2 b69 h1, List.forall_mem_cons.mpr ⟨hd_pb b69 (by first | exact h2 | exact h2), List.forall_mem_cons.mpr ⟨hd_p2 b69 b2 h3, List.forall_mem_cons.mpr ⟨hd_p1 t71 rfl (by have hc : ((9) : Int32).toInt = 9 := (by decide); omega), List.forall_mem_cons.mpr ⟨hd_p1 t71 rfl (by have hc : ((10) : Int32).toInt = 10 := (by decide); omega), List.forall_mem_cons.mpr ⟨hd_p1 t71 rfl (by have hc : ((13) : Int32).toInt = 13 := (by decide); omega), List.forall_mem_cons.mpr ⟨hd_p1 t71 rfl (by have hc : ((32) : Int32).toInt = 32 := (by decide); omega), List.forall_mem_cons.mpr ⟨hd_p2 t71 rfl (by have hc : ((97) : Int32).toInt = 97 := (by decide); omega), List.forall_mem_cons.mpr ⟨hd_p2 t71 rfl (by have hc : ((48) : Int32).toInt = 48 := (by decide); omega), List.forall_mem_cons.mpr ⟨hd_p5 b2 t72 h10, List.forall_mem_cons.mpr ⟨hd_pb t72 (by first | exact h11 | exact h11), fun _ h => absurd h List.not_mem_nil⟩⟩⟩⟩⟩⟩⟩⟩⟩⟩⟩⟩, ?_⟩
  refine k _ ?_ ?_ ?_ ?_ ?_
  · exact fun j hj _ => (hd_keep hB' (Nat.lt_of_lt_of_le hj (by decide +kernel)) (by simp)).trans (hF j (Nat.lt_of_lt_of_le hj (by decide)))
  · exact hd_gi (x := .inr (.inl 74)) (by decide +kernel) t74
  · exact hd_gi (x := .inr (.inl 71)) (by decide +kernel) t71
  · exact hd_gi (x := .inr (.inl 69)) (by decide +kernel) b69
  · exact hd_gi (x := .inr (.inl 69)) (by decide +kernel) b69
theorem rc_7_p9 {Ls : Nat} {xs : Nat → Int32} {d : Nat} {Q : Option Value → jm_h → Prop} (hd : 4 ≤ d) (F : Nat → sy_d) (X1 X2 : List jm_c) (hB : iv_in F iv_B4)
    (h0 : (sy_i F 3).toInt ≤ 400)
    (h1 : (sy_i F 69).toInt < (sy_i F 2).toInt)
    (h2 : 0 ≤ (sy_i F 69).toInt ∧ (sy_i F 69).toInt < 2000)
    (h3 : (sy_i F 69).toInt < (sy_i F 2).toInt)
    (h4 : (((sy_ai F 24).getD (sy_i F 69).toNatClampNeg 0) &&& ((255 : Int32))).toInt ≠ 9)
    (h5 : (((sy_ai F 24).getD (sy_i F 69).toNatClampNeg 0) &&& ((255 : Int32))).toInt ≠ 10)
    (h6 : (((sy_ai F 24).getD (sy_i F 69).toNatClampNeg 0) &&& ((255 : Int32))).toInt ≠ 13)
    (h7 : (((sy_ai F 24).getD (sy_i F 69).toNatClampNeg 0) &&& ((255 : Int32))).toInt ≠ 32)
    (h8 : (((sy_ai F 24).getD (sy_i F 69).toNatClampNeg 0) &&& ((255 : Int32))).toInt < 97)
    (h9 : 48 ≤ (((sy_ai F 24).getD (sy_i F 69).toNatClampNeg 0) &&& ((255 : Int32))).toInt)
    (h10 : 57 < (((sy_ai F 24).getD (sy_i F 69).toNatClampNeg 0) &&& ((255 : Int32))).toInt)
    (h11 : (sy_i F 2).toInt ≤ ((sy_i F 69) + ((1 : Int32))).toInt)
    (k : ∀ F1 : Nat → sy_d, (∀ j, j < 69 → True → F1 j = F j) → F1 69 = .inl (.int ((0 : Int32))) → F1 70 = .inl (.int (((sy_ai F 24).getD (sy_i F 69).toNatClampNeg 0) &&& ((255 : Int32)))) → F1 71 = .inl (.int (sy_i F 69)) → F1 72 = .inl (.int (sy_i F 69)) → hd_W Ls xs d jm_M142 Q (286, sy_dL F1 [some (.inl (.ref 1000)), none, none, none, none, none, none, none], sy_dS F1 [.inr (.inl 69), .inr (.inl 70), .inr (.inl 71), .inl (.ref 1000), .inr (.inl 72)], sy_dh F1 X1 X2 (iv_H 4), 0, 0)) :
    hd_W Ls xs d jm_M142 Q (7, sy_dL F [some (.inl (.ref 1000)), some (.inr (.inl 69)), none, none, none, none, none, none], sy_dS F [], sy_dh F X1 X2 (iv_H 4), 0, 0) := by
  refine hd_run (s := 4) (nv := 70) (pc := 286) (L := [some (.inl (.ref 1000)), none, none, none, none, none, none, none]) (S := [.inr (.inl 69), .inr (.inl 70), .inr (.inl 71), .inl (.ref 1000), .inr (.inl 72)]) (uh := hd_ov (iv_id 0 iv_B4) []) (ul := [.inl (.inl (.int 0)), .inl (.inr (.inl 71)), .inl (.inr (.inl 69)), .inl (.inr (.inl 69))]) (f := true) (sp := [7, 85, 208, 286]) (d0 := 3) (O := [false, false, true, false, false, false, true, true, false, true, true]) (T := [(30, [.inr (.inl 69)], [.inr (.inl 24)]), (3, [.inr (.inl 70), .inl (.int 255)], []), (0, [.inr (.inl 69), .inl (.int 1)], [])]) (P := [(3, .inl (.int 400), .inr (.inl 3)), (5, .inr (.inl 2), .inr (.inl 69)), (6, .inr (.inl 69), .inl (.ref 2000)), (2, .inr (.inl 69), .inr (.inl 2)), (1, .inr (.inl 71), .inl (.int 9)), (1, .inr (.inl 71), .inl (.int 10)), (1, .inr (.inl 71), .inl (.int 13)), (1, .inr (.inl 71), .inl (.int 32)), (2, .inr (.inl 71), .inl (.int 97)), (3, .inr (.inl 71), .inl (.int 48)), (2, .inl (.int 57), .inr (.inl 71)), (4, .inr (.inl 2), .inr (.inl 72))]) jm_ok142 (by decide +kernel) (by decide +kernel) hd F X1 X2 (fun F' hF hs => ?_)
  have b3 := hd_b (F := F) (F' := F') (k := 3) (hF 3 (by decide))
  have b2 := hd_b (F := F) (F' := F') (k := 2) (hF 2 (by decide))
  have b69 := hd_b (F := F) (F' := F') (k := 69) (hF 69 (by decide))
  have a24 := hd_ba (F := F) (F' := F') (k := 24) (hF 24 (by decide))
  have t70 : sy_dv F' (.inr (.inl 70)) = .int ((sy_ai F 24).getD (sy_i F 69).toNatClampNeg 0) := hd_rd (hs 0 _ rfl) b69 a24
  have t71 : sy_dv F' (.inr (.inl 71)) = .int (((sy_ai F 24).getD (sy_i F 69).toNatClampNeg 0) &&& ((255 : Int32))) := hd_o (hs 1 _ rfl) t70 rfl rfl
  have t72 : sy_dv F' (.inr (.inl 72)) = .int ((sy_i F 69) + ((1 : Int32))) := hd_o (hs 2 _ rfl) b69 rfl rfl
  have hB' : iv_in F' iv_B4 := iv_in_eq hB (fun j hj => hF j (Nat.lt_of_lt_of_le hj (by decide +kernel)))
  refine ⟨List.forall_mem_cons.mpr ⟨hd_p3 rfl b3 (by have hc : ((400) : Int32).toInt = 400 := (by decide); omega), List.forall_mem_cons.mpr ⟨hd_p5 b2 b69 h1, List.forall_mem_cons.mpr ⟨hd_pb b69 (by first | exact h2 | exact h2), List.forall_mem_cons.mpr ⟨hd_p2 b69 b2 h3, List.forall_mem_cons.mpr ⟨hd_p1 t71 rfl (by have hc : ((9) : Int32).toInt = 9 := (by decide); omega), List.forall_mem_cons.mpr ⟨hd_p1 t71 rfl (by have hc : ((10) : Int32).toInt = 10 := (by decide); omega), List.forall_mem_cons.mpr ⟨hd_p1 t71 rfl (by have hc : ((13) : Int32).toInt = 13 := (by decide); omega), List.forall_mem_cons.mpr ⟨hd_p1 t71 rfl (by have hc : ((32) : Int32).toInt = 32 := (by decide); omega), List.forall_mem_cons.mpr ⟨hd_p2 t71 rfl (by have hc : ((97) : Int32).toInt = 97 := (by decide); omega), List.forall_mem_cons.mpr ⟨hd_p3 t71 rfl (by have hc : ((48) : Int32).toInt = 48 := (by decide); omega), List.forall_mem_cons.mpr ⟨hd_p2 rfl t71 (by have hc : ((57) : Int32).toInt = 57 := (by decide); omega), List.forall_mem_cons.mpr ⟨hd_p4 b2 t72 h11, fun _ h => absurd h List.not_mem_nil⟩⟩⟩⟩⟩⟩⟩⟩⟩⟩⟩⟩, ?_⟩
  refine k _ ?_ ?_ ?_ ?_ ?_
  · exact fun j hj _ => (hd_keep hB' (Nat.lt_of_lt_of_le hj (by decide +kernel)) (by simp)).trans (hF j (Nat.lt_of_lt_of_le hj (by decide)))
  · exact hd_gi (x := .inl (.int 0)) (by decide +kernel) rfl
  · exact hd_gi (x := .inr (.inl 71)) (by decide +kernel) t71
  · exact hd_gi (x := .inr (.inl 69)) (by decide +kernel) b69
  · exact hd_gi (x := .inr (.inl 69)) (by decide +kernel) b69
theorem rc_7_p10 {Ls : Nat} {xs : Nat → Int32} {d : Nat} {Q : Option Value → jm_h → Prop} (hd : 4 ≤ d) (F : Nat → sy_d) (X1 X2 : List jm_c) (hB : iv_in F iv_B4)
    (h0 : (sy_i F 3).toInt ≤ 400)
    (h1 : (sy_i F 69).toInt < (sy_i F 2).toInt)
    (h2 : 0 ≤ (sy_i F 69).toInt ∧ (sy_i F 69).toInt < 2000)
    (h3 : (sy_i F 69).toInt < (sy_i F 2).toInt)
    (h4 : (((sy_ai F 24).getD (sy_i F 69).toNatClampNeg 0) &&& ((255 : Int32))).toInt ≠ 9)
    (h5 : (((sy_ai F 24).getD (sy_i F 69).toNatClampNeg 0) &&& ((255 : Int32))).toInt ≠ 10)
    (h6 : (((sy_ai F 24).getD (sy_i F 69).toNatClampNeg 0) &&& ((255 : Int32))).toInt ≠ 13)
    (h7 : (((sy_ai F 24).getD (sy_i F 69).toNatClampNeg 0) &&& ((255 : Int32))).toInt ≠ 32)
    (h8 : (((sy_ai F 24).getD (sy_i F 69).toNatClampNeg 0) &&& ((255 : Int32))).toInt < 97)
    (h9 : 48 ≤ (((sy_ai F 24).getD (sy_i F 69).toNatClampNeg 0) &&& ((255 : Int32))).toInt)
    (h10 : 57 < (((sy_ai F 24).getD (sy_i F 69).toNatClampNeg 0) &&& ((255 : Int32))).toInt)
    (h11 : ((sy_i F 69) + ((1 : Int32))).toInt < (sy_i F 2).toInt)
    (h12 : 0 ≤ ((sy_i F 69) + ((1 : Int32))).toInt ∧ ((sy_i F 69) + ((1 : Int32))).toInt < 2000)
    (k : ∀ F1 : Nat → sy_d, (∀ j, j < 69 → True → F1 j = F j) → F1 69 = .inl (.int (((sy_ai F 24).getD ((sy_i F 69) + ((1 : Int32))).toNatClampNeg 0) &&& ((255 : Int32)))) → F1 70 = .inl (.int (((sy_ai F 24).getD (sy_i F 69).toNatClampNeg 0) &&& ((255 : Int32)))) → F1 71 = .inl (.int (sy_i F 69)) → F1 72 = .inl (.int (sy_i F 69)) → hd_W Ls xs d jm_M142 Q (286, sy_dL F1 [some (.inl (.ref 1000)), none, none, none, none, none, none, none], sy_dS F1 [.inr (.inl 69), .inr (.inl 70), .inr (.inl 71), .inl (.ref 1000), .inr (.inl 72)], sy_dh F1 X1 X2 (iv_H 4), 0, 0)) :
    hd_W Ls xs d jm_M142 Q (7, sy_dL F [some (.inl (.ref 1000)), some (.inr (.inl 69)), none, none, none, none, none, none], sy_dS F [], sy_dh F X1 X2 (iv_H 4), 0, 0) := by
  refine hd_run (s := 4) (nv := 70) (pc := 286) (L := [some (.inl (.ref 1000)), none, none, none, none, none, none, none]) (S := [.inr (.inl 69), .inr (.inl 70), .inr (.inl 71), .inl (.ref 1000), .inr (.inl 72)]) (uh := hd_ov (iv_id 0 iv_B4) []) (ul := [.inl (.inr (.inl 74)), .inl (.inr (.inl 71)), .inl (.inr (.inl 69)), .inl (.inr (.inl 69))]) (f := true) (sp := [7, 85, 208, 286]) (d0 := 3) (O := [false, false, true, false, false, false, true, true, false, true, false]) (T := [(30, [.inr (.inl 69)], [.inr (.inl 24)]), (3, [.inr (.inl 70), .inl (.int 255)], []), (0, [.inr (.inl 69), .inl (.int 1)], []), (30, [.inr (.inl 72)], [.inr (.inl 24)]), (3, [.inr (.inl 73), .inl (.int 255)], [])]) (P := [(3, .inl (.int 400), .inr (.inl 3)), (5, .inr (.inl 2), .inr (.inl 69)), (6, .inr (.inl 69), .inl (.ref 2000)), (2, .inr (.inl 69), .inr (.inl 2)), (1, .inr (.inl 71), .inl (.int 9)), (1, .inr (.inl 71), .inl (.int 10)), (1, .inr (.inl 71), .inl (.int 13)), (1, .inr (.inl 71), .inl (.int 32)), (2, .inr (.inl 71), .inl (.int 97)), (3, .inr (.inl 71), .inl (.int 48)), (2, .inl (.int 57), .inr (.inl 71)), (5, .inr (.inl 2), .inr (.inl 72)), (6, .inr (.inl 72), .inl (.ref 2000))]) jm_ok142 (by decide +kernel) (by decide +kernel) hd F X1 X2 (fun F' hF hs => ?_)
  have b3 := hd_b (F := F) (F' := F') (k := 3) (hF 3 (by decide))
  have b2 := hd_b (F := F) (F' := F') (k := 2) (hF 2 (by decide))
  have b69 := hd_b (F := F) (F' := F') (k := 69) (hF 69 (by decide))
  have a24 := hd_ba (F := F) (F' := F') (k := 24) (hF 24 (by decide))
  have t70 : sy_dv F' (.inr (.inl 70)) = .int ((sy_ai F 24).getD (sy_i F 69).toNatClampNeg 0) := hd_rd (hs 0 _ rfl) b69 a24
  have t71 : sy_dv F' (.inr (.inl 71)) = .int (((sy_ai F 24).getD (sy_i F 69).toNatClampNeg 0) &&& ((255 : Int32))) := hd_o (hs 1 _ rfl) t70 rfl rfl
  have t72 : sy_dv F' (.inr (.inl 72)) = .int ((sy_i F 69) + ((1 : Int32))) := hd_o (hs 2 _ rfl) b69 rfl rfl
  have t73 : sy_dv F' (.inr (.inl 73)) = .int ((sy_ai F 24).getD ((sy_i F 69) + ((1 : Int32))).toNatClampNeg 0) := hd_rd (hs 3 _ rfl) t72 a24
  have t74 : sy_dv F' (.inr (.inl 74)) = .int (((sy_ai F 24).getD ((sy_i F 69) + ((1 : Int32))).toNatClampNeg 0) &&& ((255 : Int32))) := hd_o (hs 4 _ rfl) t73 rfl rfl
  have hB' : iv_in F' iv_B4 := iv_in_eq hB (fun j hj => hF j (Nat.lt_of_lt_of_le hj (by decide +kernel)))
  refine ⟨List.forall_mem_cons.mpr ⟨hd_p3 rfl b3 (by have hc : ((400) : Int32).toInt = 400 := (by decide); omega), List.forall_mem_cons.mpr ⟨hd_p5 b2 b69 h1, List.forall_mem_cons.mpr ⟨hd_pb b69 (by first | exact h2 | exact h2), List.forall_mem_cons.mpr ⟨hd_p2 b69 b2 h3, List.forall_mem_cons.mpr ⟨hd_p1 t71 rfl (by have hc : ((9) : Int32).toInt = 9 := (by decide); omega), List.forall_mem_cons.mpr ⟨hd_p1 t71 rfl (by have hc : ((10) : Int32).toInt = 10 := (by decide); omega), List.forall_mem_cons.mpr ⟨hd_p1 t71 rfl (by have hc : ((13) : Int32).toInt = 13 := (by decide); omega), List.forall_mem_cons.mpr ⟨hd_p1 t71 rfl (by have hc : ((32) : Int32).toInt = 32 := (by decide); omega), List.forall_mem_cons.mpr ⟨hd_p2 t71 rfl (by have hc : ((97) : Int32).toInt = 97 := (by decide); omega), List.forall_mem_cons.mpr ⟨hd_p3 t71 rfl (by have hc : ((48) : Int32).toInt = 48 := (by decide); omega), List.forall_mem_cons.mpr ⟨hd_p2 rfl t71 (by have hc : ((57) : Int32).toInt = 57 := (by decide); omega), List.forall_mem_cons.mpr ⟨hd_p5 b2 t72 h11, List.forall_mem_cons.mpr ⟨hd_pb t72 (by first | exact h12 | exact h12), fun _ h => absurd h List.not_mem_nil⟩⟩⟩⟩⟩⟩⟩⟩⟩⟩⟩⟩⟩, ?_⟩
  refine k _ ?_ ?_ ?_ ?_ ?_
  · exact fun j hj _ => (hd_keep hB' (Nat.lt_of_lt_of_le hj (by decide +kernel)) (by simp)).trans (hF j (Nat.lt_of_lt_of_le hj (by decide)))
  · exact hd_gi (x := .inr (.inl 74)) (by decide +kernel) t74
  · exact hd_gi (x := .inr (.inl 71)) (by decide +kernel) t71
  · exact hd_gi (x := .inr (.inl 69)) (by decide +kernel) b69
  · exact hd_gi (x := .inr (.inl 69)) (by decide +kernel) b69
theorem rc_7_p11 {Ls : Nat} {xs : Nat → Int32} {d : Nat} {Q : Option Value → jm_h → Prop} (hd : 4 ≤ d) (F : Nat → sy_d) (X1 X2 : List jm_c) (hB : iv_in F iv_B4)
    (h0 : (sy_i F 3).toInt ≤ 400)
    (h1 : (sy_i F 69).toInt < (sy_i F 2).toInt)
    (h2 : 0 ≤ (sy_i F 69).toInt ∧ (sy_i F 69).toInt < 2000)
    (h3 : (sy_i F 69).toInt < (sy_i F 2).toInt)
    (h4 : (((sy_ai F 24).getD (sy_i F 69).toNatClampNeg 0) &&& ((255 : Int32))).toInt ≠ 9)
    (h5 : (((sy_ai F 24).getD (sy_i F 69).toNatClampNeg 0) &&& ((255 : Int32))).toInt ≠ 10)
    (h6 : (((sy_ai F 24).getD (sy_i F 69).toNatClampNeg 0) &&& ((255 : Int32))).toInt ≠ 13)
    (h7 : (((sy_ai F 24).getD (sy_i F 69).toNatClampNeg 0) &&& ((255 : Int32))).toInt ≠ 32)
    (h8 : (((sy_ai F 24).getD (sy_i F 69).toNatClampNeg 0) &&& ((255 : Int32))).toInt < 97)
    (h9 : 48 ≤ (((sy_ai F 24).getD (sy_i F 69).toNatClampNeg 0) &&& ((255 : Int32))).toInt)
    (h10 : (((sy_ai F 24).getD (sy_i F 69).toNatClampNeg 0) &&& ((255 : Int32))).toInt ≤ 57)
    (k : ∀ F1 : Nat → sy_d, (∀ j, j < 69 → True → F1 j = F j) → F1 69 = .inl (.int (sy_i F 69)) → F1 70 = .inl (.int ((0 : Int32))) → F1 71 = .inl (.int ((0 : Int32))) → hd_W Ls xs d jm_M142 Q (208, sy_dL F1 [some (.inl (.ref 1000)), some (.inr (.inl 69)), none, some (.inr (.inl 70)), some (.inr (.inl 71)), none, none, none], sy_dS F1 [], sy_dh F1 X1 X2 (iv_H 4), 0, 0)) :
    hd_W Ls xs d jm_M142 Q (7, sy_dL F [some (.inl (.ref 1000)), some (.inr (.inl 69)), none, none, none, none, none, none], sy_dS F [], sy_dh F X1 X2 (iv_H 4), 0, 0) := by
  refine hd_run (s := 4) (nv := 70) (pc := 208) (L := [some (.inl (.ref 1000)), some (.inr (.inl 69)), none, some (.inr (.inl 70)), some (.inr (.inl 71)), none, none, none]) (S := []) (uh := hd_ov (iv_id 0 iv_B4) []) (ul := [.inl (.inr (.inl 69)), .inl (.inl (.int 0)), .inl (.inl (.int 0))]) (f := true) (sp := [7, 85, 208, 286]) (d0 := 3) (O := [false, false, true, false, false, false, true, true, false, false]) (T := [(30, [.inr (.inl 69)], [.inr (.inl 24)]), (3, [.inr (.inl 70), .inl (.int 255)], [])]) (P := [(3, .inl (.int 400), .inr (.inl 3)), (5, .inr (.inl 2), .inr (.inl 69)), (6, .inr (.inl 69), .inl (.ref 2000)), (2, .inr (.inl 69), .inr (.inl 2)), (1, .inr (.inl 71), .inl (.int 9)), (1, .inr (.inl 71), .inl (.int 10)), (1, .inr (.inl 71), .inl (.int 13)), (1, .inr (.inl 71), .inl (.int 32)), (2, .inr (.inl 71), .inl (.int 97)), (3, .inr (.inl 71), .inl (.int 48)), (3, .inl (.int 57), .inr (.inl 71))]) jm_ok142 (by decide +kernel) (by decide +kernel) hd F X1 X2 (fun F' hF hs => ?_)
  have b3 := hd_b (F := F) (F' := F') (k := 3) (hF 3 (by decide))
  have b2 := hd_b (F := F) (F' := F') (k := 2) (hF 2 (by decide))
  have b69 := hd_b (F := F) (F' := F') (k := 69) (hF 69 (by decide))
  have a24 := hd_ba (F := F) (F' := F') (k := 24) (hF 24 (by decide))
  have t70 : sy_dv F' (.inr (.inl 70)) = .int ((sy_ai F 24).getD (sy_i F 69).toNatClampNeg 0) := hd_rd (hs 0 _ rfl) b69 a24
  have t71 : sy_dv F' (.inr (.inl 71)) = .int (((sy_ai F 24).getD (sy_i F 69).toNatClampNeg 0) &&& ((255 : Int32))) := hd_o (hs 1 _ rfl) t70 rfl rfl
  have hB' : iv_in F' iv_B4 := iv_in_eq hB (fun j hj => hF j (Nat.lt_of_lt_of_le hj (by decide +kernel)))
  refine ⟨List.forall_mem_cons.mpr ⟨hd_p3 rfl b3 (by have hc : ((400) : Int32).toInt = 400 := (by decide); omega), List.forall_mem_cons.mpr ⟨hd_p5 b2 b69 h1, List.forall_mem_cons.mpr ⟨hd_pb b69 (by first | exact h2 | exact h2), List.forall_mem_cons.mpr ⟨hd_p2 b69 b2 h3, List.forall_mem_cons.mpr ⟨hd_p1 t71 rfl (by have hc : ((9) : Int32).toInt = 9 := (by decide); omega), List.forall_mem_cons.mpr ⟨hd_p1 t71 rfl (by have hc : ((10) : Int32).toInt = 10 := (by decide); omega), List.forall_mem_cons.mpr ⟨hd_p1 t71 rfl (by have hc : ((13) : Int32).toInt = 13 := (by decide); omega), List.forall_mem_cons.mpr ⟨hd_p1 t71 rfl (by have hc : ((32) : Int32).toInt = 32 := (by decide); omega), List.forall_mem_cons.mpr ⟨hd_p2 t71 rfl (by have hc : ((97) : Int32).toInt = 97 := (by decide); omega), List.forall_mem_cons.mpr ⟨hd_p3 t71 rfl (by have hc : ((48) : Int32).toInt = 48 := (by decide); omega), List.forall_mem_cons.mpr ⟨hd_p3 rfl t71 (by have hc : ((57) : Int32).toInt = 57 := (by decide); omega), fun _ h => absurd h List.not_mem_nil⟩⟩⟩⟩⟩⟩⟩⟩⟩⟩⟩, ?_⟩
  refine k _ ?_ ?_ ?_ ?_
  · exact fun j hj _ => (hd_keep hB' (Nat.lt_of_lt_of_le hj (by decide +kernel)) (by simp)).trans (hF j (Nat.lt_of_lt_of_le hj (by decide)))
  · exact hd_gi (x := .inr (.inl 69)) (by decide +kernel) b69
  · exact hd_gi (x := .inl (.int 0)) (by decide +kernel) rfl
  · exact hd_gi (x := .inl (.int 0)) (by decide +kernel) rfl
theorem rc_7_p12 {Ls : Nat} {xs : Nat → Int32} {d : Nat} {Q : Option Value → jm_h → Prop} (hd : 4 ≤ d) (F : Nat → sy_d) (X1 X2 : List jm_c) (hB : iv_in F iv_B4)
    (h0 : (sy_i F 3).toInt ≤ 400)
    (h1 : (sy_i F 69).toInt < (sy_i F 2).toInt)
    (h2 : 0 ≤ (sy_i F 69).toInt ∧ (sy_i F 69).toInt < 2000)
    (h3 : (sy_i F 69).toInt < (sy_i F 2).toInt)
    (h4 : (((sy_ai F 24).getD (sy_i F 69).toNatClampNeg 0) &&& ((255 : Int32))).toInt ≠ 9)
    (h5 : (((sy_ai F 24).getD (sy_i F 69).toNatClampNeg 0) &&& ((255 : Int32))).toInt ≠ 10)
    (h6 : (((sy_ai F 24).getD (sy_i F 69).toNatClampNeg 0) &&& ((255 : Int32))).toInt ≠ 13)
    (h7 : (((sy_ai F 24).getD (sy_i F 69).toNatClampNeg 0) &&& ((255 : Int32))).toInt ≠ 32)
    (h8 : 97 ≤ (((sy_ai F 24).getD (sy_i F 69).toNatClampNeg 0) &&& ((255 : Int32))).toInt)
    (h9 : 122 < (((sy_ai F 24).getD (sy_i F 69).toNatClampNeg 0) &&& ((255 : Int32))).toInt)
    (h10 : 48 ≤ (((sy_ai F 24).getD (sy_i F 69).toNatClampNeg 0) &&& ((255 : Int32))).toInt)
    (h11 : 57 < (((sy_ai F 24).getD (sy_i F 69).toNatClampNeg 0) &&& ((255 : Int32))).toInt)
    (h12 : (sy_i F 2).toInt ≤ ((sy_i F 69) + ((1 : Int32))).toInt)
    (k : ∀ F1 : Nat → sy_d, (∀ j, j < 69 → True → F1 j = F j) → F1 69 = .inl (.int ((0 : Int32))) → F1 70 = .inl (.int (((sy_ai F 24).getD (sy_i F 69).toNatClampNeg 0) &&& ((255 : Int32)))) → F1 71 = .inl (.int (sy_i F 69)) → F1 72 = .inl (.int (sy_i F 69)) → hd_W Ls xs d jm_M142 Q (286, sy_dL F1 [some (.inl (.ref 1000)), none, none, none, none, none, none, none], sy_dS F1 [.inr (.inl 69), .inr (.inl 70), .inr (.inl 71), .inl (.ref 1000), .inr (.inl 72)], sy_dh F1 X1 X2 (iv_H 4), 0, 0)) :
    hd_W Ls xs d jm_M142 Q (7, sy_dL F [some (.inl (.ref 1000)), some (.inr (.inl 69)), none, none, none, none, none, none], sy_dS F [], sy_dh F X1 X2 (iv_H 4), 0, 0) := by
  refine hd_run (s := 4) (nv := 70) (pc := 286) (L := [some (.inl (.ref 1000)), none, none, none, none, none, none, none]) (S := [.inr (.inl 69), .inr (.inl 70), .inr (.inl 71), .inl (.ref 1000), .inr (.inl 72)]) (uh := hd_ov (iv_id 0 iv_B4) []) (ul := [.inl (.inl (.int 0)), .inl (.inr (.inl 71)), .inl (.inr (.inl 69)), .inl (.inr (.inl 69))]) (f := true) (sp := [7, 85, 208, 286]) (d0 := 3) (O := [false, false, true, false, false, false, true, false, true, false, true, true]) (T := [(30, [.inr (.inl 69)], [.inr (.inl 24)]), (3, [.inr (.inl 70), .inl (.int 255)], []), (0, [.inr (.inl 69), .inl (.int 1)], [])]) (P := [(3, .inl (.int 400), .inr (.inl 3)), (5, .inr (.inl 2), .inr (.inl 69)), (6, .inr (.inl 69), .inl (.ref 2000)), (2, .inr (.inl 69), .inr (.inl 2)), (1, .inr (.inl 71), .inl (.int 9)), (1, .inr (.inl 71), .inl (.int 10)), (1, .inr (.inl 71), .inl (.int 13)), (1, .inr (.inl 71), .inl (.int 32)), (3, .inr (.inl 71), .inl (.int 97)), (2, .inl (.int 122), .inr (.inl 71)), (3, .inr (.inl 71), .inl (.int 48)), (2, .inl (.int 57), .inr (.inl 71)), (4, .inr (.inl 2), .inr (.inl 72))]) jm_ok142 (by decide +kernel) (by decide +kernel) hd F X1 X2 (fun F' hF hs => ?_)
  have b3 := hd_b (F := F) (F' := F') (k := 3) (hF 3 (by decide))
  have b2 := hd_b (F := F) (F' := F') (k := 2) (hF 2 (by decide))
  have b69 := hd_b (F := F) (F' := F') (k := 69) (hF 69 (by decide))
  have a24 := hd_ba (F := F) (F' := F') (k := 24) (hF 24 (by decide))
  have t70 : sy_dv F' (.inr (.inl 70)) = .int ((sy_ai F 24).getD (sy_i F 69).toNatClampNeg 0) := hd_rd (hs 0 _ rfl) b69 a24
  have t71 : sy_dv F' (.inr (.inl 71)) = .int (((sy_ai F 24).getD (sy_i F 69).toNatClampNeg 0) &&& ((255 : Int32))) := hd_o (hs 1 _ rfl) t70 rfl rfl
  have t72 : sy_dv F' (.inr (.inl 72)) = .int ((sy_i F 69) + ((1 : Int32))) := hd_o (hs 2 _ rfl) b69 rfl rfl
  have hB' : iv_in F' iv_B4 := iv_in_eq hB (fun j hj => hF j (Nat.lt_of_lt_of_le hj (by decide +kernel)))
  refine ⟨List.forall_mem_cons.mpr ⟨hd_p3 rfl b3 (by have hc : ((400) : Int32).toInt = 400 := (by decide); omega), List.forall_mem_cons.mpr ⟨hd_p5 b2 b69 h1, List.forall_mem_cons.mpr ⟨hd_pb b69 (by first | exact h2 | exact h2), List.forall_mem_cons.mpr ⟨hd_p2 b69 b2 h3, List.forall_mem_cons.mpr ⟨hd_p1 t71 rfl (by have hc : ((9) : Int32).toInt = 9 := (by decide); omega), List.forall_mem_cons.mpr ⟨hd_p1 t71 rfl (by have hc : ((10) : Int32).toInt = 10 := (by decide); omega), List.forall_mem_cons.mpr ⟨hd_p1 t71 rfl (by have hc : ((13) : Int32).toInt = 13 := (by decide); omega), List.forall_mem_cons.mpr ⟨hd_p1 t71 rfl (by have hc : ((32) : Int32).toInt = 32 := (by decide); omega), List.forall_mem_cons.mpr ⟨hd_p3 t71 rfl (by have hc : ((97) : Int32).toInt = 97 := (by decide); omega), List.forall_mem_cons.mpr ⟨hd_p2 rfl t71 (by have hc : ((122) : Int32).toInt = 122 := (by decide); omega), List.forall_mem_cons.mpr ⟨hd_p3 t71 rfl (by have hc : ((48) : Int32).toInt = 48 := (by decide); omega), List.forall_mem_cons.mpr ⟨hd_p2 rfl t71 (by have hc : ((57) : Int32).toInt = 57 := (by decide); omega), List.forall_mem_cons.mpr ⟨hd_p4 b2 t72 h12, fun _ h => absurd h List.not_mem_nil⟩⟩⟩⟩⟩⟩⟩⟩⟩⟩⟩⟩⟩, ?_⟩
  refine k _ ?_ ?_ ?_ ?_ ?_
  · exact fun j hj _ => (hd_keep hB' (Nat.lt_of_lt_of_le hj (by decide +kernel)) (by simp)).trans (hF j (Nat.lt_of_lt_of_le hj (by decide)))
  · exact hd_gi (x := .inl (.int 0)) (by decide +kernel) rfl
  · exact hd_gi (x := .inr (.inl 71)) (by decide +kernel) t71
  · exact hd_gi (x := .inr (.inl 69)) (by decide +kernel) b69
  · exact hd_gi (x := .inr (.inl 69)) (by decide +kernel) b69
theorem rc_7_p13 {Ls : Nat} {xs : Nat → Int32} {d : Nat} {Q : Option Value → jm_h → Prop} (hd : 4 ≤ d) (F : Nat → sy_d) (X1 X2 : List jm_c) (hB : iv_in F iv_B4)
    (h0 : (sy_i F 3).toInt ≤ 400)
    (h1 : (sy_i F 69).toInt < (sy_i F 2).toInt)
    (h2 : 0 ≤ (sy_i F 69).toInt ∧ (sy_i F 69).toInt < 2000)
    (h3 : (sy_i F 69).toInt < (sy_i F 2).toInt)
    (h4 : (((sy_ai F 24).getD (sy_i F 69).toNatClampNeg 0) &&& ((255 : Int32))).toInt ≠ 9)
    (h5 : (((sy_ai F 24).getD (sy_i F 69).toNatClampNeg 0) &&& ((255 : Int32))).toInt ≠ 10)
    (h6 : (((sy_ai F 24).getD (sy_i F 69).toNatClampNeg 0) &&& ((255 : Int32))).toInt ≠ 13)
    (h7 : (((sy_ai F 24).getD (sy_i F 69).toNatClampNeg 0) &&& ((255 : Int32))).toInt ≠ 32)
    (h8 : 97 ≤ (((sy_ai F 24).getD (sy_i F 69).toNatClampNeg 0) &&& ((255 : Int32))).toInt)
    (h9 : 122 < (((sy_ai F 24).getD (sy_i F 69).toNatClampNeg 0) &&& ((255 : Int32))).toInt)
    (h10 : 48 ≤ (((sy_ai F 24).getD (sy_i F 69).toNatClampNeg 0) &&& ((255 : Int32))).toInt)
    (h11 : 57 < (((sy_ai F 24).getD (sy_i F 69).toNatClampNeg 0) &&& ((255 : Int32))).toInt)
    (h12 : ((sy_i F 69) + ((1 : Int32))).toInt < (sy_i F 2).toInt)
    (h13 : 0 ≤ ((sy_i F 69) + ((1 : Int32))).toInt ∧ ((sy_i F 69) + ((1 : Int32))).toInt < 2000)
    (k : ∀ F1 : Nat → sy_d, (∀ j, j < 69 → True → F1 j = F j) → F1 69 = .inl (.int (((sy_ai F 24).getD ((sy_i F 69) + ((1 : Int32))).toNatClampNeg 0) &&& ((255 : Int32)))) → F1 70 = .inl (.int (((sy_ai F 24).getD (sy_i F 69).toNatClampNeg 0) &&& ((255 : Int32)))) → F1 71 = .inl (.int (sy_i F 69)) → F1 72 = .inl (.int (sy_i F 69)) → hd_W Ls xs d jm_M142 Q (286, sy_dL F1 [some (.inl (.ref 1000)), none, none, none, none, none, none, none], sy_dS F1 [.inr (.inl 69), .inr (.inl 70), .inr (.inl 71), .inl (.ref 1000), .inr (.inl 72)], sy_dh F1 X1 X2 (iv_H 4), 0, 0)) :
    hd_W Ls xs d jm_M142 Q (7, sy_dL F [some (.inl (.ref 1000)), some (.inr (.inl 69)), none, none, none, none, none, none], sy_dS F [], sy_dh F X1 X2 (iv_H 4), 0, 0) := by
  refine hd_run (s := 4) (nv := 70) (pc := 286) (L := [some (.inl (.ref 1000)), none, none, none, none, none, none, none]) (S := [.inr (.inl 69), .inr (.inl 70), .inr (.inl 71), .inl (.ref 1000), .inr (.inl 72)]) (uh := hd_ov (iv_id 0 iv_B4) []) (ul := [.inl (.inr (.inl 74)), .inl (.inr (.inl 71)), .inl (.inr (.inl 69)), .inl (.inr (.inl 69))]) (f := true) (sp := [7, 85, 208, 286]) (d0 := 3) (O := [false, false, true, false, false, false, true, false, true, false, true, false]) (T := [(30, [.inr (.inl 69)], [.inr (.inl 24)]), (3, [.inr (.inl 70), .inl (.int 255)], []), (0, [.inr (.inl 69), .inl (.int 1)], []), (30, [.inr (.inl 72)], [.inr (.inl 24)]), (3, [.inr (.inl 73), .inl (.int 255)], [])]) (P := [(3, .inl (.int 400), .inr (.inl 3)), (5, .inr (.inl 2), .inr (.inl 69)), (6, .inr (.inl 69), .inl (.ref 2000)), (2, .inr (.inl 69), .inr (.inl 2)), (1, .inr (.inl 71), .inl (.int 9)), (1, .inr (.inl 71), .inl (.int 10)), (1, .inr (.inl 71), .inl (.int 13)), (1, .inr (.inl 71), .inl (.int 32)), (3, .inr (.inl 71), .inl (.int 97)), (2, .inl (.int 122), .inr (.inl 71)), (3, .inr (.inl 71), .inl (.int 48)), (2, .inl (.int 57), .inr (.inl 71)), (5, .inr (.inl 2), .inr (.inl 72)), (6, .inr (.inl 72), .inl (.ref 2000))]) jm_ok142 (by decide +kernel) (by decide +kernel) hd F X1 X2 (fun F' hF hs => ?_)
  have b3 := hd_b (F := F) (F' := F') (k := 3) (hF 3 (by decide))
  have b2 := hd_b (F := F) (F' := F') (k := 2) (hF 2 (by decide))
  have b69 := hd_b (F := F) (F' := F') (k := 69) (hF 69 (by decide))
  have a24 := hd_ba (F := F) (F' := F') (k := 24) (hF 24 (by decide))
  have t70 : sy_dv F' (.inr (.inl 70)) = .int ((sy_ai F 24).getD (sy_i F 69).toNatClampNeg 0) := hd_rd (hs 0 _ rfl) b69 a24
  have t71 : sy_dv F' (.inr (.inl 71)) = .int (((sy_ai F 24).getD (sy_i F 69).toNatClampNeg 0) &&& ((255 : Int32))) := hd_o (hs 1 _ rfl) t70 rfl rfl
  have t72 : sy_dv F' (.inr (.inl 72)) = .int ((sy_i F 69) + ((1 : Int32))) := hd_o (hs 2 _ rfl) b69 rfl rfl
  have t73 : sy_dv F' (.inr (.inl 73)) = .int ((sy_ai F 24).getD ((sy_i F 69) + ((1 : Int32))).toNatClampNeg 0) := hd_rd (hs 3 _ rfl) t72 a24
  have t74 : sy_dv F' (.inr (.inl 74)) = .int (((sy_ai F 24).getD ((sy_i F 69) + ((1 : Int32))).toNatClampNeg 0) &&& ((255 : Int32))) := hd_o (hs 4 _ rfl) t73 rfl rfl
  have hB' : iv_in F' iv_B4 := iv_in_eq hB (fun j hj => hF j (Nat.lt_of_lt_of_le hj (by decide +kernel)))
  refine ⟨List.forall_mem_cons.mpr ⟨hd_p3 rfl b3 (by have hc : ((400) : Int32).toInt = 400 := (by decide); omega), List.forall_mem_cons.mpr ⟨hd_p5 b2 b69 h1, List.forall_mem_cons.mpr ⟨hd_pb b69 (by first | exact h2 | exact h2), List.forall_mem_cons.mpr ⟨hd_p2 b69 b2 h3, List.forall_mem_cons.mpr ⟨hd_p1 t71 rfl (by have hc : ((9) : Int32).toInt = 9 := (by decide); omega), List.forall_mem_cons.mpr ⟨hd_p1 t71 rfl (by have hc : ((10) : Int32).toInt = 10 := (by decide); omega), List.forall_mem_cons.mpr ⟨hd_p1 t71 rfl (by have hc : ((13) : Int32).toInt = 13 := (by decide); omega), List.forall_mem_cons.mpr ⟨hd_p1 t71 rfl (by have hc : ((32) : Int32).toInt = 32 := (by decide); omega), List.forall_mem_cons.mpr ⟨hd_p3 t71 rfl (by have hc : ((97) : Int32).toInt = 97 := (by decide); omega), List.forall_mem_cons.mpr ⟨hd_p2 rfl t71 (by have hc : ((122) : Int32).toInt = 122 := (by decide); omega), List.forall_mem_cons.mpr ⟨hd_p3 t71 rfl (by have hc : ((48) : Int32).toInt = 48 := (by decide); omega), List.forall_mem_cons.mpr ⟨hd_p2 rfl t71 (by have hc : ((57) : Int32).toInt = 57 := (by decide); omega), List.forall_mem_cons.mpr ⟨hd_p5 b2 t72 h12, List.forall_mem_cons.mpr ⟨hd_pb t72 (by first | exact h13 | exact h13), fun _ h => absurd h List.not_mem_nil⟩⟩⟩⟩⟩⟩⟩⟩⟩⟩⟩⟩⟩⟩, ?_⟩
  refine k _ ?_ ?_ ?_ ?_ ?_
  · exact fun j hj _ => (hd_keep hB' (Nat.lt_of_lt_of_le hj (by decide +kernel)) (by simp)).trans (hF j (Nat.lt_of_lt_of_le hj (by decide)))
  · exact hd_gi (x := .inr (.inl 74)) (by decide +kernel) t74
  · exact hd_gi (x := .inr (.inl 71)) (by decide +kernel) t71
  · exact hd_gi (x := .inr (.inl 69)) (by decide +kernel) b69
  · exact hd_gi (x := .inr (.inl 69)) (by decide +kernel) b69
theorem rc_7_p14 {Ls : Nat} {xs : Nat → Int32} {d : Nat} {Q : Option Value → jm_h → Prop} (hd : 4 ≤ d) (F : Nat → sy_d) (X1 X2 : List jm_c) (hB : iv_in F iv_B4)
    (h0 : (sy_i F 3).toInt ≤ 400)
    (h1 : (sy_i F 69).toInt < (sy_i F 2).toInt)
    (h2 : 0 ≤ (sy_i F 69).toInt ∧ (sy_i F 69).toInt < 2000)
    (h3 : (sy_i F 69).toInt < (sy_i F 2).toInt)
    (h4 : (((sy_ai F 24).getD (sy_i F 69).toNatClampNeg 0) &&& ((255 : Int32))).toInt ≠ 9)
    (h5 : (((sy_ai F 24).getD (sy_i F 69).toNatClampNeg 0) &&& ((255 : Int32))).toInt ≠ 10)
    (h6 : (((sy_ai F 24).getD (sy_i F 69).toNatClampNeg 0) &&& ((255 : Int32))).toInt ≠ 13)
    (h7 : (((sy_ai F 24).getD (sy_i F 69).toNatClampNeg 0) &&& ((255 : Int32))).toInt ≠ 32)
    (h8 : 97 ≤ (((sy_ai F 24).getD (sy_i F 69).toNatClampNeg 0) &&& ((255 : Int32))).toInt)
    (h9 : (((sy_ai F 24).getD (sy_i F 69).toNatClampNeg 0) &&& ((255 : Int32))).toInt ≤ 122)
    (k : ∀ F1 : Nat → sy_d, (∀ j, j < 69 → True → F1 j = F j) → F1 69 = .inl (.int (sy_i F 69)) → F1 70 = .inl (.int ((0 : Int32))) → F1 71 = .inl (.long ((0 : Int64))) → hd_W Ls xs d jm_M142 Q (85, sy_dL F1 [some (.inl (.ref 1000)), some (.inr (.inl 69)), none, some (.inr (.inl 70)), some (.inr (.inr 71)), none, none, none], sy_dS F1 [], sy_dh F1 X1 X2 (iv_H 4), 0, 0)) :
    hd_W Ls xs d jm_M142 Q (7, sy_dL F [some (.inl (.ref 1000)), some (.inr (.inl 69)), none, none, none, none, none, none], sy_dS F [], sy_dh F X1 X2 (iv_H 4), 0, 0) := by
  refine hd_run (s := 4) (nv := 70) (pc := 85) (L := [some (.inl (.ref 1000)), some (.inr (.inl 69)), none, some (.inr (.inl 70)), some (.inr (.inr 71)), none, none, none]) (S := []) (uh := hd_ov (iv_id 0 iv_B4) []) (ul := [.inl (.inr (.inl 69)), .inl (.inl (.int 0)), .inl (.inl (.long 0))]) (f := true) (sp := [7, 85, 208, 286]) (d0 := 3) (O := [false, false, true, false, false, false, true, false, false]) (T := [(30, [.inr (.inl 69)], [.inr (.inl 24)]), (3, [.inr (.inl 70), .inl (.int 255)], [])]) (P := [(3, .inl (.int 400), .inr (.inl 3)), (5, .inr (.inl 2), .inr (.inl 69)), (6, .inr (.inl 69), .inl (.ref 2000)), (2, .inr (.inl 69), .inr (.inl 2)), (1, .inr (.inl 71), .inl (.int 9)), (1, .inr (.inl 71), .inl (.int 10)), (1, .inr (.inl 71), .inl (.int 13)), (1, .inr (.inl 71), .inl (.int 32)), (3, .inr (.inl 71), .inl (.int 97)), (3, .inl (.int 122), .inr (.inl 71))]) jm_ok142 (by decide +kernel) (by decide +kernel) hd F X1 X2 (fun F' hF hs => ?_)
  have b3 := hd_b (F := F) (F' := F') (k := 3) (hF 3 (by decide))
  have b2 := hd_b (F := F) (F' := F') (k := 2) (hF 2 (by decide))
  have b69 := hd_b (F := F) (F' := F') (k := 69) (hF 69 (by decide))
  have a24 := hd_ba (F := F) (F' := F') (k := 24) (hF 24 (by decide))
  have t70 : sy_dv F' (.inr (.inl 70)) = .int ((sy_ai F 24).getD (sy_i F 69).toNatClampNeg 0) := hd_rd (hs 0 _ rfl) b69 a24
  have t71 : sy_dv F' (.inr (.inl 71)) = .int (((sy_ai F 24).getD (sy_i F 69).toNatClampNeg 0) &&& ((255 : Int32))) := hd_o (hs 1 _ rfl) t70 rfl rfl
  have hB' : iv_in F' iv_B4 := iv_in_eq hB (fun j hj => hF j (Nat.lt_of_lt_of_le hj (by decide +kernel)))
  refine ⟨List.forall_mem_cons.mpr ⟨hd_p3 rfl b3 (by have hc : ((400) : Int32).toInt = 400 := (by decide); omega), List.forall_mem_cons.mpr ⟨hd_p5 b2 b69 h1, List.forall_mem_cons.mpr ⟨hd_pb b69 (by first | exact h2 | exact h2), List.forall_mem_cons.mpr ⟨hd_p2 b69 b2 h3, List.forall_mem_cons.mpr ⟨hd_p1 t71 rfl (by have hc : ((9) : Int32).toInt = 9 := (by decide); omega), List.forall_mem_cons.mpr ⟨hd_p1 t71 rfl (by have hc : ((10) : Int32).toInt = 10 := (by decide); omega), List.forall_mem_cons.mpr ⟨hd_p1 t71 rfl (by have hc : ((13) : Int32).toInt = 13 := (by decide); omega), List.forall_mem_cons.mpr ⟨hd_p1 t71 rfl (by have hc : ((32) : Int32).toInt = 32 := (by decide); omega), List.forall_mem_cons.mpr ⟨hd_p3 t71 rfl (by have hc : ((97) : Int32).toInt = 97 := (by decide); omega), List.forall_mem_cons.mpr ⟨hd_p3 rfl t71 (by have hc : ((122) : Int32).toInt = 122 := (by decide); omega), fun _ h => absurd h List.not_mem_nil⟩⟩⟩⟩⟩⟩⟩⟩⟩⟩, ?_⟩
  refine k _ ?_ ?_ ?_ ?_
  · exact fun j hj _ => (hd_keep hB' (Nat.lt_of_lt_of_le hj (by decide +kernel)) (by simp)).trans (hF j (Nat.lt_of_lt_of_le hj (by decide)))
  · exact hd_gi (x := .inr (.inl 69)) (by decide +kernel) b69
  · exact hd_gi (x := .inl (.int 0)) (by decide +kernel) rfl
  · exact hd_gl (x := .inl (.long 0)) (by decide +kernel) rfl
theorem rc_7_p15 {Ls : Nat} {xs : Nat → Int32} {d : Nat} {Q : Option Value → jm_h → Prop} (hd : 4 ≤ d) (F : Nat → sy_d) (X1 X2 : List jm_c) (hB : iv_in F iv_B4)
    (h0 : (sy_i F 3).toInt ≤ 400)
    (h1 : (sy_i F 69).toInt < (sy_i F 2).toInt)
    (h2 : 0 ≤ (sy_i F 69).toInt ∧ (sy_i F 69).toInt < 2000)
    (h3 : (sy_i F 69).toInt < (sy_i F 2).toInt)
    (h4 : (((sy_ai F 24).getD (sy_i F 69).toNatClampNeg 0) &&& ((255 : Int32))).toInt ≠ 9)
    (h5 : (((sy_ai F 24).getD (sy_i F 69).toNatClampNeg 0) &&& ((255 : Int32))).toInt ≠ 10)
    (h6 : (((sy_ai F 24).getD (sy_i F 69).toNatClampNeg 0) &&& ((255 : Int32))).toInt ≠ 13)
    (h7 : (((sy_ai F 24).getD (sy_i F 69).toNatClampNeg 0) &&& ((255 : Int32))).toInt = 32)
    (k : ∀ F1 : Nat → sy_d, (∀ j, j < 69 → True → F1 j = F j) → F1 69 = .inl (.int ((sy_i F 69) + ((1 : Int32)))) → hd_W Ls xs d jm_M142 Q (7, sy_dL F1 [some (.inl (.ref 1000)), some (.inr (.inl 69)), none, none, none, none, none, none], sy_dS F1 [], sy_dh F1 X1 X2 (iv_H 4), 0, 0)) :
    hd_W Ls xs d jm_M142 Q (7, sy_dL F [some (.inl (.ref 1000)), some (.inr (.inl 69)), none, none, none, none, none, none], sy_dS F [], sy_dh F X1 X2 (iv_H 4), 0, 0) := by
  refine hd_run (s := 4) (nv := 70) (pc := 7) (L := [some (.inl (.ref 1000)), some (.inr (.inl 69)), none, none, none, none, none, none]) (S := []) (uh := hd_ov (iv_id 0 iv_B4) []) (ul := [.inl (.inr (.inl 72))]) (f := true) (sp := [7, 85, 208, 286]) (d0 := 3) (O := [false, false, true, false, false, false, false]) (T := [(30, [.inr (.inl 69)], [.inr (.inl 24)]), (3, [.inr (.inl 70), .inl (.int 255)], []), (0, [.inr (.inl 69), .inl (.int 1)], [])]) (P := [(3, .inl (.int 400), .inr (.inl 3)), (5, .inr (.inl 2), .inr (.inl 69)), (6, .inr (.inl 69), .inl (.ref 2000)), (2, .inr (.inl 69), .inr (.inl 2)), (1, .inr (.inl 71), .inl (.int 9)), (1, .inr (.inl 71), .inl (.int 10)), (1, .inr (.inl 71), .inl (.int 13)), (0, .inr (.inl 71), .inl (.int 32))]) jm_ok142 (by decide +kernel) (by decide +kernel) hd F X1 X2 (fun F' hF hs => ?_)
  have b3 := hd_b (F := F) (F' := F') (k := 3) (hF 3 (by decide))
  have b2 := hd_b (F := F) (F' := F') (k := 2) (hF 2 (by decide))
  have b69 := hd_b (F := F) (F' := F') (k := 69) (hF 69 (by decide))
  have a24 := hd_ba (F := F) (F' := F') (k := 24) (hF 24 (by decide))
  have t70 : sy_dv F' (.inr (.inl 70)) = .int ((sy_ai F 24).getD (sy_i F 69).toNatClampNeg 0) := hd_rd (hs 0 _ rfl) b69 a24
  have t71 : sy_dv F' (.inr (.inl 71)) = .int (((sy_ai F 24).getD (sy_i F 69).toNatClampNeg 0) &&& ((255 : Int32))) := hd_o (hs 1 _ rfl) t70 rfl rfl
  have t72 : sy_dv F' (.inr (.inl 72)) = .int ((sy_i F 69) + ((1 : Int32))) := hd_o (hs 2 _ rfl) b69 rfl rfl
  have hB' : iv_in F' iv_B4 := iv_in_eq hB (fun j hj => hF j (Nat.lt_of_lt_of_le hj (by decide +kernel)))
  refine ⟨List.forall_mem_cons.mpr ⟨hd_p3 rfl b3 (by have hc : ((400) : Int32).toInt = 400 := (by decide); omega), List.forall_mem_cons.mpr ⟨hd_p5 b2 b69 h1, List.forall_mem_cons.mpr ⟨hd_pb b69 (by first | exact h2 | exact h2), List.forall_mem_cons.mpr ⟨hd_p2 b69 b2 h3, List.forall_mem_cons.mpr ⟨hd_p1 t71 rfl (by have hc : ((9) : Int32).toInt = 9 := (by decide); omega), List.forall_mem_cons.mpr ⟨hd_p1 t71 rfl (by have hc : ((10) : Int32).toInt = 10 := (by decide); omega), List.forall_mem_cons.mpr ⟨hd_p1 t71 rfl (by have hc : ((13) : Int32).toInt = 13 := (by decide); omega), List.forall_mem_cons.mpr ⟨hd_p0 t71 rfl (by have hc : ((32) : Int32).toInt = 32 := (by decide); omega), fun _ h => absurd h List.not_mem_nil⟩⟩⟩⟩⟩⟩⟩⟩, ?_⟩
  refine k _ ?_ ?_
  · exact fun j hj _ => (hd_keep hB' (Nat.lt_of_lt_of_le hj (by decide +kernel)) (by simp)).trans (hF j (Nat.lt_of_lt_of_le hj (by decide)))
  · exact hd_gi (x := .inr (.inl 72)) (by decide +kernel) t72
theorem rc_7_p16 {Ls : Nat} {xs : Nat → Int32} {d : Nat} {Q : Option Value → jm_h → Prop} (hd : 4 ≤ d) (F : Nat → sy_d) (X1 X2 : List jm_c) (hB : iv_in F iv_B4)
    (h0 : (sy_i F 3).toInt ≤ 400)
    (h1 : (sy_i F 69).toInt < (sy_i F 2).toInt)
    (h2 : 0 ≤ (sy_i F 69).toInt ∧ (sy_i F 69).toInt < 2000)
    (h3 : (sy_i F 2).toInt ≤ (sy_i F 69).toInt)
    (h4 : 0 ≤ (sy_i F 3).toInt ∧ (sy_i F 3).toInt < 403)
    (h5 : 0 ≤ (sy_i F 3).toInt ∧ (sy_i F 3).toInt < 403)
    (h6 : 0 ≤ (sy_i F 3).toInt ∧ (sy_i F 3).toInt < 403)
    (h7 : 0 ≤ (sy_i F 3).toInt ∧ (sy_i F 3).toInt < 403)
    (k : ∀ F1 : Nat → sy_d, (∀ j, j < 69 → j ≠ 3 ∧ j ≠ 25 ∧ j ≠ 26 ∧ j ≠ 27 ∧ j ≠ 28 → F1 j = F j) → F1 3 = .inl (.int ((sy_i F 3) + ((1 : Int32)))) → F1 25 = .inr (.inl (jm_upd (sy_ai F 25) (sy_i F 3).toNatClampNeg ((0 : Int32)))) → F1 26 = .inr (.inl (jm_upd (sy_ai F 26) (sy_i F 3).toNatClampNeg (sy_i F 2))) → F1 27 = .inr (.inl (jm_upd (sy_ai F 27) (sy_i F 3).toNatClampNeg ((0 : Int32)))) → F1 28 = .inr (.inr (jm_updL (sy_al F 28) (sy_i F 3).toNatClampNeg ((0 : Int64)))) → Q (none) (sy_dh F1 X1 X2 (iv_H 4))) :
    hd_W Ls xs d jm_M142 Q (7, sy_dL F [some (.inl (.ref 1000)), some (.inr (.inl 69)), none, none, none, none, none, none], sy_dS F [], sy_dh F X1 X2 (iv_H 4), 0, 0) := by
  refine hd_ret (s := 4) (nv := 70) (v := none) (uh := hd_ov (iv_id 0 iv_B4) [(3, .inl (.inr (.inl 76))), (25, .inr (.inr (.inl 72))), (26, .inr (.inr (.inl 73))), (27, .inr (.inr (.inl 74))), (28, .inr (.inr (.inr 75)))]) (f := true) (sp := [7, 85, 208, 286]) (d0 := 3) (O := [false, false, false]) (T := [(30, [.inr (.inl 69)], [.inr (.inl 24)]), (3, [.inr (.inl 70), .inl (.int 255)], []), (40, [.inr (.inl 3), .inl (.int 0)], [.inr (.inl 25)]), (40, [.inr (.inl 3), .inr (.inl 2)], [.inr (.inl 26)]), (40, [.inr (.inl 3), .inl (.int 0)], [.inr (.inl 27)]), (40, [.inr (.inl 3), .inl (.long 0)], [.inr (.inr 28)]), (0, [.inr (.inl 3), .inl (.int 1)], [])]) (P := [(3, .inl (.int 400), .inr (.inl 3)), (5, .inr (.inl 2), .inr (.inl 69)), (6, .inr (.inl 69), .inl (.ref 2000)), (3, .inr (.inl 69), .inr (.inl 2)), (6, .inr (.inl 3), .inl (.ref 403)), (6, .inr (.inl 3), .inl (.ref 403)), (6, .inr (.inl 3), .inl (.ref 403)), (6, .inr (.inl 3), .inl (.ref 403))]) jm_ok142 (by decide +kernel) (by decide +kernel) hd F X1 X2 (fun F' hF hs => ?_)
  have b3 := hd_b (F := F) (F' := F') (k := 3) (hF 3 (by decide))
  have b2 := hd_b (F := F) (F' := F') (k := 2) (hF 2 (by decide))
  have b69 := hd_b (F := F) (F' := F') (k := 69) (hF 69 (by decide))
  have t76 : sy_dv F' (.inr (.inl 76)) = .int ((sy_i F 3) + ((1 : Int32))) := hd_o (hs 6 _ rfl) b3 rfl rfl
  have a25 := hd_ba (F := F) (F' := F') (k := 25) (hF 25 (by decide))
  have t72 : sy_da F' (.inr (.inl 72)) = .inl (jm_upd (sy_ai F 25) (sy_i F 3).toNatClampNeg ((0 : Int32))) := hd_up (hs 2 _ rfl) b3 rfl a25
  have a26 := hd_ba (F := F) (F' := F') (k := 26) (hF 26 (by decide))
  have t73 : sy_da F' (.inr (.inl 73)) = .inl (jm_upd (sy_ai F 26) (sy_i F 3).toNatClampNeg (sy_i F 2)) := hd_up (hs 3 _ rfl) b3 b2 a26
  have a27 := hd_ba (F := F) (F' := F') (k := 27) (hF 27 (by decide))
  have t74 : sy_da F' (.inr (.inl 74)) = .inl (jm_upd (sy_ai F 27) (sy_i F 3).toNatClampNeg ((0 : Int32))) := hd_up (hs 4 _ rfl) b3 rfl a27
  have a28 := hd_bA (F := F) (F' := F') (k := 28) (hF 28 (by decide))
  have t75 : sy_da F' (.inr (.inr 75)) = .inr (jm_updL (sy_al F 28) (sy_i F 3).toNatClampNeg ((0 : Int64))) := hd_uA (hs 5 _ rfl) b3 rfl a28
  have hB' : iv_in F' iv_B4 := iv_in_eq hB (fun j hj => hF j (Nat.lt_of_lt_of_le hj (by decide +kernel)))
  refine ⟨List.forall_mem_cons.mpr ⟨hd_p3 rfl b3 (by have hc : ((400) : Int32).toInt = 400 := (by decide); omega), List.forall_mem_cons.mpr ⟨hd_p5 b2 b69 h1, List.forall_mem_cons.mpr ⟨hd_pb b69 (by first | exact h2 | exact h2), List.forall_mem_cons.mpr ⟨hd_p3 b69 b2 h3, List.forall_mem_cons.mpr ⟨hd_pb b3 (by first | exact h4 | exact h4), List.forall_mem_cons.mpr ⟨hd_pb b3 (by first | exact h5 | exact h5), List.forall_mem_cons.mpr ⟨hd_pb b3 (by first | exact h6 | exact h6), List.forall_mem_cons.mpr ⟨hd_pb b3 (by first | exact h7 | exact h7), fun _ h => absurd h List.not_mem_nil⟩⟩⟩⟩⟩⟩⟩⟩, ?_⟩
  refine k _ ?_ ?_ ?_ ?_ ?_ ?_
  · exact fun j hj hn => (hd_keep hB' (Nat.lt_of_lt_of_le hj (by decide +kernel)) (by simp; omega)).trans (hF j (Nat.lt_of_lt_of_le hj (by decide)))
  · exact hd_gi (x := .inr (.inl 76)) (by decide +kernel) t76
  · exact hd_ga (a := .inr (.inl 72)) (by decide +kernel) t72
  · exact hd_ga (a := .inr (.inl 73)) (by decide +kernel) t73
  · exact hd_ga (a := .inr (.inl 74)) (by decide +kernel) t74
  · exact hd_gA (a := .inr (.inr 75)) (by decide +kernel) t75
theorem rc_7 {Ls : Nat} {xs : Nat → Int32} {d : Nat} {Q : Option Value → jm_h → Prop} (hd : 4 ≤ d) (F : Nat → sy_d) (X1 X2 : List jm_c) (hB : iv_in F iv_B4)
    (a69 : 0 ≤ (sy_i F 69).toInt ∧ (sy_i F 69).toInt ≤ 2000)
    (k0 : 400 < (sy_i F 3).toInt → ∀ F1 : Nat → sy_d, iv_in F1 iv_B4 → (∀ j, j < 69 → j ∉ ([] : List Nat) → F1 j = F j) → (sy_i F1 2).toInt = (sy_i F 2).toInt → (sy_i F1 3).toInt = (sy_i F 3).toInt → sy_ai F1 25 = sy_ai F 25 → sy_ai F1 26 = sy_ai F 26 → sy_ai F1 27 = sy_ai F 27 → sy_al F1 28 = sy_al F 28 → Q (none) (sy_dh F1 X1 X2 (iv_H 4)))
    (k1 : (sy_i F 3).toInt ≤ 400 → (sy_i F 2).toInt ≤ (sy_i F 69).toInt → (sy_i F 69).toInt < (sy_i F 2).toInt → (sy_i F 2).toInt ≤ ((sy_i F 69).toInt + 1) → ∀ F1 : Nat → sy_d, iv_in F1 iv_B4 → (∀ j, j < 69 → j ∉ ([] : List Nat) → F1 j = F j) → (sy_i F1 2).toInt = (sy_i F 2).toInt → (sy_i F1 3).toInt = (sy_i F 3).toInt → sy_ai F1 25 = sy_ai F 25 → sy_ai F1 26 = sy_ai F 26 → sy_ai F1 27 = sy_ai F 27 → sy_al F1 28 = sy_al F 28 → (sy_i F1 69).toInt = 0 → (sy_i F1 70).toInt = 0 → (sy_i F1 71).toInt = (sy_i F 69).toInt → (sy_i F1 72).toInt = (sy_i F 69).toInt → hd_W Ls xs d jm_M142 Q (286, sy_dL F1 [some (.inl (.ref 1000)), none, none, none, none, none, none, none], sy_dS F1 [.inr (.inl 69), .inr (.inl 70), .inr (.inl 71), .inl (.ref 1000), .inr (.inl 72)], sy_dh F1 X1 X2 (iv_H 4), 0, 0))
    (k2 : (sy_i F 3).toInt ≤ 400 → (sy_i F 2).toInt ≤ (sy_i F 69).toInt → (sy_i F 69).toInt < (sy_i F 2).toInt → ((sy_i F 69).toInt + 1) < (sy_i F 2).toInt → ∀ F1 : Nat → sy_d, iv_in F1 iv_B4 → (∀ j, j < 69 → j ∉ ([] : List Nat) → F1 j = F j) → (sy_i F1 2).toInt = (sy_i F 2).toInt → (sy_i F1 3).toInt = (sy_i F 3).toInt → sy_ai F1 25 = sy_ai F 25 → sy_ai F1 26 = sy_ai F 26 → sy_ai F1 27 = sy_ai F 27 → sy_al F1 28 = sy_al F 28 → (sy_i F1 69).toInt = (((sy_ai F 24).getD (((sy_i F 69).toInt + 1)).toNat 0) &&& ((255 : Int32))).toInt → (sy_i F1 70).toInt = 0 → (sy_i F1 71).toInt = (sy_i F 69).toInt → (sy_i F1 72).toInt = (sy_i F 69).toInt → hd_W Ls xs d jm_M142 Q (286, sy_dL F1 [some (.inl (.ref 1000)), none, none, none, none, none, none, none], sy_dS F1 [.inr (.inl 69), .inr (.inl 70), .inr (.inl 71), .inl (.ref 1000), .inr (.inl 72)], sy_dh F1 X1 X2 (iv_H 4), 0, 0))
    (k3 : (sy_i F 3).toInt ≤ 400 → (sy_i F 2).toInt ≤ (sy_i F 69).toInt → (sy_i F 2).toInt ≤ (sy_i F 69).toInt → ∀ F1 : Nat → sy_d, iv_in F1 iv_B4 → (∀ j, j < 69 → j ∉ ([3, 25, 26, 27, 28] : List Nat) → F1 j = F j) → (sy_i F1 2).toInt = (sy_i F 2).toInt → (sy_i F1 3).toInt = ((sy_i F 3).toInt + 1) → sy_ai F1 25 = jm_upd (sy_ai F 25) ((sy_i F 3).toInt).toNat ((0 : Int32)) → sy_ai F1 26 = jm_upd (sy_ai F 26) ((sy_i F 3).toInt).toNat (sy_i F 2) → sy_ai F1 27 = jm_upd (sy_ai F 27) ((sy_i F 3).toInt).toNat ((0 : Int32)) → sy_al F1 28 = jm_updL (sy_al F 28) ((sy_i F 3).toInt).toNat ((0 : Int64)) → Q (none) (sy_dh F1 X1 X2 (iv_H 4)))
    (k4 : (sy_i F 3).toInt ≤ 400 → (sy_i F 69).toInt < (sy_i F 2).toInt → (sy_i F 69).toInt < (sy_i F 2).toInt → oq ((((sy_ai F 24).getD ((sy_i F 69).toInt).toNat 0) &&& ((255 : Int32))).toInt) (9) → ∀ F1 : Nat → sy_d, iv_in F1 iv_B4 → (∀ j, j < 69 → j ∉ ([] : List Nat) → F1 j = F j) → (sy_i F1 2).toInt = (sy_i F 2).toInt → (sy_i F1 3).toInt = (sy_i F 3).toInt → sy_ai F1 25 = sy_ai F 25 → sy_ai F1 26 = sy_ai F 26 → sy_ai F1 27 = sy_ai F 27 → sy_al F1 28 = sy_al F 28 → (sy_i F1 69).toInt = ((sy_i F 69).toInt + 1) → hd_W Ls xs d jm_M142 Q (7, sy_dL F1 [some (.inl (.ref 1000)), some (.inr (.inl 69)), none, none, none, none, none, none], sy_dS F1 [], sy_dh F1 X1 X2 (iv_H 4), 0, 0))
    (k5 : (sy_i F 3).toInt ≤ 400 → (sy_i F 69).toInt < (sy_i F 2).toInt → (sy_i F 69).toInt < (sy_i F 2).toInt → ¬ oq ((((sy_ai F 24).getD ((sy_i F 69).toInt).toNat 0) &&& ((255 : Int32))).toInt) (9) → oq ((((sy_ai F 24).getD ((sy_i F 69).toInt).toNat 0) &&& ((255 : Int32))).toInt) (10) → ∀ F1 : Nat → sy_d, iv_in F1 iv_B4 → (∀ j, j < 69 → j ∉ ([] : List Nat) → F1 j = F j) → (sy_i F1 2).toInt = (sy_i F 2).toInt → (sy_i F1 3).toInt = (sy_i F 3).toInt → sy_ai F1 25 = sy_ai F 25 → sy_ai F1 26 = sy_ai F 26 → sy_ai F1 27 = sy_ai F 27 → sy_al F1 28 = sy_al F 28 → (sy_i F1 69).toInt = ((sy_i F 69).toInt + 1) → hd_W Ls xs d jm_M142 Q (7, sy_dL F1 [some (.inl (.ref 1000)), some (.inr (.inl 69)), none, none, none, none, none, none], sy_dS F1 [], sy_dh F1 X1 X2 (iv_H 4), 0, 0))
    (k6 : (sy_i F 3).toInt ≤ 400 → (sy_i F 69).toInt < (sy_i F 2).toInt → (sy_i F 69).toInt < (sy_i F 2).toInt → ¬ oq ((((sy_ai F 24).getD ((sy_i F 69).toInt).toNat 0) &&& ((255 : Int32))).toInt) (9) → ¬ oq ((((sy_ai F 24).getD ((sy_i F 69).toInt).toNat 0) &&& ((255 : Int32))).toInt) (10) → oq ((((sy_ai F 24).getD ((sy_i F 69).toInt).toNat 0) &&& ((255 : Int32))).toInt) (13) → ∀ F1 : Nat → sy_d, iv_in F1 iv_B4 → (∀ j, j < 69 → j ∉ ([] : List Nat) → F1 j = F j) → (sy_i F1 2).toInt = (sy_i F 2).toInt → (sy_i F1 3).toInt = (sy_i F 3).toInt → sy_ai F1 25 = sy_ai F 25 → sy_ai F1 26 = sy_ai F 26 → sy_ai F1 27 = sy_ai F 27 → sy_al F1 28 = sy_al F 28 → (sy_i F1 69).toInt = ((sy_i F 69).toInt + 1) → hd_W Ls xs d jm_M142 Q (7, sy_dL F1 [some (.inl (.ref 1000)), some (.inr (.inl 69)), none, none, none, none, none, none], sy_dS F1 [], sy_dh F1 X1 X2 (iv_H 4), 0, 0))
    (k7 : (sy_i F 3).toInt ≤ 400 → (sy_i F 69).toInt < (sy_i F 2).toInt → (sy_i F 69).toInt < (sy_i F 2).toInt → ¬ oq ((((sy_ai F 24).getD ((sy_i F 69).toInt).toNat 0) &&& ((255 : Int32))).toInt) (9) → ¬ oq ((((sy_ai F 24).getD ((sy_i F 69).toInt).toNat 0) &&& ((255 : Int32))).toInt) (10) → ¬ oq ((((sy_ai F 24).getD ((sy_i F 69).toInt).toNat 0) &&& ((255 : Int32))).toInt) (13) → ¬ oq ((((sy_ai F 24).getD ((sy_i F 69).toInt).toNat 0) &&& ((255 : Int32))).toInt) (32) → (((sy_ai F 24).getD ((sy_i F 69).toInt).toNat 0) &&& ((255 : Int32))).toInt < 97 → (((sy_ai F 24).getD ((sy_i F 69).toInt).toNat 0) &&& ((255 : Int32))).toInt < 48 → (sy_i F 2).toInt ≤ ((sy_i F 69).toInt + 1) → ∀ F1 : Nat → sy_d, iv_in F1 iv_B4 → (∀ j, j < 69 → j ∉ ([] : List Nat) → F1 j = F j) → (sy_i F1 2).toInt = (sy_i F 2).toInt → (sy_i F1 3).toInt = (sy_i F 3).toInt → sy_ai F1 25 = sy_ai F 25 → sy_ai F1 26 = sy_ai F 26 → sy_ai F1 27 = sy_ai F 27 → sy_al F1 28 = sy_al F 28 → (sy_i F1 69).toInt = 0 → (sy_i F1 70).toInt = (((sy_ai F 24).getD ((sy_i F 69).toInt).toNat 0) &&& ((255 : Int32))).toInt → (sy_i F1 71).toInt = (sy_i F 69).toInt → (sy_i F1 72).toInt = (sy_i F 69).toInt → hd_W Ls xs d jm_M142 Q (286, sy_dL F1 [some (.inl (.ref 1000)), none, none, none, none, none, none, none], sy_dS F1 [.inr (.inl 69), .inr (.inl 70), .inr (.inl 71), .inl (.ref 1000), .inr (.inl 72)], sy_dh F1 X1 X2 (iv_H 4), 0, 0))
    (k8 : (sy_i F 3).toInt ≤ 400 → (sy_i F 69).toInt < (sy_i F 2).toInt → (sy_i F 69).toInt < (sy_i F 2).toInt → ¬ oq ((((sy_ai F 24).getD ((sy_i F 69).toInt).toNat 0) &&& ((255 : Int32))).toInt) (9) → ¬ oq ((((sy_ai F 24).getD ((sy_i F 69).toInt).toNat 0) &&& ((255 : Int32))).toInt) (10) → ¬ oq ((((sy_ai F 24).getD ((sy_i F 69).toInt).toNat 0) &&& ((255 : Int32))).toInt) (13) → ¬ oq ((((sy_ai F 24).getD ((sy_i F 69).toInt).toNat 0) &&& ((255 : Int32))).toInt) (32) → (((sy_ai F 24).getD ((sy_i F 69).toInt).toNat 0) &&& ((255 : Int32))).toInt < 97 → (((sy_ai F 24).getD ((sy_i F 69).toInt).toNat 0) &&& ((255 : Int32))).toInt < 48 → ((sy_i F 69).toInt + 1) < (sy_i F 2).toInt → ∀ F1 : Nat → sy_d, iv_in F1 iv_B4 → (∀ j, j < 69 → j ∉ ([] : List Nat) → F1 j = F j) → (sy_i F1 2).toInt = (sy_i F 2).toInt → (sy_i F1 3).toInt = (sy_i F 3).toInt → sy_ai F1 25 = sy_ai F 25 → sy_ai F1 26 = sy_ai F 26 → sy_ai F1 27 = sy_ai F 27 → sy_al F1 28 = sy_al F 28 → (sy_i F1 69).toInt = (((sy_ai F 24).getD (((sy_i F 69).toInt + 1)).toNat 0) &&& ((255 : Int32))).toInt → (sy_i F1 70).toInt = (((sy_ai F 24).getD ((sy_i F 69).toInt).toNat 0) &&& ((255 : Int32))).toInt → (sy_i F1 71).toInt = (sy_i F 69).toInt → (sy_i F1 72).toInt = (sy_i F 69).toInt → hd_W Ls xs d jm_M142 Q (286, sy_dL F1 [some (.inl (.ref 1000)), none, none, none, none, none, none, none], sy_dS F1 [.inr (.inl 69), .inr (.inl 70), .inr (.inl 71), .inl (.ref 1000), .inr (.inl 72)], sy_dh F1 X1 X2 (iv_H 4), 0, 0))
    (k9 : (sy_i F 3).toInt ≤ 400 → (sy_i F 69).toInt < (sy_i F 2).toInt → (sy_i F 69).toInt < (sy_i F 2).toInt → ¬ oq ((((sy_ai F 24).getD ((sy_i F 69).toInt).toNat 0) &&& ((255 : Int32))).toInt) (9) → ¬ oq ((((sy_ai F 24).getD ((sy_i F 69).toInt).toNat 0) &&& ((255 : Int32))).toInt) (10) → ¬ oq ((((sy_ai F 24).getD ((sy_i F 69).toInt).toNat 0) &&& ((255 : Int32))).toInt) (13) → ¬ oq ((((sy_ai F 24).getD ((sy_i F 69).toInt).toNat 0) &&& ((255 : Int32))).toInt) (32) → (((sy_ai F 24).getD ((sy_i F 69).toInt).toNat 0) &&& ((255 : Int32))).toInt < 97 → 48 ≤ (((sy_ai F 24).getD ((sy_i F 69).toInt).toNat 0) &&& ((255 : Int32))).toInt → 57 < (((sy_ai F 24).getD ((sy_i F 69).toInt).toNat 0) &&& ((255 : Int32))).toInt → (sy_i F 2).toInt ≤ ((sy_i F 69).toInt + 1) → ∀ F1 : Nat → sy_d, iv_in F1 iv_B4 → (∀ j, j < 69 → j ∉ ([] : List Nat) → F1 j = F j) → (sy_i F1 2).toInt = (sy_i F 2).toInt → (sy_i F1 3).toInt = (sy_i F 3).toInt → sy_ai F1 25 = sy_ai F 25 → sy_ai F1 26 = sy_ai F 26 → sy_ai F1 27 = sy_ai F 27 → sy_al F1 28 = sy_al F 28 → (sy_i F1 69).toInt = 0 → (sy_i F1 70).toInt = (((sy_ai F 24).getD ((sy_i F 69).toInt).toNat 0) &&& ((255 : Int32))).toInt → (sy_i F1 71).toInt = (sy_i F 69).toInt → (sy_i F1 72).toInt = (sy_i F 69).toInt → hd_W Ls xs d jm_M142 Q (286, sy_dL F1 [some (.inl (.ref 1000)), none, none, none, none, none, none, none], sy_dS F1 [.inr (.inl 69), .inr (.inl 70), .inr (.inl 71), .inl (.ref 1000), .inr (.inl 72)], sy_dh F1 X1 X2 (iv_H 4), 0, 0))
    (k10 : (sy_i F 3).toInt ≤ 400 → (sy_i F 69).toInt < (sy_i F 2).toInt → (sy_i F 69).toInt < (sy_i F 2).toInt → ¬ oq ((((sy_ai F 24).getD ((sy_i F 69).toInt).toNat 0) &&& ((255 : Int32))).toInt) (9) → ¬ oq ((((sy_ai F 24).getD ((sy_i F 69).toInt).toNat 0) &&& ((255 : Int32))).toInt) (10) → ¬ oq ((((sy_ai F 24).getD ((sy_i F 69).toInt).toNat 0) &&& ((255 : Int32))).toInt) (13) → ¬ oq ((((sy_ai F 24).getD ((sy_i F 69).toInt).toNat 0) &&& ((255 : Int32))).toInt) (32) → (((sy_ai F 24).getD ((sy_i F 69).toInt).toNat 0) &&& ((255 : Int32))).toInt < 97 → 48 ≤ (((sy_ai F 24).getD ((sy_i F 69).toInt).toNat 0) &&& ((255 : Int32))).toInt → 57 < (((sy_ai F 24).getD ((sy_i F 69).toInt).toNat 0) &&& ((255 : Int32))).toInt → ((sy_i F 69).toInt + 1) < (sy_i F 2).toInt → ∀ F1 : Nat → sy_d, iv_in F1 iv_B4 → (∀ j, j < 69 → j ∉ ([] : List Nat) → F1 j = F j) → (sy_i F1 2).toInt = (sy_i F 2).toInt → (sy_i F1 3).toInt = (sy_i F 3).toInt → sy_ai F1 25 = sy_ai F 25 → sy_ai F1 26 = sy_ai F 26 → sy_ai F1 27 = sy_ai F 27 → sy_al F1 28 = sy_al F 28 → (sy_i F1 69).toInt = (((sy_ai F 24).getD (((sy_i F 69).toInt + 1)).toNat 0) &&& ((255 : Int32))).toInt → (sy_i F1 70).toInt = (((sy_ai F 24).getD ((sy_i F 69).toInt).toNat 0) &&& ((255 : Int32))).toInt → (sy_i F1 71).toInt = (sy_i F 69).toInt → (sy_i F1 72).toInt = (sy_i F 69).toInt → hd_W Ls xs d jm_M142 Q (286, sy_dL F1 [some (.inl (.ref 1000)), none, none, none, none, none, none, none], sy_dS F1 [.inr (.inl 69), .inr (.inl 70), .inr (.inl 71), .inl (.ref 1000), .inr (.inl 72)], sy_dh F1 X1 X2 (iv_H 4), 0, 0))
    (k11 : (sy_i F 3).toInt ≤ 400 → (sy_i F 69).toInt < (sy_i F 2).toInt → (sy_i F 69).toInt < (sy_i F 2).toInt → ¬ oq ((((sy_ai F 24).getD ((sy_i F 69).toInt).toNat 0) &&& ((255 : Int32))).toInt) (9) → ¬ oq ((((sy_ai F 24).getD ((sy_i F 69).toInt).toNat 0) &&& ((255 : Int32))).toInt) (10) → ¬ oq ((((sy_ai F 24).getD ((sy_i F 69).toInt).toNat 0) &&& ((255 : Int32))).toInt) (13) → ¬ oq ((((sy_ai F 24).getD ((sy_i F 69).toInt).toNat 0) &&& ((255 : Int32))).toInt) (32) → (((sy_ai F 24).getD ((sy_i F 69).toInt).toNat 0) &&& ((255 : Int32))).toInt < 97 → 48 ≤ (((sy_ai F 24).getD ((sy_i F 69).toInt).toNat 0) &&& ((255 : Int32))).toInt → (((sy_ai F 24).getD ((sy_i F 69).toInt).toNat 0) &&& ((255 : Int32))).toInt ≤ 57 → ∀ F1 : Nat → sy_d, iv_in F1 iv_B4 → (∀ j, j < 69 → j ∉ ([] : List Nat) → F1 j = F j) → (sy_i F1 2).toInt = (sy_i F 2).toInt → (sy_i F1 3).toInt = (sy_i F 3).toInt → sy_ai F1 25 = sy_ai F 25 → sy_ai F1 26 = sy_ai F 26 → sy_ai F1 27 = sy_ai F 27 → sy_al F1 28 = sy_al F 28 → (sy_i F1 69).toInt = (sy_i F 69).toInt → (sy_i F1 70).toInt = 0 → (sy_i F1 71).toInt = 0 → hd_W Ls xs d jm_M142 Q (208, sy_dL F1 [some (.inl (.ref 1000)), some (.inr (.inl 69)), none, some (.inr (.inl 70)), some (.inr (.inl 71)), none, none, none], sy_dS F1 [], sy_dh F1 X1 X2 (iv_H 4), 0, 0))
    (k12 : (sy_i F 3).toInt ≤ 400 → (sy_i F 69).toInt < (sy_i F 2).toInt → (sy_i F 69).toInt < (sy_i F 2).toInt → ¬ oq ((((sy_ai F 24).getD ((sy_i F 69).toInt).toNat 0) &&& ((255 : Int32))).toInt) (9) → ¬ oq ((((sy_ai F 24).getD ((sy_i F 69).toInt).toNat 0) &&& ((255 : Int32))).toInt) (10) → ¬ oq ((((sy_ai F 24).getD ((sy_i F 69).toInt).toNat 0) &&& ((255 : Int32))).toInt) (13) → ¬ oq ((((sy_ai F 24).getD ((sy_i F 69).toInt).toNat 0) &&& ((255 : Int32))).toInt) (32) → 97 ≤ (((sy_ai F 24).getD ((sy_i F 69).toInt).toNat 0) &&& ((255 : Int32))).toInt → 122 < (((sy_ai F 24).getD ((sy_i F 69).toInt).toNat 0) &&& ((255 : Int32))).toInt → 48 ≤ (((sy_ai F 24).getD ((sy_i F 69).toInt).toNat 0) &&& ((255 : Int32))).toInt → 57 < (((sy_ai F 24).getD ((sy_i F 69).toInt).toNat 0) &&& ((255 : Int32))).toInt → (sy_i F 2).toInt ≤ ((sy_i F 69).toInt + 1) → ∀ F1 : Nat → sy_d, iv_in F1 iv_B4 → (∀ j, j < 69 → j ∉ ([] : List Nat) → F1 j = F j) → (sy_i F1 2).toInt = (sy_i F 2).toInt → (sy_i F1 3).toInt = (sy_i F 3).toInt → sy_ai F1 25 = sy_ai F 25 → sy_ai F1 26 = sy_ai F 26 → sy_ai F1 27 = sy_ai F 27 → sy_al F1 28 = sy_al F 28 → (sy_i F1 69).toInt = 0 → (sy_i F1 70).toInt = (((sy_ai F 24).getD ((sy_i F 69).toInt).toNat 0) &&& ((255 : Int32))).toInt → (sy_i F1 71).toInt = (sy_i F 69).toInt → (sy_i F1 72).toInt = (sy_i F 69).toInt → hd_W Ls xs d jm_M142 Q (286, sy_dL F1 [some (.inl (.ref 1000)), none, none, none, none, none, none, none], sy_dS F1 [.inr (.inl 69), .inr (.inl 70), .inr (.inl 71), .inl (.ref 1000), .inr (.inl 72)], sy_dh F1 X1 X2 (iv_H 4), 0, 0))
    (k13 : (sy_i F 3).toInt ≤ 400 → (sy_i F 69).toInt < (sy_i F 2).toInt → (sy_i F 69).toInt < (sy_i F 2).toInt → ¬ oq ((((sy_ai F 24).getD ((sy_i F 69).toInt).toNat 0) &&& ((255 : Int32))).toInt) (9) → ¬ oq ((((sy_ai F 24).getD ((sy_i F 69).toInt).toNat 0) &&& ((255 : Int32))).toInt) (10) → ¬ oq ((((sy_ai F 24).getD ((sy_i F 69).toInt).toNat 0) &&& ((255 : Int32))).toInt) (13) → ¬ oq ((((sy_ai F 24).getD ((sy_i F 69).toInt).toNat 0) &&& ((255 : Int32))).toInt) (32) → 97 ≤ (((sy_ai F 24).getD ((sy_i F 69).toInt).toNat 0) &&& ((255 : Int32))).toInt → 122 < (((sy_ai F 24).getD ((sy_i F 69).toInt).toNat 0) &&& ((255 : Int32))).toInt → 48 ≤ (((sy_ai F 24).getD ((sy_i F 69).toInt).toNat 0) &&& ((255 : Int32))).toInt → 57 < (((sy_ai F 24).getD ((sy_i F 69).toInt).toNat 0) &&& ((255 : Int32))).toInt → ((sy_i F 69).toInt + 1) < (sy_i F 2).toInt → ∀ F1 : Nat → sy_d, iv_in F1 iv_B4 → (∀ j, j < 69 → j ∉ ([] : List Nat) → F1 j = F j) → (sy_i F1 2).toInt = (sy_i F 2).toInt → (sy_i F1 3).toInt = (sy_i F 3).toInt → sy_ai F1 25 = sy_ai F 25 → sy_ai F1 26 = sy_ai F 26 → sy_ai F1 27 = sy_ai F 27 → sy_al F1 28 = sy_al F 28 → (sy_i F1 69).toInt = (((sy_ai F 24).getD (((sy_i F 69).toInt + 1)).toNat 0) &&& ((255 : Int32))).toInt → (sy_i F1 70).toInt = (((sy_ai F 24).getD ((sy_i F 69).toInt).toNat 0) &&& ((255 : Int32))).toInt → (sy_i F1 71).toInt = (sy_i F 69).toInt → (sy_i F1 72).toInt = (sy_i F 69).toInt → hd_W Ls xs d jm_M142 Q (286, sy_dL F1 [some (.inl (.ref 1000)), none, none, none, none, none, none, none], sy_dS F1 [.inr (.inl 69), .inr (.inl 70), .inr (.inl 71), .inl (.ref 1000), .inr (.inl 72)], sy_dh F1 X1 X2 (iv_H 4), 0, 0))
    (k14 : (sy_i F 3).toInt ≤ 400 → (sy_i F 69).toInt < (sy_i F 2).toInt → (sy_i F 69).toInt < (sy_i F 2).toInt → ¬ oq ((((sy_ai F 24).getD ((sy_i F 69).toInt).toNat 0) &&& ((255 : Int32))).toInt) (9) → ¬ oq ((((sy_ai F 24).getD ((sy_i F 69).toInt).toNat 0) &&& ((255 : Int32))).toInt) (10) → ¬ oq ((((sy_ai F 24).getD ((sy_i F 69).toInt).toNat 0) &&& ((255 : Int32))).toInt) (13) → ¬ oq ((((sy_ai F 24).getD ((sy_i F 69).toInt).toNat 0) &&& ((255 : Int32))).toInt) (32) → 97 ≤ (((sy_ai F 24).getD ((sy_i F 69).toInt).toNat 0) &&& ((255 : Int32))).toInt → (((sy_ai F 24).getD ((sy_i F 69).toInt).toNat 0) &&& ((255 : Int32))).toInt ≤ 122 → ∀ F1 : Nat → sy_d, iv_in F1 iv_B4 → (∀ j, j < 69 → j ∉ ([] : List Nat) → F1 j = F j) → (sy_i F1 2).toInt = (sy_i F 2).toInt → (sy_i F1 3).toInt = (sy_i F 3).toInt → sy_ai F1 25 = sy_ai F 25 → sy_ai F1 26 = sy_ai F 26 → sy_ai F1 27 = sy_ai F 27 → sy_al F1 28 = sy_al F 28 → (sy_i F1 69).toInt = (sy_i F 69).toInt → (sy_i F1 70).toInt = 0 → sy_l F1 71 = (0 : Int64) → hd_W Ls xs d jm_M142 Q (85, sy_dL F1 [some (.inl (.ref 1000)), some (.inr (.inl 69)), none, some (.inr (.inl 70)), some (.inr (.inr 71)), none, none, none], sy_dS F1 [], sy_dh F1 X1 X2 (iv_H 4), 0, 0))
    (k15 : (sy_i F 3).toInt ≤ 400 → (sy_i F 69).toInt < (sy_i F 2).toInt → (sy_i F 69).toInt < (sy_i F 2).toInt → ¬ oq ((((sy_ai F 24).getD ((sy_i F 69).toInt).toNat 0) &&& ((255 : Int32))).toInt) (9) → ¬ oq ((((sy_ai F 24).getD ((sy_i F 69).toInt).toNat 0) &&& ((255 : Int32))).toInt) (10) → ¬ oq ((((sy_ai F 24).getD ((sy_i F 69).toInt).toNat 0) &&& ((255 : Int32))).toInt) (13) → oq ((((sy_ai F 24).getD ((sy_i F 69).toInt).toNat 0) &&& ((255 : Int32))).toInt) (32) → ∀ F1 : Nat → sy_d, iv_in F1 iv_B4 → (∀ j, j < 69 → j ∉ ([] : List Nat) → F1 j = F j) → (sy_i F1 2).toInt = (sy_i F 2).toInt → (sy_i F1 3).toInt = (sy_i F 3).toInt → sy_ai F1 25 = sy_ai F 25 → sy_ai F1 26 = sy_ai F 26 → sy_ai F1 27 = sy_ai F 27 → sy_al F1 28 = sy_al F 28 → (sy_i F1 69).toInt = ((sy_i F 69).toInt + 1) → hd_W Ls xs d jm_M142 Q (7, sy_dL F1 [some (.inl (.ref 1000)), some (.inr (.inl 69)), none, none, none, none, none, none], sy_dS F1 [], sy_dh F1 X1 X2 (iv_H 4), 0, 0))
    (k16 : (sy_i F 3).toInt ≤ 400 → (sy_i F 69).toInt < (sy_i F 2).toInt → (sy_i F 2).toInt ≤ (sy_i F 69).toInt → ∀ F1 : Nat → sy_d, iv_in F1 iv_B4 → (∀ j, j < 69 → j ∉ ([3, 25, 26, 27, 28] : List Nat) → F1 j = F j) → (sy_i F1 2).toInt = (sy_i F 2).toInt → (sy_i F1 3).toInt = ((sy_i F 3).toInt + 1) → sy_ai F1 25 = jm_upd (sy_ai F 25) ((sy_i F 3).toInt).toNat ((0 : Int32)) → sy_ai F1 26 = jm_upd (sy_ai F 26) ((sy_i F 3).toInt).toNat (sy_i F 2) → sy_ai F1 27 = jm_upd (sy_ai F 27) ((sy_i F 3).toInt).toNat ((0 : Int32)) → sy_al F1 28 = jm_updL (sy_al F 28) ((sy_i F 3).toInt).toNat ((0 : Int64)) → Q (none) (sy_dh F1 X1 X2 (iv_H 4))) :
    hd_W Ls xs d jm_M142 Q (7, sy_dL F [some (.inl (.ref 1000)), some (.inr (.inl 69)), none, none, none, none, none, none], sy_dS F [], sy_dh F X1 X2 (iv_H 4), 0, 0) := by
  by_cases g0 : 400 < (sy_i F 3).toInt
  · have c3 := nz_bx hB (k := 3) (lo := 0) (hi := 402) rfl
    exact rc_7_p0 hd F X1 X2 hB (by first | exact g0 | (simp only [nz_c]; exact g0)) (fun F1 g  => k0 g0 F1 (nz_in hB [] (fun j hj hn => g j hj (by simp only [List.mem_cons, List.not_mem_nil, or_false, not_or] at hn; exact trivial)) (List.forall_mem_nil _)) (fun j hj hn => g j hj (by simp only [List.mem_cons, List.not_mem_nil, or_false, not_or] at hn; exact trivial)) (nz_fi (g 2 (by decide) (by decide))) (nz_fi (g 3 (by decide) (by decide))) (nz_fa (g 25 (by decide) (by decide))) (nz_fa (g 26 (by decide) (by decide))) (nz_fa (g 27 (by decide) (by decide))) (nz_fl (g 28 (by decide) (by decide))))
  replace g0 : (sy_i F 3).toInt ≤ 400 := by omega
  by_cases g1 : (sy_i F 2).toInt ≤ (sy_i F 69).toInt
  · by_cases g2 : (sy_i F 69).toInt < (sy_i F 2).toInt
    · by_cases g3 : (sy_i F 2).toInt ≤ ((sy_i F 69).toInt + 1)
      · have c3 := nz_bx hB (k := 3) (lo := 0) (hi := 402) rfl
        have c2 := nz_bx hB (k := 2) (lo := 0) (hi := 2000) rfl
        have n70 : ((sy_i F 69) + ((1 : Int32))).toInt = ((sy_i F 69).toInt + 1) := nz_add (rfl : (sy_i F 69).toInt = (sy_i F 69).toInt) (by decide : ((1 : Int32)).toInt = 1) (by omega) (by omega)
        exact rc_7_p1 hd F X1 X2 hB (by first | exact g0 | (simp only [nz_c]; exact g0)) (by first | exact g1 | (simp only [nz_c]; exact g1)) (by first | exact g2 | (simp only [nz_c]; exact g2)) (by first | exact g3 | (simp only [nz_c, n70]; exact g3) | (rw [n70]; exact g3)) (fun F1 g e69 e70 e71 e72 => k1 g0 g1 g2 g3 F1 (nz_in hB [] (fun j hj hn => g j hj (by simp only [List.mem_cons, List.not_mem_nil, or_false, not_or] at hn; exact trivial)) (List.forall_mem_nil _)) (fun j hj hn => g j hj (by simp only [List.mem_cons, List.not_mem_nil, or_false, not_or] at hn; exact trivial)) (nz_fi (g 2 (by decide) (by decide))) (nz_fi (g 3 (by decide) (by decide))) (nz_fa (g 25 (by decide) (by decide))) (nz_fa (g 26 (by decide) (by decide))) (nz_fa (g 27 (by decide) (by decide))) (nz_fl (g 28 (by decide) (by decide))) ((congrArg Int32.toInt (zz_i e69)).trans (by decide : ((0 : Int32)).toInt = 0)) ((congrArg Int32.toInt (zz_i e70)).trans (by decide : ((0 : Int32)).toInt = 0)) ((congrArg Int32.toInt (zz_i e71)).trans (rfl : (sy_i F 69).toInt = (sy_i F 69).toInt)) ((congrArg Int32.toInt (zz_i e72)).trans (rfl : (sy_i F 69).toInt = (sy_i F 69).toInt)))
      replace g3 : ((sy_i F 69).toInt + 1) < (sy_i F 2).toInt := by omega
      have c3 := nz_bx hB (k := 3) (lo := 0) (hi := 402) rfl
      have c2 := nz_bx hB (k := 2) (lo := 0) (hi := 2000) rfl
      have n70 : ((sy_i F 69) + ((1 : Int32))).toInt = ((sy_i F 69).toInt + 1) := nz_add (rfl : (sy_i F 69).toInt = (sy_i F 69).toInt) (by decide : ((1 : Int32)).toInt = 1) (by omega) (by omega)
      have q72 : ((sy_ai F 24).getD ((sy_i F 69) + ((1 : Int32))).toNatClampNeg 0) &&& ((255 : Int32)) = ((sy_ai F 24).getD (((sy_i F 69).toInt + 1)).toNat 0) &&& ((255 : Int32)) := by simp only [nz_c, n70, (by decide : ((1 : Int32)).toInt = 1), (by decide : ((255 : Int32)).toInt = 255)]
      have n72 : (((sy_ai F 24).getD ((sy_i F 69) + ((1 : Int32))).toNatClampNeg 0) &&& ((255 : Int32))).toInt = (((sy_ai F 24).getD (((sy_i F 69).toInt + 1)).toNat 0) &&& ((255 : Int32))).toInt := congrArg Int32.toInt q72
      exact rc_7_p2 hd F X1 X2 hB (by first | exact g0 | (simp only [nz_c]; exact g0)) (by first | exact g1 | (simp only [nz_c]; exact g1)) (by first | exact g2 | (simp only [nz_c]; exact g2)) (by first | exact g3 | (simp only [nz_c, n70]; exact g3) | (rw [n70]; exact g3)) (by first | exact ⟨by omega, by omega⟩ | (simp only [nz_c, n70]; exact ⟨by omega, by omega⟩) | (rw [n70]; exact ⟨by omega, by omega⟩)) (fun F1 g e69 e70 e71 e72 => k2 g0 g1 g2 g3 F1 (nz_in hB [] (fun j hj hn => g j hj (by simp only [List.mem_cons, List.not_mem_nil, or_false, not_or] at hn; exact trivial)) (List.forall_mem_nil _)) (fun j hj hn => g j hj (by simp only [List.mem_cons, List.not_mem_nil, or_false, not_or] at hn; exact trivial)) (nz_fi (g 2 (by decide) (by decide))) (nz_fi (g 3 (by decide) (by decide))) (nz_fa (g 25 (by decide) (by decide))) (nz_fa (g 26 (by decide) (by decide))) (nz_fa (g 27 (by decide) (by decide))) (nz_fl (g 28 (by decide) (by decide))) ((congrArg Int32.toInt (zz_i e69)).trans n72) ((congrArg Int32.toInt (zz_i e70)).trans (by decide : ((0 : Int32)).toInt = 0)) ((congrArg Int32.toInt (zz_i e71)).trans (rfl : (sy_i F 69).toInt = (sy_i F 69).toInt)) ((congrArg Int32.toInt (zz_i e72)).trans (rfl : (sy_i F 69).toInt = (sy_i F 69).toInt)))
    replace g2 : (sy_i F 2).toInt ≤ (sy_i F 69).toInt := by omega
    have c3 := nz_bx hB (k := 3) (lo := 0) (hi := 402) rfl
    have c2 := nz_bx hB (k := 2) (lo := 0) (hi := 2000) rfl
    have n74 : ((sy_i F 3) + ((1 : Int32))).toInt = ((sy_i F 3).toInt + 1) := nz_add (rfl : (sy_i F 3).toInt = (sy_i F 3).toInt) (by decide : ((1 : Int32)).toInt = 1) (by omega) (by omega)
    have w70 : jm_upd (sy_ai F 25) (sy_i F 3).toNatClampNeg ((0 : Int32)) = jm_upd (sy_ai F 25) ((sy_i F 3).toInt).toNat ((0 : Int32)) := by simp only [nz_c, (by decide : ((0 : Int32)).toInt = 0)]
    have w71 : jm_upd (sy_ai F 26) (sy_i F 3).toNatClampNeg (sy_i F 2) = jm_upd (sy_ai F 26) ((sy_i F 3).toInt).toNat (sy_i F 2) := by simp only [nz_c]
    have w72 : jm_upd (sy_ai F 27) (sy_i F 3).toNatClampNeg ((0 : Int32)) = jm_upd (sy_ai F 27) ((sy_i F 3).toInt).toNat ((0 : Int32)) := by simp only [nz_c, (by decide : ((0 : Int32)).toInt = 0)]
    have w73 : jm_updL (sy_al F 28) (sy_i F 3).toNatClampNeg ((0 : Int64)) = jm_updL (sy_al F 28) ((sy_i F 3).toInt).toNat ((0 : Int64)) := by simp only [nz_c]
    exact rc_7_p3 hd F X1 X2 hB (by first | exact g0 | (simp only [nz_c]; exact g0)) (by first | exact g1 | (simp only [nz_c]; exact g1)) (by first | exact g2 | (simp only [nz_c]; exact g2)) (by first | exact ⟨by omega, by omega⟩ | (simp only [nz_c]; exact ⟨by omega, by omega⟩)) (by first | exact ⟨by omega, by omega⟩ | (simp only [nz_c]; exact ⟨by omega, by omega⟩)) (by first | exact ⟨by omega, by omega⟩ | (simp only [nz_c]; exact ⟨by omega, by omega⟩)) (by first | exact ⟨by omega, by omega⟩ | (simp only [nz_c]; exact ⟨by omega, by omega⟩)) (fun F1 g e3 e25 e26 e27 e28 => k3 g0 g1 g2 F1 (nz_in hB [3, 25, 26, 27, 28] (fun j hj hn => g j hj (by simp only [List.mem_cons, List.not_mem_nil, or_false, not_or] at hn; omega)) (List.forall_mem_cons.mpr ⟨fun t ht => (Option.some.inj ht) ▸ (nz_hi e3 n74 (by omega) (by omega)), List.forall_mem_cons.mpr ⟨fun t ht => (Option.some.inj ht) ▸ (nz_hA e25 (nz_up (nz_ba hB (k := 25) (lo := 0) (hi := 42) rfl) (by decide : ((0 : Int32)).toInt = 0) (by omega) (by omega))), List.forall_mem_cons.mpr ⟨fun t ht => (Option.some.inj ht) ▸ (nz_hz2 e26), List.forall_mem_cons.mpr ⟨fun t ht => (Option.some.inj ht) ▸ (nz_hz2 e27), List.forall_mem_cons.mpr ⟨fun t ht => (Option.some.inj ht) ▸ (nz_hz3 e28), List.forall_mem_nil _⟩⟩⟩⟩⟩)) (fun j hj hn => g j hj (by simp only [List.mem_cons, List.not_mem_nil, or_false, not_or] at hn; omega)) (nz_fi (g 2 (by decide) (by decide))) ((congrArg Int32.toInt (zz_i e3)).trans n74) ((zz_ai e25).trans w70) ((zz_ai e26).trans w71) ((zz_ai e27).trans w72) ((zz_al e28).trans w73))
  replace g1 : (sy_i F 69).toInt < (sy_i F 2).toInt := by omega
  by_cases g2 : (sy_i F 69).toInt < (sy_i F 2).toInt
  · by_cases g3 : oq ((((sy_ai F 24).getD ((sy_i F 69).toInt).toNat 0) &&& ((255 : Int32))).toInt) (9)
    · have c3 := nz_bx hB (k := 3) (lo := 0) (hi := 402) rfl
      have c2 := nz_bx hB (k := 2) (lo := 0) (hi := 2000) rfl
      have q71 : ((sy_ai F 24).getD (sy_i F 69).toNatClampNeg 0) &&& ((255 : Int32)) = ((sy_ai F 24).getD ((sy_i F 69).toInt).toNat 0) &&& ((255 : Int32)) := by simp only [nz_c, (by decide : ((255 : Int32)).toInt = 255)]
      have n71 : (((sy_ai F 24).getD (sy_i F 69).toNatClampNeg 0) &&& ((255 : Int32))).toInt = (((sy_ai F 24).getD ((sy_i F 69).toInt).toNat 0) &&& ((255 : Int32))).toInt := congrArg Int32.toInt q71
      have n72 : ((sy_i F 69) + ((1 : Int32))).toInt = ((sy_i F 69).toInt + 1) := nz_add (rfl : (sy_i F 69).toInt = (sy_i F 69).toInt) (by decide : ((1 : Int32)).toInt = 1) (by omega) (by omega)
      exact rc_7_p4 hd F X1 X2 hB (by first | exact g0 | (simp only [nz_c]; exact g0)) (by first | exact g1 | (simp only [nz_c]; exact g1)) (by first | exact ⟨by omega, by omega⟩ | (simp only [nz_c]; exact ⟨by omega, by omega⟩)) (by first | exact g2 | (simp only [nz_c]; exact g2)) (by first | exact g3 | (simp only [nz_c]; exact g3) | (rw [n71]; exact g3)) (fun F1 g e69 => k4 g0 g1 g2 g3 F1 (nz_in hB [] (fun j hj hn => g j hj (by simp only [List.mem_cons, List.not_mem_nil, or_false, not_or] at hn; exact trivial)) (List.forall_mem_nil _)) (fun j hj hn => g j hj (by simp only [List.mem_cons, List.not_mem_nil, or_false, not_or] at hn; exact trivial)) (nz_fi (g 2 (by decide) (by decide))) (nz_fi (g 3 (by decide) (by decide))) (nz_fa (g 25 (by decide) (by decide))) (nz_fa (g 26 (by decide) (by decide))) (nz_fa (g 27 (by decide) (by decide))) (nz_fl (g 28 (by decide) (by decide))) ((congrArg Int32.toInt (zz_i e69)).trans n72))
    replace g3 : ¬ oq ((((sy_ai F 24).getD ((sy_i F 69).toInt).toNat 0) &&& ((255 : Int32))).toInt) (9) := by first | exact Classical.not_not.mp g3 | exact g3 | omega
    by_cases g4 : oq ((((sy_ai F 24).getD ((sy_i F 69).toInt).toNat 0) &&& ((255 : Int32))).toInt) (10)
    · have c3 := nz_bx hB (k := 3) (lo := 0) (hi := 402) rfl
      have c2 := nz_bx hB (k := 2) (lo := 0) (hi := 2000) rfl
      have q71 : ((sy_ai F 24).getD (sy_i F 69).toNatClampNeg 0) &&& ((255 : Int32)) = ((sy_ai F 24).getD ((sy_i F 69).toInt).toNat 0) &&& ((255 : Int32)) := by simp only [nz_c, (by decide : ((255 : Int32)).toInt = 255)]
      have n71 : (((sy_ai F 24).getD (sy_i F 69).toNatClampNeg 0) &&& ((255 : Int32))).toInt = (((sy_ai F 24).getD ((sy_i F 69).toInt).toNat 0) &&& ((255 : Int32))).toInt := congrArg Int32.toInt q71
      have n72 : ((sy_i F 69) + ((1 : Int32))).toInt = ((sy_i F 69).toInt + 1) := nz_add (rfl : (sy_i F 69).toInt = (sy_i F 69).toInt) (by decide : ((1 : Int32)).toInt = 1) (by omega) (by omega)
      exact rc_7_p5 hd F X1 X2 hB (by first | exact g0 | (simp only [nz_c]; exact g0)) (by first | exact g1 | (simp only [nz_c]; exact g1)) (by first | exact ⟨by omega, by omega⟩ | (simp only [nz_c]; exact ⟨by omega, by omega⟩)) (by first | exact g2 | (simp only [nz_c]; exact g2)) (by first | exact g3 | (simp only [nz_c]; exact g3) | (rw [n71]; exact g3)) (by first | exact g4 | (simp only [nz_c]; exact g4) | (rw [n71]; exact g4)) (fun F1 g e69 => k5 g0 g1 g2 g3 g4 F1 (nz_in hB [] (fun j hj hn => g j hj (by simp only [List.mem_cons, List.not_mem_nil, or_false, not_or] at hn; exact trivial)) (List.forall_mem_nil _)) (fun j hj hn => g j hj (by simp only [List.mem_cons, List.not_mem_nil, or_false, not_or] at hn; exact trivial)) (nz_fi (g 2 (by decide) (by decide))) (nz_fi (g 3 (by decide) (by decide))) (nz_fa (g 25 (by decide) (by decide))) (nz_fa (g 26 (by decide) (by decide))) (nz_fa (g 27 (by decide) (by decide))) (nz_fl (g 28 (by decide) (by decide))) ((congrArg Int32.toInt (zz_i e69)).trans n72))
    replace g4 : ¬ oq ((((sy_ai F 24).getD ((sy_i F 69).toInt).toNat 0) &&& ((255 : Int32))).toInt) (10) := by first | exact Classical.not_not.mp g4 | exact g4 | omega
    by_cases g5 : oq ((((sy_ai F 24).getD ((sy_i F 69).toInt).toNat 0) &&& ((255 : Int32))).toInt) (13)
    · have c3 := nz_bx hB (k := 3) (lo := 0) (hi := 402) rfl
      have c2 := nz_bx hB (k := 2) (lo := 0) (hi := 2000) rfl
      have q71 : ((sy_ai F 24).getD (sy_i F 69).toNatClampNeg 0) &&& ((255 : Int32)) = ((sy_ai F 24).getD ((sy_i F 69).toInt).toNat 0) &&& ((255 : Int32)) := by simp only [nz_c, (by decide : ((255 : Int32)).toInt = 255)]
      have n71 : (((sy_ai F 24).getD (sy_i F 69).toNatClampNeg 0) &&& ((255 : Int32))).toInt = (((sy_ai F 24).getD ((sy_i F 69).toInt).toNat 0) &&& ((255 : Int32))).toInt := congrArg Int32.toInt q71
      have n72 : ((sy_i F 69) + ((1 : Int32))).toInt = ((sy_i F 69).toInt + 1) := nz_add (rfl : (sy_i F 69).toInt = (sy_i F 69).toInt) (by decide : ((1 : Int32)).toInt = 1) (by omega) (by omega)
      exact rc_7_p6 hd F X1 X2 hB (by first | exact g0 | (simp only [nz_c]; exact g0)) (by first | exact g1 | (simp only [nz_c]; exact g1)) (by first | exact ⟨by omega, by omega⟩ | (simp only [nz_c]; exact ⟨by omega, by omega⟩)) (by first | exact g2 | (simp only [nz_c]; exact g2)) (by first | exact g3 | (simp only [nz_c]; exact g3) | (rw [n71]; exact g3)) (by first | exact g4 | (simp only [nz_c]; exact g4) | (rw [n71]; exact g4)) (by first | exact g5 | (simp only [nz_c]; exact g5) | (rw [n71]; exact g5)) (fun F1 g e69 => k6 g0 g1 g2 g3 g4 g5 F1 (nz_in hB [] (fun j hj hn => g j hj (by simp only [List.mem_cons, List.not_mem_nil, or_false, not_or] at hn; exact trivial)) (List.forall_mem_nil _)) (fun j hj hn => g j hj (by simp only [List.mem_cons, List.not_mem_nil, or_false, not_or] at hn; exact trivial)) (nz_fi (g 2 (by decide) (by decide))) (nz_fi (g 3 (by decide) (by decide))) (nz_fa (g 25 (by decide) (by decide))) (nz_fa (g 26 (by decide) (by decide))) (nz_fa (g 27 (by decide) (by decide))) (nz_fl (g 28 (by decide) (by decide))) ((congrArg Int32.toInt (zz_i e69)).trans n72))
    replace g5 : ¬ oq ((((sy_ai F 24).getD ((sy_i F 69).toInt).toNat 0) &&& ((255 : Int32))).toInt) (13) := by first | exact Classical.not_not.mp g5 | exact g5 | omega
    by_cases g6 : ¬ oq ((((sy_ai F 24).getD ((sy_i F 69).toInt).toNat 0) &&& ((255 : Int32))).toInt) (32)
    · by_cases g7 : (((sy_ai F 24).getD ((sy_i F 69).toInt).toNat 0) &&& ((255 : Int32))).toInt < 97
      · by_cases g8 : (((sy_ai F 24).getD ((sy_i F 69).toInt).toNat 0) &&& ((255 : Int32))).toInt < 48
        · by_cases g9 : (sy_i F 2).toInt ≤ ((sy_i F 69).toInt + 1)
          · have c3 := nz_bx hB (k := 3) (lo := 0) (hi := 402) rfl
            have c2 := nz_bx hB (k := 2) (lo := 0) (hi := 2000) rfl
            have q71 : ((sy_ai F 24).getD (sy_i F 69).toNatClampNeg 0) &&& ((255 : Int32)) = ((sy_ai F 24).getD ((sy_i F 69).toInt).toNat 0) &&& ((255 : Int32)) := by simp only [nz_c, (by decide : ((255 : Int32)).toInt = 255)]
            have n71 : (((sy_ai F 24).getD (sy_i F 69).toNatClampNeg 0) &&& ((255 : Int32))).toInt = (((sy_ai F 24).getD ((sy_i F 69).toInt).toNat 0) &&& ((255 : Int32))).toInt := congrArg Int32.toInt q71
            have n72 : ((sy_i F 69) + ((1 : Int32))).toInt = ((sy_i F 69).toInt + 1) := nz_add (rfl : (sy_i F 69).toInt = (sy_i F 69).toInt) (by decide : ((1 : Int32)).toInt = 1) (by omega) (by omega)
            exact rc_7_p7 hd F X1 X2 hB (by first | exact g0 | (simp only [nz_c]; exact g0)) (by first | exact g1 | (simp only [nz_c]; exact g1)) (by first | exact ⟨by omega, by omega⟩ | (simp only [nz_c]; exact ⟨by omega, by omega⟩)) (by first | exact g2 | (simp only [nz_c]; exact g2)) (by first | exact g3 | (simp only [nz_c]; exact g3) | (rw [n71]; exact g3)) (by first | exact g4 | (simp only [nz_c]; exact g4) | (rw [n71]; exact g4)) (by first | exact g5 | (simp only [nz_c]; exact g5) | (rw [n71]; exact g5)) (by first | exact g6 | (simp only [nz_c]; exact g6) | (rw [n71]; exact g6)) (by first | exact g7 | (simp only [nz_c]; exact g7) | (rw [n71]; exact g7)) (by first | exact g8 | (simp only [nz_c]; exact g8) | (rw [n71]; exact g8)) (by first | exact g9 | (simp only [nz_c, n72]; exact g9) | (rw [n72]; exact g9)) (fun F1 g e69 e70 e71 e72 => k7 g0 g1 g2 g3 g4 g5 g6 g7 g8 g9 F1 (nz_in hB [] (fun j hj hn => g j hj (by simp only [List.mem_cons, List.not_mem_nil, or_false, not_or] at hn; exact trivial)) (List.forall_mem_nil _)) (fun j hj hn => g j hj (by simp only [List.mem_cons, List.not_mem_nil, or_false, not_or] at hn; exact trivial)) (nz_fi (g 2 (by decide) (by decide))) (nz_fi (g 3 (by decide) (by decide))) (nz_fa (g 25 (by decide) (by decide))) (nz_fa (g 26 (by decide) (by decide))) (nz_fa (g 27 (by decide) (by decide))) (nz_fl (g 28 (by decide) (by decide))) ((congrArg Int32.toInt (zz_i e69)).trans (by decide : ((0 : Int32)).toInt = 0)) ((congrArg Int32.toInt (zz_i e70)).trans n71) ((congrArg Int32.toInt (zz_i e71)).trans (rfl : (sy_i F 69).toInt = (sy_i F 69).toInt)) ((congrArg Int32.toInt (zz_i e72)).trans (rfl : (sy_i F 69).toInt = (sy_i F 69).toInt)))
          replace g9 : ((sy_i F 69).toInt + 1) < (sy_i F 2).toInt := by omega
          have c3 := nz_bx hB (k := 3) (lo := 0) (hi := 402) rfl
          have c2 := nz_bx hB (k := 2) (lo := 0) (hi := 2000) rfl
          have q71 : ((sy_ai F 24).getD (sy_i F 69).toNatClampNeg 0) &&& ((255 : Int32)) = ((sy_ai F 24).getD ((sy_i F 69).toInt).toNat 0) &&& ((255 : Int32)) := by simp only [nz_c, (by decide : ((255 : Int32)).toInt = 255)]
          have n71 : (((sy_ai F 24).getD (sy_i F 69).toNatClampNeg 0) &&& ((255 : Int32))).toInt = (((sy_ai F 24).getD ((sy_i F 69).toInt).toNat 0) &&& ((255 : Int32))).toInt := congrArg Int32.toInt q71
          have n72 : ((sy_i F 69) + ((1 : Int32))).toInt = ((sy_i F 69).toInt + 1) := nz_add (rfl : (sy_i F 69).toInt = (sy_i F 69).toInt) (by decide : ((1 : Int32)).toInt = 1) (by omega) (by omega)
          have q74 : ((sy_ai F 24).getD ((sy_i F 69) + ((1 : Int32))).toNatClampNeg 0) &&& ((255 : Int32)) = ((sy_ai F 24).getD (((sy_i F 69).toInt + 1)).toNat 0) &&& ((255 : Int32)) := by simp only [nz_c, n72, (by decide : ((1 : Int32)).toInt = 1), (by decide : ((255 : Int32)).toInt = 255)]
          have n74 : (((sy_ai F 24).getD ((sy_i F 69) + ((1 : Int32))).toNatClampNeg 0) &&& ((255 : Int32))).toInt = (((sy_ai F 24).getD (((sy_i F 69).toInt + 1)).toNat 0) &&& ((255 : Int32))).toInt := congrArg Int32.toInt q74
          exact rc_7_p8 hd F X1 X2 hB (by first | exact g0 | (simp only [nz_c]; exact g0)) (by first | exact g1 | (simp only [nz_c]; exact g1)) (by first | exact ⟨by omega, by omega⟩ | (simp only [nz_c]; exact ⟨by omega, by omega⟩)) (by first | exact g2 | (simp only [nz_c]; exact g2)) (by first | exact g3 | (simp only [nz_c]; exact g3) | (rw [n71]; exact g3)) (by first | exact g4 | (simp only [nz_c]; exact g4) | (rw [n71]; exact g4)) (by first | exact g5 | (simp only [nz_c]; exact g5) | (rw [n71]; exact g5)) (by first | exact g6 | (simp only [nz_c]; exact g6) | (rw [n71]; exact g6)) (by first | exact g7 | (simp only [nz_c]; exact g7) | (rw [n71]; exact g7)) (by first | exact g8 | (simp only [nz_c]; exact g8) | (rw [n71]; exact g8)) (by first | exact g9 | (simp only [nz_c, n72]; exact g9) | (rw [n72]; exact g9)) (by first | exact ⟨by omega, by omega⟩ | (simp only [nz_c, n72]; exact ⟨by omega, by omega⟩) | (rw [n72]; exact ⟨by omega, by omega⟩)) (fun F1 g e69 e70 e71 e72 => k8 g0 g1 g2 g3 g4 g5 g6 g7 g8 g9 F1 (nz_in hB [] (fun j hj hn => g j hj (by simp only [List.mem_cons, List.not_mem_nil, or_false, not_or] at hn; exact trivial)) (List.forall_mem_nil _)) (fun j hj hn => g j hj (by simp only [List.mem_cons, List.not_mem_nil, or_false, not_or] at hn; exact trivial)) (nz_fi (g 2 (by decide) (by decide))) (nz_fi (g 3 (by decide) (by decide))) (nz_fa (g 25 (by decide) (by decide))) (nz_fa (g 26 (by decide) (by decide))) (nz_fa (g 27 (by decide) (by decide))) (nz_fl (g 28 (by decide) (by decide))) ((congrArg Int32.toInt (zz_i e69)).trans n74) ((congrArg Int32.toInt (zz_i e70)).trans n71) ((congrArg Int32.toInt (zz_i e71)).trans (rfl : (sy_i F 69).toInt = (sy_i F 69).toInt)) ((congrArg Int32.toInt (zz_i e72)).trans (rfl : (sy_i F 69).toInt = (sy_i F 69).toInt)))
        replace g8 : 48 ≤ (((sy_ai F 24).getD ((sy_i F 69).toInt).toNat 0) &&& ((255 : Int32))).toInt := by omega
        by_cases g9 : 57 < (((sy_ai F 24).getD ((sy_i F 69).toInt).toNat 0) &&& ((255 : Int32))).toInt
        · by_cases g10 : (sy_i F 2).toInt ≤ ((sy_i F 69).toInt + 1)
          · have c3 := nz_bx hB (k := 3) (lo := 0) (hi := 402) rfl
            have c2 := nz_bx hB (k := 2) (lo := 0) (hi := 2000) rfl
            have q71 : ((sy_ai F 24).getD (sy_i F 69).toNatClampNeg 0) &&& ((255 : Int32)) = ((sy_ai F 24).getD ((sy_i F 69).toInt).toNat 0) &&& ((255 : Int32)) := by simp only [nz_c, (by decide : ((255 : Int32)).toInt = 255)]
            have n71 : (((sy_ai F 24).getD (sy_i F 69).toNatClampNeg 0) &&& ((255 : Int32))).toInt = (((sy_ai F 24).getD ((sy_i F 69).toInt).toNat 0) &&& ((255 : Int32))).toInt := congrArg Int32.toInt q71
            have n72 : ((sy_i F 69) + ((1 : Int32))).toInt = ((sy_i F 69).toInt + 1) := nz_add (rfl : (sy_i F 69).toInt = (sy_i F 69).toInt) (by decide : ((1 : Int32)).toInt = 1) (by omega) (by omega)
            exact rc_7_p9 hd F X1 X2 hB (by first | exact g0 | (simp only [nz_c]; exact g0)) (by first | exact g1 | (simp only [nz_c]; exact g1)) (by first | exact ⟨by omega, by omega⟩ | (simp only [nz_c]; exact ⟨by omega, by omega⟩)) (by first | exact g2 | (simp only [nz_c]; exact g2)) (by first | exact g3 | (simp only [nz_c]; exact g3) | (rw [n71]; exact g3)) (by first | exact g4 | (simp only [nz_c]; exact g4) | (rw [n71]; exact g4)) (by first | exact g5 | (simp only [nz_c]; exact g5) | (rw [n71]; exact g5)) (by first | exact g6 | (simp only [nz_c]; exact g6) | (rw [n71]; exact g6)) (by first | exact g7 | (simp only [nz_c]; exact g7) | (rw [n71]; exact g7)) (by first | exact g8 | (simp only [nz_c]; exact g8) | (rw [n71]; exact g8)) (by first | exact g9 | (simp only [nz_c]; exact g9) | (rw [n71]; exact g9)) (by first | exact g10 | (simp only [nz_c, n72]; exact g10) | (rw [n72]; exact g10)) (fun F1 g e69 e70 e71 e72 => k9 g0 g1 g2 g3 g4 g5 g6 g7 g8 g9 g10 F1 (nz_in hB [] (fun j hj hn => g j hj (by simp only [List.mem_cons, List.not_mem_nil, or_false, not_or] at hn; exact trivial)) (List.forall_mem_nil _)) (fun j hj hn => g j hj (by simp only [List.mem_cons, List.not_mem_nil, or_false, not_or] at hn; exact trivial)) (nz_fi (g 2 (by decide) (by decide))) (nz_fi (g 3 (by decide) (by decide))) (nz_fa (g 25 (by decide) (by decide))) (nz_fa (g 26 (by decide) (by decide))) (nz_fa (g 27 (by decide) (by decide))) (nz_fl (g 28 (by decide) (by decide))) ((congrArg Int32.toInt (zz_i e69)).trans (by decide : ((0 : Int32)).toInt = 0)) ((congrArg Int32.toInt (zz_i e70)).trans n71) ((congrArg Int32.toInt (zz_i e71)).trans (rfl : (sy_i F 69).toInt = (sy_i F 69).toInt)) ((congrArg Int32.toInt (zz_i e72)).trans (rfl : (sy_i F 69).toInt = (sy_i F 69).toInt)))
          replace g10 : ((sy_i F 69).toInt + 1) < (sy_i F 2).toInt := by omega
          have c3 := nz_bx hB (k := 3) (lo := 0) (hi := 402) rfl
          have c2 := nz_bx hB (k := 2) (lo := 0) (hi := 2000) rfl
          have q71 : ((sy_ai F 24).getD (sy_i F 69).toNatClampNeg 0) &&& ((255 : Int32)) = ((sy_ai F 24).getD ((sy_i F 69).toInt).toNat 0) &&& ((255 : Int32)) := by simp only [nz_c, (by decide : ((255 : Int32)).toInt = 255)]
          have n71 : (((sy_ai F 24).getD (sy_i F 69).toNatClampNeg 0) &&& ((255 : Int32))).toInt = (((sy_ai F 24).getD ((sy_i F 69).toInt).toNat 0) &&& ((255 : Int32))).toInt := congrArg Int32.toInt q71
          have n72 : ((sy_i F 69) + ((1 : Int32))).toInt = ((sy_i F 69).toInt + 1) := nz_add (rfl : (sy_i F 69).toInt = (sy_i F 69).toInt) (by decide : ((1 : Int32)).toInt = 1) (by omega) (by omega)
          have q74 : ((sy_ai F 24).getD ((sy_i F 69) + ((1 : Int32))).toNatClampNeg 0) &&& ((255 : Int32)) = ((sy_ai F 24).getD (((sy_i F 69).toInt + 1)).toNat 0) &&& ((255 : Int32)) := by simp only [nz_c, n72, (by decide : ((1 : Int32)).toInt = 1), (by decide : ((255 : Int32)).toInt = 255)]
          have n74 : (((sy_ai F 24).getD ((sy_i F 69) + ((1 : Int32))).toNatClampNeg 0) &&& ((255 : Int32))).toInt = (((sy_ai F 24).getD (((sy_i F 69).toInt + 1)).toNat 0) &&& ((255 : Int32))).toInt := congrArg Int32.toInt q74
          exact rc_7_p10 hd F X1 X2 hB (by first | exact g0 | (simp only [nz_c]; exact g0)) (by first | exact g1 | (simp only [nz_c]; exact g1)) (by first | exact ⟨by omega, by omega⟩ | (simp only [nz_c]; exact ⟨by omega, by omega⟩)) (by first | exact g2 | (simp only [nz_c]; exact g2)) (by first | exact g3 | (simp only [nz_c]; exact g3) | (rw [n71]; exact g3)) (by first | exact g4 | (simp only [nz_c]; exact g4) | (rw [n71]; exact g4)) (by first | exact g5 | (simp only [nz_c]; exact g5) | (rw [n71]; exact g5)) (by first | exact g6 | (simp only [nz_c]; exact g6) | (rw [n71]; exact g6)) (by first | exact g7 | (simp only [nz_c]; exact g7) | (rw [n71]; exact g7)) (by first | exact g8 | (simp only [nz_c]; exact g8) | (rw [n71]; exact g8)) (by first | exact g9 | (simp only [nz_c]; exact g9) | (rw [n71]; exact g9)) (by first | exact g10 | (simp only [nz_c, n72]; exact g10) | (rw [n72]; exact g10)) (by first | exact ⟨by omega, by omega⟩ | (simp only [nz_c, n72]; exact ⟨by omega, by omega⟩) | (rw [n72]; exact ⟨by omega, by omega⟩)) (fun F1 g e69 e70 e71 e72 => k10 g0 g1 g2 g3 g4 g5 g6 g7 g8 g9 g10 F1 (nz_in hB [] (fun j hj hn => g j hj (by simp only [List.mem_cons, List.not_mem_nil, or_false, not_or] at hn; exact trivial)) (List.forall_mem_nil _)) (fun j hj hn => g j hj (by simp only [List.mem_cons, List.not_mem_nil, or_false, not_or] at hn; exact trivial)) (nz_fi (g 2 (by decide) (by decide))) (nz_fi (g 3 (by decide) (by decide))) (nz_fa (g 25 (by decide) (by decide))) (nz_fa (g 26 (by decide) (by decide))) (nz_fa (g 27 (by decide) (by decide))) (nz_fl (g 28 (by decide) (by decide))) ((congrArg Int32.toInt (zz_i e69)).trans n74) ((congrArg Int32.toInt (zz_i e70)).trans n71) ((congrArg Int32.toInt (zz_i e71)).trans (rfl : (sy_i F 69).toInt = (sy_i F 69).toInt)) ((congrArg Int32.toInt (zz_i e72)).trans (rfl : (sy_i F 69).toInt = (sy_i F 69).toInt)))
        replace g9 : (((sy_ai F 24).getD ((sy_i F 69).toInt).toNat 0) &&& ((255 : Int32))).toInt ≤ 57 := by omega
        have c3 := nz_bx hB (k := 3) (lo := 0) (hi := 402) rfl
        have c2 := nz_bx hB (k := 2) (lo := 0) (hi := 2000) rfl
        have q71 : ((sy_ai F 24).getD (sy_i F 69).toNatClampNeg 0) &&& ((255 : Int32)) = ((sy_ai F 24).getD ((sy_i F 69).toInt).toNat 0) &&& ((255 : Int32)) := by simp only [nz_c, (by decide : ((255 : Int32)).toInt = 255)]
        have n71 : (((sy_ai F 24).getD (sy_i F 69).toNatClampNeg 0) &&& ((255 : Int32))).toInt = (((sy_ai F 24).getD ((sy_i F 69).toInt).toNat 0) &&& ((255 : Int32))).toInt := congrArg Int32.toInt q71
        exact rc_7_p11 hd F X1 X2 hB (by first | exact g0 | (simp only [nz_c]; exact g0)) (by first | exact g1 | (simp only [nz_c]; exact g1)) (by first | exact ⟨by omega, by omega⟩ | (simp only [nz_c]; exact ⟨by omega, by omega⟩)) (by first | exact g2 | (simp only [nz_c]; exact g2)) (by first | exact g3 | (simp only [nz_c]; exact g3) | (rw [n71]; exact g3)) (by first | exact g4 | (simp only [nz_c]; exact g4) | (rw [n71]; exact g4)) (by first | exact g5 | (simp only [nz_c]; exact g5) | (rw [n71]; exact g5)) (by first | exact g6 | (simp only [nz_c]; exact g6) | (rw [n71]; exact g6)) (by first | exact g7 | (simp only [nz_c]; exact g7) | (rw [n71]; exact g7)) (by first | exact g8 | (simp only [nz_c]; exact g8) | (rw [n71]; exact g8)) (by first | exact g9 | (simp only [nz_c]; exact g9) | (rw [n71]; exact g9)) (fun F1 g e69 e70 e71 => k11 g0 g1 g2 g3 g4 g5 g6 g7 g8 g9 F1 (nz_in hB [] (fun j hj hn => g j hj (by simp only [List.mem_cons, List.not_mem_nil, or_false, not_or] at hn; exact trivial)) (List.forall_mem_nil _)) (fun j hj hn => g j hj (by simp only [List.mem_cons, List.not_mem_nil, or_false, not_or] at hn; exact trivial)) (nz_fi (g 2 (by decide) (by decide))) (nz_fi (g 3 (by decide) (by decide))) (nz_fa (g 25 (by decide) (by decide))) (nz_fa (g 26 (by decide) (by decide))) (nz_fa (g 27 (by decide) (by decide))) (nz_fl (g 28 (by decide) (by decide))) ((congrArg Int32.toInt (zz_i e69)).trans (rfl : (sy_i F 69).toInt = (sy_i F 69).toInt)) ((congrArg Int32.toInt (zz_i e70)).trans (by decide : ((0 : Int32)).toInt = 0)) ((congrArg Int32.toInt (zz_i e71)).trans (by decide : ((0 : Int32)).toInt = 0)))
      replace g7 : 97 ≤ (((sy_ai F 24).getD ((sy_i F 69).toInt).toNat 0) &&& ((255 : Int32))).toInt := by omega
      by_cases g8 : 122 < (((sy_ai F 24).getD ((sy_i F 69).toInt).toNat 0) &&& ((255 : Int32))).toInt
      · by_cases g9 : (((sy_ai F 24).getD ((sy_i F 69).toInt).toNat 0) &&& ((255 : Int32))).toInt < 48
        · have c3 := nz_bx hB (k := 3) (lo := 0) (hi := 402) rfl
          have c2 := nz_bx hB (k := 2) (lo := 0) (hi := 2000) rfl
          have q71 : ((sy_ai F 24).getD (sy_i F 69).toNatClampNeg 0) &&& ((255 : Int32)) = ((sy_ai F 24).getD ((sy_i F 69).toInt).toNat 0) &&& ((255 : Int32)) := by simp only [nz_c, (by decide : ((255 : Int32)).toInt = 255)]
          have n71 : (((sy_ai F 24).getD (sy_i F 69).toNatClampNeg 0) &&& ((255 : Int32))).toInt = (((sy_ai F 24).getD ((sy_i F 69).toInt).toNat 0) &&& ((255 : Int32))).toInt := congrArg Int32.toInt q71
          exfalso
          omega
        replace g9 : 48 ≤ (((sy_ai F 24).getD ((sy_i F 69).toInt).toNat 0) &&& ((255 : Int32))).toInt := by omega
        by_cases g10 : 57 < (((sy_ai F 24).getD ((sy_i F 69).toInt).toNat 0) &&& ((255 : Int32))).toInt
        · by_cases g11 : (sy_i F 2).toInt ≤ ((sy_i F 69).toInt + 1)
          · have c3 := nz_bx hB (k := 3) (lo := 0) (hi := 402) rfl
            have c2 := nz_bx hB (k := 2) (lo := 0) (hi := 2000) rfl
            have q71 : ((sy_ai F 24).getD (sy_i F 69).toNatClampNeg 0) &&& ((255 : Int32)) = ((sy_ai F 24).getD ((sy_i F 69).toInt).toNat 0) &&& ((255 : Int32)) := by simp only [nz_c, (by decide : ((255 : Int32)).toInt = 255)]
            have n71 : (((sy_ai F 24).getD (sy_i F 69).toNatClampNeg 0) &&& ((255 : Int32))).toInt = (((sy_ai F 24).getD ((sy_i F 69).toInt).toNat 0) &&& ((255 : Int32))).toInt := congrArg Int32.toInt q71
            have n72 : ((sy_i F 69) + ((1 : Int32))).toInt = ((sy_i F 69).toInt + 1) := nz_add (rfl : (sy_i F 69).toInt = (sy_i F 69).toInt) (by decide : ((1 : Int32)).toInt = 1) (by omega) (by omega)
            exact rc_7_p12 hd F X1 X2 hB (by first | exact g0 | (simp only [nz_c]; exact g0)) (by first | exact g1 | (simp only [nz_c]; exact g1)) (by first | exact ⟨by omega, by omega⟩ | (simp only [nz_c]; exact ⟨by omega, by omega⟩)) (by first | exact g2 | (simp only [nz_c]; exact g2)) (by first | exact g3 | (simp only [nz_c]; exact g3) | (rw [n71]; exact g3)) (by first | exact g4 | (simp only [nz_c]; exact g4) | (rw [n71]; exact g4)) (by first | exact g5 | (simp only [nz_c]; exact g5) | (rw [n71]; exact g5)) (by first | exact g6 | (simp only [nz_c]; exact g6) | (rw [n71]; exact g6)) (by first | exact g7 | (simp only [nz_c]; exact g7) | (rw [n71]; exact g7)) (by first | exact g8 | (simp only [nz_c]; exact g8) | (rw [n71]; exact g8)) (by first | exact g9 | (simp only [nz_c]; exact g9) | (rw [n71]; exact g9)) (by first | exact g10 | (simp only [nz_c]; exact g10) | (rw [n71]; exact g10)) (by first | exact g11 | (simp only [nz_c, n72]; exact g11) | (rw [n72]; exact g11)) (fun F1 g e69 e70 e71 e72 => k12 g0 g1 g2 g3 g4 g5 g6 g7 g8 g9 g10 g11 F1 (nz_in hB [] (fun j hj hn => g j hj (by simp only [List.mem_cons, List.not_mem_nil, or_false, not_or] at hn; exact trivial)) (List.forall_mem_nil _)) (fun j hj hn => g j hj (by simp only [List.mem_cons, List.not_mem_nil, or_false, not_or] at hn; exact trivial)) (nz_fi (g 2 (by decide) (by decide))) (nz_fi (g 3 (by decide) (by decide))) (nz_fa (g 25 (by decide) (by decide))) (nz_fa (g 26 (by decide) (by decide))) (nz_fa (g 27 (by decide) (by decide))) (nz_fl (g 28 (by decide) (by decide))) ((congrArg Int32.toInt (zz_i e69)).trans (by decide : ((0 : Int32)).toInt = 0)) ((congrArg Int32.toInt (zz_i e70)).trans n71) ((congrArg Int32.toInt (zz_i e71)).trans (rfl : (sy_i F 69).toInt = (sy_i F 69).toInt)) ((congrArg Int32.toInt (zz_i e72)).trans (rfl : (sy_i F 69).toInt = (sy_i F 69).toInt)))
          replace g11 : ((sy_i F 69).toInt + 1) < (sy_i F 2).toInt := by omega
          have c3 := nz_bx hB (k := 3) (lo := 0) (hi := 402) rfl
          have c2 := nz_bx hB (k := 2) (lo := 0) (hi := 2000) rfl
          have q71 : ((sy_ai F 24).getD (sy_i F 69).toNatClampNeg 0) &&& ((255 : Int32)) = ((sy_ai F 24).getD ((sy_i F 69).toInt).toNat 0) &&& ((255 : Int32)) := by simp only [nz_c, (by decide : ((255 : Int32)).toInt = 255)]
          have n71 : (((sy_ai F 24).getD (sy_i F 69).toNatClampNeg 0) &&& ((255 : Int32))).toInt = (((sy_ai F 24).getD ((sy_i F 69).toInt).toNat 0) &&& ((255 : Int32))).toInt := congrArg Int32.toInt q71
          have n72 : ((sy_i F 69) + ((1 : Int32))).toInt = ((sy_i F 69).toInt + 1) := nz_add (rfl : (sy_i F 69).toInt = (sy_i F 69).toInt) (by decide : ((1 : Int32)).toInt = 1) (by omega) (by omega)
          have q74 : ((sy_ai F 24).getD ((sy_i F 69) + ((1 : Int32))).toNatClampNeg 0) &&& ((255 : Int32)) = ((sy_ai F 24).getD (((sy_i F 69).toInt + 1)).toNat 0) &&& ((255 : Int32)) := by simp only [nz_c, n72, (by decide : ((1 : Int32)).toInt = 1), (by decide : ((255 : Int32)).toInt = 255)]
          have n74 : (((sy_ai F 24).getD ((sy_i F 69) + ((1 : Int32))).toNatClampNeg 0) &&& ((255 : Int32))).toInt = (((sy_ai F 24).getD (((sy_i F 69).toInt + 1)).toNat 0) &&& ((255 : Int32))).toInt := congrArg Int32.toInt q74
          exact rc_7_p13 hd F X1 X2 hB (by first | exact g0 | (simp only [nz_c]; exact g0)) (by first | exact g1 | (simp only [nz_c]; exact g1)) (by first | exact ⟨by omega, by omega⟩ | (simp only [nz_c]; exact ⟨by omega, by omega⟩)) (by first | exact g2 | (simp only [nz_c]; exact g2)) (by first | exact g3 | (simp only [nz_c]; exact g3) | (rw [n71]; exact g3)) (by first | exact g4 | (simp only [nz_c]; exact g4) | (rw [n71]; exact g4)) (by first | exact g5 | (simp only [nz_c]; exact g5) | (rw [n71]; exact g5)) (by first | exact g6 | (simp only [nz_c]; exact g6) | (rw [n71]; exact g6)) (by first | exact g7 | (simp only [nz_c]; exact g7) | (rw [n71]; exact g7)) (by first | exact g8 | (simp only [nz_c]; exact g8) | (rw [n71]; exact g8)) (by first | exact g9 | (simp only [nz_c]; exact g9) | (rw [n71]; exact g9)) (by first | exact g10 | (simp only [nz_c]; exact g10) | (rw [n71]; exact g10)) (by first | exact g11 | (simp only [nz_c, n72]; exact g11) | (rw [n72]; exact g11)) (by first | exact ⟨by omega, by omega⟩ | (simp only [nz_c, n72]; exact ⟨by omega, by omega⟩) | (rw [n72]; exact ⟨by omega, by omega⟩)) (fun F1 g e69 e70 e71 e72 => k13 g0 g1 g2 g3 g4 g5 g6 g7 g8 g9 g10 g11 F1 (nz_in hB [] (fun j hj hn => g j hj (by simp only [List.mem_cons, List.not_mem_nil, or_false, not_or] at hn; exact trivial)) (List.forall_mem_nil _)) (fun j hj hn => g j hj (by simp only [List.mem_cons, List.not_mem_nil, or_false, not_or] at hn; exact trivial)) (nz_fi (g 2 (by decide) (by decide))) (nz_fi (g 3 (by decide) (by decide))) (nz_fa (g 25 (by decide) (by decide))) (nz_fa (g 26 (by decide) (by decide))) (nz_fa (g 27 (by decide) (by decide))) (nz_fl (g 28 (by decide) (by decide))) ((congrArg Int32.toInt (zz_i e69)).trans n74) ((congrArg Int32.toInt (zz_i e70)).trans n71) ((congrArg Int32.toInt (zz_i e71)).trans (rfl : (sy_i F 69).toInt = (sy_i F 69).toInt)) ((congrArg Int32.toInt (zz_i e72)).trans (rfl : (sy_i F 69).toInt = (sy_i F 69).toInt)))
        replace g10 : (((sy_ai F 24).getD ((sy_i F 69).toInt).toNat 0) &&& ((255 : Int32))).toInt ≤ 57 := by omega
        have c3 := nz_bx hB (k := 3) (lo := 0) (hi := 402) rfl
        have c2 := nz_bx hB (k := 2) (lo := 0) (hi := 2000) rfl
        have q71 : ((sy_ai F 24).getD (sy_i F 69).toNatClampNeg 0) &&& ((255 : Int32)) = ((sy_ai F 24).getD ((sy_i F 69).toInt).toNat 0) &&& ((255 : Int32)) := by simp only [nz_c, (by decide : ((255 : Int32)).toInt = 255)]
        have n71 : (((sy_ai F 24).getD (sy_i F 69).toNatClampNeg 0) &&& ((255 : Int32))).toInt = (((sy_ai F 24).getD ((sy_i F 69).toInt).toNat 0) &&& ((255 : Int32))).toInt := congrArg Int32.toInt q71
        exfalso
        omega
      replace g8 : (((sy_ai F 24).getD ((sy_i F 69).toInt).toNat 0) &&& ((255 : Int32))).toInt ≤ 122 := by omega
      have c3 := nz_bx hB (k := 3) (lo := 0) (hi := 402) rfl
      have c2 := nz_bx hB (k := 2) (lo := 0) (hi := 2000) rfl
      have q71 : ((sy_ai F 24).getD (sy_i F 69).toNatClampNeg 0) &&& ((255 : Int32)) = ((sy_ai F 24).getD ((sy_i F 69).toInt).toNat 0) &&& ((255 : Int32)) := by simp only [nz_c, (by decide : ((255 : Int32)).toInt = 255)]
      have n71 : (((sy_ai F 24).getD (sy_i F 69).toNatClampNeg 0) &&& ((255 : Int32))).toInt = (((sy_ai F 24).getD ((sy_i F 69).toInt).toNat 0) &&& ((255 : Int32))).toInt := congrArg Int32.toInt q71
      exact rc_7_p14 hd F X1 X2 hB (by first | exact g0 | (simp only [nz_c]; exact g0)) (by first | exact g1 | (simp only [nz_c]; exact g1)) (by first | exact ⟨by omega, by omega⟩ | (simp only [nz_c]; exact ⟨by omega, by omega⟩)) (by first | exact g2 | (simp only [nz_c]; exact g2)) (by first | exact g3 | (simp only [nz_c]; exact g3) | (rw [n71]; exact g3)) (by first | exact g4 | (simp only [nz_c]; exact g4) | (rw [n71]; exact g4)) (by first | exact g5 | (simp only [nz_c]; exact g5) | (rw [n71]; exact g5)) (by first | exact g6 | (simp only [nz_c]; exact g6) | (rw [n71]; exact g6)) (by first | exact g7 | (simp only [nz_c]; exact g7) | (rw [n71]; exact g7)) (by first | exact g8 | (simp only [nz_c]; exact g8) | (rw [n71]; exact g8)) (fun F1 g e69 e70 e71 => k14 g0 g1 g2 g3 g4 g5 g6 g7 g8 F1 (nz_in hB [] (fun j hj hn => g j hj (by simp only [List.mem_cons, List.not_mem_nil, or_false, not_or] at hn; exact trivial)) (List.forall_mem_nil _)) (fun j hj hn => g j hj (by simp only [List.mem_cons, List.not_mem_nil, or_false, not_or] at hn; exact trivial)) (nz_fi (g 2 (by decide) (by decide))) (nz_fi (g 3 (by decide) (by decide))) (nz_fa (g 25 (by decide) (by decide))) (nz_fa (g 26 (by decide) (by decide))) (nz_fa (g 27 (by decide) (by decide))) (nz_fl (g 28 (by decide) (by decide))) ((congrArg Int32.toInt (zz_i e69)).trans (rfl : (sy_i F 69).toInt = (sy_i F 69).toInt)) ((congrArg Int32.toInt (zz_i e70)).trans (by decide : ((0 : Int32)).toInt = 0)) ((zz_l e71).trans (rfl : (0 : Int64) = (0 : Int64))))
    replace g6 : oq ((((sy_ai F 24).getD ((sy_i F 69).toInt).toNat 0) &&& ((255 : Int32))).toInt) (32) := by first | exact Classical.not_not.mp g6 | exact g6 | omega
    have c3 := nz_bx hB (k := 3) (lo := 0) (hi := 402) rfl
    have c2 := nz_bx hB (k := 2) (lo := 0) (hi := 2000) rfl
    have q71 : ((sy_ai F 24).getD (sy_i F 69).toNatClampNeg 0) &&& ((255 : Int32)) = ((sy_ai F 24).getD ((sy_i F 69).toInt).toNat 0) &&& ((255 : Int32)) := by simp only [nz_c, (by decide : ((255 : Int32)).toInt = 255)]
    have n71 : (((sy_ai F 24).getD (sy_i F 69).toNatClampNeg 0) &&& ((255 : Int32))).toInt = (((sy_ai F 24).getD ((sy_i F 69).toInt).toNat 0) &&& ((255 : Int32))).toInt := congrArg Int32.toInt q71
    have n72 : ((sy_i F 69) + ((1 : Int32))).toInt = ((sy_i F 69).toInt + 1) := nz_add (rfl : (sy_i F 69).toInt = (sy_i F 69).toInt) (by decide : ((1 : Int32)).toInt = 1) (by omega) (by omega)
    exact rc_7_p15 hd F X1 X2 hB (by first | exact g0 | (simp only [nz_c]; exact g0)) (by first | exact g1 | (simp only [nz_c]; exact g1)) (by first | exact ⟨by omega, by omega⟩ | (simp only [nz_c]; exact ⟨by omega, by omega⟩)) (by first | exact g2 | (simp only [nz_c]; exact g2)) (by first | exact g3 | (simp only [nz_c]; exact g3) | (rw [n71]; exact g3)) (by first | exact g4 | (simp only [nz_c]; exact g4) | (rw [n71]; exact g4)) (by first | exact g5 | (simp only [nz_c]; exact g5) | (rw [n71]; exact g5)) (by first | exact g6 | (simp only [nz_c]; exact g6) | (rw [n71]; exact g6)) (fun F1 g e69 => k15 g0 g1 g2 g3 g4 g5 g6 F1 (nz_in hB [] (fun j hj hn => g j hj (by simp only [List.mem_cons, List.not_mem_nil, or_false, not_or] at hn; exact trivial)) (List.forall_mem_nil _)) (fun j hj hn => g j hj (by simp only [List.mem_cons, List.not_mem_nil, or_false, not_or] at hn; exact trivial)) (nz_fi (g 2 (by decide) (by decide))) (nz_fi (g 3 (by decide) (by decide))) (nz_fa (g 25 (by decide) (by decide))) (nz_fa (g 26 (by decide) (by decide))) (nz_fa (g 27 (by decide) (by decide))) (nz_fl (g 28 (by decide) (by decide))) ((congrArg Int32.toInt (zz_i e69)).trans n72))
  replace g2 : (sy_i F 2).toInt ≤ (sy_i F 69).toInt := by omega
  have c3 := nz_bx hB (k := 3) (lo := 0) (hi := 402) rfl
  have c2 := nz_bx hB (k := 2) (lo := 0) (hi := 2000) rfl
  have n76 : ((sy_i F 3) + ((1 : Int32))).toInt = ((sy_i F 3).toInt + 1) := nz_add (rfl : (sy_i F 3).toInt = (sy_i F 3).toInt) (by decide : ((1 : Int32)).toInt = 1) (by omega) (by omega)
  have w72 : jm_upd (sy_ai F 25) (sy_i F 3).toNatClampNeg ((0 : Int32)) = jm_upd (sy_ai F 25) ((sy_i F 3).toInt).toNat ((0 : Int32)) := by simp only [nz_c, (by decide : ((0 : Int32)).toInt = 0)]
  have w73 : jm_upd (sy_ai F 26) (sy_i F 3).toNatClampNeg (sy_i F 2) = jm_upd (sy_ai F 26) ((sy_i F 3).toInt).toNat (sy_i F 2) := by simp only [nz_c]
  have w74 : jm_upd (sy_ai F 27) (sy_i F 3).toNatClampNeg ((0 : Int32)) = jm_upd (sy_ai F 27) ((sy_i F 3).toInt).toNat ((0 : Int32)) := by simp only [nz_c, (by decide : ((0 : Int32)).toInt = 0)]
  have w75 : jm_updL (sy_al F 28) (sy_i F 3).toNatClampNeg ((0 : Int64)) = jm_updL (sy_al F 28) ((sy_i F 3).toInt).toNat ((0 : Int64)) := by simp only [nz_c]
  exact rc_7_p16 hd F X1 X2 hB (by first | exact g0 | (simp only [nz_c]; exact g0)) (by first | exact g1 | (simp only [nz_c]; exact g1)) (by first | exact ⟨by omega, by omega⟩ | (simp only [nz_c]; exact ⟨by omega, by omega⟩)) (by first | exact g2 | (simp only [nz_c]; exact g2)) (by first | exact ⟨by omega, by omega⟩ | (simp only [nz_c]; exact ⟨by omega, by omega⟩)) (by first | exact ⟨by omega, by omega⟩ | (simp only [nz_c]; exact ⟨by omega, by omega⟩)) (by first | exact ⟨by omega, by omega⟩ | (simp only [nz_c]; exact ⟨by omega, by omega⟩)) (by first | exact ⟨by omega, by omega⟩ | (simp only [nz_c]; exact ⟨by omega, by omega⟩)) (fun F1 g e3 e25 e26 e27 e28 => k16 g0 g1 g2 F1 (nz_in hB [3, 25, 26, 27, 28] (fun j hj hn => g j hj (by simp only [List.mem_cons, List.not_mem_nil, or_false, not_or] at hn; omega)) (List.forall_mem_cons.mpr ⟨fun t ht => (Option.some.inj ht) ▸ (nz_hi e3 n76 (by omega) (by omega)), List.forall_mem_cons.mpr ⟨fun t ht => (Option.some.inj ht) ▸ (nz_hA e25 (nz_up (nz_ba hB (k := 25) (lo := 0) (hi := 42) rfl) (by decide : ((0 : Int32)).toInt = 0) (by omega) (by omega))), List.forall_mem_cons.mpr ⟨fun t ht => (Option.some.inj ht) ▸ (nz_hz2 e26), List.forall_mem_cons.mpr ⟨fun t ht => (Option.some.inj ht) ▸ (nz_hz2 e27), List.forall_mem_cons.mpr ⟨fun t ht => (Option.some.inj ht) ▸ (nz_hz3 e28), List.forall_mem_nil _⟩⟩⟩⟩⟩)) (fun j hj hn => g j hj (by simp only [List.mem_cons, List.not_mem_nil, or_false, not_or] at hn; omega)) (nz_fi (g 2 (by decide) (by decide))) ((congrArg Int32.toInt (zz_i e3)).trans n76) ((zz_ai e25).trans w72) ((zz_ai e26).trans w73) ((zz_ai e27).trans w74) ((zz_al e28).trans w75))
theorem rc_85_p0 {Ls : Nat} {xs : Nat → Int32} {d : Nat} {Q : Option Value → jm_h → Prop} (hd : 4 ≤ d) (F : Nat → sy_d) (X1 X2 : List jm_c) (hB : iv_in F iv_B4)
    (h0 : (sy_i F 2).toInt ≤ ((sy_i F 69) + (sy_i F 70)).toInt)
    (h1 : (sy_i F 70).toInt ≤ 8)
    (h2 : (sy_i F 70).toInt ≤ 8)
    (k : ∀ F1 : Nat → sy_d, (∀ j, j < 69 → True → F1 j = F j) → F1 69 = .inl (.int (sy_i F 69)) → F1 70 = .inl (.int (sy_i F 70)) → F1 71 = .inl (.long (sy_l F 71)) → F1 72 = .inl (.int ((1 : Int32))) → F1 73 = .inl (.int ((0 : Int32))) → hd_W Ls xs d jm_M142 Q (146, sy_dL F1 [some (.inl (.ref 1000)), some (.inr (.inl 69)), none, some (.inr (.inl 70)), some (.inr (.inr 71)), none, some (.inr (.inl 72)), some (.inr (.inl 73))], sy_dS F1 [], sy_dh F1 X1 X2 (iv_H 4), 0, 0)) :
    hd_W Ls xs d jm_M142 Q (85, sy_dL F [some (.inl (.ref 1000)), some (.inr (.inl 69)), none, some (.inr (.inl 70)), some (.inr (.inr 71)), none, none, none], sy_dS F [], sy_dh F X1 X2 (iv_H 4), 0, 0) := by
  refine hd_run (s := 4) (nv := 72) (pc := 146) (L := [some (.inl (.ref 1000)), some (.inr (.inl 69)), none, some (.inr (.inl 70)), some (.inr (.inr 71)), none, some (.inr (.inl 72)), some (.inr (.inl 73))]) (S := []) (uh := hd_ov (iv_id 0 iv_B4) []) (ul := [.inl (.inr (.inl 69)), .inl (.inr (.inl 70)), .inl (.inr (.inr 71)), .inl (.inl (.int 1)), .inl (.inl (.int 0))]) (f := true) (sp := [7, 85, 146]) (d0 := 3) (O := [true, true, false]) (T := [(0, [.inr (.inl 69), .inr (.inl 70)], [])]) (P := [(4, .inr (.inl 2), .inr (.inl 72)), (4, .inr (.inl 70), .inl (.int 8)), (3, .inl (.int 8), .inr (.inl 70))]) jm_ok142 (by decide +kernel) (by decide +kernel) hd F X1 X2 (fun F' hF hs => ?_)
  have b2 := hd_b (F := F) (F' := F') (k := 2) (hF 2 (by decide))
  have b69 := hd_b (F := F) (F' := F') (k := 69) (hF 69 (by decide))
  have b70 := hd_b (F := F) (F' := F') (k := 70) (hF 70 (by decide))
  have t72 : sy_dv F' (.inr (.inl 72)) = .int ((sy_i F 69) + (sy_i F 70)) := hd_o (hs 0 _ rfl) b69 b70 rfl
  have b71 := hd_bl (F := F) (F' := F') (k := 71) (hF 71 (by decide))
  have hB' : iv_in F' iv_B4 := iv_in_eq hB (fun j hj => hF j (Nat.lt_of_lt_of_le hj (by decide +kernel)))
  refine ⟨List.forall_mem_cons.mpr ⟨hd_p4 b2 t72 h0, List.forall_mem_cons.mpr ⟨hd_p4 b70 rfl (by have hc : ((8) : Int32).toInt = 8 := (by decide); omega), List.forall_mem_cons.mpr ⟨hd_p3 rfl b70 (by have hc : ((8) : Int32).toInt = 8 := (by decide); omega), fun _ h => absurd h List.not_mem_nil⟩⟩⟩, ?_⟩
  refine k _ ?_ ?_ ?_ ?_ ?_ ?_
  · exact fun j hj _ => (hd_keep hB' (Nat.lt_of_lt_of_le hj (by decide +kernel)) (by simp)).trans (hF j (Nat.lt_of_lt_of_le hj (by decide)))
  · exact hd_gi (x := .inr (.inl 69)) (by decide +kernel) b69
  · exact hd_gi (x := .inr (.inl 70)) (by decide +kernel) b70
  · exact hd_gl (x := .inr (.inr 71)) (by decide +kernel) b71
  · exact hd_gi (x := .inl (.int 1)) (by decide +kernel) rfl
  · exact hd_gi (x := .inl (.int 0)) (by decide +kernel) rfl
theorem rc_85_p1 {Ls : Nat} {xs : Nat → Int32} {d : Nat} {Q : Option Value → jm_h → Prop} (hd : 4 ≤ d) (F : Nat → sy_d) (X1 X2 : List jm_c) (hB : iv_in F iv_B4)
    (h0 : (sy_i F 2).toInt ≤ ((sy_i F 69) + (sy_i F 70)).toInt)
    (h1 : 8 < (sy_i F 70).toInt)
    (h2 : 8 < (sy_i F 70).toInt)
    (h3 : 0 ≤ (sy_i F 3).toInt ∧ (sy_i F 3).toInt < 403)
    (h4 : 0 ≤ (sy_i F 3).toInt ∧ (sy_i F 3).toInt < 403)
    (h5 : 0 ≤ (sy_i F 3).toInt ∧ (sy_i F 3).toInt < 403)
    (h6 : 0 ≤ (sy_i F 3).toInt ∧ (sy_i F 3).toInt < 403)
    (k : ∀ F1 : Nat → sy_d, (∀ j, j < 69 → j ≠ 3 ∧ j ≠ 25 ∧ j ≠ 26 ∧ j ≠ 27 ∧ j ≠ 28 → F1 j = F j) → F1 3 = .inl (.int ((sy_i F 3) + ((1 : Int32)))) → F1 25 = .inr (.inl (jm_upd (sy_ai F 25) (sy_i F 3).toNatClampNeg ((3 : Int32)))) → F1 26 = .inr (.inl (jm_upd (sy_ai F 26) (sy_i F 3).toNatClampNeg (sy_i F 69))) → F1 27 = .inr (.inl (jm_upd (sy_ai F 27) (sy_i F 3).toNatClampNeg ((0 : Int32)))) → F1 28 = .inr (.inr (jm_updL (sy_al F 28) (sy_i F 3).toNatClampNeg (sy_l F 71))) → F1 69 = .inl (.int ((sy_i F 69) + (sy_i F 70))) → hd_W Ls xs d jm_M142 Q (7, sy_dL F1 [some (.inl (.ref 1000)), some (.inr (.inl 69)), none, none, none, none, none, none], sy_dS F1 [], sy_dh F1 X1 X2 (iv_H 4), 0, 0)) :
    hd_W Ls xs d jm_M142 Q (85, sy_dL F [some (.inl (.ref 1000)), some (.inr (.inl 69)), none, some (.inr (.inl 70)), some (.inr (.inr 71)), none, none, none], sy_dS F [], sy_dh F X1 X2 (iv_H 4), 0, 0) := by
  refine hd_run (s := 4) (nv := 72) (pc := 7) (L := [some (.inl (.ref 1000)), some (.inr (.inl 69)), none, none, none, none, none, none]) (S := []) (uh := hd_ov (iv_id 0 iv_B4) [(3, .inl (.inr (.inl 77))), (25, .inr (.inr (.inl 73))), (26, .inr (.inr (.inl 74))), (27, .inr (.inr (.inl 75))), (28, .inr (.inr (.inr 76)))]) (ul := [.inl (.inr (.inl 78))]) (f := true) (sp := [7, 85, 146]) (d0 := 3) (O := [true, false, true]) (T := [(0, [.inr (.inl 69), .inr (.inl 70)], []), (40, [.inr (.inl 3), .inl (.int 3)], [.inr (.inl 25)]), (40, [.inr (.inl 3), .inr (.inl 69)], [.inr (.inl 26)]), (40, [.inr (.inl 3), .inl (.int 0)], [.inr (.inl 27)]), (40, [.inr (.inl 3), .inr (.inr 71)], [.inr (.inr 28)]), (0, [.inr (.inl 3), .inl (.int 1)], []), (0, [.inr (.inl 69), .inr (.inl 70)], [])]) (P := [(4, .inr (.inl 2), .inr (.inl 72)), (5, .inr (.inl 70), .inl (.int 8)), (2, .inl (.int 8), .inr (.inl 70)), (6, .inr (.inl 3), .inl (.ref 403)), (6, .inr (.inl 3), .inl (.ref 403)), (6, .inr (.inl 3), .inl (.ref 403)), (6, .inr (.inl 3), .inl (.ref 403))]) jm_ok142 (by decide +kernel) (by decide +kernel) hd F X1 X2 (fun F' hF hs => ?_)
  have b2 := hd_b (F := F) (F' := F') (k := 2) (hF 2 (by decide))
  have b69 := hd_b (F := F) (F' := F') (k := 69) (hF 69 (by decide))
  have b70 := hd_b (F := F) (F' := F') (k := 70) (hF 70 (by decide))
  have t72 : sy_dv F' (.inr (.inl 72)) = .int ((sy_i F 69) + (sy_i F 70)) := hd_o (hs 0 _ rfl) b69 b70 rfl
  have b3 := hd_b (F := F) (F' := F') (k := 3) (hF 3 (by decide))
  have t77 : sy_dv F' (.inr (.inl 77)) = .int ((sy_i F 3) + ((1 : Int32))) := hd_o (hs 5 _ rfl) b3 rfl rfl
  have a25 := hd_ba (F := F) (F' := F') (k := 25) (hF 25 (by decide))
  have t73 : sy_da F' (.inr (.inl 73)) = .inl (jm_upd (sy_ai F 25) (sy_i F 3).toNatClampNeg ((3 : Int32))) := hd_up (hs 1 _ rfl) b3 rfl a25
  have a26 := hd_ba (F := F) (F' := F') (k := 26) (hF 26 (by decide))
  have t74 : sy_da F' (.inr (.inl 74)) = .inl (jm_upd (sy_ai F 26) (sy_i F 3).toNatClampNeg (sy_i F 69)) := hd_up (hs 2 _ rfl) b3 b69 a26
  have a27 := hd_ba (F := F) (F' := F') (k := 27) (hF 27 (by decide))
  have t75 : sy_da F' (.inr (.inl 75)) = .inl (jm_upd (sy_ai F 27) (sy_i F 3).toNatClampNeg ((0 : Int32))) := hd_up (hs 3 _ rfl) b3 rfl a27
  have b71 := hd_bl (F := F) (F' := F') (k := 71) (hF 71 (by decide))
  have a28 := hd_bA (F := F) (F' := F') (k := 28) (hF 28 (by decide))
  have t76 : sy_da F' (.inr (.inr 76)) = .inr (jm_updL (sy_al F 28) (sy_i F 3).toNatClampNeg (sy_l F 71)) := hd_uA (hs 4 _ rfl) b3 b71 a28
  have t78 : sy_dv F' (.inr (.inl 78)) = .int ((sy_i F 69) + (sy_i F 70)) := hd_o (hs 6 _ rfl) b69 b70 rfl
  have hB' : iv_in F' iv_B4 := iv_in_eq hB (fun j hj => hF j (Nat.lt_of_lt_of_le hj (by decide +kernel)))
  refine ⟨List.forall_mem_cons.mpr ⟨hd_p4 b2 t72 h0, List.forall_mem_cons.mpr ⟨hd_p5 b70 rfl (by have hc : ((8) : Int32).toInt = 8 := (by decide); omega), List.forall_mem_cons.mpr ⟨hd_p2 rfl b70 (by have hc : ((8) : Int32).toInt = 8 := (by decide); omega), List.forall_mem_cons.mpr ⟨hd_pb b3 (by first | exact h3 | exact h3), List.forall_mem_cons.mpr ⟨hd_pb b3 (by first | exact h4 | exact h4), List.forall_mem_cons.mpr ⟨hd_pb b3 (by first | exact h5 | exact h5), List.forall_mem_cons.mpr ⟨hd_pb b3 (by first | exact h6 | exact h6), fun _ h => absurd h List.not_mem_nil⟩⟩⟩⟩⟩⟩⟩, ?_⟩
  refine k _ ?_ ?_ ?_ ?_ ?_ ?_ ?_
  · exact fun j hj hn => (hd_keep hB' (Nat.lt_of_lt_of_le hj (by decide +kernel)) (by simp; omega)).trans (hF j (Nat.lt_of_lt_of_le hj (by decide)))
  · exact hd_gi (x := .inr (.inl 77)) (by decide +kernel) t77
  · exact hd_ga (a := .inr (.inl 73)) (by decide +kernel) t73
  · exact hd_ga (a := .inr (.inl 74)) (by decide +kernel) t74
  · exact hd_ga (a := .inr (.inl 75)) (by decide +kernel) t75
  · exact hd_gA (a := .inr (.inr 76)) (by decide +kernel) t76
  · exact hd_gi (x := .inr (.inl 78)) (by decide +kernel) t78
theorem rc_85_p2 {Ls : Nat} {xs : Nat → Int32} {d : Nat} {Q : Option Value → jm_h → Prop} (hd : 4 ≤ d) (F : Nat → sy_d) (X1 X2 : List jm_c) (hB : iv_in F iv_B4)
    (h0 : ((sy_i F 69) + (sy_i F 70)).toInt < (sy_i F 2).toInt)
    (h1 : 0 ≤ ((sy_i F 69) + (sy_i F 70)).toInt ∧ ((sy_i F 69) + (sy_i F 70)).toInt < 2000)
    (h2 : (((sy_ai F 24).getD ((sy_i F 69) + (sy_i F 70)).toNatClampNeg 0) &&& ((255 : Int32))).toInt < 97)
    (h3 : (sy_i F 70).toInt ≤ 8)
    (h4 : (sy_i F 70).toInt ≤ 8)
    (k : ∀ F1 : Nat → sy_d, (∀ j, j < 69 → True → F1 j = F j) → F1 69 = .inl (.int (sy_i F 69)) → F1 70 = .inl (.int (sy_i F 70)) → F1 71 = .inl (.long (sy_l F 71)) → F1 72 = .inl (.int ((1 : Int32))) → F1 73 = .inl (.int ((0 : Int32))) → hd_W Ls xs d jm_M142 Q (146, sy_dL F1 [some (.inl (.ref 1000)), some (.inr (.inl 69)), none, some (.inr (.inl 70)), some (.inr (.inr 71)), none, some (.inr (.inl 72)), some (.inr (.inl 73))], sy_dS F1 [], sy_dh F1 X1 X2 (iv_H 4), 0, 0)) :
    hd_W Ls xs d jm_M142 Q (85, sy_dL F [some (.inl (.ref 1000)), some (.inr (.inl 69)), none, some (.inr (.inl 70)), some (.inr (.inr 71)), none, none, none], sy_dS F [], sy_dh F X1 X2 (iv_H 4), 0, 0) := by
  refine hd_run (s := 4) (nv := 72) (pc := 146) (L := [some (.inl (.ref 1000)), some (.inr (.inl 69)), none, some (.inr (.inl 70)), some (.inr (.inr 71)), none, some (.inr (.inl 72)), some (.inr (.inl 73))]) (S := []) (uh := hd_ov (iv_id 0 iv_B4) []) (ul := [.inl (.inr (.inl 69)), .inl (.inr (.inl 70)), .inl (.inr (.inr 71)), .inl (.inl (.int 1)), .inl (.inl (.int 0))]) (f := true) (sp := [7, 85, 146]) (d0 := 3) (O := [false, true, true, false]) (T := [(0, [.inr (.inl 69), .inr (.inl 70)], []), (30, [.inr (.inl 72)], [.inr (.inl 24)]), (3, [.inr (.inl 73), .inl (.int 255)], [])]) (P := [(5, .inr (.inl 2), .inr (.inl 72)), (6, .inr (.inl 72), .inl (.ref 2000)), (2, .inr (.inl 74), .inl (.int 97)), (4, .inr (.inl 70), .inl (.int 8)), (3, .inl (.int 8), .inr (.inl 70))]) jm_ok142 (by decide +kernel) (by decide +kernel) hd F X1 X2 (fun F' hF hs => ?_)
  have b2 := hd_b (F := F) (F' := F') (k := 2) (hF 2 (by decide))
  have b69 := hd_b (F := F) (F' := F') (k := 69) (hF 69 (by decide))
  have b70 := hd_b (F := F) (F' := F') (k := 70) (hF 70 (by decide))
  have t72 : sy_dv F' (.inr (.inl 72)) = .int ((sy_i F 69) + (sy_i F 70)) := hd_o (hs 0 _ rfl) b69 b70 rfl
  have a24 := hd_ba (F := F) (F' := F') (k := 24) (hF 24 (by decide))
  have t73 : sy_dv F' (.inr (.inl 73)) = .int ((sy_ai F 24).getD ((sy_i F 69) + (sy_i F 70)).toNatClampNeg 0) := hd_rd (hs 1 _ rfl) t72 a24
  have t74 : sy_dv F' (.inr (.inl 74)) = .int (((sy_ai F 24).getD ((sy_i F 69) + (sy_i F 70)).toNatClampNeg 0) &&& ((255 : Int32))) := hd_o (hs 2 _ rfl) t73 rfl rfl
  have b71 := hd_bl (F := F) (F' := F') (k := 71) (hF 71 (by decide))
  have hB' : iv_in F' iv_B4 := iv_in_eq hB (fun j hj => hF j (Nat.lt_of_lt_of_le hj (by decide +kernel)))
  refine ⟨List.forall_mem_cons.mpr ⟨hd_p5 b2 t72 h0, List.forall_mem_cons.mpr ⟨hd_pb t72 (by first | exact h1 | exact h1), List.forall_mem_cons.mpr ⟨hd_p2 t74 rfl (by have hc : ((97) : Int32).toInt = 97 := (by decide); omega), List.forall_mem_cons.mpr ⟨hd_p4 b70 rfl (by have hc : ((8) : Int32).toInt = 8 := (by decide); omega), List.forall_mem_cons.mpr ⟨hd_p3 rfl b70 (by have hc : ((8) : Int32).toInt = 8 := (by decide); omega), fun _ h => absurd h List.not_mem_nil⟩⟩⟩⟩⟩, ?_⟩
  refine k _ ?_ ?_ ?_ ?_ ?_ ?_
  · exact fun j hj _ => (hd_keep hB' (Nat.lt_of_lt_of_le hj (by decide +kernel)) (by simp)).trans (hF j (Nat.lt_of_lt_of_le hj (by decide)))
  · exact hd_gi (x := .inr (.inl 69)) (by decide +kernel) b69
  · exact hd_gi (x := .inr (.inl 70)) (by decide +kernel) b70
  · exact hd_gl (x := .inr (.inr 71)) (by decide +kernel) b71
  · exact hd_gi (x := .inl (.int 1)) (by decide +kernel) rfl
  · exact hd_gi (x := .inl (.int 0)) (by decide +kernel) rfl
theorem rc_85_p3 {Ls : Nat} {xs : Nat → Int32} {d : Nat} {Q : Option Value → jm_h → Prop} (hd : 4 ≤ d) (F : Nat → sy_d) (X1 X2 : List jm_c) (hB : iv_in F iv_B4)
    (h0 : ((sy_i F 69) + (sy_i F 70)).toInt < (sy_i F 2).toInt)
    (h1 : 0 ≤ ((sy_i F 69) + (sy_i F 70)).toInt ∧ ((sy_i F 69) + (sy_i F 70)).toInt < 2000)
    (h2 : (((sy_ai F 24).getD ((sy_i F 69) + (sy_i F 70)).toNatClampNeg 0) &&& ((255 : Int32))).toInt < 97)
    (h3 : 8 < (sy_i F 70).toInt)
    (h4 : 8 < (sy_i F 70).toInt)
    (h5 : 0 ≤ (sy_i F 3).toInt ∧ (sy_i F 3).toInt < 403)
    (h6 : 0 ≤ (sy_i F 3).toInt ∧ (sy_i F 3).toInt < 403)
    (h7 : 0 ≤ (sy_i F 3).toInt ∧ (sy_i F 3).toInt < 403)
    (h8 : 0 ≤ (sy_i F 3).toInt ∧ (sy_i F 3).toInt < 403)
    (k : ∀ F1 : Nat → sy_d, (∀ j, j < 69 → j ≠ 3 ∧ j ≠ 25 ∧ j ≠ 26 ∧ j ≠ 27 ∧ j ≠ 28 → F1 j = F j) → F1 3 = .inl (.int ((sy_i F 3) + ((1 : Int32)))) → F1 25 = .inr (.inl (jm_upd (sy_ai F 25) (sy_i F 3).toNatClampNeg ((3 : Int32)))) → F1 26 = .inr (.inl (jm_upd (sy_ai F 26) (sy_i F 3).toNatClampNeg (sy_i F 69))) → F1 27 = .inr (.inl (jm_upd (sy_ai F 27) (sy_i F 3).toNatClampNeg ((0 : Int32)))) → F1 28 = .inr (.inr (jm_updL (sy_al F 28) (sy_i F 3).toNatClampNeg (sy_l F 71))) → F1 69 = .inl (.int ((sy_i F 69) + (sy_i F 70))) → hd_W Ls xs d jm_M142 Q (7, sy_dL F1 [some (.inl (.ref 1000)), some (.inr (.inl 69)), none, none, none, none, none, none], sy_dS F1 [], sy_dh F1 X1 X2 (iv_H 4), 0, 0)) :
    hd_W Ls xs d jm_M142 Q (85, sy_dL F [some (.inl (.ref 1000)), some (.inr (.inl 69)), none, some (.inr (.inl 70)), some (.inr (.inr 71)), none, none, none], sy_dS F [], sy_dh F X1 X2 (iv_H 4), 0, 0) := by
  refine hd_run (s := 4) (nv := 72) (pc := 7) (L := [some (.inl (.ref 1000)), some (.inr (.inl 69)), none, none, none, none, none, none]) (S := []) (uh := hd_ov (iv_id 0 iv_B4) [(3, .inl (.inr (.inl 79))), (25, .inr (.inr (.inl 75))), (26, .inr (.inr (.inl 76))), (27, .inr (.inr (.inl 77))), (28, .inr (.inr (.inr 78)))]) (ul := [.inl (.inr (.inl 80))]) (f := true) (sp := [7, 85, 146]) (d0 := 3) (O := [false, true, false, true]) (T := [(0, [.inr (.inl 69), .inr (.inl 70)], []), (30, [.inr (.inl 72)], [.inr (.inl 24)]), (3, [.inr (.inl 73), .inl (.int 255)], []), (40, [.inr (.inl 3), .inl (.int 3)], [.inr (.inl 25)]), (40, [.inr (.inl 3), .inr (.inl 69)], [.inr (.inl 26)]), (40, [.inr (.inl 3), .inl (.int 0)], [.inr (.inl 27)]), (40, [.inr (.inl 3), .inr (.inr 71)], [.inr (.inr 28)]), (0, [.inr (.inl 3), .inl (.int 1)], []), (0, [.inr (.inl 69), .inr (.inl 70)], [])]) (P := [(5, .inr (.inl 2), .inr (.inl 72)), (6, .inr (.inl 72), .inl (.ref 2000)), (2, .inr (.inl 74), .inl (.int 97)), (5, .inr (.inl 70), .inl (.int 8)), (2, .inl (.int 8), .inr (.inl 70)), (6, .inr (.inl 3), .inl (.ref 403)), (6, .inr (.inl 3), .inl (.ref 403)), (6, .inr (.inl 3), .inl (.ref 403)), (6, .inr (.inl 3), .inl (.ref 403))]) jm_ok142 (by decide +kernel) (by decide +kernel) hd F X1 X2 (fun F' hF hs => ?_)
  have b2 := hd_b (F := F) (F' := F') (k := 2) (hF 2 (by decide))
  have b69 := hd_b (F := F) (F' := F') (k := 69) (hF 69 (by decide))
  have b70 := hd_b (F := F) (F' := F') (k := 70) (hF 70 (by decide))
  have t72 : sy_dv F' (.inr (.inl 72)) = .int ((sy_i F 69) + (sy_i F 70)) := hd_o (hs 0 _ rfl) b69 b70 rfl
  have a24 := hd_ba (F := F) (F' := F') (k := 24) (hF 24 (by decide))
  have t73 : sy_dv F' (.inr (.inl 73)) = .int ((sy_ai F 24).getD ((sy_i F 69) + (sy_i F 70)).toNatClampNeg 0) := hd_rd (hs 1 _ rfl) t72 a24
  have t74 : sy_dv F' (.inr (.inl 74)) = .int (((sy_ai F 24).getD ((sy_i F 69) + (sy_i F 70)).toNatClampNeg 0) &&& ((255 : Int32))) := hd_o (hs 2 _ rfl) t73 rfl rfl
  have b3 := hd_b (F := F) (F' := F') (k := 3) (hF 3 (by decide))
  have t79 : sy_dv F' (.inr (.inl 79)) = .int ((sy_i F 3) + ((1 : Int32))) := hd_o (hs 7 _ rfl) b3 rfl rfl
  have a25 := hd_ba (F := F) (F' := F') (k := 25) (hF 25 (by decide))
  have t75 : sy_da F' (.inr (.inl 75)) = .inl (jm_upd (sy_ai F 25) (sy_i F 3).toNatClampNeg ((3 : Int32))) := hd_up (hs 3 _ rfl) b3 rfl a25
  have a26 := hd_ba (F := F) (F' := F') (k := 26) (hF 26 (by decide))
  have t76 : sy_da F' (.inr (.inl 76)) = .inl (jm_upd (sy_ai F 26) (sy_i F 3).toNatClampNeg (sy_i F 69)) := hd_up (hs 4 _ rfl) b3 b69 a26
  have a27 := hd_ba (F := F) (F' := F') (k := 27) (hF 27 (by decide))
  have t77 : sy_da F' (.inr (.inl 77)) = .inl (jm_upd (sy_ai F 27) (sy_i F 3).toNatClampNeg ((0 : Int32))) := hd_up (hs 5 _ rfl) b3 rfl a27
  have b71 := hd_bl (F := F) (F' := F') (k := 71) (hF 71 (by decide))
  have a28 := hd_bA (F := F) (F' := F') (k := 28) (hF 28 (by decide))
  have t78 : sy_da F' (.inr (.inr 78)) = .inr (jm_updL (sy_al F 28) (sy_i F 3).toNatClampNeg (sy_l F 71)) := hd_uA (hs 6 _ rfl) b3 b71 a28
  have t80 : sy_dv F' (.inr (.inl 80)) = .int ((sy_i F 69) + (sy_i F 70)) := hd_o (hs 8 _ rfl) b69 b70 rfl
  have hB' : iv_in F' iv_B4 := iv_in_eq hB (fun j hj => hF j (Nat.lt_of_lt_of_le hj (by decide +kernel)))
  refine ⟨List.forall_mem_cons.mpr ⟨hd_p5 b2 t72 h0, List.forall_mem_cons.mpr ⟨hd_pb t72 (by first | exact h1 | exact h1), List.forall_mem_cons.mpr ⟨hd_p2 t74 rfl (by have hc : ((97) : Int32).toInt = 97 := (by decide); omega), List.forall_mem_cons.mpr ⟨hd_p5 b70 rfl (by have hc : ((8) : Int32).toInt = 8 := (by decide); omega), List.forall_mem_cons.mpr ⟨hd_p2 rfl b70 (by have hc : ((8) : Int32).toInt = 8 := (by decide); omega), List.forall_mem_cons.mpr ⟨hd_pb b3 (by first | exact h5 | exact h5), List.forall_mem_cons.mpr ⟨hd_pb b3 (by first | exact h6 | exact h6), List.forall_mem_cons.mpr ⟨hd_pb b3 (by first | exact h7 | exact h7), List.forall_mem_cons.mpr ⟨hd_pb b3 (by first | exact h8 | exact h8), fun _ h => absurd h List.not_mem_nil⟩⟩⟩⟩⟩⟩⟩⟩⟩, ?_⟩
  refine k _ ?_ ?_ ?_ ?_ ?_ ?_ ?_
  · exact fun j hj hn => (hd_keep hB' (Nat.lt_of_lt_of_le hj (by decide +kernel)) (by simp; omega)).trans (hF j (Nat.lt_of_lt_of_le hj (by decide)))
  · exact hd_gi (x := .inr (.inl 79)) (by decide +kernel) t79
  · exact hd_ga (a := .inr (.inl 75)) (by decide +kernel) t75
  · exact hd_ga (a := .inr (.inl 76)) (by decide +kernel) t76
  · exact hd_ga (a := .inr (.inl 77)) (by decide +kernel) t77
  · exact hd_gA (a := .inr (.inr 78)) (by decide +kernel) t78
  · exact hd_gi (x := .inr (.inl 80)) (by decide +kernel) t80
theorem rc_85_p4 {Ls : Nat} {xs : Nat → Int32} {d : Nat} {Q : Option Value → jm_h → Prop} (hd : 4 ≤ d) (F : Nat → sy_d) (X1 X2 : List jm_c) (hB : iv_in F iv_B4)
    (h0 : ((sy_i F 69) + (sy_i F 70)).toInt < (sy_i F 2).toInt)
    (h1 : 0 ≤ ((sy_i F 69) + (sy_i F 70)).toInt ∧ ((sy_i F 69) + (sy_i F 70)).toInt < 2000)
    (h2 : 97 ≤ (((sy_ai F 24).getD ((sy_i F 69) + (sy_i F 70)).toNatClampNeg 0) &&& ((255 : Int32))).toInt)
    (h3 : 122 < (((sy_ai F 24).getD ((sy_i F 69) + (sy_i F 70)).toNatClampNeg 0) &&& ((255 : Int32))).toInt)
    (h4 : (sy_i F 70).toInt ≤ 8)
    (h5 : (sy_i F 70).toInt ≤ 8)
    (k : ∀ F1 : Nat → sy_d, (∀ j, j < 69 → True → F1 j = F j) → F1 69 = .inl (.int (sy_i F 69)) → F1 70 = .inl (.int (sy_i F 70)) → F1 71 = .inl (.long (sy_l F 71)) → F1 72 = .inl (.int ((1 : Int32))) → F1 73 = .inl (.int ((0 : Int32))) → hd_W Ls xs d jm_M142 Q (146, sy_dL F1 [some (.inl (.ref 1000)), some (.inr (.inl 69)), none, some (.inr (.inl 70)), some (.inr (.inr 71)), none, some (.inr (.inl 72)), some (.inr (.inl 73))], sy_dS F1 [], sy_dh F1 X1 X2 (iv_H 4), 0, 0)) :
    hd_W Ls xs d jm_M142 Q (85, sy_dL F [some (.inl (.ref 1000)), some (.inr (.inl 69)), none, some (.inr (.inl 70)), some (.inr (.inr 71)), none, none, none], sy_dS F [], sy_dh F X1 X2 (iv_H 4), 0, 0) := by
  refine hd_run (s := 4) (nv := 72) (pc := 146) (L := [some (.inl (.ref 1000)), some (.inr (.inl 69)), none, some (.inr (.inl 70)), some (.inr (.inr 71)), none, some (.inr (.inl 72)), some (.inr (.inl 73))]) (S := []) (uh := hd_ov (iv_id 0 iv_B4) []) (ul := [.inl (.inr (.inl 69)), .inl (.inr (.inl 70)), .inl (.inr (.inr 71)), .inl (.inl (.int 1)), .inl (.inl (.int 0))]) (f := true) (sp := [7, 85, 146]) (d0 := 3) (O := [false, false, true, true, false]) (T := [(0, [.inr (.inl 69), .inr (.inl 70)], []), (30, [.inr (.inl 72)], [.inr (.inl 24)]), (3, [.inr (.inl 73), .inl (.int 255)], [])]) (P := [(5, .inr (.inl 2), .inr (.inl 72)), (6, .inr (.inl 72), .inl (.ref 2000)), (3, .inr (.inl 74), .inl (.int 97)), (2, .inl (.int 122), .inr (.inl 74)), (4, .inr (.inl 70), .inl (.int 8)), (3, .inl (.int 8), .inr (.inl 70))]) jm_ok142 (by decide +kernel) (by decide +kernel) hd F X1 X2 (fun F' hF hs => ?_)
  have b2 := hd_b (F := F) (F' := F') (k := 2) (hF 2 (by decide))
  have b69 := hd_b (F := F) (F' := F') (k := 69) (hF 69 (by decide))
  have b70 := hd_b (F := F) (F' := F') (k := 70) (hF 70 (by decide))
  have t72 : sy_dv F' (.inr (.inl 72)) = .int ((sy_i F 69) + (sy_i F 70)) := hd_o (hs 0 _ rfl) b69 b70 rfl
  have a24 := hd_ba (F := F) (F' := F') (k := 24) (hF 24 (by decide))
  have t73 : sy_dv F' (.inr (.inl 73)) = .int ((sy_ai F 24).getD ((sy_i F 69) + (sy_i F 70)).toNatClampNeg 0) := hd_rd (hs 1 _ rfl) t72 a24
  have t74 : sy_dv F' (.inr (.inl 74)) = .int (((sy_ai F 24).getD ((sy_i F 69) + (sy_i F 70)).toNatClampNeg 0) &&& ((255 : Int32))) := hd_o (hs 2 _ rfl) t73 rfl rfl
  have b71 := hd_bl (F := F) (F' := F') (k := 71) (hF 71 (by decide))
  have hB' : iv_in F' iv_B4 := iv_in_eq hB (fun j hj => hF j (Nat.lt_of_lt_of_le hj (by decide +kernel)))
  refine ⟨List.forall_mem_cons.mpr ⟨hd_p5 b2 t72 h0, List.forall_mem_cons.mpr ⟨hd_pb t72 (by first | exact h1 | exact h1), List.forall_mem_cons.mpr ⟨hd_p3 t74 rfl (by have hc : ((97) : Int32).toInt = 97 := (by decide); omega), List.forall_mem_cons.mpr ⟨hd_p2 rfl t74 (by have hc : ((122) : Int32).toInt = 122 := (by decide); omega), List.forall_mem_cons.mpr ⟨hd_p4 b70 rfl (by have hc : ((8) : Int32).toInt = 8 := (by decide); omega), List.forall_mem_cons.mpr ⟨hd_p3 rfl b70 (by have hc : ((8) : Int32).toInt = 8 := (by decide); omega), fun _ h => absurd h List.not_mem_nil⟩⟩⟩⟩⟩⟩, ?_⟩
  refine k _ ?_ ?_ ?_ ?_ ?_ ?_
  · exact fun j hj _ => (hd_keep hB' (Nat.lt_of_lt_of_le hj (by decide +kernel)) (by simp)).trans (hF j (Nat.lt_of_lt_of_le hj (by decide)))
  · exact hd_gi (x := .inr (.inl 69)) (by decide +kernel) b69
  · exact hd_gi (x := .inr (.inl 70)) (by decide +kernel) b70
  · exact hd_gl (x := .inr (.inr 71)) (by decide +kernel) b71
  · exact hd_gi (x := .inl (.int 1)) (by decide +kernel) rfl
  · exact hd_gi (x := .inl (.int 0)) (by decide +kernel) rfl
theorem rc_85_p5 {Ls : Nat} {xs : Nat → Int32} {d : Nat} {Q : Option Value → jm_h → Prop} (hd : 4 ≤ d) (F : Nat → sy_d) (X1 X2 : List jm_c) (hB : iv_in F iv_B4)
    (h0 : ((sy_i F 69) + (sy_i F 70)).toInt < (sy_i F 2).toInt)
    (h1 : 0 ≤ ((sy_i F 69) + (sy_i F 70)).toInt ∧ ((sy_i F 69) + (sy_i F 70)).toInt < 2000)
    (h2 : 97 ≤ (((sy_ai F 24).getD ((sy_i F 69) + (sy_i F 70)).toNatClampNeg 0) &&& ((255 : Int32))).toInt)
    (h3 : 122 < (((sy_ai F 24).getD ((sy_i F 69) + (sy_i F 70)).toNatClampNeg 0) &&& ((255 : Int32))).toInt)
    (h4 : 8 < (sy_i F 70).toInt)
    (h5 : 8 < (sy_i F 70).toInt)
    (h6 : 0 ≤ (sy_i F 3).toInt ∧ (sy_i F 3).toInt < 403)
    (h7 : 0 ≤ (sy_i F 3).toInt ∧ (sy_i F 3).toInt < 403)
    (h8 : 0 ≤ (sy_i F 3).toInt ∧ (sy_i F 3).toInt < 403)
    (h9 : 0 ≤ (sy_i F 3).toInt ∧ (sy_i F 3).toInt < 403)
    (k : ∀ F1 : Nat → sy_d, (∀ j, j < 69 → j ≠ 3 ∧ j ≠ 25 ∧ j ≠ 26 ∧ j ≠ 27 ∧ j ≠ 28 → F1 j = F j) → F1 3 = .inl (.int ((sy_i F 3) + ((1 : Int32)))) → F1 25 = .inr (.inl (jm_upd (sy_ai F 25) (sy_i F 3).toNatClampNeg ((3 : Int32)))) → F1 26 = .inr (.inl (jm_upd (sy_ai F 26) (sy_i F 3).toNatClampNeg (sy_i F 69))) → F1 27 = .inr (.inl (jm_upd (sy_ai F 27) (sy_i F 3).toNatClampNeg ((0 : Int32)))) → F1 28 = .inr (.inr (jm_updL (sy_al F 28) (sy_i F 3).toNatClampNeg (sy_l F 71))) → F1 69 = .inl (.int ((sy_i F 69) + (sy_i F 70))) → hd_W Ls xs d jm_M142 Q (7, sy_dL F1 [some (.inl (.ref 1000)), some (.inr (.inl 69)), none, none, none, none, none, none], sy_dS F1 [], sy_dh F1 X1 X2 (iv_H 4), 0, 0)) :
    hd_W Ls xs d jm_M142 Q (85, sy_dL F [some (.inl (.ref 1000)), some (.inr (.inl 69)), none, some (.inr (.inl 70)), some (.inr (.inr 71)), none, none, none], sy_dS F [], sy_dh F X1 X2 (iv_H 4), 0, 0) := by
  refine hd_run (s := 4) (nv := 72) (pc := 7) (L := [some (.inl (.ref 1000)), some (.inr (.inl 69)), none, none, none, none, none, none]) (S := []) (uh := hd_ov (iv_id 0 iv_B4) [(3, .inl (.inr (.inl 79))), (25, .inr (.inr (.inl 75))), (26, .inr (.inr (.inl 76))), (27, .inr (.inr (.inl 77))), (28, .inr (.inr (.inr 78)))]) (ul := [.inl (.inr (.inl 80))]) (f := true) (sp := [7, 85, 146]) (d0 := 3) (O := [false, false, true, false, true]) (T := [(0, [.inr (.inl 69), .inr (.inl 70)], []), (30, [.inr (.inl 72)], [.inr (.inl 24)]), (3, [.inr (.inl 73), .inl (.int 255)], []), (40, [.inr (.inl 3), .inl (.int 3)], [.inr (.inl 25)]), (40, [.inr (.inl 3), .inr (.inl 69)], [.inr (.inl 26)]), (40, [.inr (.inl 3), .inl (.int 0)], [.inr (.inl 27)]), (40, [.inr (.inl 3), .inr (.inr 71)], [.inr (.inr 28)]), (0, [.inr (.inl 3), .inl (.int 1)], []), (0, [.inr (.inl 69), .inr (.inl 70)], [])]) (P := [(5, .inr (.inl 2), .inr (.inl 72)), (6, .inr (.inl 72), .inl (.ref 2000)), (3, .inr (.inl 74), .inl (.int 97)), (2, .inl (.int 122), .inr (.inl 74)), (5, .inr (.inl 70), .inl (.int 8)), (2, .inl (.int 8), .inr (.inl 70)), (6, .inr (.inl 3), .inl (.ref 403)), (6, .inr (.inl 3), .inl (.ref 403)), (6, .inr (.inl 3), .inl (.ref 403)), (6, .inr (.inl 3), .inl (.ref 403))]) jm_ok142 (by decide +kernel) (by decide +kernel) hd F X1 X2 (fun F' hF hs => ?_)
  have b2 := hd_b (F := F) (F' := F') (k := 2) (hF 2 (by decide))
  have b69 := hd_b (F := F) (F' := F') (k := 69) (hF 69 (by decide))
  have b70 := hd_b (F := F) (F' := F') (k := 70) (hF 70 (by decide))
  have t72 : sy_dv F' (.inr (.inl 72)) = .int ((sy_i F 69) + (sy_i F 70)) := hd_o (hs 0 _ rfl) b69 b70 rfl
  have a24 := hd_ba (F := F) (F' := F') (k := 24) (hF 24 (by decide))
  have t73 : sy_dv F' (.inr (.inl 73)) = .int ((sy_ai F 24).getD ((sy_i F 69) + (sy_i F 70)).toNatClampNeg 0) := hd_rd (hs 1 _ rfl) t72 a24
  have t74 : sy_dv F' (.inr (.inl 74)) = .int (((sy_ai F 24).getD ((sy_i F 69) + (sy_i F 70)).toNatClampNeg 0) &&& ((255 : Int32))) := hd_o (hs 2 _ rfl) t73 rfl rfl
  have b3 := hd_b (F := F) (F' := F') (k := 3) (hF 3 (by decide))
  have t79 : sy_dv F' (.inr (.inl 79)) = .int ((sy_i F 3) + ((1 : Int32))) := hd_o (hs 7 _ rfl) b3 rfl rfl
  have a25 := hd_ba (F := F) (F' := F') (k := 25) (hF 25 (by decide))
  have t75 : sy_da F' (.inr (.inl 75)) = .inl (jm_upd (sy_ai F 25) (sy_i F 3).toNatClampNeg ((3 : Int32))) := hd_up (hs 3 _ rfl) b3 rfl a25
  have a26 := hd_ba (F := F) (F' := F') (k := 26) (hF 26 (by decide))
  have t76 : sy_da F' (.inr (.inl 76)) = .inl (jm_upd (sy_ai F 26) (sy_i F 3).toNatClampNeg (sy_i F 69)) := hd_up (hs 4 _ rfl) b3 b69 a26
  have a27 := hd_ba (F := F) (F' := F') (k := 27) (hF 27 (by decide))
  have t77 : sy_da F' (.inr (.inl 77)) = .inl (jm_upd (sy_ai F 27) (sy_i F 3).toNatClampNeg ((0 : Int32))) := hd_up (hs 5 _ rfl) b3 rfl a27
  have b71 := hd_bl (F := F) (F' := F') (k := 71) (hF 71 (by decide))
  have a28 := hd_bA (F := F) (F' := F') (k := 28) (hF 28 (by decide))
  have t78 : sy_da F' (.inr (.inr 78)) = .inr (jm_updL (sy_al F 28) (sy_i F 3).toNatClampNeg (sy_l F 71)) := hd_uA (hs 6 _ rfl) b3 b71 a28
  have t80 : sy_dv F' (.inr (.inl 80)) = .int ((sy_i F 69) + (sy_i F 70)) := hd_o (hs 8 _ rfl) b69 b70 rfl
  have hB' : iv_in F' iv_B4 := iv_in_eq hB (fun j hj => hF j (Nat.lt_of_lt_of_le hj (by decide +kernel)))
  refine ⟨List.forall_mem_cons.mpr ⟨hd_p5 b2 t72 h0, List.forall_mem_cons.mpr ⟨hd_pb t72 (by first | exact h1 | exact h1), List.forall_mem_cons.mpr ⟨hd_p3 t74 rfl (by have hc : ((97) : Int32).toInt = 97 := (by decide); omega), List.forall_mem_cons.mpr ⟨hd_p2 rfl t74 (by have hc : ((122) : Int32).toInt = 122 := (by decide); omega), List.forall_mem_cons.mpr ⟨hd_p5 b70 rfl (by have hc : ((8) : Int32).toInt = 8 := (by decide); omega), List.forall_mem_cons.mpr ⟨hd_p2 rfl b70 (by have hc : ((8) : Int32).toInt = 8 := (by decide); omega), List.forall_mem_cons.mpr ⟨hd_pb b3 (by first | exact h6 | exact h6), List.forall_mem_cons.mpr ⟨hd_pb b3 (by first | exact h7 | exact h7), List.forall_mem_cons.mpr ⟨hd_pb b3 (by first | exact h8 | exact h8), List.forall_mem_cons.mpr ⟨hd_pb b3 (by first | exact h9 | exact h9), fun _ h => absurd h List.not_mem_nil⟩⟩⟩⟩⟩⟩⟩⟩⟩⟩, ?_⟩
  refine k _ ?_ ?_ ?_ ?_ ?_ ?_ ?_
  · exact fun j hj hn => (hd_keep hB' (Nat.lt_of_lt_of_le hj (by decide +kernel)) (by simp; omega)).trans (hF j (Nat.lt_of_lt_of_le hj (by decide)))
  · exact hd_gi (x := .inr (.inl 79)) (by decide +kernel) t79
  · exact hd_ga (a := .inr (.inl 75)) (by decide +kernel) t75
  · exact hd_ga (a := .inr (.inl 76)) (by decide +kernel) t76
  · exact hd_ga (a := .inr (.inl 77)) (by decide +kernel) t77
  · exact hd_gA (a := .inr (.inr 78)) (by decide +kernel) t78
  · exact hd_gi (x := .inr (.inl 80)) (by decide +kernel) t80
theorem rc_85_p6 {Ls : Nat} {xs : Nat → Int32} {d : Nat} {Q : Option Value → jm_h → Prop} (hd : 4 ≤ d) (F : Nat → sy_d) (X1 X2 : List jm_c) (hB : iv_in F iv_B4)
    (h0 : ((sy_i F 69) + (sy_i F 70)).toInt < (sy_i F 2).toInt)
    (h1 : 0 ≤ ((sy_i F 69) + (sy_i F 70)).toInt ∧ ((sy_i F 69) + (sy_i F 70)).toInt < 2000)
    (h2 : 97 ≤ (((sy_ai F 24).getD ((sy_i F 69) + (sy_i F 70)).toNatClampNeg 0) &&& ((255 : Int32))).toInt)
    (h3 : (((sy_ai F 24).getD ((sy_i F 69) + (sy_i F 70)).toNatClampNeg 0) &&& ((255 : Int32))).toInt ≤ 122)
    (h4 : 8 ≤ (sy_i F 70).toInt)
    (k : ∀ F1 : Nat → sy_d, (∀ j, j < 69 → True → F1 j = F j) → F1 69 = .inl (.int (sy_i F 69)) → F1 70 = .inl (.int ((sy_i F 70) + ((1 : Int32)))) → F1 71 = .inl (.long (sy_l F 71)) → hd_W Ls xs d jm_M142 Q (85, sy_dL F1 [some (.inl (.ref 1000)), some (.inr (.inl 69)), none, some (.inr (.inl 70)), some (.inr (.inr 71)), none, none, none], sy_dS F1 [], sy_dh F1 X1 X2 (iv_H 4), 0, 0)) :
    hd_W Ls xs d jm_M142 Q (85, sy_dL F [some (.inl (.ref 1000)), some (.inr (.inl 69)), none, some (.inr (.inl 70)), some (.inr (.inr 71)), none, none, none], sy_dS F [], sy_dh F X1 X2 (iv_H 4), 0, 0) := by
  refine hd_run (s := 4) (nv := 72) (pc := 85) (L := [some (.inl (.ref 1000)), some (.inr (.inl 69)), none, some (.inr (.inl 70)), some (.inr (.inr 71)), none, none, none]) (S := []) (uh := hd_ov (iv_id 0 iv_B4) []) (ul := [.inl (.inr (.inl 69)), .inl (.inr (.inl 75)), .inl (.inr (.inr 71))]) (f := true) (sp := [7, 85, 146]) (d0 := 3) (O := [false, false, false, true]) (T := [(0, [.inr (.inl 69), .inr (.inl 70)], []), (30, [.inr (.inl 72)], [.inr (.inl 24)]), (3, [.inr (.inl 73), .inl (.int 255)], []), (0, [.inr (.inl 70), .inl (.int 1)], [])]) (P := [(5, .inr (.inl 2), .inr (.inl 72)), (6, .inr (.inl 72), .inl (.ref 2000)), (3, .inr (.inl 74), .inl (.int 97)), (3, .inl (.int 122), .inr (.inl 74)), (4, .inl (.int 8), .inr (.inl 70))]) jm_ok142 (by decide +kernel) (by decide +kernel) hd F X1 X2 (fun F' hF hs => ?_)
  have b2 := hd_b (F := F) (F' := F') (k := 2) (hF 2 (by decide))
  have b69 := hd_b (F := F) (F' := F') (k := 69) (hF 69 (by decide))
  have b70 := hd_b (F := F) (F' := F') (k := 70) (hF 70 (by decide))
  have t72 : sy_dv F' (.inr (.inl 72)) = .int ((sy_i F 69) + (sy_i F 70)) := hd_o (hs 0 _ rfl) b69 b70 rfl
  have a24 := hd_ba (F := F) (F' := F') (k := 24) (hF 24 (by decide))
  have t73 : sy_dv F' (.inr (.inl 73)) = .int ((sy_ai F 24).getD ((sy_i F 69) + (sy_i F 70)).toNatClampNeg 0) := hd_rd (hs 1 _ rfl) t72 a24
  have t74 : sy_dv F' (.inr (.inl 74)) = .int (((sy_ai F 24).getD ((sy_i F 69) + (sy_i F 70)).toNatClampNeg 0) &&& ((255 : Int32))) := hd_o (hs 2 _ rfl) t73 rfl rfl
  have t75 : sy_dv F' (.inr (.inl 75)) = .int ((sy_i F 70) + ((1 : Int32))) := hd_o (hs 3 _ rfl) b70 rfl rfl
  have b71 := hd_bl (F := F) (F' := F') (k := 71) (hF 71 (by decide))
  have hB' : iv_in F' iv_B4 := iv_in_eq hB (fun j hj => hF j (Nat.lt_of_lt_of_le hj (by decide +kernel)))
  refine ⟨List.forall_mem_cons.mpr ⟨hd_p5 b2 t72 h0, List.forall_mem_cons.mpr ⟨hd_pb t72 (by first | exact h1 | exact h1), List.forall_mem_cons.mpr ⟨hd_p3 t74 rfl (by have hc : ((97) : Int32).toInt = 97 := (by decide); omega), List.forall_mem_cons.mpr ⟨hd_p3 rfl t74 (by have hc : ((122) : Int32).toInt = 122 := (by decide); omega), List.forall_mem_cons.mpr ⟨hd_p4 rfl b70 (by have hc : ((8) : Int32).toInt = 8 := (by decide); omega), fun _ h => absurd h List.not_mem_nil⟩⟩⟩⟩⟩, ?_⟩
  refine k _ ?_ ?_ ?_ ?_
  · exact fun j hj _ => (hd_keep hB' (Nat.lt_of_lt_of_le hj (by decide +kernel)) (by simp)).trans (hF j (Nat.lt_of_lt_of_le hj (by decide)))
  · exact hd_gi (x := .inr (.inl 69)) (by decide +kernel) b69
  · exact hd_gi (x := .inr (.inl 75)) (by decide +kernel) t75
  · exact hd_gl (x := .inr (.inr 71)) (by decide +kernel) b71
theorem rc_85_p7 {Ls : Nat} {xs : Nat → Int32} {d : Nat} {Q : Option Value → jm_h → Prop} (hd : 4 ≤ d) (F : Nat → sy_d) (X1 X2 : List jm_c) (hB : iv_in F iv_B4)
    (h0 : ((sy_i F 69) + (sy_i F 70)).toInt < (sy_i F 2).toInt)
    (h1 : 0 ≤ ((sy_i F 69) + (sy_i F 70)).toInt ∧ ((sy_i F 69) + (sy_i F 70)).toInt < 2000)
    (h2 : 97 ≤ (((sy_ai F 24).getD ((sy_i F 69) + (sy_i F 70)).toNatClampNeg 0) &&& ((255 : Int32))).toInt)
    (h3 : (((sy_ai F 24).getD ((sy_i F 69) + (sy_i F 70)).toNatClampNeg 0) &&& ((255 : Int32))).toInt ≤ 122)
    (h4 : (sy_i F 70).toInt < 8)
    (h5 : (sy_i F 2).toInt ≤ ((sy_i F 69) + (sy_i F 70)).toInt)
    (k : ∀ F1 : Nat → sy_d, (∀ j, j < 69 → True → F1 j = F j) → F1 69 = .inl (.int (sy_i F 69)) → F1 70 = .inl (.int ((sy_i F 70) + ((1 : Int32)))) → F1 71 = .inl (.long (sy_l F 71)) → hd_W Ls xs d jm_M142 Q (85, sy_dL F1 [some (.inl (.ref 1000)), some (.inr (.inl 69)), none, some (.inr (.inl 70)), some (.inr (.inr 71)), none, none, none], sy_dS F1 [], sy_dh F1 X1 X2 (iv_H 4), 0, 0)) :
    hd_W Ls xs d jm_M142 Q (85, sy_dL F [some (.inl (.ref 1000)), some (.inr (.inl 69)), none, some (.inr (.inl 70)), some (.inr (.inr 71)), none, none, none], sy_dS F [], sy_dh F X1 X2 (iv_H 4), 0, 0) := by
  refine hd_run (s := 4) (nv := 72) (pc := 85) (L := [some (.inl (.ref 1000)), some (.inr (.inl 69)), none, some (.inr (.inl 70)), some (.inr (.inr 71)), none, none, none]) (S := []) (uh := hd_ov (iv_id 0 iv_B4) []) (ul := [.inl (.inr (.inl 69)), .inl (.inr (.inl 76)), .inl (.inr (.inr 71))]) (f := true) (sp := [7, 85, 146]) (d0 := 3) (O := [false, false, false, false, true]) (T := [(0, [.inr (.inl 69), .inr (.inl 70)], []), (30, [.inr (.inl 72)], [.inr (.inl 24)]), (3, [.inr (.inl 73), .inl (.int 255)], []), (0, [.inr (.inl 69), .inr (.inl 70)], []), (0, [.inr (.inl 70), .inl (.int 1)], [])]) (P := [(5, .inr (.inl 2), .inr (.inl 72)), (6, .inr (.inl 72), .inl (.ref 2000)), (3, .inr (.inl 74), .inl (.int 97)), (3, .inl (.int 122), .inr (.inl 74)), (5, .inl (.int 8), .inr (.inl 70)), (4, .inr (.inl 2), .inr (.inl 75))]) jm_ok142 (by decide +kernel) (by decide +kernel) hd F X1 X2 (fun F' hF hs => ?_)
  have b2 := hd_b (F := F) (F' := F') (k := 2) (hF 2 (by decide))
  have b69 := hd_b (F := F) (F' := F') (k := 69) (hF 69 (by decide))
  have b70 := hd_b (F := F) (F' := F') (k := 70) (hF 70 (by decide))
  have t72 : sy_dv F' (.inr (.inl 72)) = .int ((sy_i F 69) + (sy_i F 70)) := hd_o (hs 0 _ rfl) b69 b70 rfl
  have a24 := hd_ba (F := F) (F' := F') (k := 24) (hF 24 (by decide))
  have t73 : sy_dv F' (.inr (.inl 73)) = .int ((sy_ai F 24).getD ((sy_i F 69) + (sy_i F 70)).toNatClampNeg 0) := hd_rd (hs 1 _ rfl) t72 a24
  have t74 : sy_dv F' (.inr (.inl 74)) = .int (((sy_ai F 24).getD ((sy_i F 69) + (sy_i F 70)).toNatClampNeg 0) &&& ((255 : Int32))) := hd_o (hs 2 _ rfl) t73 rfl rfl
  have t75 : sy_dv F' (.inr (.inl 75)) = .int ((sy_i F 69) + (sy_i F 70)) := hd_o (hs 3 _ rfl) b69 b70 rfl
  have t76 : sy_dv F' (.inr (.inl 76)) = .int ((sy_i F 70) + ((1 : Int32))) := hd_o (hs 4 _ rfl) b70 rfl rfl
  have b71 := hd_bl (F := F) (F' := F') (k := 71) (hF 71 (by decide))
  have hB' : iv_in F' iv_B4 := iv_in_eq hB (fun j hj => hF j (Nat.lt_of_lt_of_le hj (by decide +kernel)))
  refine ⟨List.forall_mem_cons.mpr ⟨hd_p5 b2 t72 h0, List.forall_mem_cons.mpr ⟨hd_pb t72 (by first | exact h1 | exact h1), List.forall_mem_cons.mpr ⟨hd_p3 t74 rfl (by have hc : ((97) : Int32).toInt = 97 := (by decide); omega), List.forall_mem_cons.mpr ⟨hd_p3 rfl t74 (by have hc : ((122) : Int32).toInt = 122 := (by decide); omega), List.forall_mem_cons.mpr ⟨hd_p5 rfl b70 (by have hc : ((8) : Int32).toInt = 8 := (by decide); omega), List.forall_mem_cons.mpr ⟨hd_p4 b2 t75 h5, fun _ h => absurd h List.not_mem_nil⟩⟩⟩⟩⟩⟩, ?_⟩
  refine k _ ?_ ?_ ?_ ?_
  · exact fun j hj _ => (hd_keep hB' (Nat.lt_of_lt_of_le hj (by decide +kernel)) (by simp)).trans (hF j (Nat.lt_of_lt_of_le hj (by decide)))
  · exact hd_gi (x := .inr (.inl 69)) (by decide +kernel) b69
  · exact hd_gi (x := .inr (.inl 76)) (by decide +kernel) t76
  · exact hd_gl (x := .inr (.inr 71)) (by decide +kernel) b71
theorem rc_85_p8 {Ls : Nat} {xs : Nat → Int32} {d : Nat} {Q : Option Value → jm_h → Prop} (hd : 4 ≤ d) (F : Nat → sy_d) (X1 X2 : List jm_c) (hB : iv_in F iv_B4)
    (h0 : ((sy_i F 69) + (sy_i F 70)).toInt < (sy_i F 2).toInt)
    (h1 : 0 ≤ ((sy_i F 69) + (sy_i F 70)).toInt ∧ ((sy_i F 69) + (sy_i F 70)).toInt < 2000)
    (h2 : 97 ≤ (((sy_ai F 24).getD ((sy_i F 69) + (sy_i F 70)).toNatClampNeg 0) &&& ((255 : Int32))).toInt)
    (h3 : (((sy_ai F 24).getD ((sy_i F 69) + (sy_i F 70)).toNatClampNeg 0) &&& ((255 : Int32))).toInt ≤ 122)
    (h4 : (sy_i F 70).toInt < 8)
    (h5 : ((sy_i F 69) + (sy_i F 70)).toInt < (sy_i F 2).toInt)
    (h6 : 0 ≤ ((sy_i F 69) + (sy_i F 70)).toInt ∧ ((sy_i F 69) + (sy_i F 70)).toInt < 2000)
    (h7 : (((sy_ai F 24).getD ((sy_i F 69) + (sy_i F 70)).toNatClampNeg 0) &&& ((255 : Int32))).toInt ≠ 0)
    (k : ∀ F1 : Nat → sy_d, (∀ j, j < 69 → True → F1 j = F j) → F1 69 = .inl (.int (sy_i F 69)) → F1 70 = .inl (.int ((sy_i F 70) + ((1 : Int32)))) → F1 71 = .inl (.long ((((27 : Int64)) * (sy_l F 71)) + ((((((sy_ai F 24).getD ((sy_i F 69) + (sy_i F 70)).toNatClampNeg 0) &&& ((255 : Int32))) - ((97 : Int32))) + ((1 : Int32))).toInt64))) → hd_W Ls xs d jm_M142 Q (85, sy_dL F1 [some (.inl (.ref 1000)), some (.inr (.inl 69)), none, some (.inr (.inl 70)), some (.inr (.inr 71)), none, none, none], sy_dS F1 [], sy_dh F1 X1 X2 (iv_H 4), 0, 0)) :
    hd_W Ls xs d jm_M142 Q (85, sy_dL F [some (.inl (.ref 1000)), some (.inr (.inl 69)), none, some (.inr (.inl 70)), some (.inr (.inr 71)), none, none, none], sy_dS F [], sy_dh F X1 X2 (iv_H 4), 0, 0) := by
  refine hd_run (s := 4) (nv := 72) (pc := 85) (L := [some (.inl (.ref 1000)), some (.inr (.inl 69)), none, some (.inr (.inl 70)), some (.inr (.inr 71)), none, none, none]) (S := []) (uh := hd_ov (iv_id 0 iv_B4) []) (ul := [.inl (.inr (.inl 69)), .inl (.inr (.inl 83)), .inl (.inr (.inr 82))]) (f := true) (sp := [7, 85, 146]) (d0 := 3) (O := [false, false, false, false, false, true]) (T := [(0, [.inr (.inl 69), .inr (.inl 70)], []), (30, [.inr (.inl 72)], [.inr (.inl 24)]), (3, [.inr (.inl 73), .inl (.int 255)], []), (0, [.inr (.inl 69), .inr (.inl 70)], []), (30, [.inr (.inl 75)], [.inr (.inl 24)]), (3, [.inr (.inl 76), .inl (.int 255)], []), (14, [.inl (.long 27), .inr (.inr 71)], []), (1, [.inr (.inl 77), .inl (.int 97)], []), (0, [.inr (.inl 79), .inl (.int 1)], []), (21, [.inr (.inl 80)], []), (12, [.inr (.inr 78), .inr (.inr 81)], []), (0, [.inr (.inl 70), .inl (.int 1)], [])]) (P := [(5, .inr (.inl 2), .inr (.inl 72)), (6, .inr (.inl 72), .inl (.ref 2000)), (3, .inr (.inl 74), .inl (.int 97)), (3, .inl (.int 122), .inr (.inl 74)), (5, .inl (.int 8), .inr (.inl 70)), (5, .inr (.inl 2), .inr (.inl 75)), (6, .inr (.inl 75), .inl (.ref 2000)), (1, .inr (.inl 77), .inl (.int 0))]) jm_ok142 (by decide +kernel) (by decide +kernel) hd F X1 X2 (fun F' hF hs => ?_)
  have b2 := hd_b (F := F) (F' := F') (k := 2) (hF 2 (by decide))
  have b69 := hd_b (F := F) (F' := F') (k := 69) (hF 69 (by decide))
  have b70 := hd_b (F := F) (F' := F') (k := 70) (hF 70 (by decide))
  have t72 : sy_dv F' (.inr (.inl 72)) = .int ((sy_i F 69) + (sy_i F 70)) := hd_o (hs 0 _ rfl) b69 b70 rfl
  have a24 := hd_ba (F := F) (F' := F') (k := 24) (hF 24 (by decide))
  have t73 : sy_dv F' (.inr (.inl 73)) = .int ((sy_ai F 24).getD ((sy_i F 69) + (sy_i F 70)).toNatClampNeg 0) := hd_rd (hs 1 _ rfl) t72 a24
  have t74 : sy_dv F' (.inr (.inl 74)) = .int (((sy_ai F 24).getD ((sy_i F 69) + (sy_i F 70)).toNatClampNeg 0) &&& ((255 : Int32))) := hd_o (hs 2 _ rfl) t73 rfl rfl
  have t75 : sy_dv F' (.inr (.inl 75)) = .int ((sy_i F 69) + (sy_i F 70)) := hd_o (hs 3 _ rfl) b69 b70 rfl
  have t76 : sy_dv F' (.inr (.inl 76)) = .int ((sy_ai F 24).getD ((sy_i F 69) + (sy_i F 70)).toNatClampNeg 0) := hd_rd (hs 4 _ rfl) t75 a24
  have t77 : sy_dv F' (.inr (.inl 77)) = .int (((sy_ai F 24).getD ((sy_i F 69) + (sy_i F 70)).toNatClampNeg 0) &&& ((255 : Int32))) := hd_o (hs 5 _ rfl) t76 rfl rfl
  have t83 : sy_dv F' (.inr (.inl 83)) = .int ((sy_i F 70) + ((1 : Int32))) := hd_o (hs 11 _ rfl) b70 rfl rfl
  have b71 := hd_bl (F := F) (F' := F') (k := 71) (hF 71 (by decide))
  have t78 : sy_dv F' (.inr (.inr 78)) = .long (((27 : Int64)) * (sy_l F 71)) := hd_oL (hs 6 _ rfl) rfl b71 rfl
  have t79 : sy_dv F' (.inr (.inl 79)) = .int ((((sy_ai F 24).getD ((sy_i F 69) + (sy_i F 70)).toNatClampNeg 0) &&& ((255 : Int32))) - ((97 : Int32))) := hd_o (hs 7 _ rfl) t77 rfl rfl
  have t80 : sy_dv F' (.inr (.inl 80)) = .int (((((sy_ai F 24).getD ((sy_i F 69) + (sy_i F 70)).toNatClampNeg 0) &&& ((255 : Int32))) - ((97 : Int32))) + ((1 : Int32))) := hd_o (hs 8 _ rfl) t79 rfl rfl
  have t81 : sy_dv F' (.inr (.inr 81)) = .long ((((((sy_ai F 24).getD ((sy_i F 69) + (sy_i F 70)).toNatClampNeg 0) &&& ((255 : Int32))) - ((97 : Int32))) + ((1 : Int32))).toInt64) := hd_uL (hs 9 _ rfl) t80 rfl
  have t82 : sy_dv F' (.inr (.inr 82)) = .long ((((27 : Int64)) * (sy_l F 71)) + ((((((sy_ai F 24).getD ((sy_i F 69) + (sy_i F 70)).toNatClampNeg 0) &&& ((255 : Int32))) - ((97 : Int32))) + ((1 : Int32))).toInt64)) := hd_oL (hs 10 _ rfl) t78 t81 rfl
  have hB' : iv_in F' iv_B4 := iv_in_eq hB (fun j hj => hF j (Nat.lt_of_lt_of_le hj (by decide +kernel)))
  refine ⟨List.forall_mem_cons.mpr ⟨hd_p5 b2 t72 h0, List.forall_mem_cons.mpr ⟨hd_pb t72 (by first | exact h1 | exact h1), List.forall_mem_cons.mpr ⟨hd_p3 t74 rfl (by have hc : ((97) : Int32).toInt = 97 := (by decide); omega), List.forall_mem_cons.mpr ⟨hd_p3 rfl t74 (by have hc : ((122) : Int32).toInt = 122 := (by decide); omega), List.forall_mem_cons.mpr ⟨hd_p5 rfl b70 (by have hc : ((8) : Int32).toInt = 8 := (by decide); omega), List.forall_mem_cons.mpr ⟨hd_p5 b2 t75 h5, List.forall_mem_cons.mpr ⟨hd_pb t75 (by first | exact h6 | exact h6), List.forall_mem_cons.mpr ⟨hd_p1 t77 rfl (by have hc : ((0) : Int32).toInt = 0 := (by decide); omega), fun _ h => absurd h List.not_mem_nil⟩⟩⟩⟩⟩⟩⟩⟩, ?_⟩
  refine k _ ?_ ?_ ?_ ?_
  · exact fun j hj _ => (hd_keep hB' (Nat.lt_of_lt_of_le hj (by decide +kernel)) (by simp)).trans (hF j (Nat.lt_of_lt_of_le hj (by decide)))
  · exact hd_gi (x := .inr (.inl 69)) (by decide +kernel) b69
  · exact hd_gi (x := .inr (.inl 83)) (by decide +kernel) t83
  · exact hd_gl (x := .inr (.inr 82)) (by decide +kernel) t82
theorem rc_85_p9 {Ls : Nat} {xs : Nat → Int32} {d : Nat} {Q : Option Value → jm_h → Prop} (hd : 4 ≤ d) (F : Nat → sy_d) (X1 X2 : List jm_c) (hB : iv_in F iv_B4)
    (h0 : ((sy_i F 69) + (sy_i F 70)).toInt < (sy_i F 2).toInt)
    (h1 : 0 ≤ ((sy_i F 69) + (sy_i F 70)).toInt ∧ ((sy_i F 69) + (sy_i F 70)).toInt < 2000)
    (h2 : 97 ≤ (((sy_ai F 24).getD ((sy_i F 69) + (sy_i F 70)).toNatClampNeg 0) &&& ((255 : Int32))).toInt)
    (h3 : (((sy_ai F 24).getD ((sy_i F 69) + (sy_i F 70)).toNatClampNeg 0) &&& ((255 : Int32))).toInt ≤ 122)
    (h4 : (sy_i F 70).toInt < 8)
    (h5 : ((sy_i F 69) + (sy_i F 70)).toInt < (sy_i F 2).toInt)
    (h6 : 0 ≤ ((sy_i F 69) + (sy_i F 70)).toInt ∧ ((sy_i F 69) + (sy_i F 70)).toInt < 2000)
    (h7 : (((sy_ai F 24).getD ((sy_i F 69) + (sy_i F 70)).toNatClampNeg 0) &&& ((255 : Int32))).toInt = 0)
    (k : ∀ F1 : Nat → sy_d, (∀ j, j < 69 → True → F1 j = F j) → F1 69 = .inl (.int (sy_i F 69)) → F1 70 = .inl (.int ((sy_i F 70) + ((1 : Int32)))) → F1 71 = .inl (.long (sy_l F 71)) → hd_W Ls xs d jm_M142 Q (85, sy_dL F1 [some (.inl (.ref 1000)), some (.inr (.inl 69)), none, some (.inr (.inl 70)), some (.inr (.inr 71)), none, none, none], sy_dS F1 [], sy_dh F1 X1 X2 (iv_H 4), 0, 0)) :
    hd_W Ls xs d jm_M142 Q (85, sy_dL F [some (.inl (.ref 1000)), some (.inr (.inl 69)), none, some (.inr (.inl 70)), some (.inr (.inr 71)), none, none, none], sy_dS F [], sy_dh F X1 X2 (iv_H 4), 0, 0) := by
  refine hd_run (s := 4) (nv := 72) (pc := 85) (L := [some (.inl (.ref 1000)), some (.inr (.inl 69)), none, some (.inr (.inl 70)), some (.inr (.inr 71)), none, none, none]) (S := []) (uh := hd_ov (iv_id 0 iv_B4) []) (ul := [.inl (.inr (.inl 69)), .inl (.inr (.inl 78)), .inl (.inr (.inr 71))]) (f := true) (sp := [7, 85, 146]) (d0 := 3) (O := [false, false, false, false, false, false]) (T := [(0, [.inr (.inl 69), .inr (.inl 70)], []), (30, [.inr (.inl 72)], [.inr (.inl 24)]), (3, [.inr (.inl 73), .inl (.int 255)], []), (0, [.inr (.inl 69), .inr (.inl 70)], []), (30, [.inr (.inl 75)], [.inr (.inl 24)]), (3, [.inr (.inl 76), .inl (.int 255)], []), (0, [.inr (.inl 70), .inl (.int 1)], [])]) (P := [(5, .inr (.inl 2), .inr (.inl 72)), (6, .inr (.inl 72), .inl (.ref 2000)), (3, .inr (.inl 74), .inl (.int 97)), (3, .inl (.int 122), .inr (.inl 74)), (5, .inl (.int 8), .inr (.inl 70)), (5, .inr (.inl 2), .inr (.inl 75)), (6, .inr (.inl 75), .inl (.ref 2000)), (0, .inr (.inl 77), .inl (.int 0))]) jm_ok142 (by decide +kernel) (by decide +kernel) hd F X1 X2 (fun F' hF hs => ?_)
  have b2 := hd_b (F := F) (F' := F') (k := 2) (hF 2 (by decide))
  have b69 := hd_b (F := F) (F' := F') (k := 69) (hF 69 (by decide))
  have b70 := hd_b (F := F) (F' := F') (k := 70) (hF 70 (by decide))
  have t72 : sy_dv F' (.inr (.inl 72)) = .int ((sy_i F 69) + (sy_i F 70)) := hd_o (hs 0 _ rfl) b69 b70 rfl
  have a24 := hd_ba (F := F) (F' := F') (k := 24) (hF 24 (by decide))
  have t73 : sy_dv F' (.inr (.inl 73)) = .int ((sy_ai F 24).getD ((sy_i F 69) + (sy_i F 70)).toNatClampNeg 0) := hd_rd (hs 1 _ rfl) t72 a24
  have t74 : sy_dv F' (.inr (.inl 74)) = .int (((sy_ai F 24).getD ((sy_i F 69) + (sy_i F 70)).toNatClampNeg 0) &&& ((255 : Int32))) := hd_o (hs 2 _ rfl) t73 rfl rfl
  have t75 : sy_dv F' (.inr (.inl 75)) = .int ((sy_i F 69) + (sy_i F 70)) := hd_o (hs 3 _ rfl) b69 b70 rfl
  have t76 : sy_dv F' (.inr (.inl 76)) = .int ((sy_ai F 24).getD ((sy_i F 69) + (sy_i F 70)).toNatClampNeg 0) := hd_rd (hs 4 _ rfl) t75 a24
  have t77 : sy_dv F' (.inr (.inl 77)) = .int (((sy_ai F 24).getD ((sy_i F 69) + (sy_i F 70)).toNatClampNeg 0) &&& ((255 : Int32))) := hd_o (hs 5 _ rfl) t76 rfl rfl
  have t78 : sy_dv F' (.inr (.inl 78)) = .int ((sy_i F 70) + ((1 : Int32))) := hd_o (hs 6 _ rfl) b70 rfl rfl
  have b71 := hd_bl (F := F) (F' := F') (k := 71) (hF 71 (by decide))
  have hB' : iv_in F' iv_B4 := iv_in_eq hB (fun j hj => hF j (Nat.lt_of_lt_of_le hj (by decide +kernel)))
  refine ⟨List.forall_mem_cons.mpr ⟨hd_p5 b2 t72 h0, List.forall_mem_cons.mpr ⟨hd_pb t72 (by first | exact h1 | exact h1), List.forall_mem_cons.mpr ⟨hd_p3 t74 rfl (by have hc : ((97) : Int32).toInt = 97 := (by decide); omega), List.forall_mem_cons.mpr ⟨hd_p3 rfl t74 (by have hc : ((122) : Int32).toInt = 122 := (by decide); omega), List.forall_mem_cons.mpr ⟨hd_p5 rfl b70 (by have hc : ((8) : Int32).toInt = 8 := (by decide); omega), List.forall_mem_cons.mpr ⟨hd_p5 b2 t75 h5, List.forall_mem_cons.mpr ⟨hd_pb t75 (by first | exact h6 | exact h6), List.forall_mem_cons.mpr ⟨hd_p0 t77 rfl (by have hc : ((0) : Int32).toInt = 0 := (by decide); omega), fun _ h => absurd h List.not_mem_nil⟩⟩⟩⟩⟩⟩⟩⟩, ?_⟩
  refine k _ ?_ ?_ ?_ ?_
  · exact fun j hj _ => (hd_keep hB' (Nat.lt_of_lt_of_le hj (by decide +kernel)) (by simp)).trans (hF j (Nat.lt_of_lt_of_le hj (by decide)))
  · exact hd_gi (x := .inr (.inl 69)) (by decide +kernel) b69
  · exact hd_gi (x := .inr (.inl 78)) (by decide +kernel) t78
  · exact hd_gl (x := .inr (.inr 71)) (by decide +kernel) b71
theorem rc_85 {Ls : Nat} {xs : Nat → Int32} {d : Nat} {Q : Option Value → jm_h → Prop} (hd : 4 ≤ d) (F : Nat → sy_d) (X1 X2 : List jm_c) (hB : iv_in F iv_B4)
    (a69 : 0 ≤ (sy_i F 69).toInt ∧ (sy_i F 69).toInt ≤ 2000)
    (a70 : 0 ≤ (sy_i F 70).toInt ∧ (sy_i F 70).toInt ≤ 2000)
    (o0 : (sy_i F 2).toInt ≤ ((sy_i F 69).toInt + (sy_i F 70).toInt) → 8 < (sy_i F 70).toInt → 8 < (sy_i F 70).toInt → (0 ≤ ((sy_i F 3).toInt + 1) ∧ ((sy_i F 3).toInt + 1) ≤ 402))
    (o1 : ((sy_i F 69).toInt + (sy_i F 70).toInt) < (sy_i F 2).toInt → (((sy_ai F 24).getD (((sy_i F 69).toInt + (sy_i F 70).toInt)).toNat 0) &&& ((255 : Int32))).toInt < 97 → 8 < (sy_i F 70).toInt → 8 < (sy_i F 70).toInt → (0 ≤ ((sy_i F 3).toInt + 1) ∧ ((sy_i F 3).toInt + 1) ≤ 402))
    (o2 : ((sy_i F 69).toInt + (sy_i F 70).toInt) < (sy_i F 2).toInt → 97 ≤ (((sy_ai F 24).getD (((sy_i F 69).toInt + (sy_i F 70).toInt)).toNat 0) &&& ((255 : Int32))).toInt → 122 < (((sy_ai F 24).getD (((sy_i F 69).toInt + (sy_i F 70).toInt)).toNat 0) &&& ((255 : Int32))).toInt → 8 < (sy_i F 70).toInt → 8 < (sy_i F 70).toInt → (0 ≤ ((sy_i F 3).toInt + 1) ∧ ((sy_i F 3).toInt + 1) ≤ 402))
    (k0 : (sy_i F 2).toInt ≤ ((sy_i F 69).toInt + (sy_i F 70).toInt) → (sy_i F 70).toInt ≤ 8 → (sy_i F 70).toInt ≤ 8 → ∀ F1 : Nat → sy_d, iv_in F1 iv_B4 → (∀ j, j < 69 → j ∉ ([] : List Nat) → F1 j = F j) → (sy_i F1 2).toInt = (sy_i F 2).toInt → (sy_i F1 3).toInt = (sy_i F 3).toInt → sy_ai F1 25 = sy_ai F 25 → sy_ai F1 26 = sy_ai F 26 → sy_ai F1 27 = sy_ai F 27 → sy_al F1 28 = sy_al F 28 → (sy_i F1 69).toInt = (sy_i F 69).toInt → (sy_i F1 70).toInt = (sy_i F 70).toInt → sy_l F1 71 = sy_l F 71 → (sy_i F1 72).toInt = 1 → (sy_i F1 73).toInt = 0 → hd_W Ls xs d jm_M142 Q (146, sy_dL F1 [some (.inl (.ref 1000)), some (.inr (.inl 69)), none, some (.inr (.inl 70)), some (.inr (.inr 71)), none, some (.inr (.inl 72)), some (.inr (.inl 73))], sy_dS F1 [], sy_dh F1 X1 X2 (iv_H 4), 0, 0))
    (k1 : (sy_i F 2).toInt ≤ ((sy_i F 69).toInt + (sy_i F 70).toInt) → 8 < (sy_i F 70).toInt → 8 < (sy_i F 70).toInt → ∀ F1 : Nat → sy_d, iv_in F1 iv_B4 → (∀ j, j < 69 → j ∉ ([3, 25, 26, 27, 28] : List Nat) → F1 j = F j) → (sy_i F1 2).toInt = (sy_i F 2).toInt → (sy_i F1 3).toInt = ((sy_i F 3).toInt + 1) → sy_ai F1 25 = jm_upd (sy_ai F 25) ((sy_i F 3).toInt).toNat ((3 : Int32)) → sy_ai F1 26 = jm_upd (sy_ai F 26) ((sy_i F 3).toInt).toNat (sy_i F 69) → sy_ai F1 27 = jm_upd (sy_ai F 27) ((sy_i F 3).toInt).toNat ((0 : Int32)) → sy_al F1 28 = jm_updL (sy_al F 28) ((sy_i F 3).toInt).toNat (sy_l F 71) → (sy_i F1 69).toInt = ((sy_i F 69).toInt + (sy_i F 70).toInt) → hd_W Ls xs d jm_M142 Q (7, sy_dL F1 [some (.inl (.ref 1000)), some (.inr (.inl 69)), none, none, none, none, none, none], sy_dS F1 [], sy_dh F1 X1 X2 (iv_H 4), 0, 0))
    (k2 : ((sy_i F 69).toInt + (sy_i F 70).toInt) < (sy_i F 2).toInt → (((sy_ai F 24).getD (((sy_i F 69).toInt + (sy_i F 70).toInt)).toNat 0) &&& ((255 : Int32))).toInt < 97 → (sy_i F 70).toInt ≤ 8 → (sy_i F 70).toInt ≤ 8 → ∀ F1 : Nat → sy_d, iv_in F1 iv_B4 → (∀ j, j < 69 → j ∉ ([] : List Nat) → F1 j = F j) → (sy_i F1 2).toInt = (sy_i F 2).toInt → (sy_i F1 3).toInt = (sy_i F 3).toInt → sy_ai F1 25 = sy_ai F 25 → sy_ai F1 26 = sy_ai F 26 → sy_ai F1 27 = sy_ai F 27 → sy_al F1 28 = sy_al F 28 → (sy_i F1 69).toInt = (sy_i F 69).toInt → (sy_i F1 70).toInt = (sy_i F 70).toInt → sy_l F1 71 = sy_l F 71 → (sy_i F1 72).toInt = 1 → (sy_i F1 73).toInt = 0 → hd_W Ls xs d jm_M142 Q (146, sy_dL F1 [some (.inl (.ref 1000)), some (.inr (.inl 69)), none, some (.inr (.inl 70)), some (.inr (.inr 71)), none, some (.inr (.inl 72)), some (.inr (.inl 73))], sy_dS F1 [], sy_dh F1 X1 X2 (iv_H 4), 0, 0))
    (k3 : ((sy_i F 69).toInt + (sy_i F 70).toInt) < (sy_i F 2).toInt → (((sy_ai F 24).getD (((sy_i F 69).toInt + (sy_i F 70).toInt)).toNat 0) &&& ((255 : Int32))).toInt < 97 → 8 < (sy_i F 70).toInt → 8 < (sy_i F 70).toInt → ∀ F1 : Nat → sy_d, iv_in F1 iv_B4 → (∀ j, j < 69 → j ∉ ([3, 25, 26, 27, 28] : List Nat) → F1 j = F j) → (sy_i F1 2).toInt = (sy_i F 2).toInt → (sy_i F1 3).toInt = ((sy_i F 3).toInt + 1) → sy_ai F1 25 = jm_upd (sy_ai F 25) ((sy_i F 3).toInt).toNat ((3 : Int32)) → sy_ai F1 26 = jm_upd (sy_ai F 26) ((sy_i F 3).toInt).toNat (sy_i F 69) → sy_ai F1 27 = jm_upd (sy_ai F 27) ((sy_i F 3).toInt).toNat ((0 : Int32)) → sy_al F1 28 = jm_updL (sy_al F 28) ((sy_i F 3).toInt).toNat (sy_l F 71) → (sy_i F1 69).toInt = ((sy_i F 69).toInt + (sy_i F 70).toInt) → hd_W Ls xs d jm_M142 Q (7, sy_dL F1 [some (.inl (.ref 1000)), some (.inr (.inl 69)), none, none, none, none, none, none], sy_dS F1 [], sy_dh F1 X1 X2 (iv_H 4), 0, 0))
    (k4 : ((sy_i F 69).toInt + (sy_i F 70).toInt) < (sy_i F 2).toInt → 97 ≤ (((sy_ai F 24).getD (((sy_i F 69).toInt + (sy_i F 70).toInt)).toNat 0) &&& ((255 : Int32))).toInt → 122 < (((sy_ai F 24).getD (((sy_i F 69).toInt + (sy_i F 70).toInt)).toNat 0) &&& ((255 : Int32))).toInt → (sy_i F 70).toInt ≤ 8 → (sy_i F 70).toInt ≤ 8 → ∀ F1 : Nat → sy_d, iv_in F1 iv_B4 → (∀ j, j < 69 → j ∉ ([] : List Nat) → F1 j = F j) → (sy_i F1 2).toInt = (sy_i F 2).toInt → (sy_i F1 3).toInt = (sy_i F 3).toInt → sy_ai F1 25 = sy_ai F 25 → sy_ai F1 26 = sy_ai F 26 → sy_ai F1 27 = sy_ai F 27 → sy_al F1 28 = sy_al F 28 → (sy_i F1 69).toInt = (sy_i F 69).toInt → (sy_i F1 70).toInt = (sy_i F 70).toInt → sy_l F1 71 = sy_l F 71 → (sy_i F1 72).toInt = 1 → (sy_i F1 73).toInt = 0 → hd_W Ls xs d jm_M142 Q (146, sy_dL F1 [some (.inl (.ref 1000)), some (.inr (.inl 69)), none, some (.inr (.inl 70)), some (.inr (.inr 71)), none, some (.inr (.inl 72)), some (.inr (.inl 73))], sy_dS F1 [], sy_dh F1 X1 X2 (iv_H 4), 0, 0))
    (k5 : ((sy_i F 69).toInt + (sy_i F 70).toInt) < (sy_i F 2).toInt → 97 ≤ (((sy_ai F 24).getD (((sy_i F 69).toInt + (sy_i F 70).toInt)).toNat 0) &&& ((255 : Int32))).toInt → 122 < (((sy_ai F 24).getD (((sy_i F 69).toInt + (sy_i F 70).toInt)).toNat 0) &&& ((255 : Int32))).toInt → 8 < (sy_i F 70).toInt → 8 < (sy_i F 70).toInt → ∀ F1 : Nat → sy_d, iv_in F1 iv_B4 → (∀ j, j < 69 → j ∉ ([3, 25, 26, 27, 28] : List Nat) → F1 j = F j) → (sy_i F1 2).toInt = (sy_i F 2).toInt → (sy_i F1 3).toInt = ((sy_i F 3).toInt + 1) → sy_ai F1 25 = jm_upd (sy_ai F 25) ((sy_i F 3).toInt).toNat ((3 : Int32)) → sy_ai F1 26 = jm_upd (sy_ai F 26) ((sy_i F 3).toInt).toNat (sy_i F 69) → sy_ai F1 27 = jm_upd (sy_ai F 27) ((sy_i F 3).toInt).toNat ((0 : Int32)) → sy_al F1 28 = jm_updL (sy_al F 28) ((sy_i F 3).toInt).toNat (sy_l F 71) → (sy_i F1 69).toInt = ((sy_i F 69).toInt + (sy_i F 70).toInt) → hd_W Ls xs d jm_M142 Q (7, sy_dL F1 [some (.inl (.ref 1000)), some (.inr (.inl 69)), none, none, none, none, none, none], sy_dS F1 [], sy_dh F1 X1 X2 (iv_H 4), 0, 0))
    (k6 : ((sy_i F 69).toInt + (sy_i F 70).toInt) < (sy_i F 2).toInt → 97 ≤ (((sy_ai F 24).getD (((sy_i F 69).toInt + (sy_i F 70).toInt)).toNat 0) &&& ((255 : Int32))).toInt → (((sy_ai F 24).getD (((sy_i F 69).toInt + (sy_i F 70).toInt)).toNat 0) &&& ((255 : Int32))).toInt ≤ 122 → 8 ≤ (sy_i F 70).toInt → ∀ F1 : Nat → sy_d, iv_in F1 iv_B4 → (∀ j, j < 69 → j ∉ ([] : List Nat) → F1 j = F j) → (sy_i F1 2).toInt = (sy_i F 2).toInt → (sy_i F1 3).toInt = (sy_i F 3).toInt → sy_ai F1 25 = sy_ai F 25 → sy_ai F1 26 = sy_ai F 26 → sy_ai F1 27 = sy_ai F 27 → sy_al F1 28 = sy_al F 28 → (sy_i F1 69).toInt = (sy_i F 69).toInt → (sy_i F1 70).toInt = ((sy_i F 70).toInt + 1) → sy_l F1 71 = sy_l F 71 → hd_W Ls xs d jm_M142 Q (85, sy_dL F1 [some (.inl (.ref 1000)), some (.inr (.inl 69)), none, some (.inr (.inl 70)), some (.inr (.inr 71)), none, none, none], sy_dS F1 [], sy_dh F1 X1 X2 (iv_H 4), 0, 0))
    (k7 : ((sy_i F 69).toInt + (sy_i F 70).toInt) < (sy_i F 2).toInt → 97 ≤ (((sy_ai F 24).getD (((sy_i F 69).toInt + (sy_i F 70).toInt)).toNat 0) &&& ((255 : Int32))).toInt → (((sy_ai F 24).getD (((sy_i F 69).toInt + (sy_i F 70).toInt)).toNat 0) &&& ((255 : Int32))).toInt ≤ 122 → (sy_i F 70).toInt < 8 → (sy_i F 2).toInt ≤ ((sy_i F 69).toInt + (sy_i F 70).toInt) → ∀ F1 : Nat → sy_d, iv_in F1 iv_B4 → (∀ j, j < 69 → j ∉ ([] : List Nat) → F1 j = F j) → (sy_i F1 2).toInt = (sy_i F 2).toInt → (sy_i F1 3).toInt = (sy_i F 3).toInt → sy_ai F1 25 = sy_ai F 25 → sy_ai F1 26 = sy_ai F 26 → sy_ai F1 27 = sy_ai F 27 → sy_al F1 28 = sy_al F 28 → (sy_i F1 69).toInt = (sy_i F 69).toInt → (sy_i F1 70).toInt = ((sy_i F 70).toInt + 1) → sy_l F1 71 = sy_l F 71 → hd_W Ls xs d jm_M142 Q (85, sy_dL F1 [some (.inl (.ref 1000)), some (.inr (.inl 69)), none, some (.inr (.inl 70)), some (.inr (.inr 71)), none, none, none], sy_dS F1 [], sy_dh F1 X1 X2 (iv_H 4), 0, 0))
    (k8 : ((sy_i F 69).toInt + (sy_i F 70).toInt) < (sy_i F 2).toInt → 97 ≤ (((sy_ai F 24).getD (((sy_i F 69).toInt + (sy_i F 70).toInt)).toNat 0) &&& ((255 : Int32))).toInt → (((sy_ai F 24).getD (((sy_i F 69).toInt + (sy_i F 70).toInt)).toNat 0) &&& ((255 : Int32))).toInt ≤ 122 → (sy_i F 70).toInt < 8 → ((sy_i F 69).toInt + (sy_i F 70).toInt) < (sy_i F 2).toInt → ¬ oq ((((sy_ai F 24).getD (((sy_i F 69).toInt + (sy_i F 70).toInt)).toNat 0) &&& ((255 : Int32))).toInt) (0) → ∀ F1 : Nat → sy_d, iv_in F1 iv_B4 → (∀ j, j < 69 → j ∉ ([] : List Nat) → F1 j = F j) → (sy_i F1 2).toInt = (sy_i F 2).toInt → (sy_i F1 3).toInt = (sy_i F 3).toInt → sy_ai F1 25 = sy_ai F 25 → sy_ai F1 26 = sy_ai F 26 → sy_ai F1 27 = sy_ai F 27 → sy_al F1 28 = sy_al F 28 → (sy_i F1 69).toInt = (sy_i F 69).toInt → (sy_i F1 70).toInt = ((sy_i F 70).toInt + 1) → sy_l F1 71 = (((27 : Int64)) * (sy_l F 71)) + ((((((sy_ai F 24).getD (((sy_i F 69).toInt + (sy_i F 70).toInt)).toNat 0) &&& ((255 : Int32))) - ((97 : Int32))) + ((1 : Int32))).toInt64) → hd_W Ls xs d jm_M142 Q (85, sy_dL F1 [some (.inl (.ref 1000)), some (.inr (.inl 69)), none, some (.inr (.inl 70)), some (.inr (.inr 71)), none, none, none], sy_dS F1 [], sy_dh F1 X1 X2 (iv_H 4), 0, 0))
    (k9 : ((sy_i F 69).toInt + (sy_i F 70).toInt) < (sy_i F 2).toInt → 97 ≤ (((sy_ai F 24).getD (((sy_i F 69).toInt + (sy_i F 70).toInt)).toNat 0) &&& ((255 : Int32))).toInt → (((sy_ai F 24).getD (((sy_i F 69).toInt + (sy_i F 70).toInt)).toNat 0) &&& ((255 : Int32))).toInt ≤ 122 → (sy_i F 70).toInt < 8 → ((sy_i F 69).toInt + (sy_i F 70).toInt) < (sy_i F 2).toInt → oq ((((sy_ai F 24).getD (((sy_i F 69).toInt + (sy_i F 70).toInt)).toNat 0) &&& ((255 : Int32))).toInt) (0) → ∀ F1 : Nat → sy_d, iv_in F1 iv_B4 → (∀ j, j < 69 → j ∉ ([] : List Nat) → F1 j = F j) → (sy_i F1 2).toInt = (sy_i F 2).toInt → (sy_i F1 3).toInt = (sy_i F 3).toInt → sy_ai F1 25 = sy_ai F 25 → sy_ai F1 26 = sy_ai F 26 → sy_ai F1 27 = sy_ai F 27 → sy_al F1 28 = sy_al F 28 → (sy_i F1 69).toInt = (sy_i F 69).toInt → (sy_i F1 70).toInt = ((sy_i F 70).toInt + 1) → sy_l F1 71 = sy_l F 71 → hd_W Ls xs d jm_M142 Q (85, sy_dL F1 [some (.inl (.ref 1000)), some (.inr (.inl 69)), none, some (.inr (.inl 70)), some (.inr (.inr 71)), none, none, none], sy_dS F1 [], sy_dh F1 X1 X2 (iv_H 4), 0, 0)) :
    hd_W Ls xs d jm_M142 Q (85, sy_dL F [some (.inl (.ref 1000)), some (.inr (.inl 69)), none, some (.inr (.inl 70)), some (.inr (.inr 71)), none, none, none], sy_dS F [], sy_dh F X1 X2 (iv_H 4), 0, 0) := by
  by_cases g0 : (sy_i F 2).toInt ≤ ((sy_i F 69).toInt + (sy_i F 70).toInt)
  · by_cases g1 : (sy_i F 70).toInt ≤ 8
    · by_cases g2 : 8 < (sy_i F 70).toInt
      · have c2 := nz_bx hB (k := 2) (lo := 0) (hi := 2000) rfl
        have n72 : ((sy_i F 69) + (sy_i F 70)).toInt = ((sy_i F 69).toInt + (sy_i F 70).toInt) := nz_add (rfl : (sy_i F 69).toInt = (sy_i F 69).toInt) (rfl : (sy_i F 70).toInt = (sy_i F 70).toInt) (by omega) (by omega)
        exfalso
        omega
      replace g2 : (sy_i F 70).toInt ≤ 8 := by omega
      have c2 := nz_bx hB (k := 2) (lo := 0) (hi := 2000) rfl
      have n72 : ((sy_i F 69) + (sy_i F 70)).toInt = ((sy_i F 69).toInt + (sy_i F 70).toInt) := nz_add (rfl : (sy_i F 69).toInt = (sy_i F 69).toInt) (rfl : (sy_i F 70).toInt = (sy_i F 70).toInt) (by omega) (by omega)
      exact rc_85_p0 hd F X1 X2 hB (by first | exact g0 | (simp only [nz_c, n72]; exact g0) | (rw [n72]; exact g0)) (by first | exact g1 | (simp only [nz_c]; exact g1)) (by first | exact g2 | (simp only [nz_c]; exact g2)) (fun F1 g e69 e70 e71 e72 e73 => k0 g0 g1 g2 F1 (nz_in hB [] (fun j hj hn => g j hj (by simp only [List.mem_cons, List.not_mem_nil, or_false, not_or] at hn; exact trivial)) (List.forall_mem_nil _)) (fun j hj hn => g j hj (by simp only [List.mem_cons, List.not_mem_nil, or_false, not_or] at hn; exact trivial)) (nz_fi (g 2 (by decide) (by decide))) (nz_fi (g 3 (by decide) (by decide))) (nz_fa (g 25 (by decide) (by decide))) (nz_fa (g 26 (by decide) (by decide))) (nz_fa (g 27 (by decide) (by decide))) (nz_fl (g 28 (by decide) (by decide))) ((congrArg Int32.toInt (zz_i e69)).trans (rfl : (sy_i F 69).toInt = (sy_i F 69).toInt)) ((congrArg Int32.toInt (zz_i e70)).trans (rfl : (sy_i F 70).toInt = (sy_i F 70).toInt)) ((zz_l e71).trans (rfl : sy_l F 71 = sy_l F 71)) ((congrArg Int32.toInt (zz_i e72)).trans (by decide : ((1 : Int32)).toInt = 1)) ((congrArg Int32.toInt (zz_i e73)).trans (by decide : ((0 : Int32)).toInt = 0)))
    replace g1 : 8 < (sy_i F 70).toInt := by omega
    by_cases g2 : 8 < (sy_i F 70).toInt
    · have c2 := nz_bx hB (k := 2) (lo := 0) (hi := 2000) rfl
      have n72 : ((sy_i F 69) + (sy_i F 70)).toInt = ((sy_i F 69).toInt + (sy_i F 70).toInt) := nz_add (rfl : (sy_i F 69).toInt = (sy_i F 69).toInt) (rfl : (sy_i F 70).toInt = (sy_i F 70).toInt) (by omega) (by omega)
      have c3 := nz_bx hB (k := 3) (lo := 0) (hi := 402) rfl
      have n77 : ((sy_i F 3) + ((1 : Int32))).toInt = ((sy_i F 3).toInt + 1) := nz_add (rfl : (sy_i F 3).toInt = (sy_i F 3).toInt) (by decide : ((1 : Int32)).toInt = 1) (by omega) (by omega)
      have w73 : jm_upd (sy_ai F 25) (sy_i F 3).toNatClampNeg ((3 : Int32)) = jm_upd (sy_ai F 25) ((sy_i F 3).toInt).toNat ((3 : Int32)) := by simp only [nz_c, (by decide : ((3 : Int32)).toInt = 3)]
      have w74 : jm_upd (sy_ai F 26) (sy_i F 3).toNatClampNeg (sy_i F 69) = jm_upd (sy_ai F 26) ((sy_i F 3).toInt).toNat (sy_i F 69) := by simp only [nz_c]
      have w75 : jm_upd (sy_ai F 27) (sy_i F 3).toNatClampNeg ((0 : Int32)) = jm_upd (sy_ai F 27) ((sy_i F 3).toInt).toNat ((0 : Int32)) := by simp only [nz_c, (by decide : ((0 : Int32)).toInt = 0)]
      have w76 : jm_updL (sy_al F 28) (sy_i F 3).toNatClampNeg (sy_l F 71) = jm_updL (sy_al F 28) ((sy_i F 3).toInt).toNat (sy_l F 71) := by simp only [nz_c]
      have n78 : ((sy_i F 69) + (sy_i F 70)).toInt = ((sy_i F 69).toInt + (sy_i F 70).toInt) := nz_add (rfl : (sy_i F 69).toInt = (sy_i F 69).toInt) (rfl : (sy_i F 70).toInt = (sy_i F 70).toInt) (by omega) (by omega)
      exact rc_85_p1 hd F X1 X2 hB (by first | exact g0 | (simp only [nz_c, n72]; exact g0) | (rw [n72]; exact g0)) (by first | exact g1 | (simp only [nz_c]; exact g1)) (by first | exact g2 | (simp only [nz_c]; exact g2)) (by first | exact ⟨by omega, by omega⟩ | (simp only [nz_c]; exact ⟨by omega, by omega⟩)) (by first | exact ⟨by omega, by omega⟩ | (simp only [nz_c]; exact ⟨by omega, by omega⟩)) (by first | exact ⟨by omega, by omega⟩ | (simp only [nz_c]; exact ⟨by omega, by omega⟩)) (by first | exact ⟨by omega, by omega⟩ | (simp only [nz_c]; exact ⟨by omega, by omega⟩)) (fun F1 g e3 e25 e26 e27 e28 e69 => k1 g0 g1 g2 F1 (nz_in hB [3, 25, 26, 27, 28] (fun j hj hn => g j hj (by simp only [List.mem_cons, List.not_mem_nil, or_false, not_or] at hn; omega)) (List.forall_mem_cons.mpr ⟨fun t ht => (Option.some.inj ht) ▸ (nz_hi e3 n77 (o0 g0 g1 g2).1 (o0 g0 g1 g2).2), List.forall_mem_cons.mpr ⟨fun t ht => (Option.some.inj ht) ▸ (nz_hA e25 (nz_up (nz_ba hB (k := 25) (lo := 0) (hi := 42) rfl) (by decide : ((3 : Int32)).toInt = 3) (by omega) (by omega))), List.forall_mem_cons.mpr ⟨fun t ht => (Option.some.inj ht) ▸ (nz_hz2 e26), List.forall_mem_cons.mpr ⟨fun t ht => (Option.some.inj ht) ▸ (nz_hz2 e27), List.forall_mem_cons.mpr ⟨fun t ht => (Option.some.inj ht) ▸ (nz_hz3 e28), List.forall_mem_nil _⟩⟩⟩⟩⟩)) (fun j hj hn => g j hj (by simp only [List.mem_cons, List.not_mem_nil, or_false, not_or] at hn; omega)) (nz_fi (g 2 (by decide) (by decide))) ((congrArg Int32.toInt (zz_i e3)).trans n77) ((zz_ai e25).trans w73) ((zz_ai e26).trans w74) ((zz_ai e27).trans w75) ((zz_al e28).trans w76) ((congrArg Int32.toInt (zz_i e69)).trans n78))
    replace g2 : (sy_i F 70).toInt ≤ 8 := by omega
    have c2 := nz_bx hB (k := 2) (lo := 0) (hi := 2000) rfl
    have n72 : ((sy_i F 69) + (sy_i F 70)).toInt = ((sy_i F 69).toInt + (sy_i F 70).toInt) := nz_add (rfl : (sy_i F 69).toInt = (sy_i F 69).toInt) (rfl : (sy_i F 70).toInt = (sy_i F 70).toInt) (by omega) (by omega)
    exfalso
    omega
  replace g0 : ((sy_i F 69).toInt + (sy_i F 70).toInt) < (sy_i F 2).toInt := by omega
  by_cases g1 : (((sy_ai F 24).getD (((sy_i F 69).toInt + (sy_i F 70).toInt)).toNat 0) &&& ((255 : Int32))).toInt < 97
  · by_cases g2 : (sy_i F 70).toInt ≤ 8
    · by_cases g3 : 8 < (sy_i F 70).toInt
      · have c2 := nz_bx hB (k := 2) (lo := 0) (hi := 2000) rfl
        have n72 : ((sy_i F 69) + (sy_i F 70)).toInt = ((sy_i F 69).toInt + (sy_i F 70).toInt) := nz_add (rfl : (sy_i F 69).toInt = (sy_i F 69).toInt) (rfl : (sy_i F 70).toInt = (sy_i F 70).toInt) (by omega) (by omega)
        have q74 : ((sy_ai F 24).getD ((sy_i F 69) + (sy_i F 70)).toNatClampNeg 0) &&& ((255 : Int32)) = ((sy_ai F 24).getD (((sy_i F 69).toInt + (sy_i F 70).toInt)).toNat 0) &&& ((255 : Int32)) := by simp only [nz_c, n72, (by decide : ((255 : Int32)).toInt = 255)]
        have n74 : (((sy_ai F 24).getD ((sy_i F 69) + (sy_i F 70)).toNatClampNeg 0) &&& ((255 : Int32))).toInt = (((sy_ai F 24).getD (((sy_i F 69).toInt + (sy_i F 70).toInt)).toNat 0) &&& ((255 : Int32))).toInt := congrArg Int32.toInt q74
        exfalso
        omega
      replace g3 : (sy_i F 70).toInt ≤ 8 := by omega
      have c2 := nz_bx hB (k := 2) (lo := 0) (hi := 2000) rfl
      have n72 : ((sy_i F 69) + (sy_i F 70)).toInt = ((sy_i F 69).toInt + (sy_i F 70).toInt) := nz_add (rfl : (sy_i F 69).toInt = (sy_i F 69).toInt) (rfl : (sy_i F 70).toInt = (sy_i F 70).toInt) (by omega) (by omega)
      have q74 : ((sy_ai F 24).getD ((sy_i F 69) + (sy_i F 70)).toNatClampNeg 0) &&& ((255 : Int32)) = ((sy_ai F 24).getD (((sy_i F 69).toInt + (sy_i F 70).toInt)).toNat 0) &&& ((255 : Int32)) := by simp only [nz_c, n72, (by decide : ((255 : Int32)).toInt = 255)]
      have n74 : (((sy_ai F 24).getD ((sy_i F 69) + (sy_i F 70)).toNatClampNeg 0) &&& ((255 : Int32))).toInt = (((sy_ai F 24).getD (((sy_i F 69).toInt + (sy_i F 70).toInt)).toNat 0) &&& ((255 : Int32))).toInt := congrArg Int32.toInt q74
      exact rc_85_p2 hd F X1 X2 hB (by first | exact g0 | (simp only [nz_c, n72]; exact g0) | (rw [n72]; exact g0)) (by first | exact ⟨by omega, by omega⟩ | (simp only [nz_c, n72]; exact ⟨by omega, by omega⟩) | (rw [n72]; exact ⟨by omega, by omega⟩)) (by first | exact g1 | (simp only [nz_c, n72]; exact g1) | (rw [n74]; exact g1)) (by first | exact g2 | (simp only [nz_c]; exact g2)) (by first | exact g3 | (simp only [nz_c]; exact g3)) (fun F1 g e69 e70 e71 e72 e73 => k2 g0 g1 g2 g3 F1 (nz_in hB [] (fun j hj hn => g j hj (by simp only [List.mem_cons, List.not_mem_nil, or_false, not_or] at hn; exact trivial)) (List.forall_mem_nil _)) (fun j hj hn => g j hj (by simp only [List.mem_cons, List.not_mem_nil, or_false, not_or] at hn; exact trivial)) (nz_fi (g 2 (by decide) (by decide))) (nz_fi (g 3 (by decide) (by decide))) (nz_fa (g 25 (by decide) (by decide))) (nz_fa (g 26 (by decide) (by decide))) (nz_fa (g 27 (by decide) (by decide))) (nz_fl (g 28 (by decide) (by decide))) ((congrArg Int32.toInt (zz_i e69)).trans (rfl : (sy_i F 69).toInt = (sy_i F 69).toInt)) ((congrArg Int32.toInt (zz_i e70)).trans (rfl : (sy_i F 70).toInt = (sy_i F 70).toInt)) ((zz_l e71).trans (rfl : sy_l F 71 = sy_l F 71)) ((congrArg Int32.toInt (zz_i e72)).trans (by decide : ((1 : Int32)).toInt = 1)) ((congrArg Int32.toInt (zz_i e73)).trans (by decide : ((0 : Int32)).toInt = 0)))
    replace g2 : 8 < (sy_i F 70).toInt := by omega
    by_cases g3 : 8 < (sy_i F 70).toInt
    · have c2 := nz_bx hB (k := 2) (lo := 0) (hi := 2000) rfl
      have n72 : ((sy_i F 69) + (sy_i F 70)).toInt = ((sy_i F 69).toInt + (sy_i F 70).toInt) := nz_add (rfl : (sy_i F 69).toInt = (sy_i F 69).toInt) (rfl : (sy_i F 70).toInt = (sy_i F 70).toInt) (by omega) (by omega)
      have q74 : ((sy_ai F 24).getD ((sy_i F 69) + (sy_i F 70)).toNatClampNeg 0) &&& ((255 : Int32)) = ((sy_ai F 24).getD (((sy_i F 69).toInt + (sy_i F 70).toInt)).toNat 0) &&& ((255 : Int32)) := by simp only [nz_c, n72, (by decide : ((255 : Int32)).toInt = 255)]
      have n74 : (((sy_ai F 24).getD ((sy_i F 69) + (sy_i F 70)).toNatClampNeg 0) &&& ((255 : Int32))).toInt = (((sy_ai F 24).getD (((sy_i F 69).toInt + (sy_i F 70).toInt)).toNat 0) &&& ((255 : Int32))).toInt := congrArg Int32.toInt q74
      have c3 := nz_bx hB (k := 3) (lo := 0) (hi := 402) rfl
      have n79 : ((sy_i F 3) + ((1 : Int32))).toInt = ((sy_i F 3).toInt + 1) := nz_add (rfl : (sy_i F 3).toInt = (sy_i F 3).toInt) (by decide : ((1 : Int32)).toInt = 1) (by omega) (by omega)
      have w75 : jm_upd (sy_ai F 25) (sy_i F 3).toNatClampNeg ((3 : Int32)) = jm_upd (sy_ai F 25) ((sy_i F 3).toInt).toNat ((3 : Int32)) := by simp only [nz_c, (by decide : ((3 : Int32)).toInt = 3)]
      have w76 : jm_upd (sy_ai F 26) (sy_i F 3).toNatClampNeg (sy_i F 69) = jm_upd (sy_ai F 26) ((sy_i F 3).toInt).toNat (sy_i F 69) := by simp only [nz_c]
      have w77 : jm_upd (sy_ai F 27) (sy_i F 3).toNatClampNeg ((0 : Int32)) = jm_upd (sy_ai F 27) ((sy_i F 3).toInt).toNat ((0 : Int32)) := by simp only [nz_c, (by decide : ((0 : Int32)).toInt = 0)]
      have w78 : jm_updL (sy_al F 28) (sy_i F 3).toNatClampNeg (sy_l F 71) = jm_updL (sy_al F 28) ((sy_i F 3).toInt).toNat (sy_l F 71) := by simp only [nz_c]
      have n80 : ((sy_i F 69) + (sy_i F 70)).toInt = ((sy_i F 69).toInt + (sy_i F 70).toInt) := nz_add (rfl : (sy_i F 69).toInt = (sy_i F 69).toInt) (rfl : (sy_i F 70).toInt = (sy_i F 70).toInt) (by omega) (by omega)
      exact rc_85_p3 hd F X1 X2 hB (by first | exact g0 | (simp only [nz_c, n72]; exact g0) | (rw [n72]; exact g0)) (by first | exact ⟨by omega, by omega⟩ | (simp only [nz_c, n72]; exact ⟨by omega, by omega⟩) | (rw [n72]; exact ⟨by omega, by omega⟩)) (by first | exact g1 | (simp only [nz_c, n72]; exact g1) | (rw [n74]; exact g1)) (by first | exact g2 | (simp only [nz_c]; exact g2)) (by first | exact g3 | (simp only [nz_c]; exact g3)) (by first | exact ⟨by omega, by omega⟩ | (simp only [nz_c]; exact ⟨by omega, by omega⟩)) (by first | exact ⟨by omega, by omega⟩ | (simp only [nz_c]; exact ⟨by omega, by omega⟩)) (by first | exact ⟨by omega, by omega⟩ | (simp only [nz_c]; exact ⟨by omega, by omega⟩)) (by first | exact ⟨by omega, by omega⟩ | (simp only [nz_c]; exact ⟨by omega, by omega⟩)) (fun F1 g e3 e25 e26 e27 e28 e69 => k3 g0 g1 g2 g3 F1 (nz_in hB [3, 25, 26, 27, 28] (fun j hj hn => g j hj (by simp only [List.mem_cons, List.not_mem_nil, or_false, not_or] at hn; omega)) (List.forall_mem_cons.mpr ⟨fun t ht => (Option.some.inj ht) ▸ (nz_hi e3 n79 (o1 g0 g1 g2 g3).1 (o1 g0 g1 g2 g3).2), List.forall_mem_cons.mpr ⟨fun t ht => (Option.some.inj ht) ▸ (nz_hA e25 (nz_up (nz_ba hB (k := 25) (lo := 0) (hi := 42) rfl) (by decide : ((3 : Int32)).toInt = 3) (by omega) (by omega))), List.forall_mem_cons.mpr ⟨fun t ht => (Option.some.inj ht) ▸ (nz_hz2 e26), List.forall_mem_cons.mpr ⟨fun t ht => (Option.some.inj ht) ▸ (nz_hz2 e27), List.forall_mem_cons.mpr ⟨fun t ht => (Option.some.inj ht) ▸ (nz_hz3 e28), List.forall_mem_nil _⟩⟩⟩⟩⟩)) (fun j hj hn => g j hj (by simp only [List.mem_cons, List.not_mem_nil, or_false, not_or] at hn; omega)) (nz_fi (g 2 (by decide) (by decide))) ((congrArg Int32.toInt (zz_i e3)).trans n79) ((zz_ai e25).trans w75) ((zz_ai e26).trans w76) ((zz_ai e27).trans w77) ((zz_al e28).trans w78) ((congrArg Int32.toInt (zz_i e69)).trans n80))
    replace g3 : (sy_i F 70).toInt ≤ 8 := by omega
    have c2 := nz_bx hB (k := 2) (lo := 0) (hi := 2000) rfl
    have n72 : ((sy_i F 69) + (sy_i F 70)).toInt = ((sy_i F 69).toInt + (sy_i F 70).toInt) := nz_add (rfl : (sy_i F 69).toInt = (sy_i F 69).toInt) (rfl : (sy_i F 70).toInt = (sy_i F 70).toInt) (by omega) (by omega)
    have q74 : ((sy_ai F 24).getD ((sy_i F 69) + (sy_i F 70)).toNatClampNeg 0) &&& ((255 : Int32)) = ((sy_ai F 24).getD (((sy_i F 69).toInt + (sy_i F 70).toInt)).toNat 0) &&& ((255 : Int32)) := by simp only [nz_c, n72, (by decide : ((255 : Int32)).toInt = 255)]
    have n74 : (((sy_ai F 24).getD ((sy_i F 69) + (sy_i F 70)).toNatClampNeg 0) &&& ((255 : Int32))).toInt = (((sy_ai F 24).getD (((sy_i F 69).toInt + (sy_i F 70).toInt)).toNat 0) &&& ((255 : Int32))).toInt := congrArg Int32.toInt q74
    exfalso
    omega
  replace g1 : 97 ≤ (((sy_ai F 24).getD (((sy_i F 69).toInt + (sy_i F 70).toInt)).toNat 0) &&& ((255 : Int32))).toInt := by omega
  by_cases g2 : 122 < (((sy_ai F 24).getD (((sy_i F 69).toInt + (sy_i F 70).toInt)).toNat 0) &&& ((255 : Int32))).toInt
  · by_cases g3 : (sy_i F 70).toInt ≤ 8
    · by_cases g4 : 8 < (sy_i F 70).toInt
      · have c2 := nz_bx hB (k := 2) (lo := 0) (hi := 2000) rfl
        have n72 : ((sy_i F 69) + (sy_i F 70)).toInt = ((sy_i F 69).toInt + (sy_i F 70).toInt) := nz_add (rfl : (sy_i F 69).toInt = (sy_i F 69).toInt) (rfl : (sy_i F 70).toInt = (sy_i F 70).toInt) (by omega) (by omega)
        have q74 : ((sy_ai F 24).getD ((sy_i F 69) + (sy_i F 70)).toNatClampNeg 0) &&& ((255 : Int32)) = ((sy_ai F 24).getD (((sy_i F 69).toInt + (sy_i F 70).toInt)).toNat 0) &&& ((255 : Int32)) := by simp only [nz_c, n72, (by decide : ((255 : Int32)).toInt = 255)]
        have n74 : (((sy_ai F 24).getD ((sy_i F 69) + (sy_i F 70)).toNatClampNeg 0) &&& ((255 : Int32))).toInt = (((sy_ai F 24).getD (((sy_i F 69).toInt + (sy_i F 70).toInt)).toNat 0) &&& ((255 : Int32))).toInt := congrArg Int32.toInt q74
        exfalso
        omega
      replace g4 : (sy_i F 70).toInt ≤ 8 := by omega
      have c2 := nz_bx hB (k := 2) (lo := 0) (hi := 2000) rfl
      have n72 : ((sy_i F 69) + (sy_i F 70)).toInt = ((sy_i F 69).toInt + (sy_i F 70).toInt) := nz_add (rfl : (sy_i F 69).toInt = (sy_i F 69).toInt) (rfl : (sy_i F 70).toInt = (sy_i F 70).toInt) (by omega) (by omega)
      have q74 : ((sy_ai F 24).getD ((sy_i F 69) + (sy_i F 70)).toNatClampNeg 0) &&& ((255 : Int32)) = ((sy_ai F 24).getD (((sy_i F 69).toInt + (sy_i F 70).toInt)).toNat 0) &&& ((255 : Int32)) := by simp only [nz_c, n72, (by decide : ((255 : Int32)).toInt = 255)]
      have n74 : (((sy_ai F 24).getD ((sy_i F 69) + (sy_i F 70)).toNatClampNeg 0) &&& ((255 : Int32))).toInt = (((sy_ai F 24).getD (((sy_i F 69).toInt + (sy_i F 70).toInt)).toNat 0) &&& ((255 : Int32))).toInt := congrArg Int32.toInt q74
      exact rc_85_p4 hd F X1 X2 hB (by first | exact g0 | (simp only [nz_c, n72]; exact g0) | (rw [n72]; exact g0)) (by first | exact ⟨by omega, by omega⟩ | (simp only [nz_c, n72]; exact ⟨by omega, by omega⟩) | (rw [n72]; exact ⟨by omega, by omega⟩)) (by first | exact g1 | (simp only [nz_c, n72]; exact g1) | (rw [n74]; exact g1)) (by first | exact g2 | (simp only [nz_c, n72]; exact g2) | (rw [n74]; exact g2)) (by first | exact g3 | (simp only [nz_c]; exact g3)) (by first | exact g4 | (simp only [nz_c]; exact g4)) (fun F1 g e69 e70 e71 e72 e73 => k4 g0 g1 g2 g3 g4 F1 (nz_in hB [] (fun j hj hn => g j hj (by simp only [List.mem_cons, List.not_mem_nil, or_false, not_or] at hn; exact trivial)) (List.forall_mem_nil _)) (fun j hj hn => g j hj (by simp only [List.mem_cons, List.not_mem_nil, or_false, not_or] at hn; exact trivial)) (nz_fi (g 2 (by decide) (by decide))) (nz_fi (g 3 (by decide) (by decide))) (nz_fa (g 25 (by decide) (by decide))) (nz_fa (g 26 (by decide) (by decide))) (nz_fa (g 27 (by decide) (by decide))) (nz_fl (g 28 (by decide) (by decide))) ((congrArg Int32.toInt (zz_i e69)).trans (rfl : (sy_i F 69).toInt = (sy_i F 69).toInt)) ((congrArg Int32.toInt (zz_i e70)).trans (rfl : (sy_i F 70).toInt = (sy_i F 70).toInt)) ((zz_l e71).trans (rfl : sy_l F 71 = sy_l F 71)) ((congrArg Int32.toInt (zz_i e72)).trans (by decide : ((1 : Int32)).toInt = 1)) ((congrArg Int32.toInt (zz_i e73)).trans (by decide : ((0 : Int32)).toInt = 0)))
    replace g3 : 8 < (sy_i F 70).toInt := by omega
    by_cases g4 : 8 < (sy_i F 70).toInt
    · have c2 := nz_bx hB (k := 2) (lo := 0) (hi := 2000) rfl
      have n72 : ((sy_i F 69) + (sy_i F 70)).toInt = ((sy_i F 69).toInt + (sy_i F 70).toInt) := nz_add (rfl : (sy_i F 69).toInt = (sy_i F 69).toInt) (rfl : (sy_i F 70).toInt = (sy_i F 70).toInt) (by omega) (by omega)
      have q74 : ((sy_ai F 24).getD ((sy_i F 69) + (sy_i F 70)).toNatClampNeg 0) &&& ((255 : Int32)) = ((sy_ai F 24).getD (((sy_i F 69).toInt + (sy_i F 70).toInt)).toNat 0) &&& ((255 : Int32)) := by simp only [nz_c, n72, (by decide : ((255 : Int32)).toInt = 255)]
      have n74 : (((sy_ai F 24).getD ((sy_i F 69) + (sy_i F 70)).toNatClampNeg 0) &&& ((255 : Int32))).toInt = (((sy_ai F 24).getD (((sy_i F 69).toInt + (sy_i F 70).toInt)).toNat 0) &&& ((255 : Int32))).toInt := congrArg Int32.toInt q74
      have c3 := nz_bx hB (k := 3) (lo := 0) (hi := 402) rfl
      have n79 : ((sy_i F 3) + ((1 : Int32))).toInt = ((sy_i F 3).toInt + 1) := nz_add (rfl : (sy_i F 3).toInt = (sy_i F 3).toInt) (by decide : ((1 : Int32)).toInt = 1) (by omega) (by omega)
      have w75 : jm_upd (sy_ai F 25) (sy_i F 3).toNatClampNeg ((3 : Int32)) = jm_upd (sy_ai F 25) ((sy_i F 3).toInt).toNat ((3 : Int32)) := by simp only [nz_c, (by decide : ((3 : Int32)).toInt = 3)]
      have w76 : jm_upd (sy_ai F 26) (sy_i F 3).toNatClampNeg (sy_i F 69) = jm_upd (sy_ai F 26) ((sy_i F 3).toInt).toNat (sy_i F 69) := by simp only [nz_c]
      have w77 : jm_upd (sy_ai F 27) (sy_i F 3).toNatClampNeg ((0 : Int32)) = jm_upd (sy_ai F 27) ((sy_i F 3).toInt).toNat ((0 : Int32)) := by simp only [nz_c, (by decide : ((0 : Int32)).toInt = 0)]
      have w78 : jm_updL (sy_al F 28) (sy_i F 3).toNatClampNeg (sy_l F 71) = jm_updL (sy_al F 28) ((sy_i F 3).toInt).toNat (sy_l F 71) := by simp only [nz_c]
      have n80 : ((sy_i F 69) + (sy_i F 70)).toInt = ((sy_i F 69).toInt + (sy_i F 70).toInt) := nz_add (rfl : (sy_i F 69).toInt = (sy_i F 69).toInt) (rfl : (sy_i F 70).toInt = (sy_i F 70).toInt) (by omega) (by omega)
      exact rc_85_p5 hd F X1 X2 hB (by first | exact g0 | (simp only [nz_c, n72]; exact g0) | (rw [n72]; exact g0)) (by first | exact ⟨by omega, by omega⟩ | (simp only [nz_c, n72]; exact ⟨by omega, by omega⟩) | (rw [n72]; exact ⟨by omega, by omega⟩)) (by first | exact g1 | (simp only [nz_c, n72]; exact g1) | (rw [n74]; exact g1)) (by first | exact g2 | (simp only [nz_c, n72]; exact g2) | (rw [n74]; exact g2)) (by first | exact g3 | (simp only [nz_c]; exact g3)) (by first | exact g4 | (simp only [nz_c]; exact g4)) (by first | exact ⟨by omega, by omega⟩ | (simp only [nz_c]; exact ⟨by omega, by omega⟩)) (by first | exact ⟨by omega, by omega⟩ | (simp only [nz_c]; exact ⟨by omega, by omega⟩)) (by first | exact ⟨by omega, by omega⟩ | (simp only [nz_c]; exact ⟨by omega, by omega⟩)) (by first | exact ⟨by omega, by omega⟩ | (simp only [nz_c]; exact ⟨by omega, by omega⟩)) (fun F1 g e3 e25 e26 e27 e28 e69 => k5 g0 g1 g2 g3 g4 F1 (nz_in hB [3, 25, 26, 27, 28] (fun j hj hn => g j hj (by simp only [List.mem_cons, List.not_mem_nil, or_false, not_or] at hn; omega)) (List.forall_mem_cons.mpr ⟨fun t ht => (Option.some.inj ht) ▸ (nz_hi e3 n79 (o2 g0 g1 g2 g3 g4).1 (o2 g0 g1 g2 g3 g4).2), List.forall_mem_cons.mpr ⟨fun t ht => (Option.some.inj ht) ▸ (nz_hA e25 (nz_up (nz_ba hB (k := 25) (lo := 0) (hi := 42) rfl) (by decide : ((3 : Int32)).toInt = 3) (by omega) (by omega))), List.forall_mem_cons.mpr ⟨fun t ht => (Option.some.inj ht) ▸ (nz_hz2 e26), List.forall_mem_cons.mpr ⟨fun t ht => (Option.some.inj ht) ▸ (nz_hz2 e27), List.forall_mem_cons.mpr ⟨fun t ht => (Option.some.inj ht) ▸ (nz_hz3 e28), List.forall_mem_nil _⟩⟩⟩⟩⟩)) (fun j hj hn => g j hj (by simp only [List.mem_cons, List.not_mem_nil, or_false, not_or] at hn; omega)) (nz_fi (g 2 (by decide) (by decide))) ((congrArg Int32.toInt (zz_i e3)).trans n79) ((zz_ai e25).trans w75) ((zz_ai e26).trans w76) ((zz_ai e27).trans w77) ((zz_al e28).trans w78) ((congrArg Int32.toInt (zz_i e69)).trans n80))
    replace g4 : (sy_i F 70).toInt ≤ 8 := by omega
    have c2 := nz_bx hB (k := 2) (lo := 0) (hi := 2000) rfl
    have n72 : ((sy_i F 69) + (sy_i F 70)).toInt = ((sy_i F 69).toInt + (sy_i F 70).toInt) := nz_add (rfl : (sy_i F 69).toInt = (sy_i F 69).toInt) (rfl : (sy_i F 70).toInt = (sy_i F 70).toInt) (by omega) (by omega)
    have q74 : ((sy_ai F 24).getD ((sy_i F 69) + (sy_i F 70)).toNatClampNeg 0) &&& ((255 : Int32)) = ((sy_ai F 24).getD (((sy_i F 69).toInt + (sy_i F 70).toInt)).toNat 0) &&& ((255 : Int32)) := by simp only [nz_c, n72, (by decide : ((255 : Int32)).toInt = 255)]
    have n74 : (((sy_ai F 24).getD ((sy_i F 69) + (sy_i F 70)).toNatClampNeg 0) &&& ((255 : Int32))).toInt = (((sy_ai F 24).getD (((sy_i F 69).toInt + (sy_i F 70).toInt)).toNat 0) &&& ((255 : Int32))).toInt := congrArg Int32.toInt q74
    exfalso
    omega
  replace g2 : (((sy_ai F 24).getD (((sy_i F 69).toInt + (sy_i F 70).toInt)).toNat 0) &&& ((255 : Int32))).toInt ≤ 122 := by omega
  by_cases g3 : 8 ≤ (sy_i F 70).toInt
  · have c2 := nz_bx hB (k := 2) (lo := 0) (hi := 2000) rfl
    have n72 : ((sy_i F 69) + (sy_i F 70)).toInt = ((sy_i F 69).toInt + (sy_i F 70).toInt) := nz_add (rfl : (sy_i F 69).toInt = (sy_i F 69).toInt) (rfl : (sy_i F 70).toInt = (sy_i F 70).toInt) (by omega) (by omega)
    have q74 : ((sy_ai F 24).getD ((sy_i F 69) + (sy_i F 70)).toNatClampNeg 0) &&& ((255 : Int32)) = ((sy_ai F 24).getD (((sy_i F 69).toInt + (sy_i F 70).toInt)).toNat 0) &&& ((255 : Int32)) := by simp only [nz_c, n72, (by decide : ((255 : Int32)).toInt = 255)]
    have n74 : (((sy_ai F 24).getD ((sy_i F 69) + (sy_i F 70)).toNatClampNeg 0) &&& ((255 : Int32))).toInt = (((sy_ai F 24).getD (((sy_i F 69).toInt + (sy_i F 70).toInt)).toNat 0) &&& ((255 : Int32))).toInt := congrArg Int32.toInt q74
    have n75 : ((sy_i F 70) + ((1 : Int32))).toInt = ((sy_i F 70).toInt + 1) := nz_add (rfl : (sy_i F 70).toInt = (sy_i F 70).toInt) (by decide : ((1 : Int32)).toInt = 1) (by omega) (by omega)
    exact rc_85_p6 hd F X1 X2 hB (by first | exact g0 | (simp only [nz_c, n72]; exact g0) | (rw [n72]; exact g0)) (by first | exact ⟨by omega, by omega⟩ | (simp only [nz_c, n72]; exact ⟨by omega, by omega⟩) | (rw [n72]; exact ⟨by omega, by omega⟩)) (by first | exact g1 | (simp only [nz_c, n72]; exact g1) | (rw [n74]; exact g1)) (by first | exact g2 | (simp only [nz_c, n72]; exact g2) | (rw [n74]; exact g2)) (by first | exact g3 | (simp only [nz_c]; exact g3)) (fun F1 g e69 e70 e71 => k6 g0 g1 g2 g3 F1 (nz_in hB [] (fun j hj hn => g j hj (by simp only [List.mem_cons, List.not_mem_nil, or_false, not_or] at hn; exact trivial)) (List.forall_mem_nil _)) (fun j hj hn => g j hj (by simp only [List.mem_cons, List.not_mem_nil, or_false, not_or] at hn; exact trivial)) (nz_fi (g 2 (by decide) (by decide))) (nz_fi (g 3 (by decide) (by decide))) (nz_fa (g 25 (by decide) (by decide))) (nz_fa (g 26 (by decide) (by decide))) (nz_fa (g 27 (by decide) (by decide))) (nz_fl (g 28 (by decide) (by decide))) ((congrArg Int32.toInt (zz_i e69)).trans (rfl : (sy_i F 69).toInt = (sy_i F 69).toInt)) ((congrArg Int32.toInt (zz_i e70)).trans n75) ((zz_l e71).trans (rfl : sy_l F 71 = sy_l F 71)))
  replace g3 : (sy_i F 70).toInt < 8 := by omega
  by_cases g4 : (sy_i F 2).toInt ≤ ((sy_i F 69).toInt + (sy_i F 70).toInt)
  · have c2 := nz_bx hB (k := 2) (lo := 0) (hi := 2000) rfl
    have n72 : ((sy_i F 69) + (sy_i F 70)).toInt = ((sy_i F 69).toInt + (sy_i F 70).toInt) := nz_add (rfl : (sy_i F 69).toInt = (sy_i F 69).toInt) (rfl : (sy_i F 70).toInt = (sy_i F 70).toInt) (by omega) (by omega)
    have q74 : ((sy_ai F 24).getD ((sy_i F 69) + (sy_i F 70)).toNatClampNeg 0) &&& ((255 : Int32)) = ((sy_ai F 24).getD (((sy_i F 69).toInt + (sy_i F 70).toInt)).toNat 0) &&& ((255 : Int32)) := by simp only [nz_c, n72, (by decide : ((255 : Int32)).toInt = 255)]
    have n74 : (((sy_ai F 24).getD ((sy_i F 69) + (sy_i F 70)).toNatClampNeg 0) &&& ((255 : Int32))).toInt = (((sy_ai F 24).getD (((sy_i F 69).toInt + (sy_i F 70).toInt)).toNat 0) &&& ((255 : Int32))).toInt := congrArg Int32.toInt q74
    have n75 : ((sy_i F 69) + (sy_i F 70)).toInt = ((sy_i F 69).toInt + (sy_i F 70).toInt) := nz_add (rfl : (sy_i F 69).toInt = (sy_i F 69).toInt) (rfl : (sy_i F 70).toInt = (sy_i F 70).toInt) (by omega) (by omega)
    have n76 : ((sy_i F 70) + ((1 : Int32))).toInt = ((sy_i F 70).toInt + 1) := nz_add (rfl : (sy_i F 70).toInt = (sy_i F 70).toInt) (by decide : ((1 : Int32)).toInt = 1) (by omega) (by omega)
    exact rc_85_p7 hd F X1 X2 hB (by first | exact g0 | (simp only [nz_c, n72]; exact g0) | (rw [n72]; exact g0)) (by first | exact ⟨by omega, by omega⟩ | (simp only [nz_c, n72]; exact ⟨by omega, by omega⟩) | (rw [n72]; exact ⟨by omega, by omega⟩)) (by first | exact g1 | (simp only [nz_c, n72]; exact g1) | (rw [n74]; exact g1)) (by first | exact g2 | (simp only [nz_c, n72]; exact g2) | (rw [n74]; exact g2)) (by first | exact g3 | (simp only [nz_c]; exact g3)) (by first | exact g4 | (simp only [nz_c, n75]; exact g4) | (rw [n75]; exact g4)) (fun F1 g e69 e70 e71 => k7 g0 g1 g2 g3 g4 F1 (nz_in hB [] (fun j hj hn => g j hj (by simp only [List.mem_cons, List.not_mem_nil, or_false, not_or] at hn; exact trivial)) (List.forall_mem_nil _)) (fun j hj hn => g j hj (by simp only [List.mem_cons, List.not_mem_nil, or_false, not_or] at hn; exact trivial)) (nz_fi (g 2 (by decide) (by decide))) (nz_fi (g 3 (by decide) (by decide))) (nz_fa (g 25 (by decide) (by decide))) (nz_fa (g 26 (by decide) (by decide))) (nz_fa (g 27 (by decide) (by decide))) (nz_fl (g 28 (by decide) (by decide))) ((congrArg Int32.toInt (zz_i e69)).trans (rfl : (sy_i F 69).toInt = (sy_i F 69).toInt)) ((congrArg Int32.toInt (zz_i e70)).trans n76) ((zz_l e71).trans (rfl : sy_l F 71 = sy_l F 71)))
  replace g4 : ((sy_i F 69).toInt + (sy_i F 70).toInt) < (sy_i F 2).toInt := by omega
  by_cases g5 : ¬ oq ((((sy_ai F 24).getD (((sy_i F 69).toInt + (sy_i F 70).toInt)).toNat 0) &&& ((255 : Int32))).toInt) (0)
  · have c2 := nz_bx hB (k := 2) (lo := 0) (hi := 2000) rfl
    have n72 : ((sy_i F 69) + (sy_i F 70)).toInt = ((sy_i F 69).toInt + (sy_i F 70).toInt) := nz_add (rfl : (sy_i F 69).toInt = (sy_i F 69).toInt) (rfl : (sy_i F 70).toInt = (sy_i F 70).toInt) (by omega) (by omega)
    have q74 : ((sy_ai F 24).getD ((sy_i F 69) + (sy_i F 70)).toNatClampNeg 0) &&& ((255 : Int32)) = ((sy_ai F 24).getD (((sy_i F 69).toInt + (sy_i F 70).toInt)).toNat 0) &&& ((255 : Int32)) := by simp only [nz_c, n72, (by decide : ((255 : Int32)).toInt = 255)]
    have n74 : (((sy_ai F 24).getD ((sy_i F 69) + (sy_i F 70)).toNatClampNeg 0) &&& ((255 : Int32))).toInt = (((sy_ai F 24).getD (((sy_i F 69).toInt + (sy_i F 70).toInt)).toNat 0) &&& ((255 : Int32))).toInt := congrArg Int32.toInt q74
    have n75 : ((sy_i F 69) + (sy_i F 70)).toInt = ((sy_i F 69).toInt + (sy_i F 70).toInt) := nz_add (rfl : (sy_i F 69).toInt = (sy_i F 69).toInt) (rfl : (sy_i F 70).toInt = (sy_i F 70).toInt) (by omega) (by omega)
    have q77 : ((sy_ai F 24).getD ((sy_i F 69) + (sy_i F 70)).toNatClampNeg 0) &&& ((255 : Int32)) = ((sy_ai F 24).getD (((sy_i F 69).toInt + (sy_i F 70).toInt)).toNat 0) &&& ((255 : Int32)) := by simp only [nz_c, n75, (by decide : ((255 : Int32)).toInt = 255)]
    have n77 : (((sy_ai F 24).getD ((sy_i F 69) + (sy_i F 70)).toNatClampNeg 0) &&& ((255 : Int32))).toInt = (((sy_ai F 24).getD (((sy_i F 69).toInt + (sy_i F 70).toInt)).toNat 0) &&& ((255 : Int32))).toInt := congrArg Int32.toInt q77
    have n83 : ((sy_i F 70) + ((1 : Int32))).toInt = ((sy_i F 70).toInt + 1) := nz_add (rfl : (sy_i F 70).toInt = (sy_i F 70).toInt) (by decide : ((1 : Int32)).toInt = 1) (by omega) (by omega)
    have n79 : ((((sy_ai F 24).getD ((sy_i F 69) + (sy_i F 70)).toNatClampNeg 0) &&& ((255 : Int32))) - ((97 : Int32))).toInt = ((((sy_ai F 24).getD (((sy_i F 69).toInt + (sy_i F 70).toInt)).toNat 0) &&& ((255 : Int32))).toInt - 97) := nz_sub n77 (by decide : ((97 : Int32)).toInt = 97) (by omega) (by omega)
    have n80 : (((((sy_ai F 24).getD ((sy_i F 69) + (sy_i F 70)).toNatClampNeg 0) &&& ((255 : Int32))) - ((97 : Int32))) + ((1 : Int32))).toInt = (((((sy_ai F 24).getD (((sy_i F 69).toInt + (sy_i F 70).toInt)).toNat 0) &&& ((255 : Int32))).toInt - 97) + 1) := nz_add n79 (by decide : ((1 : Int32)).toInt = 1) (by omega) (by omega)
    have q82 : (((27 : Int64)) * (sy_l F 71)) + ((((((sy_ai F 24).getD ((sy_i F 69) + (sy_i F 70)).toNatClampNeg 0) &&& ((255 : Int32))) - ((97 : Int32))) + ((1 : Int32))).toInt64) = (((27 : Int64)) * (sy_l F 71)) + ((((((sy_ai F 24).getD (((sy_i F 69).toInt + (sy_i F 70).toInt)).toNat 0) &&& ((255 : Int32))) - ((97 : Int32))) + ((1 : Int32))).toInt64) := by simp only [nz_c, n75, n79, n80, (by decide : ((1 : Int32)).toInt = 1), (by decide : ((97 : Int32)).toInt = 97), (by decide : ((255 : Int32)).toInt = 255)]
    exact rc_85_p8 hd F X1 X2 hB (by first | exact g0 | (simp only [nz_c, n72]; exact g0) | (rw [n72]; exact g0)) (by first | exact ⟨by omega, by omega⟩ | (simp only [nz_c, n72]; exact ⟨by omega, by omega⟩) | (rw [n72]; exact ⟨by omega, by omega⟩)) (by first | exact g1 | (simp only [nz_c, n72]; exact g1) | (rw [n74]; exact g1)) (by first | exact g2 | (simp only [nz_c, n72]; exact g2) | (rw [n74]; exact g2)) (by first | exact g3 | (simp only [nz_c]; exact g3)) (by first | exact g4 | (simp only [nz_c, n75]; exact g4) | (rw [n75]; exact g4)) (by first | exact ⟨by omega, by omega⟩ | (simp only [nz_c, n75]; exact ⟨by omega, by omega⟩) | (rw [n75]; exact ⟨by omega, by omega⟩)) (by first | exact g5 | (simp only [nz_c, n75]; exact g5) | (rw [n77]; exact g5)) (fun F1 g e69 e70 e71 => k8 g0 g1 g2 g3 g4 g5 F1 (nz_in hB [] (fun j hj hn => g j hj (by simp only [List.mem_cons, List.not_mem_nil, or_false, not_or] at hn; exact trivial)) (List.forall_mem_nil _)) (fun j hj hn => g j hj (by simp only [List.mem_cons, List.not_mem_nil, or_false, not_or] at hn; exact trivial)) (nz_fi (g 2 (by decide) (by decide))) (nz_fi (g 3 (by decide) (by decide))) (nz_fa (g 25 (by decide) (by decide))) (nz_fa (g 26 (by decide) (by decide))) (nz_fa (g 27 (by decide) (by decide))) (nz_fl (g 28 (by decide) (by decide))) ((congrArg Int32.toInt (zz_i e69)).trans (rfl : (sy_i F 69).toInt = (sy_i F 69).toInt)) ((congrArg Int32.toInt (zz_i e70)).trans n83) ((zz_l e71).trans q82))
  replace g5 : oq ((((sy_ai F 24).getD (((sy_i F 69).toInt + (sy_i F 70).toInt)).toNat 0) &&& ((255 : Int32))).toInt) (0) := by first | exact Classical.not_not.mp g5 | exact g5 | omega
  have c2 := nz_bx hB (k := 2) (lo := 0) (hi := 2000) rfl
  have n72 : ((sy_i F 69) + (sy_i F 70)).toInt = ((sy_i F 69).toInt + (sy_i F 70).toInt) := nz_add (rfl : (sy_i F 69).toInt = (sy_i F 69).toInt) (rfl : (sy_i F 70).toInt = (sy_i F 70).toInt) (by omega) (by omega)
  have q74 : ((sy_ai F 24).getD ((sy_i F 69) + (sy_i F 70)).toNatClampNeg 0) &&& ((255 : Int32)) = ((sy_ai F 24).getD (((sy_i F 69).toInt + (sy_i F 70).toInt)).toNat 0) &&& ((255 : Int32)) := by simp only [nz_c, n72, (by decide : ((255 : Int32)).toInt = 255)]
  have n74 : (((sy_ai F 24).getD ((sy_i F 69) + (sy_i F 70)).toNatClampNeg 0) &&& ((255 : Int32))).toInt = (((sy_ai F 24).getD (((sy_i F 69).toInt + (sy_i F 70).toInt)).toNat 0) &&& ((255 : Int32))).toInt := congrArg Int32.toInt q74
  have n75 : ((sy_i F 69) + (sy_i F 70)).toInt = ((sy_i F 69).toInt + (sy_i F 70).toInt) := nz_add (rfl : (sy_i F 69).toInt = (sy_i F 69).toInt) (rfl : (sy_i F 70).toInt = (sy_i F 70).toInt) (by omega) (by omega)
  have q77 : ((sy_ai F 24).getD ((sy_i F 69) + (sy_i F 70)).toNatClampNeg 0) &&& ((255 : Int32)) = ((sy_ai F 24).getD (((sy_i F 69).toInt + (sy_i F 70).toInt)).toNat 0) &&& ((255 : Int32)) := by simp only [nz_c, n75, (by decide : ((255 : Int32)).toInt = 255)]
  have n77 : (((sy_ai F 24).getD ((sy_i F 69) + (sy_i F 70)).toNatClampNeg 0) &&& ((255 : Int32))).toInt = (((sy_ai F 24).getD (((sy_i F 69).toInt + (sy_i F 70).toInt)).toNat 0) &&& ((255 : Int32))).toInt := congrArg Int32.toInt q77
  have n78 : ((sy_i F 70) + ((1 : Int32))).toInt = ((sy_i F 70).toInt + 1) := nz_add (rfl : (sy_i F 70).toInt = (sy_i F 70).toInt) (by decide : ((1 : Int32)).toInt = 1) (by omega) (by omega)
  exact rc_85_p9 hd F X1 X2 hB (by first | exact g0 | (simp only [nz_c, n72]; exact g0) | (rw [n72]; exact g0)) (by first | exact ⟨by omega, by omega⟩ | (simp only [nz_c, n72]; exact ⟨by omega, by omega⟩) | (rw [n72]; exact ⟨by omega, by omega⟩)) (by first | exact g1 | (simp only [nz_c, n72]; exact g1) | (rw [n74]; exact g1)) (by first | exact g2 | (simp only [nz_c, n72]; exact g2) | (rw [n74]; exact g2)) (by first | exact g3 | (simp only [nz_c]; exact g3)) (by first | exact g4 | (simp only [nz_c, n75]; exact g4) | (rw [n75]; exact g4)) (by first | exact ⟨by omega, by omega⟩ | (simp only [nz_c, n75]; exact ⟨by omega, by omega⟩) | (rw [n75]; exact ⟨by omega, by omega⟩)) (by first | exact g5 | (simp only [nz_c, n75]; exact g5) | (rw [n77]; exact g5)) (fun F1 g e69 e70 e71 => k9 g0 g1 g2 g3 g4 g5 F1 (nz_in hB [] (fun j hj hn => g j hj (by simp only [List.mem_cons, List.not_mem_nil, or_false, not_or] at hn; exact trivial)) (List.forall_mem_nil _)) (fun j hj hn => g j hj (by simp only [List.mem_cons, List.not_mem_nil, or_false, not_or] at hn; exact trivial)) (nz_fi (g 2 (by decide) (by decide))) (nz_fi (g 3 (by decide) (by decide))) (nz_fa (g 25 (by decide) (by decide))) (nz_fa (g 26 (by decide) (by decide))) (nz_fa (g 27 (by decide) (by decide))) (nz_fl (g 28 (by decide) (by decide))) ((congrArg Int32.toInt (zz_i e69)).trans (rfl : (sy_i F 69).toInt = (sy_i F 69).toInt)) ((congrArg Int32.toInt (zz_i e70)).trans n78) ((zz_l e71).trans (rfl : sy_l F 71 = sy_l F 71)))
theorem rc_146_p0 {Ls : Nat} {xs : Nat → Int32} {d : Nat} {Q : Option Value → jm_h → Prop} (hd : 4 ≤ d) (F : Nat → sy_d) (X1 X2 : List jm_c) (hB : iv_in F iv_B4)
    (h0 : 23 ≤ (sy_i F 73).toInt)
    (h1 : 0 ≤ (sy_i F 3).toInt ∧ (sy_i F 3).toInt < 403)
    (h2 : 0 ≤ (sy_i F 3).toInt ∧ (sy_i F 3).toInt < 403)
    (h3 : 0 ≤ (sy_i F 3).toInt ∧ (sy_i F 3).toInt < 403)
    (h4 : 0 ≤ (sy_i F 3).toInt ∧ (sy_i F 3).toInt < 403)
    (k : ∀ F1 : Nat → sy_d, (∀ j, j < 69 → j ≠ 3 ∧ j ≠ 25 ∧ j ≠ 26 ∧ j ≠ 27 ∧ j ≠ 28 → F1 j = F j) → F1 3 = .inl (.int ((sy_i F 3) + ((1 : Int32)))) → F1 25 = .inr (.inl (jm_upd (sy_ai F 25) (sy_i F 3).toNatClampNeg (sy_i F 72))) → F1 26 = .inr (.inl (jm_upd (sy_ai F 26) (sy_i F 3).toNatClampNeg (sy_i F 69))) → F1 27 = .inr (.inl (jm_upd (sy_ai F 27) (sy_i F 3).toNatClampNeg ((0 : Int32)))) → F1 28 = .inr (.inr (jm_updL (sy_al F 28) (sy_i F 3).toNatClampNeg (sy_l F 71))) → F1 69 = .inl (.int ((sy_i F 69) + (sy_i F 70))) → hd_W Ls xs d jm_M142 Q (7, sy_dL F1 [some (.inl (.ref 1000)), some (.inr (.inl 69)), none, none, none, none, none, none], sy_dS F1 [], sy_dh F1 X1 X2 (iv_H 4), 0, 0)) :
    hd_W Ls xs d jm_M142 Q (146, sy_dL F [some (.inl (.ref 1000)), some (.inr (.inl 69)), none, some (.inr (.inl 70)), some (.inr (.inr 71)), none, some (.inr (.inl 72)), some (.inr (.inl 73))], sy_dS F [], sy_dh F X1 X2 (iv_H 4), 0, 0) := by
  refine hd_run (s := 4) (nv := 74) (pc := 7) (L := [some (.inl (.ref 1000)), some (.inr (.inl 69)), none, none, none, none, none, none]) (S := []) (uh := hd_ov (iv_id 0 iv_B4) [(3, .inl (.inr (.inl 78))), (25, .inr (.inr (.inl 74))), (26, .inr (.inr (.inl 75))), (27, .inr (.inr (.inl 76))), (28, .inr (.inr (.inr 77)))]) (ul := [.inl (.inr (.inl 79))]) (f := true) (sp := [7, 146]) (d0 := 3) (O := [true]) (T := [(40, [.inr (.inl 3), .inr (.inl 72)], [.inr (.inl 25)]), (40, [.inr (.inl 3), .inr (.inl 69)], [.inr (.inl 26)]), (40, [.inr (.inl 3), .inl (.int 0)], [.inr (.inl 27)]), (40, [.inr (.inl 3), .inr (.inr 71)], [.inr (.inr 28)]), (0, [.inr (.inl 3), .inl (.int 1)], []), (0, [.inr (.inl 69), .inr (.inl 70)], [])]) (P := [(4, .inl (.int 23), .inr (.inl 73)), (6, .inr (.inl 3), .inl (.ref 403)), (6, .inr (.inl 3), .inl (.ref 403)), (6, .inr (.inl 3), .inl (.ref 403)), (6, .inr (.inl 3), .inl (.ref 403))]) jm_ok142 (by decide +kernel) (by decide +kernel) hd F X1 X2 (fun F' hF hs => ?_)
  have b73 := hd_b (F := F) (F' := F') (k := 73) (hF 73 (by decide))
  have b3 := hd_b (F := F) (F' := F') (k := 3) (hF 3 (by decide))
  have t78 : sy_dv F' (.inr (.inl 78)) = .int ((sy_i F 3) + ((1 : Int32))) := hd_o (hs 4 _ rfl) b3 rfl rfl
  have b72 := hd_b (F := F) (F' := F') (k := 72) (hF 72 (by decide))
  have a25 := hd_ba (F := F) (F' := F') (k := 25) (hF 25 (by decide))
  have t74 : sy_da F' (.inr (.inl 74)) = .inl (jm_upd (sy_ai F 25) (sy_i F 3).toNatClampNeg (sy_i F 72)) := hd_up (hs 0 _ rfl) b3 b72 a25
  have b69 := hd_b (F := F) (F' := F') (k := 69) (hF 69 (by decide))
  have a26 := hd_ba (F := F) (F' := F') (k := 26) (hF 26 (by decide))
  have t75 : sy_da F' (.inr (.inl 75)) = .inl (jm_upd (sy_ai F 26) (sy_i F 3).toNatClampNeg (sy_i F 69)) := hd_up (hs 1 _ rfl) b3 b69 a26
  have a27 := hd_ba (F := F) (F' := F') (k := 27) (hF 27 (by decide))
  have t76 : sy_da F' (.inr (.inl 76)) = .inl (jm_upd (sy_ai F 27) (sy_i F 3).toNatClampNeg ((0 : Int32))) := hd_up (hs 2 _ rfl) b3 rfl a27
  have b71 := hd_bl (F := F) (F' := F') (k := 71) (hF 71 (by decide))
  have a28 := hd_bA (F := F) (F' := F') (k := 28) (hF 28 (by decide))
  have t77 : sy_da F' (.inr (.inr 77)) = .inr (jm_updL (sy_al F 28) (sy_i F 3).toNatClampNeg (sy_l F 71)) := hd_uA (hs 3 _ rfl) b3 b71 a28
  have b70 := hd_b (F := F) (F' := F') (k := 70) (hF 70 (by decide))
  have t79 : sy_dv F' (.inr (.inl 79)) = .int ((sy_i F 69) + (sy_i F 70)) := hd_o (hs 5 _ rfl) b69 b70 rfl
  have hB' : iv_in F' iv_B4 := iv_in_eq hB (fun j hj => hF j (Nat.lt_of_lt_of_le hj (by decide +kernel)))
  refine ⟨List.forall_mem_cons.mpr ⟨hd_p4 rfl b73 (by have hc : ((23) : Int32).toInt = 23 := (by decide); omega), List.forall_mem_cons.mpr ⟨hd_pb b3 (by first | exact h1 | exact h1), List.forall_mem_cons.mpr ⟨hd_pb b3 (by first | exact h2 | exact h2), List.forall_mem_cons.mpr ⟨hd_pb b3 (by first | exact h3 | exact h3), List.forall_mem_cons.mpr ⟨hd_pb b3 (by first | exact h4 | exact h4), fun _ h => absurd h List.not_mem_nil⟩⟩⟩⟩⟩, ?_⟩
  refine k _ ?_ ?_ ?_ ?_ ?_ ?_ ?_
  · exact fun j hj hn => (hd_keep hB' (Nat.lt_of_lt_of_le hj (by decide +kernel)) (by simp; omega)).trans (hF j (Nat.lt_of_lt_of_le hj (by decide)))
  · exact hd_gi (x := .inr (.inl 78)) (by decide +kernel) t78
  · exact hd_ga (a := .inr (.inl 74)) (by decide +kernel) t74
  · exact hd_ga (a := .inr (.inl 75)) (by decide +kernel) t75
  · exact hd_ga (a := .inr (.inl 76)) (by decide +kernel) t76
  · exact hd_gA (a := .inr (.inr 77)) (by decide +kernel) t77
  · exact hd_gi (x := .inr (.inl 79)) (by decide +kernel) t79
theorem rc_146_p1 {Ls : Nat} {xs : Nat → Int32} {d : Nat} {Q : Option Value → jm_h → Prop} (hd : 4 ≤ d) (F : Nat → sy_d) (X1 X2 : List jm_c) (hB : iv_in F iv_B4)
    (h0 : (sy_i F 73).toInt < 23)
    (h1 : 0 ≤ (sy_i F 73).toInt ∧ (sy_i F 73).toInt < 23)
    (h2 : (lg_cmp ((sy_al F 29).getD (sy_i F 73).toNatClampNeg 0) (sy_l F 71)).toInt ≠ 0)
    (k : ∀ F1 : Nat → sy_d, (∀ j, j < 69 → True → F1 j = F j) → F1 69 = .inl (.int (sy_i F 69)) → F1 70 = .inl (.int (sy_i F 70)) → F1 71 = .inl (.long (sy_l F 71)) → F1 72 = .inl (.int (sy_i F 72)) → F1 73 = .inl (.int ((sy_i F 73) + ((1 : Int32)))) → hd_W Ls xs d jm_M142 Q (146, sy_dL F1 [some (.inl (.ref 1000)), some (.inr (.inl 69)), none, some (.inr (.inl 70)), some (.inr (.inr 71)), none, some (.inr (.inl 72)), some (.inr (.inl 73))], sy_dS F1 [], sy_dh F1 X1 X2 (iv_H 4), 0, 0)) :
    hd_W Ls xs d jm_M142 Q (146, sy_dL F [some (.inl (.ref 1000)), some (.inr (.inl 69)), none, some (.inr (.inl 70)), some (.inr (.inr 71)), none, some (.inr (.inl 72)), some (.inr (.inl 73))], sy_dS F [], sy_dh F X1 X2 (iv_H 4), 0, 0) := by
  refine hd_run (s := 4) (nv := 74) (pc := 146) (L := [some (.inl (.ref 1000)), some (.inr (.inl 69)), none, some (.inr (.inl 70)), some (.inr (.inr 71)), none, some (.inr (.inl 72)), some (.inr (.inl 73))]) (S := []) (uh := hd_ov (iv_id 0 iv_B4) []) (ul := [.inl (.inr (.inl 69)), .inl (.inr (.inl 70)), .inl (.inr (.inr 71)), .inl (.inr (.inl 72)), .inl (.inr (.inl 76))]) (f := true) (sp := [7, 146]) (d0 := 3) (O := [false, true]) (T := [(30, [.inr (.inl 73)], [.inr (.inr 29)]), (17, [.inr (.inr 74), .inr (.inr 71)], []), (0, [.inr (.inl 73), .inl (.int 1)], [])]) (P := [(5, .inl (.int 23), .inr (.inl 73)), (6, .inr (.inl 73), .inl (.ref 23)), (1, .inr (.inl 75), .inl (.int 0))]) jm_ok142 (by decide +kernel) (by decide +kernel) hd F X1 X2 (fun F' hF hs => ?_)
  have b73 := hd_b (F := F) (F' := F') (k := 73) (hF 73 (by decide))
  have a29 := hd_bA (F := F) (F' := F') (k := 29) (hF 29 (by decide))
  have t74 : sy_dv F' (.inr (.inr 74)) = .long ((sy_al F 29).getD (sy_i F 73).toNatClampNeg 0) := hd_rL (hs 0 _ rfl) b73 a29
  have b71 := hd_bl (F := F) (F' := F') (k := 71) (hF 71 (by decide))
  have t75 : sy_dv F' (.inr (.inl 75)) = .int (lg_cmp ((sy_al F 29).getD (sy_i F 73).toNatClampNeg 0) (sy_l F 71)) := hd_oc (hs 1 _ rfl) t74 b71 rfl
  have b69 := hd_b (F := F) (F' := F') (k := 69) (hF 69 (by decide))
  have b70 := hd_b (F := F) (F' := F') (k := 70) (hF 70 (by decide))
  have b72 := hd_b (F := F) (F' := F') (k := 72) (hF 72 (by decide))
  have t76 : sy_dv F' (.inr (.inl 76)) = .int ((sy_i F 73) + ((1 : Int32))) := hd_o (hs 2 _ rfl) b73 rfl rfl
  have hB' : iv_in F' iv_B4 := iv_in_eq hB (fun j hj => hF j (Nat.lt_of_lt_of_le hj (by decide +kernel)))
  refine ⟨List.forall_mem_cons.mpr ⟨hd_p5 rfl b73 (by have hc : ((23) : Int32).toInt = 23 := (by decide); omega), List.forall_mem_cons.mpr ⟨hd_pb b73 (by first | exact h1 | exact h1), List.forall_mem_cons.mpr ⟨hd_p1 t75 rfl (by have hc : ((0) : Int32).toInt = 0 := (by decide); omega), fun _ h => absurd h List.not_mem_nil⟩⟩⟩, ?_⟩
  refine k _ ?_ ?_ ?_ ?_ ?_ ?_
  · exact fun j hj _ => (hd_keep hB' (Nat.lt_of_lt_of_le hj (by decide +kernel)) (by simp)).trans (hF j (Nat.lt_of_lt_of_le hj (by decide)))
  · exact hd_gi (x := .inr (.inl 69)) (by decide +kernel) b69
  · exact hd_gi (x := .inr (.inl 70)) (by decide +kernel) b70
  · exact hd_gl (x := .inr (.inr 71)) (by decide +kernel) b71
  · exact hd_gi (x := .inr (.inl 72)) (by decide +kernel) b72
  · exact hd_gi (x := .inr (.inl 76)) (by decide +kernel) t76
theorem rc_146_p2 {Ls : Nat} {xs : Nat → Int32} {d : Nat} {Q : Option Value → jm_h → Prop} (hd : 4 ≤ d) (F : Nat → sy_d) (X1 X2 : List jm_c) (hB : iv_in F iv_B4)
    (h0 : (sy_i F 73).toInt < 23)
    (h1 : 0 ≤ (sy_i F 73).toInt ∧ (sy_i F 73).toInt < 23)
    (h2 : (lg_cmp ((sy_al F 29).getD (sy_i F 73).toNatClampNeg 0) (sy_l F 71)).toInt = 0)
    (k : ∀ F1 : Nat → sy_d, (∀ j, j < 69 → True → F1 j = F j) → F1 69 = .inl (.int (sy_i F 69)) → F1 70 = .inl (.int (sy_i F 70)) → F1 71 = .inl (.long (sy_l F 71)) → F1 72 = .inl (.int (((20 : Int32)) + (sy_i F 73))) → F1 73 = .inl (.int ((sy_i F 73) + ((1 : Int32)))) → hd_W Ls xs d jm_M142 Q (146, sy_dL F1 [some (.inl (.ref 1000)), some (.inr (.inl 69)), none, some (.inr (.inl 70)), some (.inr (.inr 71)), none, some (.inr (.inl 72)), some (.inr (.inl 73))], sy_dS F1 [], sy_dh F1 X1 X2 (iv_H 4), 0, 0)) :
    hd_W Ls xs d jm_M142 Q (146, sy_dL F [some (.inl (.ref 1000)), some (.inr (.inl 69)), none, some (.inr (.inl 70)), some (.inr (.inr 71)), none, some (.inr (.inl 72)), some (.inr (.inl 73))], sy_dS F [], sy_dh F X1 X2 (iv_H 4), 0, 0) := by
  refine hd_run (s := 4) (nv := 74) (pc := 146) (L := [some (.inl (.ref 1000)), some (.inr (.inl 69)), none, some (.inr (.inl 70)), some (.inr (.inr 71)), none, some (.inr (.inl 72)), some (.inr (.inl 73))]) (S := []) (uh := hd_ov (iv_id 0 iv_B4) []) (ul := [.inl (.inr (.inl 69)), .inl (.inr (.inl 70)), .inl (.inr (.inr 71)), .inl (.inr (.inl 76)), .inl (.inr (.inl 77))]) (f := true) (sp := [7, 146]) (d0 := 3) (O := [false, false]) (T := [(30, [.inr (.inl 73)], [.inr (.inr 29)]), (17, [.inr (.inr 74), .inr (.inr 71)], []), (0, [.inl (.int 20), .inr (.inl 73)], []), (0, [.inr (.inl 73), .inl (.int 1)], [])]) (P := [(5, .inl (.int 23), .inr (.inl 73)), (6, .inr (.inl 73), .inl (.ref 23)), (0, .inr (.inl 75), .inl (.int 0))]) jm_ok142 (by decide +kernel) (by decide +kernel) hd F X1 X2 (fun F' hF hs => ?_)
  have b73 := hd_b (F := F) (F' := F') (k := 73) (hF 73 (by decide))
  have a29 := hd_bA (F := F) (F' := F') (k := 29) (hF 29 (by decide))
  have t74 : sy_dv F' (.inr (.inr 74)) = .long ((sy_al F 29).getD (sy_i F 73).toNatClampNeg 0) := hd_rL (hs 0 _ rfl) b73 a29
  have b71 := hd_bl (F := F) (F' := F') (k := 71) (hF 71 (by decide))
  have t75 : sy_dv F' (.inr (.inl 75)) = .int (lg_cmp ((sy_al F 29).getD (sy_i F 73).toNatClampNeg 0) (sy_l F 71)) := hd_oc (hs 1 _ rfl) t74 b71 rfl
  have b69 := hd_b (F := F) (F' := F') (k := 69) (hF 69 (by decide))
  have b70 := hd_b (F := F) (F' := F') (k := 70) (hF 70 (by decide))
  have t76 : sy_dv F' (.inr (.inl 76)) = .int (((20 : Int32)) + (sy_i F 73)) := hd_o (hs 2 _ rfl) rfl b73 rfl
  have t77 : sy_dv F' (.inr (.inl 77)) = .int ((sy_i F 73) + ((1 : Int32))) := hd_o (hs 3 _ rfl) b73 rfl rfl
  have hB' : iv_in F' iv_B4 := iv_in_eq hB (fun j hj => hF j (Nat.lt_of_lt_of_le hj (by decide +kernel)))
  refine ⟨List.forall_mem_cons.mpr ⟨hd_p5 rfl b73 (by have hc : ((23) : Int32).toInt = 23 := (by decide); omega), List.forall_mem_cons.mpr ⟨hd_pb b73 (by first | exact h1 | exact h1), List.forall_mem_cons.mpr ⟨hd_p0 t75 rfl (by have hc : ((0) : Int32).toInt = 0 := (by decide); omega), fun _ h => absurd h List.not_mem_nil⟩⟩⟩, ?_⟩
  refine k _ ?_ ?_ ?_ ?_ ?_ ?_
  · exact fun j hj _ => (hd_keep hB' (Nat.lt_of_lt_of_le hj (by decide +kernel)) (by simp)).trans (hF j (Nat.lt_of_lt_of_le hj (by decide)))
  · exact hd_gi (x := .inr (.inl 69)) (by decide +kernel) b69
  · exact hd_gi (x := .inr (.inl 70)) (by decide +kernel) b70
  · exact hd_gl (x := .inr (.inr 71)) (by decide +kernel) b71
  · exact hd_gi (x := .inr (.inl 76)) (by decide +kernel) t76
  · exact hd_gi (x := .inr (.inl 77)) (by decide +kernel) t77
theorem rc_146 {Ls : Nat} {xs : Nat → Int32} {d : Nat} {Q : Option Value → jm_h → Prop} (hd : 4 ≤ d) (F : Nat → sy_d) (X1 X2 : List jm_c) (hB : iv_in F iv_B4)
    (a69 : 0 ≤ (sy_i F 69).toInt ∧ (sy_i F 69).toInt ≤ 2000)
    (a70 : 0 ≤ (sy_i F 70).toInt ∧ (sy_i F 70).toInt ≤ 8)
    (a73 : 0 ≤ (sy_i F 73).toInt ∧ (sy_i F 73).toInt ≤ 23)
    (o0 : 23 ≤ (sy_i F 73).toInt → (0 ≤ ((sy_i F 3).toInt + 1) ∧ ((sy_i F 3).toInt + 1) ≤ 402))
    (o1 : 23 ≤ (sy_i F 73).toInt → (0 ≤ (sy_i F 72).toInt ∧ (sy_i F 72).toInt ≤ 42))
    (k0 : 23 ≤ (sy_i F 73).toInt → ∀ F1 : Nat → sy_d, iv_in F1 iv_B4 → (∀ j, j < 69 → j ∉ ([3, 25, 26, 27, 28] : List Nat) → F1 j = F j) → (sy_i F1 2).toInt = (sy_i F 2).toInt → (sy_i F1 3).toInt = ((sy_i F 3).toInt + 1) → sy_ai F1 25 = jm_upd (sy_ai F 25) ((sy_i F 3).toInt).toNat (sy_i F 72) → sy_ai F1 26 = jm_upd (sy_ai F 26) ((sy_i F 3).toInt).toNat (sy_i F 69) → sy_ai F1 27 = jm_upd (sy_ai F 27) ((sy_i F 3).toInt).toNat ((0 : Int32)) → sy_al F1 28 = jm_updL (sy_al F 28) ((sy_i F 3).toInt).toNat (sy_l F 71) → (sy_i F1 69).toInt = ((sy_i F 69).toInt + (sy_i F 70).toInt) → hd_W Ls xs d jm_M142 Q (7, sy_dL F1 [some (.inl (.ref 1000)), some (.inr (.inl 69)), none, none, none, none, none, none], sy_dS F1 [], sy_dh F1 X1 X2 (iv_H 4), 0, 0))
    (k1 : (sy_i F 73).toInt < 23 → (lg_cmp ((sy_al F 29).getD ((sy_i F 73).toInt).toNat 0) (sy_l F 71)).toInt ≠ 0 → ∀ F1 : Nat → sy_d, iv_in F1 iv_B4 → (∀ j, j < 69 → j ∉ ([] : List Nat) → F1 j = F j) → (sy_i F1 2).toInt = (sy_i F 2).toInt → (sy_i F1 3).toInt = (sy_i F 3).toInt → sy_ai F1 25 = sy_ai F 25 → sy_ai F1 26 = sy_ai F 26 → sy_ai F1 27 = sy_ai F 27 → sy_al F1 28 = sy_al F 28 → (sy_i F1 69).toInt = (sy_i F 69).toInt → (sy_i F1 70).toInt = (sy_i F 70).toInt → sy_l F1 71 = sy_l F 71 → (sy_i F1 72).toInt = (sy_i F 72).toInt → (sy_i F1 73).toInt = ((sy_i F 73).toInt + 1) → hd_W Ls xs d jm_M142 Q (146, sy_dL F1 [some (.inl (.ref 1000)), some (.inr (.inl 69)), none, some (.inr (.inl 70)), some (.inr (.inr 71)), none, some (.inr (.inl 72)), some (.inr (.inl 73))], sy_dS F1 [], sy_dh F1 X1 X2 (iv_H 4), 0, 0))
    (k2 : (sy_i F 73).toInt < 23 → (lg_cmp ((sy_al F 29).getD ((sy_i F 73).toInt).toNat 0) (sy_l F 71)).toInt = 0 → ∀ F1 : Nat → sy_d, iv_in F1 iv_B4 → (∀ j, j < 69 → j ∉ ([] : List Nat) → F1 j = F j) → (sy_i F1 2).toInt = (sy_i F 2).toInt → (sy_i F1 3).toInt = (sy_i F 3).toInt → sy_ai F1 25 = sy_ai F 25 → sy_ai F1 26 = sy_ai F 26 → sy_ai F1 27 = sy_ai F 27 → sy_al F1 28 = sy_al F 28 → (sy_i F1 69).toInt = (sy_i F 69).toInt → (sy_i F1 70).toInt = (sy_i F 70).toInt → sy_l F1 71 = sy_l F 71 → (sy_i F1 72).toInt = (20 + (sy_i F 73).toInt) → (sy_i F1 73).toInt = ((sy_i F 73).toInt + 1) → hd_W Ls xs d jm_M142 Q (146, sy_dL F1 [some (.inl (.ref 1000)), some (.inr (.inl 69)), none, some (.inr (.inl 70)), some (.inr (.inr 71)), none, some (.inr (.inl 72)), some (.inr (.inl 73))], sy_dS F1 [], sy_dh F1 X1 X2 (iv_H 4), 0, 0)) :
    hd_W Ls xs d jm_M142 Q (146, sy_dL F [some (.inl (.ref 1000)), some (.inr (.inl 69)), none, some (.inr (.inl 70)), some (.inr (.inr 71)), none, some (.inr (.inl 72)), some (.inr (.inl 73))], sy_dS F [], sy_dh F X1 X2 (iv_H 4), 0, 0) := by
  by_cases g0 : 23 ≤ (sy_i F 73).toInt
  · have c3 := nz_bx hB (k := 3) (lo := 0) (hi := 402) rfl
    have n78 : ((sy_i F 3) + ((1 : Int32))).toInt = ((sy_i F 3).toInt + 1) := nz_add (rfl : (sy_i F 3).toInt = (sy_i F 3).toInt) (by decide : ((1 : Int32)).toInt = 1) (by omega) (by omega)
    have w74 : jm_upd (sy_ai F 25) (sy_i F 3).toNatClampNeg (sy_i F 72) = jm_upd (sy_ai F 25) ((sy_i F 3).toInt).toNat (sy_i F 72) := by simp only [nz_c]
    have w75 : jm_upd (sy_ai F 26) (sy_i F 3).toNatClampNeg (sy_i F 69) = jm_upd (sy_ai F 26) ((sy_i F 3).toInt).toNat (sy_i F 69) := by simp only [nz_c]
    have w76 : jm_upd (sy_ai F 27) (sy_i F 3).toNatClampNeg ((0 : Int32)) = jm_upd (sy_ai F 27) ((sy_i F 3).toInt).toNat ((0 : Int32)) := by simp only [nz_c, (by decide : ((0 : Int32)).toInt = 0)]
    have w77 : jm_updL (sy_al F 28) (sy_i F 3).toNatClampNeg (sy_l F 71) = jm_updL (sy_al F 28) ((sy_i F 3).toInt).toNat (sy_l F 71) := by simp only [nz_c]
    have n79 : ((sy_i F 69) + (sy_i F 70)).toInt = ((sy_i F 69).toInt + (sy_i F 70).toInt) := nz_add (rfl : (sy_i F 69).toInt = (sy_i F 69).toInt) (rfl : (sy_i F 70).toInt = (sy_i F 70).toInt) (by omega) (by omega)
    exact rc_146_p0 hd F X1 X2 hB (by first | exact g0 | (simp only [nz_c]; exact g0)) (by first | exact ⟨by omega, by omega⟩ | (simp only [nz_c]; exact ⟨by omega, by omega⟩)) (by first | exact ⟨by omega, by omega⟩ | (simp only [nz_c]; exact ⟨by omega, by omega⟩)) (by first | exact ⟨by omega, by omega⟩ | (simp only [nz_c]; exact ⟨by omega, by omega⟩)) (by first | exact ⟨by omega, by omega⟩ | (simp only [nz_c]; exact ⟨by omega, by omega⟩)) (fun F1 g e3 e25 e26 e27 e28 e69 => k0 g0 F1 (nz_in hB [3, 25, 26, 27, 28] (fun j hj hn => g j hj (by simp only [List.mem_cons, List.not_mem_nil, or_false, not_or] at hn; omega)) (List.forall_mem_cons.mpr ⟨fun t ht => (Option.some.inj ht) ▸ (nz_hi e3 n78 (o0 g0).1 (o0 g0).2), List.forall_mem_cons.mpr ⟨fun t ht => (Option.some.inj ht) ▸ (nz_hA e25 (nz_up (nz_ba hB (k := 25) (lo := 0) (hi := 42) rfl) (rfl : (sy_i F 72).toInt = (sy_i F 72).toInt) (o1 g0).1 (o1 g0).2)), List.forall_mem_cons.mpr ⟨fun t ht => (Option.some.inj ht) ▸ (nz_hz2 e26), List.forall_mem_cons.mpr ⟨fun t ht => (Option.some.inj ht) ▸ (nz_hz2 e27), List.forall_mem_cons.mpr ⟨fun t ht => (Option.some.inj ht) ▸ (nz_hz3 e28), List.forall_mem_nil _⟩⟩⟩⟩⟩)) (fun j hj hn => g j hj (by simp only [List.mem_cons, List.not_mem_nil, or_false, not_or] at hn; omega)) (nz_fi (g 2 (by decide) (by decide))) ((congrArg Int32.toInt (zz_i e3)).trans n78) ((zz_ai e25).trans w74) ((zz_ai e26).trans w75) ((zz_ai e27).trans w76) ((zz_al e28).trans w77) ((congrArg Int32.toInt (zz_i e69)).trans n79))
  replace g0 : (sy_i F 73).toInt < 23 := by omega
  by_cases g1 : (lg_cmp ((sy_al F 29).getD ((sy_i F 73).toInt).toNat 0) (sy_l F 71)).toInt ≠ 0
  · have q75 : lg_cmp ((sy_al F 29).getD (sy_i F 73).toNatClampNeg 0) (sy_l F 71) = lg_cmp ((sy_al F 29).getD ((sy_i F 73).toInt).toNat 0) (sy_l F 71) := by simp only [nz_c]
    have n75 : (lg_cmp ((sy_al F 29).getD (sy_i F 73).toNatClampNeg 0) (sy_l F 71)).toInt = (lg_cmp ((sy_al F 29).getD ((sy_i F 73).toInt).toNat 0) (sy_l F 71)).toInt := congrArg Int32.toInt q75
    have n76 : ((sy_i F 73) + ((1 : Int32))).toInt = ((sy_i F 73).toInt + 1) := nz_add (rfl : (sy_i F 73).toInt = (sy_i F 73).toInt) (by decide : ((1 : Int32)).toInt = 1) (by omega) (by omega)
    exact rc_146_p1 hd F X1 X2 hB (by first | exact g0 | (simp only [nz_c]; exact g0)) (by first | exact ⟨by omega, by omega⟩ | (simp only [nz_c]; exact ⟨by omega, by omega⟩)) (by first | exact g1 | (simp only [nz_c]; exact g1) | (rw [n75]; exact g1)) (fun F1 g e69 e70 e71 e72 e73 => k1 g0 g1 F1 (nz_in hB [] (fun j hj hn => g j hj (by simp only [List.mem_cons, List.not_mem_nil, or_false, not_or] at hn; exact trivial)) (List.forall_mem_nil _)) (fun j hj hn => g j hj (by simp only [List.mem_cons, List.not_mem_nil, or_false, not_or] at hn; exact trivial)) (nz_fi (g 2 (by decide) (by decide))) (nz_fi (g 3 (by decide) (by decide))) (nz_fa (g 25 (by decide) (by decide))) (nz_fa (g 26 (by decide) (by decide))) (nz_fa (g 27 (by decide) (by decide))) (nz_fl (g 28 (by decide) (by decide))) ((congrArg Int32.toInt (zz_i e69)).trans (rfl : (sy_i F 69).toInt = (sy_i F 69).toInt)) ((congrArg Int32.toInt (zz_i e70)).trans (rfl : (sy_i F 70).toInt = (sy_i F 70).toInt)) ((zz_l e71).trans (rfl : sy_l F 71 = sy_l F 71)) ((congrArg Int32.toInt (zz_i e72)).trans (rfl : (sy_i F 72).toInt = (sy_i F 72).toInt)) ((congrArg Int32.toInt (zz_i e73)).trans n76))
  replace g1 : (lg_cmp ((sy_al F 29).getD ((sy_i F 73).toInt).toNat 0) (sy_l F 71)).toInt = 0 := by omega
  have q75 : lg_cmp ((sy_al F 29).getD (sy_i F 73).toNatClampNeg 0) (sy_l F 71) = lg_cmp ((sy_al F 29).getD ((sy_i F 73).toInt).toNat 0) (sy_l F 71) := by simp only [nz_c]
  have n75 : (lg_cmp ((sy_al F 29).getD (sy_i F 73).toNatClampNeg 0) (sy_l F 71)).toInt = (lg_cmp ((sy_al F 29).getD ((sy_i F 73).toInt).toNat 0) (sy_l F 71)).toInt := congrArg Int32.toInt q75
  have n76 : (((20 : Int32)) + (sy_i F 73)).toInt = (20 + (sy_i F 73).toInt) := nz_add (by decide : ((20 : Int32)).toInt = 20) (rfl : (sy_i F 73).toInt = (sy_i F 73).toInt) (by omega) (by omega)
  have n77 : ((sy_i F 73) + ((1 : Int32))).toInt = ((sy_i F 73).toInt + 1) := nz_add (rfl : (sy_i F 73).toInt = (sy_i F 73).toInt) (by decide : ((1 : Int32)).toInt = 1) (by omega) (by omega)
  exact rc_146_p2 hd F X1 X2 hB (by first | exact g0 | (simp only [nz_c]; exact g0)) (by first | exact ⟨by omega, by omega⟩ | (simp only [nz_c]; exact ⟨by omega, by omega⟩)) (by first | exact g1 | (simp only [nz_c]; exact g1) | (rw [n75]; exact g1)) (fun F1 g e69 e70 e71 e72 e73 => k2 g0 g1 F1 (nz_in hB [] (fun j hj hn => g j hj (by simp only [List.mem_cons, List.not_mem_nil, or_false, not_or] at hn; exact trivial)) (List.forall_mem_nil _)) (fun j hj hn => g j hj (by simp only [List.mem_cons, List.not_mem_nil, or_false, not_or] at hn; exact trivial)) (nz_fi (g 2 (by decide) (by decide))) (nz_fi (g 3 (by decide) (by decide))) (nz_fa (g 25 (by decide) (by decide))) (nz_fa (g 26 (by decide) (by decide))) (nz_fa (g 27 (by decide) (by decide))) (nz_fl (g 28 (by decide) (by decide))) ((congrArg Int32.toInt (zz_i e69)).trans (rfl : (sy_i F 69).toInt = (sy_i F 69).toInt)) ((congrArg Int32.toInt (zz_i e70)).trans (rfl : (sy_i F 70).toInt = (sy_i F 70).toInt)) ((zz_l e71).trans (rfl : sy_l F 71 = sy_l F 71)) ((congrArg Int32.toInt (zz_i e72)).trans n76) ((congrArg Int32.toInt (zz_i e73)).trans n77))
theorem rc_208_p0 {Ls : Nat} {xs : Nat → Int32} {d : Nat} {Q : Option Value → jm_h → Prop} (hd : 4 ≤ d) (F : Nat → sy_d) (X1 X2 : List jm_c) (hB : iv_in F iv_B4)
    (h0 : (sy_i F 2).toInt ≤ ((sy_i F 69) + (sy_i F 70)).toInt)
    (h1 : (sy_i F 70).toInt ≤ 4)
    (h2 : 0 ≤ (sy_i F 3).toInt ∧ (sy_i F 3).toInt < 403)
    (h3 : 0 ≤ (sy_i F 3).toInt ∧ (sy_i F 3).toInt < 403)
    (h4 : 0 ≤ (sy_i F 3).toInt ∧ (sy_i F 3).toInt < 403)
    (h5 : 0 ≤ (sy_i F 3).toInt ∧ (sy_i F 3).toInt < 403)
    (k : ∀ F1 : Nat → sy_d, (∀ j, j < 69 → j ≠ 3 ∧ j ≠ 25 ∧ j ≠ 26 ∧ j ≠ 27 ∧ j ≠ 28 → F1 j = F j) → F1 3 = .inl (.int ((sy_i F 3) + ((1 : Int32)))) → F1 25 = .inr (.inl (jm_upd (sy_ai F 25) (sy_i F 3).toNatClampNeg ((2 : Int32)))) → F1 26 = .inr (.inl (jm_upd (sy_ai F 26) (sy_i F 3).toNatClampNeg (sy_i F 69))) → F1 27 = .inr (.inl (jm_upd (sy_ai F 27) (sy_i F 3).toNatClampNeg (sy_i F 71))) → F1 28 = .inr (.inr (jm_updL (sy_al F 28) (sy_i F 3).toNatClampNeg ((0 : Int64)))) → F1 69 = .inl (.int ((sy_i F 69) + (sy_i F 70))) → hd_W Ls xs d jm_M142 Q (7, sy_dL F1 [some (.inl (.ref 1000)), some (.inr (.inl 69)), none, none, none, none, none, none], sy_dS F1 [], sy_dh F1 X1 X2 (iv_H 4), 0, 0)) :
    hd_W Ls xs d jm_M142 Q (208, sy_dL F [some (.inl (.ref 1000)), some (.inr (.inl 69)), none, some (.inr (.inl 70)), some (.inr (.inl 71)), none, none, none], sy_dS F [], sy_dh F X1 X2 (iv_H 4), 0, 0) := by
  refine hd_run (s := 4) (nv := 72) (pc := 7) (L := [some (.inl (.ref 1000)), some (.inr (.inl 69)), none, none, none, none, none, none]) (S := []) (uh := hd_ov (iv_id 0 iv_B4) [(3, .inl (.inr (.inl 77))), (25, .inr (.inr (.inl 73))), (26, .inr (.inr (.inl 74))), (27, .inr (.inr (.inl 75))), (28, .inr (.inr (.inr 76)))]) (ul := [.inl (.inr (.inl 78))]) (f := true) (sp := [7, 208]) (d0 := 3) (O := [true, true]) (T := [(0, [.inr (.inl 69), .inr (.inl 70)], []), (40, [.inr (.inl 3), .inl (.int 2)], [.inr (.inl 25)]), (40, [.inr (.inl 3), .inr (.inl 69)], [.inr (.inl 26)]), (40, [.inr (.inl 3), .inr (.inl 71)], [.inr (.inl 27)]), (40, [.inr (.inl 3), .inl (.long 0)], [.inr (.inr 28)]), (0, [.inr (.inl 3), .inl (.int 1)], []), (0, [.inr (.inl 69), .inr (.inl 70)], [])]) (P := [(4, .inr (.inl 2), .inr (.inl 72)), (4, .inr (.inl 70), .inl (.int 4)), (6, .inr (.inl 3), .inl (.ref 403)), (6, .inr (.inl 3), .inl (.ref 403)), (6, .inr (.inl 3), .inl (.ref 403)), (6, .inr (.inl 3), .inl (.ref 403))]) jm_ok142 (by decide +kernel) (by decide +kernel) hd F X1 X2 (fun F' hF hs => ?_)
  have b2 := hd_b (F := F) (F' := F') (k := 2) (hF 2 (by decide))
  have b69 := hd_b (F := F) (F' := F') (k := 69) (hF 69 (by decide))
  have b70 := hd_b (F := F) (F' := F') (k := 70) (hF 70 (by decide))
  have t72 : sy_dv F' (.inr (.inl 72)) = .int ((sy_i F 69) + (sy_i F 70)) := hd_o (hs 0 _ rfl) b69 b70 rfl
  have b3 := hd_b (F := F) (F' := F') (k := 3) (hF 3 (by decide))
  have t77 : sy_dv F' (.inr (.inl 77)) = .int ((sy_i F 3) + ((1 : Int32))) := hd_o (hs 5 _ rfl) b3 rfl rfl
  have a25 := hd_ba (F := F) (F' := F') (k := 25) (hF 25 (by decide))
  have t73 : sy_da F' (.inr (.inl 73)) = .inl (jm_upd (sy_ai F 25) (sy_i F 3).toNatClampNeg ((2 : Int32))) := hd_up (hs 1 _ rfl) b3 rfl a25
  have a26 := hd_ba (F := F) (F' := F') (k := 26) (hF 26 (by decide))
  have t74 : sy_da F' (.inr (.inl 74)) = .inl (jm_upd (sy_ai F 26) (sy_i F 3).toNatClampNeg (sy_i F 69)) := hd_up (hs 2 _ rfl) b3 b69 a26
  have b71 := hd_b (F := F) (F' := F') (k := 71) (hF 71 (by decide))
  have a27 := hd_ba (F := F) (F' := F') (k := 27) (hF 27 (by decide))
  have t75 : sy_da F' (.inr (.inl 75)) = .inl (jm_upd (sy_ai F 27) (sy_i F 3).toNatClampNeg (sy_i F 71)) := hd_up (hs 3 _ rfl) b3 b71 a27
  have a28 := hd_bA (F := F) (F' := F') (k := 28) (hF 28 (by decide))
  have t76 : sy_da F' (.inr (.inr 76)) = .inr (jm_updL (sy_al F 28) (sy_i F 3).toNatClampNeg ((0 : Int64))) := hd_uA (hs 4 _ rfl) b3 rfl a28
  have t78 : sy_dv F' (.inr (.inl 78)) = .int ((sy_i F 69) + (sy_i F 70)) := hd_o (hs 6 _ rfl) b69 b70 rfl
  have hB' : iv_in F' iv_B4 := iv_in_eq hB (fun j hj => hF j (Nat.lt_of_lt_of_le hj (by decide +kernel)))
  refine ⟨List.forall_mem_cons.mpr ⟨hd_p4 b2 t72 h0, List.forall_mem_cons.mpr ⟨hd_p4 b70 rfl (by have hc : ((4) : Int32).toInt = 4 := (by decide); omega), List.forall_mem_cons.mpr ⟨hd_pb b3 (by first | exact h2 | exact h2), List.forall_mem_cons.mpr ⟨hd_pb b3 (by first | exact h3 | exact h3), List.forall_mem_cons.mpr ⟨hd_pb b3 (by first | exact h4 | exact h4), List.forall_mem_cons.mpr ⟨hd_pb b3 (by first | exact h5 | exact h5), fun _ h => absurd h List.not_mem_nil⟩⟩⟩⟩⟩⟩, ?_⟩
  refine k _ ?_ ?_ ?_ ?_ ?_ ?_ ?_
  · exact fun j hj hn => (hd_keep hB' (Nat.lt_of_lt_of_le hj (by decide +kernel)) (by simp; omega)).trans (hF j (Nat.lt_of_lt_of_le hj (by decide)))
  · exact hd_gi (x := .inr (.inl 77)) (by decide +kernel) t77
  · exact hd_ga (a := .inr (.inl 73)) (by decide +kernel) t73
  · exact hd_ga (a := .inr (.inl 74)) (by decide +kernel) t74
  · exact hd_ga (a := .inr (.inl 75)) (by decide +kernel) t75
  · exact hd_gA (a := .inr (.inr 76)) (by decide +kernel) t76
  · exact hd_gi (x := .inr (.inl 78)) (by decide +kernel) t78
theorem rc_208_p1 {Ls : Nat} {xs : Nat → Int32} {d : Nat} {Q : Option Value → jm_h → Prop} (hd : 4 ≤ d) (F : Nat → sy_d) (X1 X2 : List jm_c) (hB : iv_in F iv_B4)
    (h0 : (sy_i F 2).toInt ≤ ((sy_i F 69) + (sy_i F 70)).toInt)
    (h1 : 4 < (sy_i F 70).toInt)
    (h2 : 0 ≤ (sy_i F 3).toInt ∧ (sy_i F 3).toInt < 403)
    (h3 : 0 ≤ (sy_i F 3).toInt ∧ (sy_i F 3).toInt < 403)
    (h4 : 0 ≤ (sy_i F 3).toInt ∧ (sy_i F 3).toInt < 403)
    (h5 : 0 ≤ (sy_i F 3).toInt ∧ (sy_i F 3).toInt < 403)
    (k : ∀ F1 : Nat → sy_d, (∀ j, j < 69 → j ≠ 3 ∧ j ≠ 25 ∧ j ≠ 26 ∧ j ≠ 27 ∧ j ≠ 28 → F1 j = F j) → F1 3 = .inl (.int ((sy_i F 3) + ((1 : Int32)))) → F1 25 = .inr (.inl (jm_upd (sy_ai F 25) (sy_i F 3).toNatClampNeg ((3 : Int32)))) → F1 26 = .inr (.inl (jm_upd (sy_ai F 26) (sy_i F 3).toNatClampNeg (sy_i F 69))) → F1 27 = .inr (.inl (jm_upd (sy_ai F 27) (sy_i F 3).toNatClampNeg (sy_i F 71))) → F1 28 = .inr (.inr (jm_updL (sy_al F 28) (sy_i F 3).toNatClampNeg ((0 : Int64)))) → F1 69 = .inl (.int ((sy_i F 69) + (sy_i F 70))) → hd_W Ls xs d jm_M142 Q (7, sy_dL F1 [some (.inl (.ref 1000)), some (.inr (.inl 69)), none, none, none, none, none, none], sy_dS F1 [], sy_dh F1 X1 X2 (iv_H 4), 0, 0)) :
    hd_W Ls xs d jm_M142 Q (208, sy_dL F [some (.inl (.ref 1000)), some (.inr (.inl 69)), none, some (.inr (.inl 70)), some (.inr (.inl 71)), none, none, none], sy_dS F [], sy_dh F X1 X2 (iv_H 4), 0, 0) := by
  refine hd_run (s := 4) (nv := 72) (pc := 7) (L := [some (.inl (.ref 1000)), some (.inr (.inl 69)), none, none, none, none, none, none]) (S := []) (uh := hd_ov (iv_id 0 iv_B4) [(3, .inl (.inr (.inl 77))), (25, .inr (.inr (.inl 73))), (26, .inr (.inr (.inl 74))), (27, .inr (.inr (.inl 75))), (28, .inr (.inr (.inr 76)))]) (ul := [.inl (.inr (.inl 78))]) (f := true) (sp := [7, 208]) (d0 := 3) (O := [true, false]) (T := [(0, [.inr (.inl 69), .inr (.inl 70)], []), (40, [.inr (.inl 3), .inl (.int 3)], [.inr (.inl 25)]), (40, [.inr (.inl 3), .inr (.inl 69)], [.inr (.inl 26)]), (40, [.inr (.inl 3), .inr (.inl 71)], [.inr (.inl 27)]), (40, [.inr (.inl 3), .inl (.long 0)], [.inr (.inr 28)]), (0, [.inr (.inl 3), .inl (.int 1)], []), (0, [.inr (.inl 69), .inr (.inl 70)], [])]) (P := [(4, .inr (.inl 2), .inr (.inl 72)), (5, .inr (.inl 70), .inl (.int 4)), (6, .inr (.inl 3), .inl (.ref 403)), (6, .inr (.inl 3), .inl (.ref 403)), (6, .inr (.inl 3), .inl (.ref 403)), (6, .inr (.inl 3), .inl (.ref 403))]) jm_ok142 (by decide +kernel) (by decide +kernel) hd F X1 X2 (fun F' hF hs => ?_)
  have b2 := hd_b (F := F) (F' := F') (k := 2) (hF 2 (by decide))
  have b69 := hd_b (F := F) (F' := F') (k := 69) (hF 69 (by decide))
  have b70 := hd_b (F := F) (F' := F') (k := 70) (hF 70 (by decide))
  have t72 : sy_dv F' (.inr (.inl 72)) = .int ((sy_i F 69) + (sy_i F 70)) := hd_o (hs 0 _ rfl) b69 b70 rfl
  have b3 := hd_b (F := F) (F' := F') (k := 3) (hF 3 (by decide))
  have t77 : sy_dv F' (.inr (.inl 77)) = .int ((sy_i F 3) + ((1 : Int32))) := hd_o (hs 5 _ rfl) b3 rfl rfl
  have a25 := hd_ba (F := F) (F' := F') (k := 25) (hF 25 (by decide))
  have t73 : sy_da F' (.inr (.inl 73)) = .inl (jm_upd (sy_ai F 25) (sy_i F 3).toNatClampNeg ((3 : Int32))) := hd_up (hs 1 _ rfl) b3 rfl a25
  have a26 := hd_ba (F := F) (F' := F') (k := 26) (hF 26 (by decide))
  have t74 : sy_da F' (.inr (.inl 74)) = .inl (jm_upd (sy_ai F 26) (sy_i F 3).toNatClampNeg (sy_i F 69)) := hd_up (hs 2 _ rfl) b3 b69 a26
  have b71 := hd_b (F := F) (F' := F') (k := 71) (hF 71 (by decide))
  have a27 := hd_ba (F := F) (F' := F') (k := 27) (hF 27 (by decide))
  have t75 : sy_da F' (.inr (.inl 75)) = .inl (jm_upd (sy_ai F 27) (sy_i F 3).toNatClampNeg (sy_i F 71)) := hd_up (hs 3 _ rfl) b3 b71 a27
  have a28 := hd_bA (F := F) (F' := F') (k := 28) (hF 28 (by decide))
  have t76 : sy_da F' (.inr (.inr 76)) = .inr (jm_updL (sy_al F 28) (sy_i F 3).toNatClampNeg ((0 : Int64))) := hd_uA (hs 4 _ rfl) b3 rfl a28
  have t78 : sy_dv F' (.inr (.inl 78)) = .int ((sy_i F 69) + (sy_i F 70)) := hd_o (hs 6 _ rfl) b69 b70 rfl
  have hB' : iv_in F' iv_B4 := iv_in_eq hB (fun j hj => hF j (Nat.lt_of_lt_of_le hj (by decide +kernel)))
  refine ⟨List.forall_mem_cons.mpr ⟨hd_p4 b2 t72 h0, List.forall_mem_cons.mpr ⟨hd_p5 b70 rfl (by have hc : ((4) : Int32).toInt = 4 := (by decide); omega), List.forall_mem_cons.mpr ⟨hd_pb b3 (by first | exact h2 | exact h2), List.forall_mem_cons.mpr ⟨hd_pb b3 (by first | exact h3 | exact h3), List.forall_mem_cons.mpr ⟨hd_pb b3 (by first | exact h4 | exact h4), List.forall_mem_cons.mpr ⟨hd_pb b3 (by first | exact h5 | exact h5), fun _ h => absurd h List.not_mem_nil⟩⟩⟩⟩⟩⟩, ?_⟩
  refine k _ ?_ ?_ ?_ ?_ ?_ ?_ ?_
  · exact fun j hj hn => (hd_keep hB' (Nat.lt_of_lt_of_le hj (by decide +kernel)) (by simp; omega)).trans (hF j (Nat.lt_of_lt_of_le hj (by decide)))
  · exact hd_gi (x := .inr (.inl 77)) (by decide +kernel) t77
  · exact hd_ga (a := .inr (.inl 73)) (by decide +kernel) t73
  · exact hd_ga (a := .inr (.inl 74)) (by decide +kernel) t74
  · exact hd_ga (a := .inr (.inl 75)) (by decide +kernel) t75
  · exact hd_gA (a := .inr (.inr 76)) (by decide +kernel) t76
  · exact hd_gi (x := .inr (.inl 78)) (by decide +kernel) t78
theorem rc_208_p2 {Ls : Nat} {xs : Nat → Int32} {d : Nat} {Q : Option Value → jm_h → Prop} (hd : 4 ≤ d) (F : Nat → sy_d) (X1 X2 : List jm_c) (hB : iv_in F iv_B4)
    (h0 : ((sy_i F 69) + (sy_i F 70)).toInt < (sy_i F 2).toInt)
    (h1 : 0 ≤ ((sy_i F 69) + (sy_i F 70)).toInt ∧ ((sy_i F 69) + (sy_i F 70)).toInt < 2000)
    (h2 : (((sy_ai F 24).getD ((sy_i F 69) + (sy_i F 70)).toNatClampNeg 0) &&& ((255 : Int32))).toInt < 48)
    (h3 : (sy_i F 70).toInt ≤ 4)
    (h4 : 0 ≤ (sy_i F 3).toInt ∧ (sy_i F 3).toInt < 403)
    (h5 : 0 ≤ (sy_i F 3).toInt ∧ (sy_i F 3).toInt < 403)
    (h6 : 0 ≤ (sy_i F 3).toInt ∧ (sy_i F 3).toInt < 403)
    (h7 : 0 ≤ (sy_i F 3).toInt ∧ (sy_i F 3).toInt < 403)
    (k : ∀ F1 : Nat → sy_d, (∀ j, j < 69 → j ≠ 3 ∧ j ≠ 25 ∧ j ≠ 26 ∧ j ≠ 27 ∧ j ≠ 28 → F1 j = F j) → F1 3 = .inl (.int ((sy_i F 3) + ((1 : Int32)))) → F1 25 = .inr (.inl (jm_upd (sy_ai F 25) (sy_i F 3).toNatClampNeg ((2 : Int32)))) → F1 26 = .inr (.inl (jm_upd (sy_ai F 26) (sy_i F 3).toNatClampNeg (sy_i F 69))) → F1 27 = .inr (.inl (jm_upd (sy_ai F 27) (sy_i F 3).toNatClampNeg (sy_i F 71))) → F1 28 = .inr (.inr (jm_updL (sy_al F 28) (sy_i F 3).toNatClampNeg ((0 : Int64)))) → F1 69 = .inl (.int ((sy_i F 69) + (sy_i F 70))) → hd_W Ls xs d jm_M142 Q (7, sy_dL F1 [some (.inl (.ref 1000)), some (.inr (.inl 69)), none, none, none, none, none, none], sy_dS F1 [], sy_dh F1 X1 X2 (iv_H 4), 0, 0)) :
    hd_W Ls xs d jm_M142 Q (208, sy_dL F [some (.inl (.ref 1000)), some (.inr (.inl 69)), none, some (.inr (.inl 70)), some (.inr (.inl 71)), none, none, none], sy_dS F [], sy_dh F X1 X2 (iv_H 4), 0, 0) := by
  refine hd_run (s := 4) (nv := 72) (pc := 7) (L := [some (.inl (.ref 1000)), some (.inr (.inl 69)), none, none, none, none, none, none]) (S := []) (uh := hd_ov (iv_id 0 iv_B4) [(3, .inl (.inr (.inl 79))), (25, .inr (.inr (.inl 75))), (26, .inr (.inr (.inl 76))), (27, .inr (.inr (.inl 77))), (28, .inr (.inr (.inr 78)))]) (ul := [.inl (.inr (.inl 80))]) (f := true) (sp := [7, 208]) (d0 := 3) (O := [false, true, true]) (T := [(0, [.inr (.inl 69), .inr (.inl 70)], []), (30, [.inr (.inl 72)], [.inr (.inl 24)]), (3, [.inr (.inl 73), .inl (.int 255)], []), (40, [.inr (.inl 3), .inl (.int 2)], [.inr (.inl 25)]), (40, [.inr (.inl 3), .inr (.inl 69)], [.inr (.inl 26)]), (40, [.inr (.inl 3), .inr (.inl 71)], [.inr (.inl 27)]), (40, [.inr (.inl 3), .inl (.long 0)], [.inr (.inr 28)]), (0, [.inr (.inl 3), .inl (.int 1)], []), (0, [.inr (.inl 69), .inr (.inl 70)], [])]) (P := [(5, .inr (.inl 2), .inr (.inl 72)), (6, .inr (.inl 72), .inl (.ref 2000)), (2, .inr (.inl 74), .inl (.int 48)), (4, .inr (.inl 70), .inl (.int 4)), (6, .inr (.inl 3), .inl (.ref 403)), (6, .inr (.inl 3), .inl (.ref 403)), (6, .inr (.inl 3), .inl (.ref 403)), (6, .inr (.inl 3), .inl (.ref 403))]) jm_ok142 (by decide +kernel) (by decide +kernel) hd F X1 X2 (fun F' hF hs => ?_)
  have b2 := hd_b (F := F) (F' := F') (k := 2) (hF 2 (by decide))
  have b69 := hd_b (F := F) (F' := F') (k := 69) (hF 69 (by decide))
  have b70 := hd_b (F := F) (F' := F') (k := 70) (hF 70 (by decide))
  have t72 : sy_dv F' (.inr (.inl 72)) = .int ((sy_i F 69) + (sy_i F 70)) := hd_o (hs 0 _ rfl) b69 b70 rfl
  have a24 := hd_ba (F := F) (F' := F') (k := 24) (hF 24 (by decide))
  have t73 : sy_dv F' (.inr (.inl 73)) = .int ((sy_ai F 24).getD ((sy_i F 69) + (sy_i F 70)).toNatClampNeg 0) := hd_rd (hs 1 _ rfl) t72 a24
  have t74 : sy_dv F' (.inr (.inl 74)) = .int (((sy_ai F 24).getD ((sy_i F 69) + (sy_i F 70)).toNatClampNeg 0) &&& ((255 : Int32))) := hd_o (hs 2 _ rfl) t73 rfl rfl
  have b3 := hd_b (F := F) (F' := F') (k := 3) (hF 3 (by decide))
  have t79 : sy_dv F' (.inr (.inl 79)) = .int ((sy_i F 3) + ((1 : Int32))) := hd_o (hs 7 _ rfl) b3 rfl rfl
  have a25 := hd_ba (F := F) (F' := F') (k := 25) (hF 25 (by decide))
  have t75 : sy_da F' (.inr (.inl 75)) = .inl (jm_upd (sy_ai F 25) (sy_i F 3).toNatClampNeg ((2 : Int32))) := hd_up (hs 3 _ rfl) b3 rfl a25
  have a26 := hd_ba (F := F) (F' := F') (k := 26) (hF 26 (by decide))
  have t76 : sy_da F' (.inr (.inl 76)) = .inl (jm_upd (sy_ai F 26) (sy_i F 3).toNatClampNeg (sy_i F 69)) := hd_up (hs 4 _ rfl) b3 b69 a26
  have b71 := hd_b (F := F) (F' := F') (k := 71) (hF 71 (by decide))
  have a27 := hd_ba (F := F) (F' := F') (k := 27) (hF 27 (by decide))
  have t77 : sy_da F' (.inr (.inl 77)) = .inl (jm_upd (sy_ai F 27) (sy_i F 3).toNatClampNeg (sy_i F 71)) := hd_up (hs 5 _ rfl) b3 b71 a27
  have a28 := hd_bA (F := F) (F' := F') (k := 28) (hF 28 (by decide))
  have t78 : sy_da F' (.inr (.inr 78)) = .inr (jm_updL (sy_al F 28) (sy_i F 3).toNatClampNeg ((0 : Int64))) := hd_uA (hs 6 _ rfl) b3 rfl a28
  have t80 : sy_dv F' (.inr (.inl 80)) = .int ((sy_i F 69) + (sy_i F 70)) := hd_o (hs 8 _ rfl) b69 b70 rfl
  have hB' : iv_in F' iv_B4 := iv_in_eq hB (fun j hj => hF j (Nat.lt_of_lt_of_le hj (by decide +kernel)))
  refine ⟨List.forall_mem_cons.mpr ⟨hd_p5 b2 t72 h0, List.forall_mem_cons.mpr ⟨hd_pb t72 (by first | exact h1 | exact h1), List.forall_mem_cons.mpr ⟨hd_p2 t74 rfl (by have hc : ((48) : Int32).toInt = 48 := (by decide); omega), List.forall_mem_cons.mpr ⟨hd_p4 b70 rfl (by have hc : ((4) : Int32).toInt = 4 := (by decide); omega), List.forall_mem_cons.mpr ⟨hd_pb b3 (by first | exact h4 | exact h4), List.forall_mem_cons.mpr ⟨hd_pb b3 (by first | exact h5 | exact h5), List.forall_mem_cons.mpr ⟨hd_pb b3 (by first | exact h6 | exact h6), List.forall_mem_cons.mpr ⟨hd_pb b3 (by first | exact h7 | exact h7), fun _ h => absurd h List.not_mem_nil⟩⟩⟩⟩⟩⟩⟩⟩, ?_⟩
  refine k _ ?_ ?_ ?_ ?_ ?_ ?_ ?_
  · exact fun j hj hn => (hd_keep hB' (Nat.lt_of_lt_of_le hj (by decide +kernel)) (by simp; omega)).trans (hF j (Nat.lt_of_lt_of_le hj (by decide)))
  · exact hd_gi (x := .inr (.inl 79)) (by decide +kernel) t79
  · exact hd_ga (a := .inr (.inl 75)) (by decide +kernel) t75
  · exact hd_ga (a := .inr (.inl 76)) (by decide +kernel) t76
  · exact hd_ga (a := .inr (.inl 77)) (by decide +kernel) t77
  · exact hd_gA (a := .inr (.inr 78)) (by decide +kernel) t78
  · exact hd_gi (x := .inr (.inl 80)) (by decide +kernel) t80
theorem rc_208_p3 {Ls : Nat} {xs : Nat → Int32} {d : Nat} {Q : Option Value → jm_h → Prop} (hd : 4 ≤ d) (F : Nat → sy_d) (X1 X2 : List jm_c) (hB : iv_in F iv_B4)
    (h0 : ((sy_i F 69) + (sy_i F 70)).toInt < (sy_i F 2).toInt)
    (h1 : 0 ≤ ((sy_i F 69) + (sy_i F 70)).toInt ∧ ((sy_i F 69) + (sy_i F 70)).toInt < 2000)
    (h2 : (((sy_ai F 24).getD ((sy_i F 69) + (sy_i F 70)).toNatClampNeg 0) &&& ((255 : Int32))).toInt < 48)
    (h3 : 4 < (sy_i F 70).toInt)
    (h4 : 0 ≤ (sy_i F 3).toInt ∧ (sy_i F 3).toInt < 403)
    (h5 : 0 ≤ (sy_i F 3).toInt ∧ (sy_i F 3).toInt < 403)
    (h6 : 0 ≤ (sy_i F 3).toInt ∧ (sy_i F 3).toInt < 403)
    (h7 : 0 ≤ (sy_i F 3).toInt ∧ (sy_i F 3).toInt < 403)
    (k : ∀ F1 : Nat → sy_d, (∀ j, j < 69 → j ≠ 3 ∧ j ≠ 25 ∧ j ≠ 26 ∧ j ≠ 27 ∧ j ≠ 28 → F1 j = F j) → F1 3 = .inl (.int ((sy_i F 3) + ((1 : Int32)))) → F1 25 = .inr (.inl (jm_upd (sy_ai F 25) (sy_i F 3).toNatClampNeg ((3 : Int32)))) → F1 26 = .inr (.inl (jm_upd (sy_ai F 26) (sy_i F 3).toNatClampNeg (sy_i F 69))) → F1 27 = .inr (.inl (jm_upd (sy_ai F 27) (sy_i F 3).toNatClampNeg (sy_i F 71))) → F1 28 = .inr (.inr (jm_updL (sy_al F 28) (sy_i F 3).toNatClampNeg ((0 : Int64)))) → F1 69 = .inl (.int ((sy_i F 69) + (sy_i F 70))) → hd_W Ls xs d jm_M142 Q (7, sy_dL F1 [some (.inl (.ref 1000)), some (.inr (.inl 69)), none, none, none, none, none, none], sy_dS F1 [], sy_dh F1 X1 X2 (iv_H 4), 0, 0)) :
    hd_W Ls xs d jm_M142 Q (208, sy_dL F [some (.inl (.ref 1000)), some (.inr (.inl 69)), none, some (.inr (.inl 70)), some (.inr (.inl 71)), none, none, none], sy_dS F [], sy_dh F X1 X2 (iv_H 4), 0, 0) := by
  refine hd_run (s := 4) (nv := 72) (pc := 7) (L := [some (.inl (.ref 1000)), some (.inr (.inl 69)), none, none, none, none, none, none]) (S := []) (uh := hd_ov (iv_id 0 iv_B4) [(3, .inl (.inr (.inl 79))), (25, .inr (.inr (.inl 75))), (26, .inr (.inr (.inl 76))), (27, .inr (.inr (.inl 77))), (28, .inr (.inr (.inr 78)))]) (ul := [.inl (.inr (.inl 80))]) (f := true) (sp := [7, 208]) (d0 := 3) (O := [false, true, false]) (T := [(0, [.inr (.inl 69), .inr (.inl 70)], []), (30, [.inr (.inl 72)], [.inr (.inl 24)]), (3, [.inr (.inl 73), .inl (.int 255)], []), (40, [.inr (.inl 3), .inl (.int 3)], [.inr (.inl 25)]), (40, [.inr (.inl 3), .inr (.inl 69)], [.inr (.inl 26)]), (40, [.inr (.inl 3), .inr (.inl 71)], [.inr (.inl 27)]), (40, [.inr (.inl 3), .inl (.long 0)], [.inr (.inr 28)]), (0, [.inr (.inl 3), .inl (.int 1)], []), (0, [.inr (.inl 69), .inr (.inl 70)], [])]) (P := [(5, .inr (.inl 2), .inr (.inl 72)), (6, .inr (.inl 72), .inl (.ref 2000)), (2, .inr (.inl 74), .inl (.int 48)), (5, .inr (.inl 70), .inl (.int 4)), (6, .inr (.inl 3), .inl (.ref 403)), (6, .inr (.inl 3), .inl (.ref 403)), (6, .inr (.inl 3), .inl (.ref 403)), (6, .inr (.inl 3), .inl (.ref 403))]) jm_ok142 (by decide +kernel) (by decide +kernel) hd F X1 X2 (fun F' hF hs => ?_)
  have b2 := hd_b (F := F) (F' := F') (k := 2) (hF 2 (by decide))
  have b69 := hd_b (F := F) (F' := F') (k := 69) (hF 69 (by decide))
  have b70 := hd_b (F := F) (F' := F') (k := 70) (hF 70 (by decide))
  have t72 : sy_dv F' (.inr (.inl 72)) = .int ((sy_i F 69) + (sy_i F 70)) := hd_o (hs 0 _ rfl) b69 b70 rfl
  have a24 := hd_ba (F := F) (F' := F') (k := 24) (hF 24 (by decide))
  have t73 : sy_dv F' (.inr (.inl 73)) = .int ((sy_ai F 24).getD ((sy_i F 69) + (sy_i F 70)).toNatClampNeg 0) := hd_rd (hs 1 _ rfl) t72 a24
  have t74 : sy_dv F' (.inr (.inl 74)) = .int (((sy_ai F 24).getD ((sy_i F 69) + (sy_i F 70)).toNatClampNeg 0) &&& ((255 : Int32))) := hd_o (hs 2 _ rfl) t73 rfl rfl
  have b3 := hd_b (F := F) (F' := F') (k := 3) (hF 3 (by decide))
  have t79 : sy_dv F' (.inr (.inl 79)) = .int ((sy_i F 3) + ((1 : Int32))) := hd_o (hs 7 _ rfl) b3 rfl rfl
  have a25 := hd_ba (F := F) (F' := F') (k := 25) (hF 25 (by decide))
  have t75 : sy_da F' (.inr (.inl 75)) = .inl (jm_upd (sy_ai F 25) (sy_i F 3).toNatClampNeg ((3 : Int32))) := hd_up (hs 3 _ rfl) b3 rfl a25
  have a26 := hd_ba (F := F) (F' := F') (k := 26) (hF 26 (by decide))
  have t76 : sy_da F' (.inr (.inl 76)) = .inl (jm_upd (sy_ai F 26) (sy_i F 3).toNatClampNeg (sy_i F 69)) := hd_up (hs 4 _ rfl) b3 b69 a26
  have b71 := hd_b (F := F) (F' := F') (k := 71) (hF 71 (by decide))
  have a27 := hd_ba (F := F) (F' := F') (k := 27) (hF 27 (by decide))
  have t77 : sy_da F' (.inr (.inl 77)) = .inl (jm_upd (sy_ai F 27) (sy_i F 3).toNatClampNeg (sy_i F 71)) := hd_up (hs 5 _ rfl) b3 b71 a27
  have a28 := hd_bA (F := F) (F' := F') (k := 28) (hF 28 (by decide))
  have t78 : sy_da F' (.inr (.inr 78)) = .inr (jm_updL (sy_al F 28) (sy_i F 3).toNatClampNeg ((0 : Int64))) := hd_uA (hs 6 _ rfl) b3 rfl a28
  have t80 : sy_dv F' (.inr (.inl 80)) = .int ((sy_i F 69) + (sy_i F 70)) := hd_o (hs 8 _ rfl) b69 b70 rfl
  have hB' : iv_in F' iv_B4 := iv_in_eq hB (fun j hj => hF j (Nat.lt_of_lt_of_le hj (by decide +kernel)))
  refine ⟨List.forall_mem_cons.mpr ⟨hd_p5 b2 t72 h0, List.forall_mem_cons.mpr ⟨hd_pb t72 (by first | exact h1 | exact h1), List.forall_mem_cons.mpr ⟨hd_p2 t74 rfl (by have hc : ((48) : Int32).toInt = 48 := (by decide); omega), List.forall_mem_cons.mpr ⟨hd_p5 b70 rfl (by have hc : ((4) : Int32).toInt = 4 := (by decide); omega), List.forall_mem_cons.mpr ⟨hd_pb b3 (by first | exact h4 | exact h4), List.forall_mem_cons.mpr ⟨hd_pb b3 (by first | exact h5 | exact h5), List.forall_mem_cons.mpr ⟨hd_pb b3 (by first | exact h6 | exact h6), List.forall_mem_cons.mpr ⟨hd_pb b3 (by first | exact h7 | exact h7), fun _ h => absurd h List.not_mem_nil⟩⟩⟩⟩⟩⟩⟩⟩, ?_⟩
  refine k _ ?_ ?_ ?_ ?_ ?_ ?_ ?_
  · exact fun j hj hn => (hd_keep hB' (Nat.lt_of_lt_of_le hj (by decide +kernel)) (by simp; omega)).trans (hF j (Nat.lt_of_lt_of_le hj (by decide)))
  · exact hd_gi (x := .inr (.inl 79)) (by decide +kernel) t79
  · exact hd_ga (a := .inr (.inl 75)) (by decide +kernel) t75
  · exact hd_ga (a := .inr (.inl 76)) (by decide +kernel) t76
  · exact hd_ga (a := .inr (.inl 77)) (by decide +kernel) t77
  · exact hd_gA (a := .inr (.inr 78)) (by decide +kernel) t78
  · exact hd_gi (x := .inr (.inl 80)) (by decide +kernel) t80
theorem rc_208_p4 {Ls : Nat} {xs : Nat → Int32} {d : Nat} {Q : Option Value → jm_h → Prop} (hd : 4 ≤ d) (F : Nat → sy_d) (X1 X2 : List jm_c) (hB : iv_in F iv_B4)
    (h0 : ((sy_i F 69) + (sy_i F 70)).toInt < (sy_i F 2).toInt)
    (h1 : 0 ≤ ((sy_i F 69) + (sy_i F 70)).toInt ∧ ((sy_i F 69) + (sy_i F 70)).toInt < 2000)
    (h2 : 48 ≤ (((sy_ai F 24).getD ((sy_i F 69) + (sy_i F 70)).toNatClampNeg 0) &&& ((255 : Int32))).toInt)
    (h3 : 57 < (((sy_ai F 24).getD ((sy_i F 69) + (sy_i F 70)).toNatClampNeg 0) &&& ((255 : Int32))).toInt)
    (h4 : (sy_i F 70).toInt ≤ 4)
    (h5 : 0 ≤ (sy_i F 3).toInt ∧ (sy_i F 3).toInt < 403)
    (h6 : 0 ≤ (sy_i F 3).toInt ∧ (sy_i F 3).toInt < 403)
    (h7 : 0 ≤ (sy_i F 3).toInt ∧ (sy_i F 3).toInt < 403)
    (h8 : 0 ≤ (sy_i F 3).toInt ∧ (sy_i F 3).toInt < 403)
    (k : ∀ F1 : Nat → sy_d, (∀ j, j < 69 → j ≠ 3 ∧ j ≠ 25 ∧ j ≠ 26 ∧ j ≠ 27 ∧ j ≠ 28 → F1 j = F j) → F1 3 = .inl (.int ((sy_i F 3) + ((1 : Int32)))) → F1 25 = .inr (.inl (jm_upd (sy_ai F 25) (sy_i F 3).toNatClampNeg ((2 : Int32)))) → F1 26 = .inr (.inl (jm_upd (sy_ai F 26) (sy_i F 3).toNatClampNeg (sy_i F 69))) → F1 27 = .inr (.inl (jm_upd (sy_ai F 27) (sy_i F 3).toNatClampNeg (sy_i F 71))) → F1 28 = .inr (.inr (jm_updL (sy_al F 28) (sy_i F 3).toNatClampNeg ((0 : Int64)))) → F1 69 = .inl (.int ((sy_i F 69) + (sy_i F 70))) → hd_W Ls xs d jm_M142 Q (7, sy_dL F1 [some (.inl (.ref 1000)), some (.inr (.inl 69)), none, none, none, none, none, none], sy_dS F1 [], sy_dh F1 X1 X2 (iv_H 4), 0, 0)) :
    hd_W Ls xs d jm_M142 Q (208, sy_dL F [some (.inl (.ref 1000)), some (.inr (.inl 69)), none, some (.inr (.inl 70)), some (.inr (.inl 71)), none, none, none], sy_dS F [], sy_dh F X1 X2 (iv_H 4), 0, 0) := by
  refine hd_run (s := 4) (nv := 72) (pc := 7) (L := [some (.inl (.ref 1000)), some (.inr (.inl 69)), none, none, none, none, none, none]) (S := []) (uh := hd_ov (iv_id 0 iv_B4) [(3, .inl (.inr (.inl 79))), (25, .inr (.inr (.inl 75))), (26, .inr (.inr (.inl 76))), (27, .inr (.inr (.inl 77))), (28, .inr (.inr (.inr 78)))]) (ul := [.inl (.inr (.inl 80))]) (f := true) (sp := [7, 208]) (d0 := 3) (O := [false, false, true, true]) (T := [(0, [.inr (.inl 69), .inr (.inl 70)], []), (30, [.inr (.inl 72)], [.inr (.inl 24)]), (3, [.inr (.inl 73), .inl (.int 255)], []), (40, [.inr (.inl 3), .inl (.int 2)], [.inr (.inl 25)]), (40, [.inr (.inl 3), .inr (.inl 69)], [.inr (.inl 26)]), (40, [.inr (.inl 3), .inr (.inl 71)], [.inr (.inl 27)]), (40, [.inr (.inl 3), .inl (.long 0)], [.inr (.inr 28)]), (0, [.inr (.inl 3), .inl (.int 1)], []), (0, [.inr (.inl 69), .inr (.inl 70)], [])]) (P := [(5, .inr (.inl 2), .inr (.inl 72)), (6, .inr (.inl 72), .inl (.ref 2000)), (3, .inr (.inl 74), .inl (.int 48)), (2, .inl (.int 57), .inr (.inl 74)), (4, .inr (.inl 70), .inl (.int 4)), (6, .inr (.inl 3), .inl (.ref 403)), (6, .inr (.inl 3), .inl (.ref 403)), (6, .inr (.inl 3), .inl (.ref 403)), (6, .inr (.inl 3), .inl (.ref 403))]) jm_ok142 (by decide +kernel) (by decide +kernel) hd F X1 X2 (fun F' hF hs => ?_)
  have b2 := hd_b (F := F) (F' := F') (k := 2) (hF 2 (by decide))
  have b69 := hd_b (F := F) (F' := F') (k := 69) (hF 69 (by decide))
  have b70 := hd_b (F := F) (F' := F') (k := 70) (hF 70 (by decide))
  have t72 : sy_dv F' (.inr (.inl 72)) = .int ((sy_i F 69) + (sy_i F 70)) := hd_o (hs 0 _ rfl) b69 b70 rfl
  have a24 := hd_ba (F := F) (F' := F') (k := 24) (hF 24 (by decide))
  have t73 : sy_dv F' (.inr (.inl 73)) = .int ((sy_ai F 24).getD ((sy_i F 69) + (sy_i F 70)).toNatClampNeg 0) := hd_rd (hs 1 _ rfl) t72 a24
  have t74 : sy_dv F' (.inr (.inl 74)) = .int (((sy_ai F 24).getD ((sy_i F 69) + (sy_i F 70)).toNatClampNeg 0) &&& ((255 : Int32))) := hd_o (hs 2 _ rfl) t73 rfl rfl
  have b3 := hd_b (F := F) (F' := F') (k := 3) (hF 3 (by decide))
  have t79 : sy_dv F' (.inr (.inl 79)) = .int ((sy_i F 3) + ((1 : Int32))) := hd_o (hs 7 _ rfl) b3 rfl rfl
  have a25 := hd_ba (F := F) (F' := F') (k := 25) (hF 25 (by decide))
  have t75 : sy_da F' (.inr (.inl 75)) = .inl (jm_upd (sy_ai F 25) (sy_i F 3).toNatClampNeg ((2 : Int32))) := hd_up (hs 3 _ rfl) b3 rfl a25
  have a26 := hd_ba (F := F) (F' := F') (k := 26) (hF 26 (by decide))
  have t76 : sy_da F' (.inr (.inl 76)) = .inl (jm_upd (sy_ai F 26) (sy_i F 3).toNatClampNeg (sy_i F 69)) := hd_up (hs 4 _ rfl) b3 b69 a26
  have b71 := hd_b (F := F) (F' := F') (k := 71) (hF 71 (by decide))
  have a27 := hd_ba (F := F) (F' := F') (k := 27) (hF 27 (by decide))
  have t77 : sy_da F' (.inr (.inl 77)) = .inl (jm_upd (sy_ai F 27) (sy_i F 3).toNatClampNeg (sy_i F 71)) := hd_up (hs 5 _ rfl) b3 b71 a27
  have a28 := hd_bA (F := F) (F' := F') (k := 28) (hF 28 (by decide))
  have t78 : sy_da F' (.inr (.inr 78)) = .inr (jm_updL (sy_al F 28) (sy_i F 3).toNatClampNeg ((0 : Int64))) := hd_uA (hs 6 _ rfl) b3 rfl a28
  have t80 : sy_dv F' (.inr (.inl 80)) = .int ((sy_i F 69) + (sy_i F 70)) := hd_o (hs 8 _ rfl) b69 b70 rfl
  have hB' : iv_in F' iv_B4 := iv_in_eq hB (fun j hj => hF j (Nat.lt_of_lt_of_le hj (by decide +kernel)))
  refine ⟨List.forall_mem_cons.mpr ⟨hd_p5 b2 t72 h0, List.forall_mem_cons.mpr ⟨hd_pb t72 (by first | exact h1 | exact h1), List.forall_mem_cons.mpr ⟨hd_p3 t74 rfl (by have hc : ((48) : Int32).toInt = 48 := (by decide); omega), List.forall_mem_cons.mpr ⟨hd_p2 rfl t74 (by have hc : ((57) : Int32).toInt = 57 := (by decide); omega), List.forall_mem_cons.mpr ⟨hd_p4 b70 rfl (by have hc : ((4) : Int32).toInt = 4 := (by decide); omega), List.forall_mem_cons.mpr ⟨hd_pb b3 (by first | exact h5 | exact h5), List.forall_mem_cons.mpr ⟨hd_pb b3 (by first | exact h6 | exact h6), List.forall_mem_cons.mpr ⟨hd_pb b3 (by first | exact h7 | exact h7), List.forall_mem_cons.mpr ⟨hd_pb b3 (by first | exact h8 | exact h8), fun _ h => absurd h List.not_mem_nil⟩⟩⟩⟩⟩⟩⟩⟩⟩, ?_⟩
  refine k _ ?_ ?_ ?_ ?_ ?_ ?_ ?_
  · exact fun j hj hn => (hd_keep hB' (Nat.lt_of_lt_of_le hj (by decide +kernel)) (by simp; omega)).trans (hF j (Nat.lt_of_lt_of_le hj (by decide)))
  · exact hd_gi (x := .inr (.inl 79)) (by decide +kernel) t79
  · exact hd_ga (a := .inr (.inl 75)) (by decide +kernel) t75
  · exact hd_ga (a := .inr (.inl 76)) (by decide +kernel) t76
  · exact hd_ga (a := .inr (.inl 77)) (by decide +kernel) t77
  · exact hd_gA (a := .inr (.inr 78)) (by decide +kernel) t78
  · exact hd_gi (x := .inr (.inl 80)) (by decide +kernel) t80
theorem rc_208_p5 {Ls : Nat} {xs : Nat → Int32} {d : Nat} {Q : Option Value → jm_h → Prop} (hd : 4 ≤ d) (F : Nat → sy_d) (X1 X2 : List jm_c) (hB : iv_in F iv_B4)
    (h0 : ((sy_i F 69) + (sy_i F 70)).toInt < (sy_i F 2).toInt)
    (h1 : 0 ≤ ((sy_i F 69) + (sy_i F 70)).toInt ∧ ((sy_i F 69) + (sy_i F 70)).toInt < 2000)
    (h2 : 48 ≤ (((sy_ai F 24).getD ((sy_i F 69) + (sy_i F 70)).toNatClampNeg 0) &&& ((255 : Int32))).toInt)
    (h3 : 57 < (((sy_ai F 24).getD ((sy_i F 69) + (sy_i F 70)).toNatClampNeg 0) &&& ((255 : Int32))).toInt)
    (h4 : 4 < (sy_i F 70).toInt)
    (h5 : 0 ≤ (sy_i F 3).toInt ∧ (sy_i F 3).toInt < 403)
    (h6 : 0 ≤ (sy_i F 3).toInt ∧ (sy_i F 3).toInt < 403)
    (h7 : 0 ≤ (sy_i F 3).toInt ∧ (sy_i F 3).toInt < 403)
    (h8 : 0 ≤ (sy_i F 3).toInt ∧ (sy_i F 3).toInt < 403)
    (k : ∀ F1 : Nat → sy_d, (∀ j, j < 69 → j ≠ 3 ∧ j ≠ 25 ∧ j ≠ 26 ∧ j ≠ 27 ∧ j ≠ 28 → F1 j = F j) → F1 3 = .inl (.int ((sy_i F 3) + ((1 : Int32)))) → F1 25 = .inr (.inl (jm_upd (sy_ai F 25) (sy_i F 3).toNatClampNeg ((3 : Int32)))) → F1 26 = .inr (.inl (jm_upd (sy_ai F 26) (sy_i F 3).toNatClampNeg (sy_i F 69))) → F1 27 = .inr (.inl (jm_upd (sy_ai F 27) (sy_i F 3).toNatClampNeg (sy_i F 71))) → F1 28 = .inr (.inr (jm_updL (sy_al F 28) (sy_i F 3).toNatClampNeg ((0 : Int64)))) → F1 69 = .inl (.int ((sy_i F 69) + (sy_i F 70))) → hd_W Ls xs d jm_M142 Q (7, sy_dL F1 [some (.inl (.ref 1000)), some (.inr (.inl 69)), none, none, none, none, none, none], sy_dS F1 [], sy_dh F1 X1 X2 (iv_H 4), 0, 0)) :
    hd_W Ls xs d jm_M142 Q (208, sy_dL F [some (.inl (.ref 1000)), some (.inr (.inl 69)), none, some (.inr (.inl 70)), some (.inr (.inl 71)), none, none, none], sy_dS F [], sy_dh F X1 X2 (iv_H 4), 0, 0) := by
  refine hd_run (s := 4) (nv := 72) (pc := 7) (L := [some (.inl (.ref 1000)), some (.inr (.inl 69)), none, none, none, none, none, none]) (S := []) (uh := hd_ov (iv_id 0 iv_B4) [(3, .inl (.inr (.inl 79))), (25, .inr (.inr (.inl 75))), (26, .inr (.inr (.inl 76))), (27, .inr (.inr (.inl 77))), (28, .inr (.inr (.inr 78)))]) (ul := [.inl (.inr (.inl 80))]) (f := true) (sp := [7, 208]) (d0 := 3) (O := [false, false, true, false]) (T := [(0, [.inr (.inl 69), .inr (.inl 70)], []), (30, [.inr (.inl 72)], [.inr (.inl 24)]), (3, [.inr (.inl 73), .inl (.int 255)], []), (40, [.inr (.inl 3), .inl (.int 3)], [.inr (.inl 25)]), (40, [.inr (.inl 3), .inr (.inl 69)], [.inr (.inl 26)]), (40, [.inr (.inl 3), .inr (.inl 71)], [.inr (.inl 27)]), (40, [.inr (.inl 3), .inl (.long 0)], [.inr (.inr 28)]), (0, [.inr (.inl 3), .inl (.int 1)], []), (0, [.inr (.inl 69), .inr (.inl 70)], [])]) (P := [(5, .inr (.inl 2), .inr (.inl 72)), (6, .inr (.inl 72), .inl (.ref 2000)), (3, .inr (.inl 74), .inl (.int 48)), (2, .inl (.int 57), .inr (.inl 74)), (5, .inr (.inl 70), .inl (.int 4)), (6, .inr (.inl 3), .inl (.ref 403)), (6, .inr (.inl 3), .inl (.ref 403)), (6, .inr (.inl 3), .inl (.ref 403)), (6, .inr (.inl 3), .inl (.ref 403))]) jm_ok142 (by decide +kernel) (by decide +kernel) hd F X1 X2 (fun F' hF hs => ?_)
  have b2 := hd_b (F := F) (F' := F') (k := 2) (hF 2 (by decide))
  have b69 := hd_b (F := F) (F' := F') (k := 69) (hF 69 (by decide))
  have b70 := hd_b (F := F) (F' := F') (k := 70) (hF 70 (by decide))
  have t72 : sy_dv F' (.inr (.inl 72)) = .int ((sy_i F 69) + (sy_i F 70)) := hd_o (hs 0 _ rfl) b69 b70 rfl
  have a24 := hd_ba (F := F) (F' := F') (k := 24) (hF 24 (by decide))
  have t73 : sy_dv F' (.inr (.inl 73)) = .int ((sy_ai F 24).getD ((sy_i F 69) + (sy_i F 70)).toNatClampNeg 0) := hd_rd (hs 1 _ rfl) t72 a24
  have t74 : sy_dv F' (.inr (.inl 74)) = .int (((sy_ai F 24).getD ((sy_i F 69) + (sy_i F 70)).toNatClampNeg 0) &&& ((255 : Int32))) := hd_o (hs 2 _ rfl) t73 rfl rfl
  have b3 := hd_b (F := F) (F' := F') (k := 3) (hF 3 (by decide))
  have t79 : sy_dv F' (.inr (.inl 79)) = .int ((sy_i F 3) + ((1 : Int32))) := hd_o (hs 7 _ rfl) b3 rfl rfl
  have a25 := hd_ba (F := F) (F' := F') (k := 25) (hF 25 (by decide))
  have t75 : sy_da F' (.inr (.inl 75)) = .inl (jm_upd (sy_ai F 25) (sy_i F 3).toNatClampNeg ((3 : Int32))) := hd_up (hs 3 _ rfl) b3 rfl a25
  have a26 := hd_ba (F := F) (F' := F') (k := 26) (hF 26 (by decide))
  have t76 : sy_da F' (.inr (.inl 76)) = .inl (jm_upd (sy_ai F 26) (sy_i F 3).toNatClampNeg (sy_i F 69)) := hd_up (hs 4 _ rfl) b3 b69 a26
  have b71 := hd_b (F := F) (F' := F') (k := 71) (hF 71 (by decide))
  have a27 := hd_ba (F := F) (F' := F') (k := 27) (hF 27 (by decide))
  have t77 : sy_da F' (.inr (.inl 77)) = .inl (jm_upd (sy_ai F 27) (sy_i F 3).toNatClampNeg (sy_i F 71)) := hd_up (hs 5 _ rfl) b3 b71 a27
  have a28 := hd_bA (F := F) (F' := F') (k := 28) (hF 28 (by decide))
  have t78 : sy_da F' (.inr (.inr 78)) = .inr (jm_updL (sy_al F 28) (sy_i F 3).toNatClampNeg ((0 : Int64))) := hd_uA (hs 6 _ rfl) b3 rfl a28
  have t80 : sy_dv F' (.inr (.inl 80)) = .int ((sy_i F 69) + (sy_i F 70)) := hd_o (hs 8 _ rfl) b69 b70 rfl
  have hB' : iv_in F' iv_B4 := iv_in_eq hB (fun j hj => hF j (Nat.lt_of_lt_of_le hj (by decide +kernel)))
  refine ⟨List.forall_mem_cons.mpr ⟨hd_p5 b2 t72 h0, List.forall_mem_cons.mpr ⟨hd_pb t72 (by first | exact h1 | exact h1), List.forall_mem_cons.mpr ⟨hd_p3 t74 rfl (by have hc : ((48) : Int32).toInt = 48 := (by decide); omega), List.forall_mem_cons.mpr ⟨hd_p2 rfl t74 (by have hc : ((57) : Int32).toInt = 57 := (by decide); omega), List.forall_mem_cons.mpr ⟨hd_p5 b70 rfl (by have hc : ((4) : Int32).toInt = 4 := (by decide); omega), List.forall_mem_cons.mpr ⟨hd_pb b3 (by first | exact h5 | exact h5), List.forall_mem_cons.mpr ⟨hd_pb b3 (by first | exact h6 | exact h6), List.forall_mem_cons.mpr ⟨hd_pb b3 (by first | exact h7 | exact h7), List.forall_mem_cons.mpr ⟨hd_pb b3 (by first | exact h8 | exact h8), fun _ h => absurd h List.not_mem_nil⟩⟩⟩⟩⟩⟩⟩⟩⟩, ?_⟩
  refine k _ ?_ ?_ ?_ ?_ ?_ ?_ ?_
  · exact fun j hj hn => (hd_keep hB' (Nat.lt_of_lt_of_le hj (by decide +kernel)) (by simp; omega)).trans (hF j (Nat.lt_of_lt_of_le hj (by decide)))
  · exact hd_gi (x := .inr (.inl 79)) (by decide +kernel) t79
  · exact hd_ga (a := .inr (.inl 75)) (by decide +kernel) t75
  · exact hd_ga (a := .inr (.inl 76)) (by decide +kernel) t76
  · exact hd_ga (a := .inr (.inl 77)) (by decide +kernel) t77
  · exact hd_gA (a := .inr (.inr 78)) (by decide +kernel) t78
  · exact hd_gi (x := .inr (.inl 80)) (by decide +kernel) t80
theorem rc_208_p6 {Ls : Nat} {xs : Nat → Int32} {d : Nat} {Q : Option Value → jm_h → Prop} (hd : 4 ≤ d) (F : Nat → sy_d) (X1 X2 : List jm_c) (hB : iv_in F iv_B4)
    (h0 : ((sy_i F 69) + (sy_i F 70)).toInt < (sy_i F 2).toInt)
    (h1 : 0 ≤ ((sy_i F 69) + (sy_i F 70)).toInt ∧ ((sy_i F 69) + (sy_i F 70)).toInt < 2000)
    (h2 : 48 ≤ (((sy_ai F 24).getD ((sy_i F 69) + (sy_i F 70)).toNatClampNeg 0) &&& ((255 : Int32))).toInt)
    (h3 : (((sy_ai F 24).getD ((sy_i F 69) + (sy_i F 70)).toNatClampNeg 0) &&& ((255 : Int32))).toInt ≤ 57)
    (h4 : 4 ≤ (sy_i F 70).toInt)
    (k : ∀ F1 : Nat → sy_d, (∀ j, j < 69 → True → F1 j = F j) → F1 69 = .inl (.int (sy_i F 69)) → F1 70 = .inl (.int ((sy_i F 70) + ((1 : Int32)))) → F1 71 = .inl (.int (sy_i F 71)) → hd_W Ls xs d jm_M142 Q (208, sy_dL F1 [some (.inl (.ref 1000)), some (.inr (.inl 69)), none, some (.inr (.inl 70)), some (.inr (.inl 71)), none, none, none], sy_dS F1 [], sy_dh F1 X1 X2 (iv_H 4), 0, 0)) :
    hd_W Ls xs d jm_M142 Q (208, sy_dL F [some (.inl (.ref 1000)), some (.inr (.inl 69)), none, some (.inr (.inl 70)), some (.inr (.inl 71)), none, none, none], sy_dS F [], sy_dh F X1 X2 (iv_H 4), 0, 0) := by
  refine hd_run (s := 4) (nv := 72) (pc := 208) (L := [some (.inl (.ref 1000)), some (.inr (.inl 69)), none, some (.inr (.inl 70)), some (.inr (.inl 71)), none, none, none]) (S := []) (uh := hd_ov (iv_id 0 iv_B4) []) (ul := [.inl (.inr (.inl 69)), .inl (.inr (.inl 75)), .inl (.inr (.inl 71))]) (f := true) (sp := [7, 208]) (d0 := 3) (O := [false, false, false, true]) (T := [(0, [.inr (.inl 69), .inr (.inl 70)], []), (30, [.inr (.inl 72)], [.inr (.inl 24)]), (3, [.inr (.inl 73), .inl (.int 255)], []), (0, [.inr (.inl 70), .inl (.int 1)], [])]) (P := [(5, .inr (.inl 2), .inr (.inl 72)), (6, .inr (.inl 72), .inl (.ref 2000)), (3, .inr (.inl 74), .inl (.int 48)), (3, .inl (.int 57), .inr (.inl 74)), (4, .inl (.int 4), .inr (.inl 70))]) jm_ok142 (by decide +kernel) (by decide +kernel) hd F X1 X2 (fun F' hF hs => ?_)
  have b2 := hd_b (F := F) (F' := F') (k := 2) (hF 2 (by decide))
  have b69 := hd_b (F := F) (F' := F') (k := 69) (hF 69 (by decide))
  have b70 := hd_b (F := F) (F' := F') (k := 70) (hF 70 (by decide))
  have t72 : sy_dv F' (.inr (.inl 72)) = .int ((sy_i F 69) + (sy_i F 70)) := hd_o (hs 0 _ rfl) b69 b70 rfl
  have a24 := hd_ba (F := F) (F' := F') (k := 24) (hF 24 (by decide))
  have t73 : sy_dv F' (.inr (.inl 73)) = .int ((sy_ai F 24).getD ((sy_i F 69) + (sy_i F 70)).toNatClampNeg 0) := hd_rd (hs 1 _ rfl) t72 a24
  have t74 : sy_dv F' (.inr (.inl 74)) = .int (((sy_ai F 24).getD ((sy_i F 69) + (sy_i F 70)).toNatClampNeg 0) &&& ((255 : Int32))) := hd_o (hs 2 _ rfl) t73 rfl rfl
  have t75 : sy_dv F' (.inr (.inl 75)) = .int ((sy_i F 70) + ((1 : Int32))) := hd_o (hs 3 _ rfl) b70 rfl rfl
  have b71 := hd_b (F := F) (F' := F') (k := 71) (hF 71 (by decide))
  have hB' : iv_in F' iv_B4 := iv_in_eq hB (fun j hj => hF j (Nat.lt_of_lt_of_le hj (by decide +kernel)))
  refine ⟨List.forall_mem_cons.mpr ⟨hd_p5 b2 t72 h0, List.forall_mem_cons.mpr ⟨hd_pb t72 (by first | exact h1 | exact h1), List.forall_mem_cons.mpr ⟨hd_p3 t74 rfl (by have hc : ((48) : Int32).toInt = 48 := (by decide); omega), List.forall_mem_cons.mpr ⟨hd_p3 rfl t74 (by have hc : ((57) : Int32).toInt = 57 := (by decide); omega), List.forall_mem_cons.mpr ⟨hd_p4 rfl b70 (by have hc : ((4) : Int32).toInt = 4 := (by decide); omega), fun _ h => absurd h List.not_mem_nil⟩⟩⟩⟩⟩, ?_⟩
  refine k _ ?_ ?_ ?_ ?_
  · exact fun j hj _ => (hd_keep hB' (Nat.lt_of_lt_of_le hj (by decide +kernel)) (by simp)).trans (hF j (Nat.lt_of_lt_of_le hj (by decide)))
  · exact hd_gi (x := .inr (.inl 69)) (by decide +kernel) b69
  · exact hd_gi (x := .inr (.inl 75)) (by decide +kernel) t75
  · exact hd_gi (x := .inr (.inl 71)) (by decide +kernel) b71
theorem rc_208_p7 {Ls : Nat} {xs : Nat → Int32} {d : Nat} {Q : Option Value → jm_h → Prop} (hd : 4 ≤ d) (F : Nat → sy_d) (X1 X2 : List jm_c) (hB : iv_in F iv_B4)
    (h0 : ((sy_i F 69) + (sy_i F 70)).toInt < (sy_i F 2).toInt)
    (h1 : 0 ≤ ((sy_i F 69) + (sy_i F 70)).toInt ∧ ((sy_i F 69) + (sy_i F 70)).toInt < 2000)
    (h2 : 48 ≤ (((sy_ai F 24).getD ((sy_i F 69) + (sy_i F 70)).toNatClampNeg 0) &&& ((255 : Int32))).toInt)
    (h3 : (((sy_ai F 24).getD ((sy_i F 69) + (sy_i F 70)).toNatClampNeg 0) &&& ((255 : Int32))).toInt ≤ 57)
    (h4 : (sy_i F 70).toInt < 4)
    (h5 : (sy_i F 2).toInt ≤ ((sy_i F 69) + (sy_i F 70)).toInt)
    (k : ∀ F1 : Nat → sy_d, (∀ j, j < 69 → True → F1 j = F j) → F1 69 = .inl (.int (sy_i F 69)) → F1 70 = .inl (.int ((sy_i F 70) + ((1 : Int32)))) → F1 71 = .inl (.int (((((10 : Int32)) * (sy_i F 71)) + ((0 : Int32))) - ((48 : Int32)))) → hd_W Ls xs d jm_M142 Q (208, sy_dL F1 [some (.inl (.ref 1000)), some (.inr (.inl 69)), none, some (.inr (.inl 70)), some (.inr (.inl 71)), none, none, none], sy_dS F1 [], sy_dh F1 X1 X2 (iv_H 4), 0, 0)) :
    hd_W Ls xs d jm_M142 Q (208, sy_dL F [some (.inl (.ref 1000)), some (.inr (.inl 69)), none, some (.inr (.inl 70)), some (.inr (.inl 71)), none, none, none], sy_dS F [], sy_dh F X1 X2 (iv_H 4), 0, 0) := by
  refine hd_run (s := 4) (nv := 72) (pc := 208) (L := [some (.inl (.ref 1000)), some (.inr (.inl 69)), none, some (.inr (.inl 70)), some (.inr (.inl 71)), none, none, none]) (S := []) (uh := hd_ov (iv_id 0 iv_B4) []) (ul := [.inl (.inr (.inl 69)), .inl (.inr (.inl 79)), .inl (.inr (.inl 78))]) (f := true) (sp := [7, 208]) (d0 := 3) (O := [false, false, false, false, true]) (T := [(0, [.inr (.inl 69), .inr (.inl 70)], []), (30, [.inr (.inl 72)], [.inr (.inl 24)]), (3, [.inr (.inl 73), .inl (.int 255)], []), (2, [.inl (.int 10), .inr (.inl 71)], []), (0, [.inr (.inl 69), .inr (.inl 70)], []), (0, [.inr (.inl 75), .inl (.int 0)], []), (1, [.inr (.inl 77), .inl (.int 48)], []), (0, [.inr (.inl 70), .inl (.int 1)], [])]) (P := [(5, .inr (.inl 2), .inr (.inl 72)), (6, .inr (.inl 72), .inl (.ref 2000)), (3, .inr (.inl 74), .inl (.int 48)), (3, .inl (.int 57), .inr (.inl 74)), (5, .inl (.int 4), .inr (.inl 70)), (4, .inr (.inl 2), .inr (.inl 76))]) jm_ok142 (by decide +kernel) (by decide +kernel) hd F X1 X2 (fun F' hF hs => ?_)
  have b2 := hd_b (F := F) (F' := F') (k := 2) (hF 2 (by decide))
  have b69 := hd_b (F := F) (F' := F') (k := 69) (hF 69 (by decide))
  have b70 := hd_b (F := F) (F' := F') (k := 70) (hF 70 (by decide))
  have t72 : sy_dv F' (.inr (.inl 72)) = .int ((sy_i F 69) + (sy_i F 70)) := hd_o (hs 0 _ rfl) b69 b70 rfl
  have a24 := hd_ba (F := F) (F' := F') (k := 24) (hF 24 (by decide))
  have t73 : sy_dv F' (.inr (.inl 73)) = .int ((sy_ai F 24).getD ((sy_i F 69) + (sy_i F 70)).toNatClampNeg 0) := hd_rd (hs 1 _ rfl) t72 a24
  have t74 : sy_dv F' (.inr (.inl 74)) = .int (((sy_ai F 24).getD ((sy_i F 69) + (sy_i F 70)).toNatClampNeg 0) &&& ((255 : Int32))) := hd_o (hs 2 _ rfl) t73 rfl rfl
  have t76 : sy_dv F' (.inr (.inl 76)) = .int ((sy_i F 69) + (sy_i F 70)) := hd_o (hs 4 _ rfl) b69 b70 rfl
  have t79 : sy_dv F' (.inr (.inl 79)) = .int ((sy_i F 70) + ((1 : Int32))) := hd_o (hs 7 _ rfl) b70 rfl rfl
  have b71 := hd_b (F := F) (F' := F') (k := 71) (hF 71 (by decide))
  have t75 : sy_dv F' (.inr (.inl 75)) = .int (((10 : Int32)) * (sy_i F 71)) := hd_o (hs 3 _ rfl) rfl b71 rfl
  have t77 : sy_dv F' (.inr (.inl 77)) = .int ((((10 : Int32)) * (sy_i F 71)) + ((0 : Int32))) := hd_o (hs 5 _ rfl) t75 rfl rfl
  have t78 : sy_dv F' (.inr (.inl 78)) = .int (((((10 : Int32)) * (sy_i F 71)) + ((0 : Int32))) - ((48 : Int32))) := hd_o (hs 6 _ rfl) t77 rfl rfl
  have hB' : iv_in F' iv_B4 := iv_in_eq hB (fun j hj => hF j (Nat.lt_of_lt_of_le hj (by decide +kernel)))
  refine ⟨List.forall_mem_cons.mpr ⟨hd_p5 b2 t72 h0, List.forall_mem_cons.mpr ⟨hd_pb t72 (by first | exact h1 | exact h1), List.forall_mem_cons.mpr ⟨hd_p3 t74 rfl (by have hc : ((48) : Int32).toInt = 48 := (by decide); omega), List.forall_mem_cons.mpr ⟨hd_p3 rfl t74 (by have hc : ((57) : Int32).toInt = 57 := (by decide); omega), List.forall_mem_cons.mpr ⟨hd_p5 rfl b70 (by have hc : ((4) : Int32).toInt = 4 := (by decide); omega), List.forall_mem_cons.mpr ⟨hd_p4 b2 t76 h5, fun _ h => absurd h List.not_mem_nil⟩⟩⟩⟩⟩⟩, ?_⟩
  refine k _ ?_ ?_ ?_ ?_
  · exact fun j hj _ => (hd_keep hB' (Nat.lt_of_lt_of_le hj (by decide +kernel)) (by simp)).trans (hF j (Nat.lt_of_lt_of_le hj (by decide)))
  · exact hd_gi (x := .inr (.inl 69)) (by decide +kernel) b69
  · exact hd_gi (x := .inr (.inl 79)) (by decide +kernel) t79
  · exact hd_gi (x := .inr (.inl 78)) (by decide +kernel) t78
theorem rc_208_p8 {Ls : Nat} {xs : Nat → Int32} {d : Nat} {Q : Option Value → jm_h → Prop} (hd : 4 ≤ d) (F : Nat → sy_d) (X1 X2 : List jm_c) (hB : iv_in F iv_B4)
    (h0 : ((sy_i F 69) + (sy_i F 70)).toInt < (sy_i F 2).toInt)
    (h1 : 0 ≤ ((sy_i F 69) + (sy_i F 70)).toInt ∧ ((sy_i F 69) + (sy_i F 70)).toInt < 2000)
    (h2 : 48 ≤ (((sy_ai F 24).getD ((sy_i F 69) + (sy_i F 70)).toNatClampNeg 0) &&& ((255 : Int32))).toInt)
    (h3 : (((sy_ai F 24).getD ((sy_i F 69) + (sy_i F 70)).toNatClampNeg 0) &&& ((255 : Int32))).toInt ≤ 57)
    (h4 : (sy_i F 70).toInt < 4)
    (h5 : ((sy_i F 69) + (sy_i F 70)).toInt < (sy_i F 2).toInt)
    (h6 : 0 ≤ ((sy_i F 69) + (sy_i F 70)).toInt ∧ ((sy_i F 69) + (sy_i F 70)).toInt < 2000)
    (k : ∀ F1 : Nat → sy_d, (∀ j, j < 69 → True → F1 j = F j) → F1 69 = .inl (.int (sy_i F 69)) → F1 70 = .inl (.int ((sy_i F 70) + ((1 : Int32)))) → F1 71 = .inl (.int (((((10 : Int32)) * (sy_i F 71)) + (((sy_ai F 24).getD ((sy_i F 69) + (sy_i F 70)).toNatClampNeg 0) &&& ((255 : Int32)))) - ((48 : Int32)))) → hd_W Ls xs d jm_M142 Q (208, sy_dL F1 [some (.inl (.ref 1000)), some (.inr (.inl 69)), none, some (.inr (.inl 70)), some (.inr (.inl 71)), none, none, none], sy_dS F1 [], sy_dh F1 X1 X2 (iv_H 4), 0, 0)) :
    hd_W Ls xs d jm_M142 Q (208, sy_dL F [some (.inl (.ref 1000)), some (.inr (.inl 69)), none, some (.inr (.inl 70)), some (.inr (.inl 71)), none, none, none], sy_dS F [], sy_dh F X1 X2 (iv_H 4), 0, 0) := by
  refine hd_run (s := 4) (nv := 72) (pc := 208) (L := [some (.inl (.ref 1000)), some (.inr (.inl 69)), none, some (.inr (.inl 70)), some (.inr (.inl 71)), none, none, none]) (S := []) (uh := hd_ov (iv_id 0 iv_B4) []) (ul := [.inl (.inr (.inl 69)), .inl (.inr (.inl 81)), .inl (.inr (.inl 80))]) (f := true) (sp := [7, 208]) (d0 := 3) (O := [false, false, false, false, false]) (T := [(0, [.inr (.inl 69), .inr (.inl 70)], []), (30, [.inr (.inl 72)], [.inr (.inl 24)]), (3, [.inr (.inl 73), .inl (.int 255)], []), (2, [.inl (.int 10), .inr (.inl 71)], []), (0, [.inr (.inl 69), .inr (.inl 70)], []), (30, [.inr (.inl 76)], [.inr (.inl 24)]), (3, [.inr (.inl 77), .inl (.int 255)], []), (0, [.inr (.inl 75), .inr (.inl 78)], []), (1, [.inr (.inl 79), .inl (.int 48)], []), (0, [.inr (.inl 70), .inl (.int 1)], [])]) (P := [(5, .inr (.inl 2), .inr (.inl 72)), (6, .inr (.inl 72), .inl (.ref 2000)), (3, .inr (.inl 74), .inl (.int 48)), (3, .inl (.int 57), .inr (.inl 74)), (5, .inl (.int 4), .inr (.inl 70)), (5, .inr (.inl 2), .inr (.inl 76)), (6, .inr (.inl 76), .inl (.ref 2000))]) jm_ok142 (by decide +kernel) (by decide +kernel) hd F X1 X2 (fun F' hF hs => ?_)
  have b2 := hd_b (F := F) (F' := F') (k := 2) (hF 2 (by decide))
  have b69 := hd_b (F := F) (F' := F') (k := 69) (hF 69 (by decide))
  have b70 := hd_b (F := F) (F' := F') (k := 70) (hF 70 (by decide))
  have t72 : sy_dv F' (.inr (.inl 72)) = .int ((sy_i F 69) + (sy_i F 70)) := hd_o (hs 0 _ rfl) b69 b70 rfl
  have a24 := hd_ba (F := F) (F' := F') (k := 24) (hF 24 (by decide))
  have t73 : sy_dv F' (.inr (.inl 73)) = .int ((sy_ai F 24).getD ((sy_i F 69) + (sy_i F 70)).toNatClampNeg 0) := hd_rd (hs 1 _ rfl) t72 a24
  have t74 : sy_dv F' (.inr (.inl 74)) = .int (((sy_ai F 24).getD ((sy_i F 69) + (sy_i F 70)).toNatClampNeg 0) &&& ((255 : Int32))) := hd_o (hs 2 _ rfl) t73 rfl rfl
  have t76 : sy_dv F' (.inr (.inl 76)) = .int ((sy_i F 69) + (sy_i F 70)) := hd_o (hs 4 _ rfl) b69 b70 rfl
  have t81 : sy_dv F' (.inr (.inl 81)) = .int ((sy_i F 70) + ((1 : Int32))) := hd_o (hs 9 _ rfl) b70 rfl rfl
  have b71 := hd_b (F := F) (F' := F') (k := 71) (hF 71 (by decide))
  have t75 : sy_dv F' (.inr (.inl 75)) = .int (((10 : Int32)) * (sy_i F 71)) := hd_o (hs 3 _ rfl) rfl b71 rfl
  have t77 : sy_dv F' (.inr (.inl 77)) = .int ((sy_ai F 24).getD ((sy_i F 69) + (sy_i F 70)).toNatClampNeg 0) := hd_rd (hs 5 _ rfl) t76 a24
  have t78 : sy_dv F' (.inr (.inl 78)) = .int (((sy_ai F 24).getD ((sy_i F 69) + (sy_i F 70)).toNatClampNeg 0) &&& ((255 : Int32))) := hd_o (hs 6 _ rfl) t77 rfl rfl
  have t79 : sy_dv F' (.inr (.inl 79)) = .int ((((10 : Int32)) * (sy_i F 71)) + (((sy_ai F 24).getD ((sy_i F 69) + (sy_i F 70)).toNatClampNeg 0) &&& ((255 : Int32)))) := hd_o (hs 7 _ rfl) t75 t78 rfl
  have t80 : sy_dv F' (.inr (.inl 80)) = .int (((((10 : Int32)) * (sy_i F 71)) + (((sy_ai F 24).getD ((sy_i F 69) + (sy_i F 70)).toNatClampNeg 0) &&& ((255 : Int32)))) - ((48 : Int32))) := hd_o (hs 8 _ rfl) t79 rfl rfl
  have hB' : iv_in F' iv_B4 := iv_in_eq hB (fun j hj => hF j (Nat.lt_of_lt_of_le hj (by decide +kernel)))
  refine ⟨List.forall_mem_cons.mpr ⟨hd_p5 b2 t72 h0, List.forall_mem_cons.mpr ⟨hd_pb t72 (by first | exact h1 | exact h1), List.forall_mem_cons.mpr ⟨hd_p3 t74 rfl (by have hc : ((48) : Int32).toInt = 48 := (by decide); omega), List.forall_mem_cons.mpr ⟨hd_p3 rfl t74 (by have hc : ((57) : Int32).toInt = 57 := (by decide); omega), List.forall_mem_cons.mpr ⟨hd_p5 rfl b70 (by have hc : ((4) : Int32).toInt = 4 := (by decide); omega), List.forall_mem_cons.mpr ⟨hd_p5 b2 t76 h5, List.forall_mem_cons.mpr ⟨hd_pb t76 (by first | exact h6 | exact h6), fun _ h => absurd h List.not_mem_nil⟩⟩⟩⟩⟩⟩⟩, ?_⟩
  refine k _ ?_ ?_ ?_ ?_
  · exact fun j hj _ => (hd_keep hB' (Nat.lt_of_lt_of_le hj (by decide +kernel)) (by simp)).trans (hF j (Nat.lt_of_lt_of_le hj (by decide)))
  · exact hd_gi (x := .inr (.inl 69)) (by decide +kernel) b69
  · exact hd_gi (x := .inr (.inl 81)) (by decide +kernel) t81
  · exact hd_gi (x := .inr (.inl 80)) (by decide +kernel) t80
theorem rc_208 {Ls : Nat} {xs : Nat → Int32} {d : Nat} {Q : Option Value → jm_h → Prop} (hd : 4 ≤ d) (F : Nat → sy_d) (X1 X2 : List jm_c) (hB : iv_in F iv_B4)
    (a69 : 0 ≤ (sy_i F 69).toInt ∧ (sy_i F 69).toInt ≤ 2000)
    (a70 : 0 ≤ (sy_i F 70).toInt ∧ (sy_i F 70).toInt ≤ 2000)
    (a71 : (-100000) ≤ (sy_i F 71).toInt ∧ (sy_i F 71).toInt ≤ 100000)
    (o0 : (sy_i F 2).toInt ≤ ((sy_i F 69).toInt + (sy_i F 70).toInt) → (sy_i F 70).toInt ≤ 4 → (0 ≤ ((sy_i F 3).toInt + 1) ∧ ((sy_i F 3).toInt + 1) ≤ 402))
    (o1 : (sy_i F 2).toInt ≤ ((sy_i F 69).toInt + (sy_i F 70).toInt) → 4 < (sy_i F 70).toInt → (0 ≤ ((sy_i F 3).toInt + 1) ∧ ((sy_i F 3).toInt + 1) ≤ 402))
    (o2 : ((sy_i F 69).toInt + (sy_i F 70).toInt) < (sy_i F 2).toInt → (((sy_ai F 24).getD (((sy_i F 69).toInt + (sy_i F 70).toInt)).toNat 0) &&& ((255 : Int32))).toInt < 48 → (sy_i F 70).toInt ≤ 4 → (0 ≤ ((sy_i F 3).toInt + 1) ∧ ((sy_i F 3).toInt + 1) ≤ 402))
    (o3 : ((sy_i F 69).toInt + (sy_i F 70).toInt) < (sy_i F 2).toInt → (((sy_ai F 24).getD (((sy_i F 69).toInt + (sy_i F 70).toInt)).toNat 0) &&& ((255 : Int32))).toInt < 48 → 4 < (sy_i F 70).toInt → (0 ≤ ((sy_i F 3).toInt + 1) ∧ ((sy_i F 3).toInt + 1) ≤ 402))
    (o4 : ((sy_i F 69).toInt + (sy_i F 70).toInt) < (sy_i F 2).toInt → 48 ≤ (((sy_ai F 24).getD (((sy_i F 69).toInt + (sy_i F 70).toInt)).toNat 0) &&& ((255 : Int32))).toInt → 57 < (((sy_ai F 24).getD (((sy_i F 69).toInt + (sy_i F 70).toInt)).toNat 0) &&& ((255 : Int32))).toInt → (sy_i F 70).toInt ≤ 4 → (0 ≤ ((sy_i F 3).toInt + 1) ∧ ((sy_i F 3).toInt + 1) ≤ 402))
    (o5 : ((sy_i F 69).toInt + (sy_i F 70).toInt) < (sy_i F 2).toInt → 48 ≤ (((sy_ai F 24).getD (((sy_i F 69).toInt + (sy_i F 70).toInt)).toNat 0) &&& ((255 : Int32))).toInt → 57 < (((sy_ai F 24).getD (((sy_i F 69).toInt + (sy_i F 70).toInt)).toNat 0) &&& ((255 : Int32))).toInt → 4 < (sy_i F 70).toInt → (0 ≤ ((sy_i F 3).toInt + 1) ∧ ((sy_i F 3).toInt + 1) ≤ 402))
    (k0 : (sy_i F 2).toInt ≤ ((sy_i F 69).toInt + (sy_i F 70).toInt) → (sy_i F 70).toInt ≤ 4 → ∀ F1 : Nat → sy_d, iv_in F1 iv_B4 → (∀ j, j < 69 → j ∉ ([3, 25, 26, 27, 28] : List Nat) → F1 j = F j) → (sy_i F1 2).toInt = (sy_i F 2).toInt → (sy_i F1 3).toInt = ((sy_i F 3).toInt + 1) → sy_ai F1 25 = jm_upd (sy_ai F 25) ((sy_i F 3).toInt).toNat ((2 : Int32)) → sy_ai F1 26 = jm_upd (sy_ai F 26) ((sy_i F 3).toInt).toNat (sy_i F 69) → sy_ai F1 27 = jm_upd (sy_ai F 27) ((sy_i F 3).toInt).toNat (sy_i F 71) → sy_al F1 28 = jm_updL (sy_al F 28) ((sy_i F 3).toInt).toNat ((0 : Int64)) → (sy_i F1 69).toInt = ((sy_i F 69).toInt + (sy_i F 70).toInt) → hd_W Ls xs d jm_M142 Q (7, sy_dL F1 [some (.inl (.ref 1000)), some (.inr (.inl 69)), none, none, none, none, none, none], sy_dS F1 [], sy_dh F1 X1 X2 (iv_H 4), 0, 0))
    (k1 : (sy_i F 2).toInt ≤ ((sy_i F 69).toInt + (sy_i F 70).toInt) → 4 < (sy_i F 70).toInt → ∀ F1 : Nat → sy_d, iv_in F1 iv_B4 → (∀ j, j < 69 → j ∉ ([3, 25, 26, 27, 28] : List Nat) → F1 j = F j) → (sy_i F1 2).toInt = (sy_i F 2).toInt → (sy_i F1 3).toInt = ((sy_i F 3).toInt + 1) → sy_ai F1 25 = jm_upd (sy_ai F 25) ((sy_i F 3).toInt).toNat ((3 : Int32)) → sy_ai F1 26 = jm_upd (sy_ai F 26) ((sy_i F 3).toInt).toNat (sy_i F 69) → sy_ai F1 27 = jm_upd (sy_ai F 27) ((sy_i F 3).toInt).toNat (sy_i F 71) → sy_al F1 28 = jm_updL (sy_al F 28) ((sy_i F 3).toInt).toNat ((0 : Int64)) → (sy_i F1 69).toInt = ((sy_i F 69).toInt + (sy_i F 70).toInt) → hd_W Ls xs d jm_M142 Q (7, sy_dL F1 [some (.inl (.ref 1000)), some (.inr (.inl 69)), none, none, none, none, none, none], sy_dS F1 [], sy_dh F1 X1 X2 (iv_H 4), 0, 0))
    (k2 : ((sy_i F 69).toInt + (sy_i F 70).toInt) < (sy_i F 2).toInt → (((sy_ai F 24).getD (((sy_i F 69).toInt + (sy_i F 70).toInt)).toNat 0) &&& ((255 : Int32))).toInt < 48 → (sy_i F 70).toInt ≤ 4 → ∀ F1 : Nat → sy_d, iv_in F1 iv_B4 → (∀ j, j < 69 → j ∉ ([3, 25, 26, 27, 28] : List Nat) → F1 j = F j) → (sy_i F1 2).toInt = (sy_i F 2).toInt → (sy_i F1 3).toInt = ((sy_i F 3).toInt + 1) → sy_ai F1 25 = jm_upd (sy_ai F 25) ((sy_i F 3).toInt).toNat ((2 : Int32)) → sy_ai F1 26 = jm_upd (sy_ai F 26) ((sy_i F 3).toInt).toNat (sy_i F 69) → sy_ai F1 27 = jm_upd (sy_ai F 27) ((sy_i F 3).toInt).toNat (sy_i F 71) → sy_al F1 28 = jm_updL (sy_al F 28) ((sy_i F 3).toInt).toNat ((0 : Int64)) → (sy_i F1 69).toInt = ((sy_i F 69).toInt + (sy_i F 70).toInt) → hd_W Ls xs d jm_M142 Q (7, sy_dL F1 [some (.inl (.ref 1000)), some (.inr (.inl 69)), none, none, none, none, none, none], sy_dS F1 [], sy_dh F1 X1 X2 (iv_H 4), 0, 0))
    (k3 : ((sy_i F 69).toInt + (sy_i F 70).toInt) < (sy_i F 2).toInt → (((sy_ai F 24).getD (((sy_i F 69).toInt + (sy_i F 70).toInt)).toNat 0) &&& ((255 : Int32))).toInt < 48 → 4 < (sy_i F 70).toInt → ∀ F1 : Nat → sy_d, iv_in F1 iv_B4 → (∀ j, j < 69 → j ∉ ([3, 25, 26, 27, 28] : List Nat) → F1 j = F j) → (sy_i F1 2).toInt = (sy_i F 2).toInt → (sy_i F1 3).toInt = ((sy_i F 3).toInt + 1) → sy_ai F1 25 = jm_upd (sy_ai F 25) ((sy_i F 3).toInt).toNat ((3 : Int32)) → sy_ai F1 26 = jm_upd (sy_ai F 26) ((sy_i F 3).toInt).toNat (sy_i F 69) → sy_ai F1 27 = jm_upd (sy_ai F 27) ((sy_i F 3).toInt).toNat (sy_i F 71) → sy_al F1 28 = jm_updL (sy_al F 28) ((sy_i F 3).toInt).toNat ((0 : Int64)) → (sy_i F1 69).toInt = ((sy_i F 69).toInt + (sy_i F 70).toInt) → hd_W Ls xs d jm_M142 Q (7, sy_dL F1 [some (.inl (.ref 1000)), some (.inr (.inl 69)), none, none, none, none, none, none], sy_dS F1 [], sy_dh F1 X1 X2 (iv_H 4), 0, 0))
    (k4 : ((sy_i F 69).toInt + (sy_i F 70).toInt) < (sy_i F 2).toInt → 48 ≤ (((sy_ai F 24).getD (((sy_i F 69).toInt + (sy_i F 70).toInt)).toNat 0) &&& ((255 : Int32))).toInt → 57 < (((sy_ai F 24).getD (((sy_i F 69).toInt + (sy_i F 70).toInt)).toNat 0) &&& ((255 : Int32))).toInt → (sy_i F 70).toInt ≤ 4 → ∀ F1 : Nat → sy_d, iv_in F1 iv_B4 → (∀ j, j < 69 → j ∉ ([3, 25, 26, 27, 28] : List Nat) → F1 j = F j) → (sy_i F1 2).toInt = (sy_i F 2).toInt → (sy_i F1 3).toInt = ((sy_i F 3).toInt + 1) → sy_ai F1 25 = jm_upd (sy_ai F 25) ((sy_i F 3).toInt).toNat ((2 : Int32)) → sy_ai F1 26 = jm_upd (sy_ai F 26) ((sy_i F 3).toInt).toNat (sy_i F 69) → sy_ai F1 27 = jm_upd (sy_ai F 27) ((sy_i F 3).toInt).toNat (sy_i F 71) → sy_al F1 28 = jm_updL (sy_al F 28) ((sy_i F 3).toInt).toNat ((0 : Int64)) → (sy_i F1 69).toInt = ((sy_i F 69).toInt + (sy_i F 70).toInt) → hd_W Ls xs d jm_M142 Q (7, sy_dL F1 [some (.inl (.ref 1000)), some (.inr (.inl 69)), none, none, none, none, none, none], sy_dS F1 [], sy_dh F1 X1 X2 (iv_H 4), 0, 0))
    (k5 : ((sy_i F 69).toInt + (sy_i F 70).toInt) < (sy_i F 2).toInt → 48 ≤ (((sy_ai F 24).getD (((sy_i F 69).toInt + (sy_i F 70).toInt)).toNat 0) &&& ((255 : Int32))).toInt → 57 < (((sy_ai F 24).getD (((sy_i F 69).toInt + (sy_i F 70).toInt)).toNat 0) &&& ((255 : Int32))).toInt → 4 < (sy_i F 70).toInt → ∀ F1 : Nat → sy_d, iv_in F1 iv_B4 → (∀ j, j < 69 → j ∉ ([3, 25, 26, 27, 28] : List Nat) → F1 j = F j) → (sy_i F1 2).toInt = (sy_i F 2).toInt → (sy_i F1 3).toInt = ((sy_i F 3).toInt + 1) → sy_ai F1 25 = jm_upd (sy_ai F 25) ((sy_i F 3).toInt).toNat ((3 : Int32)) → sy_ai F1 26 = jm_upd (sy_ai F 26) ((sy_i F 3).toInt).toNat (sy_i F 69) → sy_ai F1 27 = jm_upd (sy_ai F 27) ((sy_i F 3).toInt).toNat (sy_i F 71) → sy_al F1 28 = jm_updL (sy_al F 28) ((sy_i F 3).toInt).toNat ((0 : Int64)) → (sy_i F1 69).toInt = ((sy_i F 69).toInt + (sy_i F 70).toInt) → hd_W Ls xs d jm_M142 Q (7, sy_dL F1 [some (.inl (.ref 1000)), some (.inr (.inl 69)), none, none, none, none, none, none], sy_dS F1 [], sy_dh F1 X1 X2 (iv_H 4), 0, 0))
    (k6 : ((sy_i F 69).toInt + (sy_i F 70).toInt) < (sy_i F 2).toInt → 48 ≤ (((sy_ai F 24).getD (((sy_i F 69).toInt + (sy_i F 70).toInt)).toNat 0) &&& ((255 : Int32))).toInt → (((sy_ai F 24).getD (((sy_i F 69).toInt + (sy_i F 70).toInt)).toNat 0) &&& ((255 : Int32))).toInt ≤ 57 → 4 ≤ (sy_i F 70).toInt → ∀ F1 : Nat → sy_d, iv_in F1 iv_B4 → (∀ j, j < 69 → j ∉ ([] : List Nat) → F1 j = F j) → (sy_i F1 2).toInt = (sy_i F 2).toInt → (sy_i F1 3).toInt = (sy_i F 3).toInt → sy_ai F1 25 = sy_ai F 25 → sy_ai F1 26 = sy_ai F 26 → sy_ai F1 27 = sy_ai F 27 → sy_al F1 28 = sy_al F 28 → (sy_i F1 69).toInt = (sy_i F 69).toInt → (sy_i F1 70).toInt = ((sy_i F 70).toInt + 1) → (sy_i F1 71).toInt = (sy_i F 71).toInt → hd_W Ls xs d jm_M142 Q (208, sy_dL F1 [some (.inl (.ref 1000)), some (.inr (.inl 69)), none, some (.inr (.inl 70)), some (.inr (.inl 71)), none, none, none], sy_dS F1 [], sy_dh F1 X1 X2 (iv_H 4), 0, 0))
    (k7 : ((sy_i F 69).toInt + (sy_i F 70).toInt) < (sy_i F 2).toInt → 48 ≤ (((sy_ai F 24).getD (((sy_i F 69).toInt + (sy_i F 70).toInt)).toNat 0) &&& ((255 : Int32))).toInt → (((sy_ai F 24).getD (((sy_i F 69).toInt + (sy_i F 70).toInt)).toNat 0) &&& ((255 : Int32))).toInt ≤ 57 → (sy_i F 70).toInt < 4 → (sy_i F 2).toInt ≤ ((sy_i F 69).toInt + (sy_i F 70).toInt) → ∀ F1 : Nat → sy_d, iv_in F1 iv_B4 → (∀ j, j < 69 → j ∉ ([] : List Nat) → F1 j = F j) → (sy_i F1 2).toInt = (sy_i F 2).toInt → (sy_i F1 3).toInt = (sy_i F 3).toInt → sy_ai F1 25 = sy_ai F 25 → sy_ai F1 26 = sy_ai F 26 → sy_ai F1 27 = sy_ai F 27 → sy_al F1 28 = sy_al F 28 → (sy_i F1 69).toInt = (sy_i F 69).toInt → (sy_i F1 70).toInt = ((sy_i F 70).toInt + 1) → (sy_i F1 71).toInt = (((10 * (sy_i F 71).toInt) + 0) - 48) → hd_W Ls xs d jm_M142 Q (208, sy_dL F1 [some (.inl (.ref 1000)), some (.inr (.inl 69)), none, some (.inr (.inl 70)), some (.inr (.inl 71)), none, none, none], sy_dS F1 [], sy_dh F1 X1 X2 (iv_H 4), 0, 0))
    (k8 : ((sy_i F 69).toInt + (sy_i F 70).toInt) < (sy_i F 2).toInt → 48 ≤ (((sy_ai F 24).getD (((sy_i F 69).toInt + (sy_i F 70).toInt)).toNat 0) &&& ((255 : Int32))).toInt → (((sy_ai F 24).getD (((sy_i F 69).toInt + (sy_i F 70).toInt)).toNat 0) &&& ((255 : Int32))).toInt ≤ 57 → (sy_i F 70).toInt < 4 → ((sy_i F 69).toInt + (sy_i F 70).toInt) < (sy_i F 2).toInt → ∀ F1 : Nat → sy_d, iv_in F1 iv_B4 → (∀ j, j < 69 → j ∉ ([] : List Nat) → F1 j = F j) → (sy_i F1 2).toInt = (sy_i F 2).toInt → (sy_i F1 3).toInt = (sy_i F 3).toInt → sy_ai F1 25 = sy_ai F 25 → sy_ai F1 26 = sy_ai F 26 → sy_ai F1 27 = sy_ai F 27 → sy_al F1 28 = sy_al F 28 → (sy_i F1 69).toInt = (sy_i F 69).toInt → (sy_i F1 70).toInt = ((sy_i F 70).toInt + 1) → (sy_i F1 71).toInt = (((10 * (sy_i F 71).toInt) + (((sy_ai F 24).getD (((sy_i F 69).toInt + (sy_i F 70).toInt)).toNat 0) &&& ((255 : Int32))).toInt) - 48) → hd_W Ls xs d jm_M142 Q (208, sy_dL F1 [some (.inl (.ref 1000)), some (.inr (.inl 69)), none, some (.inr (.inl 70)), some (.inr (.inl 71)), none, none, none], sy_dS F1 [], sy_dh F1 X1 X2 (iv_H 4), 0, 0)) :
    hd_W Ls xs d jm_M142 Q (208, sy_dL F [some (.inl (.ref 1000)), some (.inr (.inl 69)), none, some (.inr (.inl 70)), some (.inr (.inl 71)), none, none, none], sy_dS F [], sy_dh F X1 X2 (iv_H 4), 0, 0) := by
  by_cases g0 : (sy_i F 2).toInt ≤ ((sy_i F 69).toInt + (sy_i F 70).toInt)
  · by_cases g1 : (sy_i F 70).toInt ≤ 4
    · have c2 := nz_bx hB (k := 2) (lo := 0) (hi := 2000) rfl
      have n72 : ((sy_i F 69) + (sy_i F 70)).toInt = ((sy_i F 69).toInt + (sy_i F 70).toInt) := nz_add (rfl : (sy_i F 69).toInt = (sy_i F 69).toInt) (rfl : (sy_i F 70).toInt = (sy_i F 70).toInt) (by omega) (by omega)
      have c3 := nz_bx hB (k := 3) (lo := 0) (hi := 402) rfl
      have n77 : ((sy_i F 3) + ((1 : Int32))).toInt = ((sy_i F 3).toInt + 1) := nz_add (rfl : (sy_i F 3).toInt = (sy_i F 3).toInt) (by decide : ((1 : Int32)).toInt = 1) (by omega) (by omega)
      have w73 : jm_upd (sy_ai F 25) (sy_i F 3).toNatClampNeg ((2 : Int32)) = jm_upd (sy_ai F 25) ((sy_i F 3).toInt).toNat ((2 : Int32)) := by simp only [nz_c, (by decide : ((2 : Int32)).toInt = 2)]
      have w74 : jm_upd (sy_ai F 26) (sy_i F 3).toNatClampNeg (sy_i F 69) = jm_upd (sy_ai F 26) ((sy_i F 3).toInt).toNat (sy_i F 69) := by simp only [nz_c]
      have w75 : jm_upd (sy_ai F 27) (sy_i F 3).toNatClampNeg (sy_i F 71) = jm_upd (sy_ai F 27) ((sy_i F 3).toInt).toNat (sy_i F 71) := by simp only [nz_c]
      have w76 : jm_updL (sy_al F 28) (sy_i F 3).toNatClampNeg ((0 : Int64)) = jm_updL (sy_al F 28) ((sy_i F 3).toInt).toNat ((0 : Int64)) := by simp only [nz_c]
      have n78 : ((sy_i F 69) + (sy_i F 70)).toInt = ((sy_i F 69).toInt + (sy_i F 70).toInt) := nz_add (rfl : (sy_i F 69).toInt = (sy_i F 69).toInt) (rfl : (sy_i F 70).toInt = (sy_i F 70).toInt) (by omega) (by omega)
      exact rc_208_p0 hd F X1 X2 hB (by first | exact g0 | (simp only [nz_c, n72]; exact g0) | (rw [n72]; exact g0)) (by first | exact g1 | (simp only [nz_c]; exact g1)) (by first | exact ⟨by omega, by omega⟩ | (simp only [nz_c]; exact ⟨by omega, by omega⟩)) (by first | exact ⟨by omega, by omega⟩ | (simp only [nz_c]; exact ⟨by omega, by omega⟩)) (by first | exact ⟨by omega, by omega⟩ | (simp only [nz_c]; exact ⟨by omega, by omega⟩)) (by first | exact ⟨by omega, by omega⟩ | (simp only [nz_c]; exact ⟨by omega, by omega⟩)) (fun F1 g e3 e25 e26 e27 e28 e69 => k0 g0 g1 F1 (nz_in hB [3, 25, 26, 27, 28] (fun j hj hn => g j hj (by simp only [List.mem_cons, List.not_mem_nil, or_false, not_or] at hn; omega)) (List.forall_mem_cons.mpr ⟨fun t ht => (Option.some.inj ht) ▸ (nz_hi e3 n77 (o0 g0 g1).1 (o0 g0 g1).2), List.forall_mem_cons.mpr ⟨fun t ht => (Option.some.inj ht) ▸ (nz_hA e25 (nz_up (nz_ba hB (k := 25) (lo := 0) (hi := 42) rfl) (by decide : ((2 : Int32)).toInt = 2) (by omega) (by omega))), List.forall_mem_cons.mpr ⟨fun t ht => (Option.some.inj ht) ▸ (nz_hz2 e26), List.forall_mem_cons.mpr ⟨fun t ht => (Option.some.inj ht) ▸ (nz_hz2 e27), List.forall_mem_cons.mpr ⟨fun t ht => (Option.some.inj ht) ▸ (nz_hz3 e28), List.forall_mem_nil _⟩⟩⟩⟩⟩)) (fun j hj hn => g j hj (by simp only [List.mem_cons, List.not_mem_nil, or_false, not_or] at hn; omega)) (nz_fi (g 2 (by decide) (by decide))) ((congrArg Int32.toInt (zz_i e3)).trans n77) ((zz_ai e25).trans w73) ((zz_ai e26).trans w74) ((zz_ai e27).trans w75) ((zz_al e28).trans w76) ((congrArg Int32.toInt (zz_i e69)).trans n78))
    replace g1 : 4 < (sy_i F 70).toInt := by omega
    have c2 := nz_bx hB (k := 2) (lo := 0) (hi := 2000) rfl
    have n72 : ((sy_i F 69) + (sy_i F 70)).toInt = ((sy_i F 69).toInt + (sy_i F 70).toInt) := nz_add (rfl : (sy_i F 69).toInt = (sy_i F 69).toInt) (rfl : (sy_i F 70).toInt = (sy_i F 70).toInt) (by omega) (by omega)
    have c3 := nz_bx hB (k := 3) (lo := 0) (hi := 402) rfl
    have n77 : ((sy_i F 3) + ((1 : Int32))).toInt = ((sy_i F 3).toInt + 1) := nz_add (rfl : (sy_i F 3).toInt = (sy_i F 3).toInt) (by decide : ((1 : Int32)).toInt = 1) (by omega) (by omega)
    have w73 : jm_upd (sy_ai F 25) (sy_i F 3).toNatClampNeg ((3 : Int32)) = jm_upd (sy_ai F 25) ((sy_i F 3).toInt).toNat ((3 : Int32)) := by simp only [nz_c, (by decide : ((3 : Int32)).toInt = 3)]
    have w74 : jm_upd (sy_ai F 26) (sy_i F 3).toNatClampNeg (sy_i F 69) = jm_upd (sy_ai F 26) ((sy_i F 3).toInt).toNat (sy_i F 69) := by simp only [nz_c]
    have w75 : jm_upd (sy_ai F 27) (sy_i F 3).toNatClampNeg (sy_i F 71) = jm_upd (sy_ai F 27) ((sy_i F 3).toInt).toNat (sy_i F 71) := by simp only [nz_c]
    have w76 : jm_updL (sy_al F 28) (sy_i F 3).toNatClampNeg ((0 : Int64)) = jm_updL (sy_al F 28) ((sy_i F 3).toInt).toNat ((0 : Int64)) := by simp only [nz_c]
    have n78 : ((sy_i F 69) + (sy_i F 70)).toInt = ((sy_i F 69).toInt + (sy_i F 70).toInt) := nz_add (rfl : (sy_i F 69).toInt = (sy_i F 69).toInt) (rfl : (sy_i F 70).toInt = (sy_i F 70).toInt) (by omega) (by omega)
    exact rc_208_p1 hd F X1 X2 hB (by first | exact g0 | (simp only [nz_c, n72]; exact g0) | (rw [n72]; exact g0)) (by first | exact g1 | (simp only [nz_c]; exact g1)) (by first | exact ⟨by omega, by omega⟩ | (simp only [nz_c]; exact ⟨by omega, by omega⟩)) (by first | exact ⟨by omega, by omega⟩ | (simp only [nz_c]; exact ⟨by omega, by omega⟩)) (by first | exact ⟨by omega, by omega⟩ | (simp only [nz_c]; exact ⟨by omega, by omega⟩)) (by first | exact ⟨by omega, by omega⟩ | (simp only [nz_c]; exact ⟨by omega, by omega⟩)) (fun F1 g e3 e25 e26 e27 e28 e69 => k1 g0 g1 F1 (nz_in hB [3, 25, 26, 27, 28] (fun j hj hn => g j hj (by simp only [List.mem_cons, List.not_mem_nil, or_false, not_or] at hn; omega)) (List.forall_mem_cons.mpr ⟨fun t ht => (Option.some.inj ht) ▸ (nz_hi e3 n77 (o1 g0 g1).1 (o1 g0 g1).2), List.forall_mem_cons.mpr ⟨fun t ht => (Option.some.inj ht) ▸ (nz_hA e25 (nz_up (nz_ba hB (k := 25) (lo := 0) (hi := 42) rfl) (by decide : ((3 : Int32)).toInt = 3) (by omega) (by omega))), List.forall_mem_cons.mpr ⟨fun t ht => (Option.some.inj ht) ▸ (nz_hz2 e26), List.forall_mem_cons.mpr ⟨fun t ht => (Option.some.inj ht) ▸ (nz_hz2 e27), List.forall_mem_cons.mpr ⟨fun t ht => (Option.some.inj ht) ▸ (nz_hz3 e28), List.forall_mem_nil _⟩⟩⟩⟩⟩)) (fun j hj hn => g j hj (by simp only [List.mem_cons, List.not_mem_nil, or_false, not_or] at hn; omega)) (nz_fi (g 2 (by decide) (by decide))) ((congrArg Int32.toInt (zz_i e3)).trans n77) ((zz_ai e25).trans w73) ((zz_ai e26).trans w74) ((zz_ai e27).trans w75) ((zz_al e28).trans w76) ((congrArg Int32.toInt (zz_i e69)).trans n78))
  replace g0 : ((sy_i F 69).toInt + (sy_i F 70).toInt) < (sy_i F 2).toInt := by omega
  by_cases g1 : (((sy_ai F 24).getD (((sy_i F 69).toInt + (sy_i F 70).toInt)).toNat 0) &&& ((255 : Int32))).toInt < 48
  · by_cases g2 : (sy_i F 70).toInt ≤ 4
    · have c2 := nz_bx hB (k := 2) (lo := 0) (hi := 2000) rfl
      have n72 : ((sy_i F 69) + (sy_i F 70)).toInt = ((sy_i F 69).toInt + (sy_i F 70).toInt) := nz_add (rfl : (sy_i F 69).toInt = (sy_i F 69).toInt) (rfl : (sy_i F 70).toInt = (sy_i F 70).toInt) (by omega) (by omega)
      have q74 : ((sy_ai F 24).getD ((sy_i F 69) + (sy_i F 70)).toNatClampNeg 0) &&& ((255 : Int32)) = ((sy_ai F 24).getD (((sy_i F 69).toInt + (sy_i F 70).toInt)).toNat 0) &&& ((255 : Int32)) := by simp only [nz_c, n72, (by decide : ((255 : Int32)).toInt = 255)]
      have n74 : (((sy_ai F 24).getD ((sy_i F 69) + (sy_i F 70)).toNatClampNeg 0) &&& ((255 : Int32))).toInt = (((sy_ai F 24).getD (((sy_i F 69).toInt + (sy_i F 70).toInt)).toNat 0) &&& ((255 : Int32))).toInt := congrArg Int32.toInt q74
      have c3 := nz_bx hB (k := 3) (lo := 0) (hi := 402) rfl
      have n79 : ((sy_i F 3) + ((1 : Int32))).toInt = ((sy_i F 3).toInt + 1) := nz_add (rfl : (sy_i F 3).toInt = (sy_i F 3).toInt) (by decide : ((1 : Int32)).toInt = 1) (by omega) (by omega)
      have w75 : jm_upd (sy_ai F 25) (sy_i F 3).toNatClampNeg ((2 : Int32)) = jm_upd (sy_ai F 25) ((sy_i F 3).toInt).toNat ((2 : Int32)) := by simp only [nz_c, (by decide : ((2 : Int32)).toInt = 2)]
      have w76 : jm_upd (sy_ai F 26) (sy_i F 3).toNatClampNeg (sy_i F 69) = jm_upd (sy_ai F 26) ((sy_i F 3).toInt).toNat (sy_i F 69) := by simp only [nz_c]
      have w77 : jm_upd (sy_ai F 27) (sy_i F 3).toNatClampNeg (sy_i F 71) = jm_upd (sy_ai F 27) ((sy_i F 3).toInt).toNat (sy_i F 71) := by simp only [nz_c]
      have w78 : jm_updL (sy_al F 28) (sy_i F 3).toNatClampNeg ((0 : Int64)) = jm_updL (sy_al F 28) ((sy_i F 3).toInt).toNat ((0 : Int64)) := by simp only [nz_c]
      have n80 : ((sy_i F 69) + (sy_i F 70)).toInt = ((sy_i F 69).toInt + (sy_i F 70).toInt) := nz_add (rfl : (sy_i F 69).toInt = (sy_i F 69).toInt) (rfl : (sy_i F 70).toInt = (sy_i F 70).toInt) (by omega) (by omega)
      exact rc_208_p2 hd F X1 X2 hB (by first | exact g0 | (simp only [nz_c, n72]; exact g0) | (rw [n72]; exact g0)) (by first | exact ⟨by omega, by omega⟩ | (simp only [nz_c, n72]; exact ⟨by omega, by omega⟩) | (rw [n72]; exact ⟨by omega, by omega⟩)) (by first | exact g1 | (simp only [nz_c, n72]; exact g1) | (rw [n74]; exact g1)) (by first | exact g2 | (simp only [nz_c]; exact g2)) (by first | exact ⟨by omega, by omega⟩ | (simp only [nz_c]; exact ⟨by omega, by omega⟩)) (by first | exact ⟨by omega, by omega⟩ | (simp only [nz_c]; exact ⟨by omega, by omega⟩)) (by first | exact ⟨by omega, by omega⟩ | (simp only [nz_c]; exact ⟨by omega, by omega⟩)) (by first | exact ⟨by omega, by omega⟩ | (simp only [nz_c]; exact ⟨by omega, by omega⟩)) (fun F1 g e3 e25 e26 e27 e28 e69 => k2 g0 g1 g2 F1 (nz_in hB [3, 25, 26, 27, 28] (fun j hj hn => g j hj (by simp only [List.mem_cons, List.not_mem_nil, or_false, not_or] at hn; omega)) (List.forall_mem_cons.mpr ⟨fun t ht => (Option.some.inj ht) ▸ (nz_hi e3 n79 (o2 g0 g1 g2).1 (o2 g0 g1 g2).2), List.forall_mem_cons.mpr ⟨fun t ht => (Option.some.inj ht) ▸ (nz_hA e25 (nz_up (nz_ba hB (k := 25) (lo := 0) (hi := 42) rfl) (by decide : ((2 : Int32)).toInt = 2) (by omega) (by omega))), List.forall_mem_cons.mpr ⟨fun t ht => (Option.some.inj ht) ▸ (nz_hz2 e26), List.forall_mem_cons.mpr ⟨fun t ht => (Option.some.inj ht) ▸ (nz_hz2 e27), List.forall_mem_cons.mpr ⟨fun t ht => (Option.some.inj ht) ▸ (nz_hz3 e28), List.forall_mem_nil _⟩⟩⟩⟩⟩)) (fun j hj hn => g j hj (by simp only [List.mem_cons, List.not_mem_nil, or_false, not_or] at hn; omega)) (nz_fi (g 2 (by decide) (by decide))) ((congrArg Int32.toInt (zz_i e3)).trans n79) ((zz_ai e25).trans w75) ((zz_ai e26).trans w76) ((zz_ai e27).trans w77) ((zz_al e28).trans w78) ((congrArg Int32.toInt (zz_i e69)).trans n80))
    replace g2 : 4 < (sy_i F 70).toInt := by omega
    have c2 := nz_bx hB (k := 2) (lo := 0) (hi := 2000) rfl
    have n72 : ((sy_i F 69) + (sy_i F 70)).toInt = ((sy_i F 69).toInt + (sy_i F 70).toInt) := nz_add (rfl : (sy_i F 69).toInt = (sy_i F 69).toInt) (rfl : (sy_i F 70).toInt = (sy_i F 70).toInt) (by omega) (by omega)
    have q74 : ((sy_ai F 24).getD ((sy_i F 69) + (sy_i F 70)).toNatClampNeg 0) &&& ((255 : Int32)) = ((sy_ai F 24).getD (((sy_i F 69).toInt + (sy_i F 70).toInt)).toNat 0) &&& ((255 : Int32)) := by simp only [nz_c, n72, (by decide : ((255 : Int32)).toInt = 255)]
    have n74 : (((sy_ai F 24).getD ((sy_i F 69) + (sy_i F 70)).toNatClampNeg 0) &&& ((255 : Int32))).toInt = (((sy_ai F 24).getD (((sy_i F 69).toInt + (sy_i F 70).toInt)).toNat 0) &&& ((255 : Int32))).toInt := congrArg Int32.toInt q74
    have c3 := nz_bx hB (k := 3) (lo := 0) (hi := 402) rfl
    have n79 : ((sy_i F 3) + ((1 : Int32))).toInt = ((sy_i F 3).toInt + 1) := nz_add (rfl : (sy_i F 3).toInt = (sy_i F 3).toInt) (by decide : ((1 : Int32)).toInt = 1) (by omega) (by omega)
    have w75 : jm_upd (sy_ai F 25) (sy_i F 3).toNatClampNeg ((3 : Int32)) = jm_upd (sy_ai F 25) ((sy_i F 3).toInt).toNat ((3 : Int32)) := by simp only [nz_c, (by decide : ((3 : Int32)).toInt = 3)]
    have w76 : jm_upd (sy_ai F 26) (sy_i F 3).toNatClampNeg (sy_i F 69) = jm_upd (sy_ai F 26) ((sy_i F 3).toInt).toNat (sy_i F 69) := by simp only [nz_c]
    have w77 : jm_upd (sy_ai F 27) (sy_i F 3).toNatClampNeg (sy_i F 71) = jm_upd (sy_ai F 27) ((sy_i F 3).toInt).toNat (sy_i F 71) := by simp only [nz_c]
    have w78 : jm_updL (sy_al F 28) (sy_i F 3).toNatClampNeg ((0 : Int64)) = jm_updL (sy_al F 28) ((sy_i F 3).toInt).toNat ((0 : Int64)) := by simp only [nz_c]
    have n80 : ((sy_i F 69) + (sy_i F 70)).toInt = ((sy_i F 69).toInt + (sy_i F 70).toInt) := nz_add (rfl : (sy_i F 69).toInt = (sy_i F 69).toInt) (rfl : (sy_i F 70).toInt = (sy_i F 70).toInt) (by omega) (by omega)
    exact rc_208_p3 hd F X1 X2 hB (by first | exact g0 | (simp only [nz_c, n72]; exact g0) | (rw [n72]; exact g0)) (by first | exact ⟨by omega, by omega⟩ | (simp only [nz_c, n72]; exact ⟨by omega, by omega⟩) | (rw [n72]; exact ⟨by omega, by omega⟩)) (by first | exact g1 | (simp only [nz_c, n72]; exact g1) | (rw [n74]; exact g1)) (by first | exact g2 | (simp only [nz_c]; exact g2)) (by first | exact ⟨by omega, by omega⟩ | (simp only [nz_c]; exact ⟨by omega, by omega⟩)) (by first | exact ⟨by omega, by omega⟩ | (simp only [nz_c]; exact ⟨by omega, by omega⟩)) (by first | exact ⟨by omega, by omega⟩ | (simp only [nz_c]; exact ⟨by omega, by omega⟩)) (by first | exact ⟨by omega, by omega⟩ | (simp only [nz_c]; exact ⟨by omega, by omega⟩)) (fun F1 g e3 e25 e26 e27 e28 e69 => k3 g0 g1 g2 F1 (nz_in hB [3, 25, 26, 27, 28] (fun j hj hn => g j hj (by simp only [List.mem_cons, List.not_mem_nil, or_false, not_or] at hn; omega)) (List.forall_mem_cons.mpr ⟨fun t ht => (Option.some.inj ht) ▸ (nz_hi e3 n79 (o3 g0 g1 g2).1 (o3 g0 g1 g2).2), List.forall_mem_cons.mpr ⟨fun t ht => (Option.some.inj ht) ▸ (nz_hA e25 (nz_up (nz_ba hB (k := 25) (lo := 0) (hi := 42) rfl) (by decide : ((3 : Int32)).toInt = 3) (by omega) (by omega))), List.forall_mem_cons.mpr ⟨fun t ht => (Option.some.inj ht) ▸ (nz_hz2 e26), List.forall_mem_cons.mpr ⟨fun t ht => (Option.some.inj ht) ▸ (nz_hz2 e27), List.forall_mem_cons.mpr ⟨fun t ht => (Option.some.inj ht) ▸ (nz_hz3 e28), List.forall_mem_nil _⟩⟩⟩⟩⟩)) (fun j hj hn => g j hj (by simp only [List.mem_cons, List.not_mem_nil, or_false, not_or] at hn; omega)) (nz_fi (g 2 (by decide) (by decide))) ((congrArg Int32.toInt (zz_i e3)).trans n79) ((zz_ai e25).trans w75) ((zz_ai e26).trans w76) ((zz_ai e27).trans w77) ((zz_al e28).trans w78) ((congrArg Int32.toInt (zz_i e69)).trans n80))
  replace g1 : 48 ≤ (((sy_ai F 24).getD (((sy_i F 69).toInt + (sy_i F 70).toInt)).toNat 0) &&& ((255 : Int32))).toInt := by omega
  by_cases g2 : 57 < (((sy_ai F 24).getD (((sy_i F 69).toInt + (sy_i F 70).toInt)).toNat 0) &&& ((255 : Int32))).toInt
  · by_cases g3 : (sy_i F 70).toInt ≤ 4
    · have c2 := nz_bx hB (k := 2) (lo := 0) (hi := 2000) rfl
      have n72 : ((sy_i F 69) + (sy_i F 70)).toInt = ((sy_i F 69).toInt + (sy_i F 70).toInt) := nz_add (rfl : (sy_i F 69).toInt = (sy_i F 69).toInt) (rfl : (sy_i F 70).toInt = (sy_i F 70).toInt) (by omega) (by omega)
      have q74 : ((sy_ai F 24).getD ((sy_i F 69) + (sy_i F 70)).toNatClampNeg 0) &&& ((255 : Int32)) = ((sy_ai F 24).getD (((sy_i F 69).toInt + (sy_i F 70).toInt)).toNat 0) &&& ((255 : Int32)) := by simp only [nz_c, n72, (by decide : ((255 : Int32)).toInt = 255)]
      have n74 : (((sy_ai F 24).getD ((sy_i F 69) + (sy_i F 70)).toNatClampNeg 0) &&& ((255 : Int32))).toInt = (((sy_ai F 24).getD (((sy_i F 69).toInt + (sy_i F 70).toInt)).toNat 0) &&& ((255 : Int32))).toInt := congrArg Int32.toInt q74
      have c3 := nz_bx hB (k := 3) (lo := 0) (hi := 402) rfl
      have n79 : ((sy_i F 3) + ((1 : Int32))).toInt = ((sy_i F 3).toInt + 1) := nz_add (rfl : (sy_i F 3).toInt = (sy_i F 3).toInt) (by decide : ((1 : Int32)).toInt = 1) (by omega) (by omega)
      have w75 : jm_upd (sy_ai F 25) (sy_i F 3).toNatClampNeg ((2 : Int32)) = jm_upd (sy_ai F 25) ((sy_i F 3).toInt).toNat ((2 : Int32)) := by simp only [nz_c, (by decide : ((2 : Int32)).toInt = 2)]
      have w76 : jm_upd (sy_ai F 26) (sy_i F 3).toNatClampNeg (sy_i F 69) = jm_upd (sy_ai F 26) ((sy_i F 3).toInt).toNat (sy_i F 69) := by simp only [nz_c]
      have w77 : jm_upd (sy_ai F 27) (sy_i F 3).toNatClampNeg (sy_i F 71) = jm_upd (sy_ai F 27) ((sy_i F 3).toInt).toNat (sy_i F 71) := by simp only [nz_c]
      have w78 : jm_updL (sy_al F 28) (sy_i F 3).toNatClampNeg ((0 : Int64)) = jm_updL (sy_al F 28) ((sy_i F 3).toInt).toNat ((0 : Int64)) := by simp only [nz_c]
      have n80 : ((sy_i F 69) + (sy_i F 70)).toInt = ((sy_i F 69).toInt + (sy_i F 70).toInt) := nz_add (rfl : (sy_i F 69).toInt = (sy_i F 69).toInt) (rfl : (sy_i F 70).toInt = (sy_i F 70).toInt) (by omega) (by omega)
      exact rc_208_p4 hd F X1 X2 hB (by first | exact g0 | (simp only [nz_c, n72]; exact g0) | (rw [n72]; exact g0)) (by first | exact ⟨by omega, by omega⟩ | (simp only [nz_c, n72]; exact ⟨by omega, by omega⟩) | (rw [n72]; exact ⟨by omega, by omega⟩)) (by first | exact g1 | (simp only [nz_c, n72]; exact g1) | (rw [n74]; exact g1)) (by first | exact g2 | (simp only [nz_c, n72]; exact g2) | (rw [n74]; exact g2)) (by first | exact g3 | (simp only [nz_c]; exact g3)) (by first | exact ⟨by omega, by omega⟩ | (simp only [nz_c]; exact ⟨by omega, by omega⟩)) (by first | exact ⟨by omega, by omega⟩ | (simp only [nz_c]; exact ⟨by omega, by omega⟩)) (by first | exact ⟨by omega, by omega⟩ | (simp only [nz_c]; exact ⟨by omega, by omega⟩)) (by first | exact ⟨by omega, by omega⟩ | (simp only [nz_c]; exact ⟨by omega, by omega⟩)) (fun F1 g e3 e25 e26 e27 e28 e69 => k4 g0 g1 g2 g3 F1 (nz_in hB [3, 25, 26, 27, 28] (fun j hj hn => g j hj (by simp only [List.mem_cons, List.not_mem_nil, or_false, not_or] at hn; omega)) (List.forall_mem_cons.mpr ⟨fun t ht => (Option.some.inj ht) ▸ (nz_hi e3 n79 (o4 g0 g1 g2 g3).1 (o4 g0 g1 g2 g3).2), List.forall_mem_cons.mpr ⟨fun t ht => (Option.some.inj ht) ▸ (nz_hA e25 (nz_up (nz_ba hB (k := 25) (lo := 0) (hi := 42) rfl) (by decide : ((2 : Int32)).toInt = 2) (by omega) (by omega))), List.forall_mem_cons.mpr ⟨fun t ht => (Option.some.inj ht) ▸ (nz_hz2 e26), List.forall_mem_cons.mpr ⟨fun t ht => (Option.some.inj ht) ▸ (nz_hz2 e27), List.forall_mem_cons.mpr ⟨fun t ht => (Option.some.inj ht) ▸ (nz_hz3 e28), List.forall_mem_nil _⟩⟩⟩⟩⟩)) (fun j hj hn => g j hj (by simp only [List.mem_cons, List.not_mem_nil, or_false, not_or] at hn; omega)) (nz_fi (g 2 (by decide) (by decide))) ((congrArg Int32.toInt (zz_i e3)).trans n79) ((zz_ai e25).trans w75) ((zz_ai e26).trans w76) ((zz_ai e27).trans w77) ((zz_al e28).trans w78) ((congrArg Int32.toInt (zz_i e69)).trans n80))
    replace g3 : 4 < (sy_i F 70).toInt := by omega
    have c2 := nz_bx hB (k := 2) (lo := 0) (hi := 2000) rfl
    have n72 : ((sy_i F 69) + (sy_i F 70)).toInt = ((sy_i F 69).toInt + (sy_i F 70).toInt) := nz_add (rfl : (sy_i F 69).toInt = (sy_i F 69).toInt) (rfl : (sy_i F 70).toInt = (sy_i F 70).toInt) (by omega) (by omega)
    have q74 : ((sy_ai F 24).getD ((sy_i F 69) + (sy_i F 70)).toNatClampNeg 0) &&& ((255 : Int32)) = ((sy_ai F 24).getD (((sy_i F 69).toInt + (sy_i F 70).toInt)).toNat 0) &&& ((255 : Int32)) := by simp only [nz_c, n72, (by decide : ((255 : Int32)).toInt = 255)]
    have n74 : (((sy_ai F 24).getD ((sy_i F 69) + (sy_i F 70)).toNatClampNeg 0) &&& ((255 : Int32))).toInt = (((sy_ai F 24).getD (((sy_i F 69).toInt + (sy_i F 70).toInt)).toNat 0) &&& ((255 : Int32))).toInt := congrArg Int32.toInt q74
    have c3 := nz_bx hB (k := 3) (lo := 0) (hi := 402) rfl
    have n79 : ((sy_i F 3) + ((1 : Int32))).toInt = ((sy_i F 3).toInt + 1) := nz_add (rfl : (sy_i F 3).toInt = (sy_i F 3).toInt) (by decide : ((1 : Int32)).toInt = 1) (by omega) (by omega)
    have w75 : jm_upd (sy_ai F 25) (sy_i F 3).toNatClampNeg ((3 : Int32)) = jm_upd (sy_ai F 25) ((sy_i F 3).toInt).toNat ((3 : Int32)) := by simp only [nz_c, (by decide : ((3 : Int32)).toInt = 3)]
    have w76 : jm_upd (sy_ai F 26) (sy_i F 3).toNatClampNeg (sy_i F 69) = jm_upd (sy_ai F 26) ((sy_i F 3).toInt).toNat (sy_i F 69) := by simp only [nz_c]
    have w77 : jm_upd (sy_ai F 27) (sy_i F 3).toNatClampNeg (sy_i F 71) = jm_upd (sy_ai F 27) ((sy_i F 3).toInt).toNat (sy_i F 71) := by simp only [nz_c]
    have w78 : jm_updL (sy_al F 28) (sy_i F 3).toNatClampNeg ((0 : Int64)) = jm_updL (sy_al F 28) ((sy_i F 3).toInt).toNat ((0 : Int64)) := by simp only [nz_c]
    have n80 : ((sy_i F 69) + (sy_i F 70)).toInt = ((sy_i F 69).toInt + (sy_i F 70).toInt) := nz_add (rfl : (sy_i F 69).toInt = (sy_i F 69).toInt) (rfl : (sy_i F 70).toInt = (sy_i F 70).toInt) (by omega) (by omega)
    exact rc_208_p5 hd F X1 X2 hB (by first | exact g0 | (simp only [nz_c, n72]; exact g0) | (rw [n72]; exact g0)) (by first | exact ⟨by omega, by omega⟩ | (simp only [nz_c, n72]; exact ⟨by omega, by omega⟩) | (rw [n72]; exact ⟨by omega, by omega⟩)) (by first | exact g1 | (simp only [nz_c, n72]; exact g1) | (rw [n74]; exact g1)) (by first | exact g2 | (simp only [nz_c, n72]; exact g2) | (rw [n74]; exact g2)) (by first | exact g3 | (simp only [nz_c]; exact g3)) (by first | exact ⟨by omega, by omega⟩ | (simp only [nz_c]; exact ⟨by omega, by omega⟩)) (by first | exact ⟨by omega, by omega⟩ | (simp only [nz_c]; exact ⟨by omega, by omega⟩)) (by first | exact ⟨by omega, by omega⟩ | (simp only [nz_c]; exact ⟨by omega, by omega⟩)) (by first | exact ⟨by omega, by omega⟩ | (simp only [nz_c]; exact ⟨by omega, by omega⟩)) (fun F1 g e3 e25 e26 e27 e28 e69 => k5 g0 g1 g2 g3 F1 (nz_in hB [3, 25, 26, 27, 28] (fun j hj hn => g j hj (by simp only [List.mem_cons, List.not_mem_nil, or_false, not_or] at hn; omega)) (List.forall_mem_cons.mpr ⟨fun t ht => (Option.some.inj ht) ▸ (nz_hi e3 n79 (o5 g0 g1 g2 g3).1 (o5 g0 g1 g2 g3).2), List.forall_mem_cons.mpr ⟨fun t ht => (Option.some.inj ht) ▸ (nz_hA e25 (nz_up (nz_ba hB (k := 25) (lo := 0) (hi := 42) rfl) (by decide : ((3 : Int32)).toInt = 3) (by omega) (by omega))), List.forall_mem_cons.mpr ⟨fun t ht => (Option.some.inj ht) ▸ (nz_hz2 e26), List.forall_mem_cons.mpr ⟨fun t ht => (Option.some.inj ht) ▸ (nz_hz2 e27), List.forall_mem_cons.mpr ⟨fun t ht => (Option.some.inj ht) ▸ (nz_hz3 e28), List.forall_mem_nil _⟩⟩⟩⟩⟩)) (fun j hj hn => g j hj (by simp only [List.mem_cons, List.not_mem_nil, or_false, not_or] at hn; omega)) (nz_fi (g 2 (by decide) (by decide))) ((congrArg Int32.toInt (zz_i e3)).trans n79) ((zz_ai e25).trans w75) ((zz_ai e26).trans w76) ((zz_ai e27).trans w77) ((zz_al e28).trans w78) ((congrArg Int32.toInt (zz_i e69)).trans n80))
  replace g2 : (((sy_ai F 24).getD (((sy_i F 69).toInt + (sy_i F 70).toInt)).toNat 0) &&& ((255 : Int32))).toInt ≤ 57 := by omega
  by_cases g3 : 4 ≤ (sy_i F 70).toInt
  · have c2 := nz_bx hB (k := 2) (lo := 0) (hi := 2000) rfl
    have n72 : ((sy_i F 69) + (sy_i F 70)).toInt = ((sy_i F 69).toInt + (sy_i F 70).toInt) := nz_add (rfl : (sy_i F 69).toInt = (sy_i F 69).toInt) (rfl : (sy_i F 70).toInt = (sy_i F 70).toInt) (by omega) (by omega)
    have q74 : ((sy_ai F 24).getD ((sy_i F 69) + (sy_i F 70)).toNatClampNeg 0) &&& ((255 : Int32)) = ((sy_ai F 24).getD (((sy_i F 69).toInt + (sy_i F 70).toInt)).toNat 0) &&& ((255 : Int32)) := by simp only [nz_c, n72, (by decide : ((255 : Int32)).toInt = 255)]
    have n74 : (((sy_ai F 24).getD ((sy_i F 69) + (sy_i F 70)).toNatClampNeg 0) &&& ((255 : Int32))).toInt = (((sy_ai F 24).getD (((sy_i F 69).toInt + (sy_i F 70).toInt)).toNat 0) &&& ((255 : Int32))).toInt := congrArg Int32.toInt q74
    have n75 : ((sy_i F 70) + ((1 : Int32))).toInt = ((sy_i F 70).toInt + 1) := nz_add (rfl : (sy_i F 70).toInt = (sy_i F 70).toInt) (by decide : ((1 : Int32)).toInt = 1) (by omega) (by omega)
    exact rc_208_p6 hd F X1 X2 hB (by first | exact g0 | (simp only [nz_c, n72]; exact g0) | (rw [n72]; exact g0)) (by first | exact ⟨by omega, by omega⟩ | (simp only [nz_c, n72]; exact ⟨by omega, by omega⟩) | (rw [n72]; exact ⟨by omega, by omega⟩)) (by first | exact g1 | (simp only [nz_c, n72]; exact g1) | (rw [n74]; exact g1)) (by first | exact g2 | (simp only [nz_c, n72]; exact g2) | (rw [n74]; exact g2)) (by first | exact g3 | (simp only [nz_c]; exact g3)) (fun F1 g e69 e70 e71 => k6 g0 g1 g2 g3 F1 (nz_in hB [] (fun j hj hn => g j hj (by simp only [List.mem_cons, List.not_mem_nil, or_false, not_or] at hn; exact trivial)) (List.forall_mem_nil _)) (fun j hj hn => g j hj (by simp only [List.mem_cons, List.not_mem_nil, or_false, not_or] at hn; exact trivial)) (nz_fi (g 2 (by decide) (by decide))) (nz_fi (g 3 (by decide) (by decide))) (nz_fa (g 25 (by decide) (by decide))) (nz_fa (g 26 (by decide) (by decide))) (nz_fa (g 27 (by decide) (by decide))) (nz_fl (g 28 (by decide) (by decide))) ((congrArg Int32.toInt (zz_i e69)).trans (rfl : (sy_i F 69).toInt = (sy_i F 69).toInt)) ((congrArg Int32.toInt (zz_i e70)).trans n75) ((congrArg Int32.toInt (zz_i e71)).trans (rfl : (sy_i F 71).toInt = (sy_i F 71).toInt)))
  replace g3 : (sy_i F 70).toInt < 4 := by omega
  by_cases g4 : (sy_i F 2).toInt ≤ ((sy_i F 69).toInt + (sy_i F 70).toInt)
  · have c2 := nz_bx hB (k := 2) (lo := 0) (hi := 2000) rfl
    have n72 : ((sy_i F 69) + (sy_i F 70)).toInt = ((sy_i F 69).toInt + (sy_i F 70).toInt) := nz_add (rfl : (sy_i F 69).toInt = (sy_i F 69).toInt) (rfl : (sy_i F 70).toInt = (sy_i F 70).toInt) (by omega) (by omega)
    have q74 : ((sy_ai F 24).getD ((sy_i F 69) + (sy_i F 70)).toNatClampNeg 0) &&& ((255 : Int32)) = ((sy_ai F 24).getD (((sy_i F 69).toInt + (sy_i F 70).toInt)).toNat 0) &&& ((255 : Int32)) := by simp only [nz_c, n72, (by decide : ((255 : Int32)).toInt = 255)]
    have n74 : (((sy_ai F 24).getD ((sy_i F 69) + (sy_i F 70)).toNatClampNeg 0) &&& ((255 : Int32))).toInt = (((sy_ai F 24).getD (((sy_i F 69).toInt + (sy_i F 70).toInt)).toNat 0) &&& ((255 : Int32))).toInt := congrArg Int32.toInt q74
    have n76 : ((sy_i F 69) + (sy_i F 70)).toInt = ((sy_i F 69).toInt + (sy_i F 70).toInt) := nz_add (rfl : (sy_i F 69).toInt = (sy_i F 69).toInt) (rfl : (sy_i F 70).toInt = (sy_i F 70).toInt) (by omega) (by omega)
    have n79 : ((sy_i F 70) + ((1 : Int32))).toInt = ((sy_i F 70).toInt + 1) := nz_add (rfl : (sy_i F 70).toInt = (sy_i F 70).toInt) (by decide : ((1 : Int32)).toInt = 1) (by omega) (by omega)
    have n75 : (((10 : Int32)) * (sy_i F 71)).toInt = (10 * (sy_i F 71).toInt) := nz_mul (by decide : ((10 : Int32)).toInt = 10) (rfl : (sy_i F 71).toInt = (sy_i F 71).toInt) (by omega) (by omega)
    have n77 : ((((10 : Int32)) * (sy_i F 71)) + ((0 : Int32))).toInt = ((10 * (sy_i F 71).toInt) + 0) := nz_add n75 (by decide : ((0 : Int32)).toInt = 0) (by omega) (by omega)
    have n78 : (((((10 : Int32)) * (sy_i F 71)) + ((0 : Int32))) - ((48 : Int32))).toInt = (((10 * (sy_i F 71).toInt) + 0) - 48) := nz_sub n77 (by decide : ((48 : Int32)).toInt = 48) (by omega) (by omega)
    exact rc_208_p7 hd F X1 X2 hB (by first | exact g0 | (simp only [nz_c, n72]; exact g0) | (rw [n72]; exact g0)) (by first | exact ⟨by omega, by omega⟩ | (simp only [nz_c, n72]; exact ⟨by omega, by omega⟩) | (rw [n72]; exact ⟨by omega, by omega⟩)) (by first | exact g1 | (simp only [nz_c, n72]; exact g1) | (rw [n74]; exact g1)) (by first | exact g2 | (simp only [nz_c, n72]; exact g2) | (rw [n74]; exact g2)) (by first | exact g3 | (simp only [nz_c]; exact g3)) (by first | exact g4 | (simp only [nz_c, n76]; exact g4) | (rw [n76]; exact g4)) (fun F1 g e69 e70 e71 => k7 g0 g1 g2 g3 g4 F1 (nz_in hB [] (fun j hj hn => g j hj (by simp only [List.mem_cons, List.not_mem_nil, or_false, not_or] at hn; exact trivial)) (List.forall_mem_nil _)) (fun j hj hn => g j hj (by simp only [List.mem_cons, List.not_mem_nil, or_false, not_or] at hn; exact trivial)) (nz_fi (g 2 (by decide) (by decide))) (nz_fi (g 3 (by decide) (by decide))) (nz_fa (g 25 (by decide) (by decide))) (nz_fa (g 26 (by decide) (by decide))) (nz_fa (g 27 (by decide) (by decide))) (nz_fl (g 28 (by decide) (by decide))) ((congrArg Int32.toInt (zz_i e69)).trans (rfl : (sy_i F 69).toInt = (sy_i F 69).toInt)) ((congrArg Int32.toInt (zz_i e70)).trans n79) ((congrArg Int32.toInt (zz_i e71)).trans n78))
  replace g4 : ((sy_i F 69).toInt + (sy_i F 70).toInt) < (sy_i F 2).toInt := by omega
  have c2 := nz_bx hB (k := 2) (lo := 0) (hi := 2000) rfl
  have n72 : ((sy_i F 69) + (sy_i F 70)).toInt = ((sy_i F 69).toInt + (sy_i F 70).toInt) := nz_add (rfl : (sy_i F 69).toInt = (sy_i F 69).toInt) (rfl : (sy_i F 70).toInt = (sy_i F 70).toInt) (by omega) (by omega)
  have q74 : ((sy_ai F 24).getD ((sy_i F 69) + (sy_i F 70)).toNatClampNeg 0) &&& ((255 : Int32)) = ((sy_ai F 24).getD (((sy_i F 69).toInt + (sy_i F 70).toInt)).toNat 0) &&& ((255 : Int32)) := by simp only [nz_c, n72, (by decide : ((255 : Int32)).toInt = 255)]
  have n74 : (((sy_ai F 24).getD ((sy_i F 69) + (sy_i F 70)).toNatClampNeg 0) &&& ((255 : Int32))).toInt = (((sy_ai F 24).getD (((sy_i F 69).toInt + (sy_i F 70).toInt)).toNat 0) &&& ((255 : Int32))).toInt := congrArg Int32.toInt q74
  have n76 : ((sy_i F 69) + (sy_i F 70)).toInt = ((sy_i F 69).toInt + (sy_i F 70).toInt) := nz_add (rfl : (sy_i F 69).toInt = (sy_i F 69).toInt) (rfl : (sy_i F 70).toInt = (sy_i F 70).toInt) (by omega) (by omega)
  have n81 : ((sy_i F 70) + ((1 : Int32))).toInt = ((sy_i F 70).toInt + 1) := nz_add (rfl : (sy_i F 70).toInt = (sy_i F 70).toInt) (by decide : ((1 : Int32)).toInt = 1) (by omega) (by omega)
  have n75 : (((10 : Int32)) * (sy_i F 71)).toInt = (10 * (sy_i F 71).toInt) := nz_mul (by decide : ((10 : Int32)).toInt = 10) (rfl : (sy_i F 71).toInt = (sy_i F 71).toInt) (by omega) (by omega)
  have q78 : ((sy_ai F 24).getD ((sy_i F 69) + (sy_i F 70)).toNatClampNeg 0) &&& ((255 : Int32)) = ((sy_ai F 24).getD (((sy_i F 69).toInt + (sy_i F 70).toInt)).toNat 0) &&& ((255 : Int32)) := by simp only [nz_c, n76, (by decide : ((255 : Int32)).toInt = 255)]
  have n78 : (((sy_ai F 24).getD ((sy_i F 69) + (sy_i F 70)).toNatClampNeg 0) &&& ((255 : Int32))).toInt = (((sy_ai F 24).getD (((sy_i F 69).toInt + (sy_i F 70).toInt)).toNat 0) &&& ((255 : Int32))).toInt := congrArg Int32.toInt q78
  have n79 : ((((10 : Int32)) * (sy_i F 71)) + (((sy_ai F 24).getD ((sy_i F 69) + (sy_i F 70)).toNatClampNeg 0) &&& ((255 : Int32)))).toInt = ((10 * (sy_i F 71).toInt) + (((sy_ai F 24).getD (((sy_i F 69).toInt + (sy_i F 70).toInt)).toNat 0) &&& ((255 : Int32))).toInt) := nz_add n75 n78 (by omega) (by omega)
  have n80 : (((((10 : Int32)) * (sy_i F 71)) + (((sy_ai F 24).getD ((sy_i F 69) + (sy_i F 70)).toNatClampNeg 0) &&& ((255 : Int32)))) - ((48 : Int32))).toInt = (((10 * (sy_i F 71).toInt) + (((sy_ai F 24).getD (((sy_i F 69).toInt + (sy_i F 70).toInt)).toNat 0) &&& ((255 : Int32))).toInt) - 48) := nz_sub n79 (by decide : ((48 : Int32)).toInt = 48) (by omega) (by omega)
  exact rc_208_p8 hd F X1 X2 hB (by first | exact g0 | (simp only [nz_c, n72]; exact g0) | (rw [n72]; exact g0)) (by first | exact ⟨by omega, by omega⟩ | (simp only [nz_c, n72]; exact ⟨by omega, by omega⟩) | (rw [n72]; exact ⟨by omega, by omega⟩)) (by first | exact g1 | (simp only [nz_c, n72]; exact g1) | (rw [n74]; exact g1)) (by first | exact g2 | (simp only [nz_c, n72]; exact g2) | (rw [n74]; exact g2)) (by first | exact g3 | (simp only [nz_c]; exact g3)) (by first | exact g4 | (simp only [nz_c, n76]; exact g4) | (rw [n76]; exact g4)) (by first | exact ⟨by omega, by omega⟩ | (simp only [nz_c, n76]; exact ⟨by omega, by omega⟩) | (rw [n76]; exact ⟨by omega, by omega⟩)) (fun F1 g e69 e70 e71 => k8 g0 g1 g2 g3 g4 F1 (nz_in hB [] (fun j hj hn => g j hj (by simp only [List.mem_cons, List.not_mem_nil, or_false, not_or] at hn; exact trivial)) (List.forall_mem_nil _)) (fun j hj hn => g j hj (by simp only [List.mem_cons, List.not_mem_nil, or_false, not_or] at hn; exact trivial)) (nz_fi (g 2 (by decide) (by decide))) (nz_fi (g 3 (by decide) (by decide))) (nz_fa (g 25 (by decide) (by decide))) (nz_fa (g 26 (by decide) (by decide))) (nz_fa (g 27 (by decide) (by decide))) (nz_fl (g 28 (by decide) (by decide))) ((congrArg Int32.toInt (zz_i e69)).trans (rfl : (sy_i F 69).toInt = (sy_i F 69).toInt)) ((congrArg Int32.toInt (zz_i e70)).trans n81) ((congrArg Int32.toInt (zz_i e71)).trans n80))
theorem rc_289_p0 {Ls : Nat} {xs : Nat → Int32} {d : Nat} {Q : Option Value → jm_h → Prop} (hd : 4 ≤ d) (F : Nat → sy_d) (X1 X2 : List jm_c) (hB : iv_in F iv_B4)
    (k : ∀ F1 : Nat → sy_d, (∀ j, j < 69 → True → F1 j = F j) → F1 69 = .inl (.int ((sy_i F 72) + (sy_i F 73))) → hd_W Ls xs d jm_M142 Q (7, sy_dL F1 [some (.inl (.ref 1000)), some (.inr (.inl 69)), none, none, none, none, none, none], sy_dS F1 [], sy_dh F1 X1 X2 (iv_H 4), 0, 0)) :
    hd_W Ls xs d jm_M142 Q (289, sy_dL F [some (.inl (.ref 1000)), none, none, none, none, none, none, none], sy_dS F [.inr (.inl 73), .inr (.inl 72)], sy_dh F X1 X2 (iv_H 4), 0, 0) := by
  refine hd_run (s := 4) (nv := 74) (pc := 7) (L := [some (.inl (.ref 1000)), some (.inr (.inl 69)), none, none, none, none, none, none]) (S := []) (uh := hd_ov (iv_id 0 iv_B4) []) (ul := [.inl (.inr (.inl 74))]) (f := false) (sp := [7]) (d0 := 3) (O := []) (T := [(0, [.inr (.inl 72), .inr (.inl 73)], [])]) (P := []) jm_ok142 (by decide +kernel) (by decide +kernel) hd F X1 X2 (fun F' hF hs => ?_)
  have b72 := hd_b (F := F) (F' := F') (k := 72) (hF 72 (by decide))
  have b73 := hd_b (F := F) (F' := F') (k := 73) (hF 73 (by decide))
  have t74 : sy_dv F' (.inr (.inl 74)) = .int ((sy_i F 72) + (sy_i F 73)) := hd_o (hs 0 _ rfl) b72 b73 rfl
  have hB' : iv_in F' iv_B4 := iv_in_eq hB (fun j hj => hF j (Nat.lt_of_lt_of_le hj (by decide +kernel)))
  refine ⟨fun _ h => absurd h List.not_mem_nil, ?_⟩
  refine k _ ?_ ?_
  · exact fun j hj _ => (hd_keep hB' (Nat.lt_of_lt_of_le hj (by decide +kernel)) (by simp)).trans (hF j (Nat.lt_of_lt_of_le hj (by decide)))
  · exact hd_gi (x := .inr (.inl 74)) (by decide +kernel) t74
theorem rc_289 {Ls : Nat} {xs : Nat → Int32} {d : Nat} {Q : Option Value → jm_h → Prop} (hd : 4 ≤ d) (F : Nat → sy_d) (X1 X2 : List jm_c) (hB : iv_in F iv_B4)
    (a72 : 0 ≤ (sy_i F 72).toInt ∧ (sy_i F 72).toInt ≤ 2000)
    (a73 : 0 ≤ (sy_i F 73).toInt ∧ (sy_i F 73).toInt ≤ 2000)
    (k0 : ∀ F1 : Nat → sy_d, iv_in F1 iv_B4 → (∀ j, j < 69 → j ∉ ([] : List Nat) → F1 j = F j) → (sy_i F1 2).toInt = (sy_i F 2).toInt → (sy_i F1 3).toInt = (sy_i F 3).toInt → sy_ai F1 25 = sy_ai F 25 → sy_ai F1 26 = sy_ai F 26 → sy_ai F1 27 = sy_ai F 27 → sy_al F1 28 = sy_al F 28 → (sy_i F1 69).toInt = ((sy_i F 72).toInt + (sy_i F 73).toInt) → hd_W Ls xs d jm_M142 Q (7, sy_dL F1 [some (.inl (.ref 1000)), some (.inr (.inl 69)), none, none, none, none, none, none], sy_dS F1 [], sy_dh F1 X1 X2 (iv_H 4), 0, 0)) :
    hd_W Ls xs d jm_M142 Q (289, sy_dL F [some (.inl (.ref 1000)), none, none, none, none, none, none, none], sy_dS F [.inr (.inl 73), .inr (.inl 72)], sy_dh F X1 X2 (iv_H 4), 0, 0) := by
  have n74 : ((sy_i F 72) + (sy_i F 73)).toInt = ((sy_i F 72).toInt + (sy_i F 73).toInt) := nz_add (rfl : (sy_i F 72).toInt = (sy_i F 72).toInt) (rfl : (sy_i F 73).toInt = (sy_i F 73).toInt) (by omega) (by omega)
  exact rc_289_p0 hd F X1 X2 hB  (fun F1 g e69 => k0 F1 (nz_in hB [] (fun j hj hn => g j hj (by simp only [List.mem_cons, List.not_mem_nil, or_false, not_or] at hn; exact trivial)) (List.forall_mem_nil _)) (fun j hj hn => g j hj (by simp only [List.mem_cons, List.not_mem_nil, or_false, not_or] at hn; exact trivial)) (nz_fi (g 2 (by decide) (by decide))) (nz_fi (g 3 (by decide) (by decide))) (nz_fa (g 25 (by decide) (by decide))) (nz_fa (g 26 (by decide) (by decide))) (nz_fa (g 27 (by decide) (by decide))) (nz_fl (g 28 (by decide) (by decide))) ((congrArg Int32.toInt (zz_i e69)).trans n74))
theorem rs_0_p0 {Ls : Nat} {xs : Nat → Int32} {d : Nat} {Q : Option Value → jm_h → Prop} (hd : 4 ≤ d) (F : Nat → sy_d) (X1 X2 : List jm_c) (hB : iv_in F iv_B4)
    (h0 : (sy_i F 70).toInt ≠ 59)
    (h1 : (sy_i F 70).toInt ≠ 61)
    (h2 : (sy_i F 70).toInt ≠ 40)
    (h3 : (sy_i F 70).toInt ≠ 41)
    (h4 : (sy_i F 70).toInt ≠ 43)
    (h5 : (sy_i F 70).toInt ≠ 45)
    (h6 : (sy_i F 70).toInt ≠ 42)
    (h7 : (sy_i F 70).toInt ≠ 47)
    (h8 : (sy_i F 70).toInt ≠ 60)
    (h9 : 0 ≤ (sy_i F 3).toInt ∧ (sy_i F 3).toInt < 403)
    (h10 : 0 ≤ (sy_i F 3).toInt ∧ (sy_i F 3).toInt < 403)
    (h11 : 0 ≤ (sy_i F 3).toInt ∧ (sy_i F 3).toInt < 403)
    (h12 : 0 ≤ (sy_i F 3).toInt ∧ (sy_i F 3).toInt < 403)
    (k : ∀ F1 : Nat → sy_d, (∀ j, j < 69 → j ≠ 3 ∧ j ≠ 25 ∧ j ≠ 26 ∧ j ≠ 27 ∧ j ≠ 28 → F1 j = F j) → F1 3 = .inl (.int ((sy_i F 3) + ((1 : Int32)))) → F1 25 = .inr (.inl (jm_upd (sy_ai F 25) (sy_i F 3).toNatClampNeg ((3 : Int32)))) → F1 26 = .inr (.inl (jm_upd (sy_ai F 26) (sy_i F 3).toNatClampNeg (sy_i F 69))) → F1 27 = .inr (.inl (jm_upd (sy_ai F 27) (sy_i F 3).toNatClampNeg ((0 : Int32)))) → F1 28 = .inr (.inr (jm_updL (sy_al F 28) (sy_i F 3).toNatClampNeg ((0 : Int64)))) → Q (some (.int ((1 : Int32)))) (sy_dh F1 X1 X2 (iv_H 4))) :
    hd_W Ls xs d jm_M143 Q (0, sy_dL F [some (.inl (.ref 1000)), some (.inr (.inl 69)), some (.inr (.inl 70)), some (.inr (.inl 71)), none], sy_dS F [], sy_dh F X1 X2 (iv_H 4), 0, 0) := by
  refine hd_ret (s := 4) (nv := 72) (v := some (.inl (.int 1))) (uh := hd_ov (iv_id 0 iv_B4) [(3, .inl (.inr (.inl 76))), (25, .inr (.inr (.inl 72))), (26, .inr (.inr (.inl 73))), (27, .inr (.inr (.inl 74))), (28, .inr (.inr (.inr 75)))]) (f := true) (sp := []) (d0 := 3) (O := [true, true, true, true, true, true, true, true, true]) (T := [(40, [.inr (.inl 3), .inl (.int 3)], [.inr (.inl 25)]), (40, [.inr (.inl 3), .inr (.inl 69)], [.inr (.inl 26)]), (40, [.inr (.inl 3), .inl (.int 0)], [.inr (.inl 27)]), (40, [.inr (.inl 3), .inl (.long 0)], [.inr (.inr 28)]), (0, [.inr (.inl 3), .inl (.int 1)], [])]) (P := [(1, .inr (.inl 70), .inl (.int 59)), (1, .inr (.inl 70), .inl (.int 61)), (1, .inr (.inl 70), .inl (.int 40)), (1, .inr (.inl 70), .inl (.int 41)), (1, .inr (.inl 70), .inl (.int 43)), (1, .inr (.inl 70), .inl (.int 45)), (1, .inr (.inl 70), .inl (.int 42)), (1, .inr (.inl 70), .inl (.int 47)), (1, .inr (.inl 70), .inl (.int 60)), (6, .inr (.inl 3), .inl (.ref 403)), (6, .inr (.inl 3), .inl (.ref 403)), (6, .inr (.inl 3), .inl (.ref 403)), (6, .inr (.inl 3), .inl (.ref 403))]) jm_ok143 (by decide +kernel) (by decide +kernel) hd F X1 X2 (fun F' hF hs => ?_)
  have b70 := hd_b (F := F) (F' := F') (k := 70) (hF 70 (by decide))
  have b3 := hd_b (F := F) (F' := F') (k := 3) (hF 3 (by decide))
  have t76 : sy_dv F' (.inr (.inl 76)) = .int ((sy_i F 3) + ((1 : Int32))) := hd_o (hs 4 _ rfl) b3 rfl rfl
  have a25 := hd_ba (F := F) (F' := F') (k := 25) (hF 25 (by decide))
  have t72 : sy_da F' (.inr (.inl 72)) = .inl (jm_upd (sy_ai F 25) (sy_i F 3).toNatClampNeg ((3 : Int32))) := hd_up (hs 0 _ rfl) b3 rfl a25
  have b69 := hd_b (F := F) (F' := F') (k := 69) (hF 69 (by decide))
  have a26 := hd_ba (F := F) (F' := F') (k := 26) (hF 26 (by decide))
  have t73 : sy_da F' (.inr (.inl 73)) = .inl (jm_upd (sy_ai F 26) (sy_i F 3).toNatClampNeg (sy_i F 69)) := hd_up (hs 1 _ rfl) b3 b69 a26
  have a27 := hd_ba (F := F) (F' := F') (k := 27) (hF 27 (by decide))
  have t74 : sy_da F' (.inr (.inl 74)) = .inl (jm_upd (sy_ai F 27) (sy_i F 3).toNatClampNeg ((0 : Int32))) := hd_up (hs 2 _ rfl) b3 rfl a27
  have a28 := hd_bA (F := F) (F' := F') (k := 28) (hF 28 (by decide))
  have t75 : sy_da F' (.inr (.inr 75)) = .inr (jm_updL (sy_al F 28) (sy_i F 3).toNatClampNeg ((0 : Int64))) := hd_uA (hs 3 _ rfl) b3 rfl a28
  have hB' : iv_in F' iv_B4 := iv_in_eq hB (fun j hj => hF j (Nat.lt_of_lt_of_le hj (by decide +kernel)))
  refine ⟨List.forall_mem_cons.mpr ⟨hd_p1 b70 rfl (by have hc : ((59) : Int32).toInt = 59 := (by decide); omega), List.forall_mem_cons.mpr ⟨hd_p1 b70 rfl (by have hc : ((61) : Int32).toInt = 61 := (by decide); omega), List.forall_mem_cons.mpr ⟨hd_p1 b70 rfl (by have hc : ((40) : Int32).toInt = 40 := (by decide); omega), List.forall_mem_cons.mpr ⟨hd_p1 b70 rfl (by have hc : ((41) : Int32).toInt = 41 := (by decide); omega), List.forall_mem_cons.mpr ⟨hd_p1 b70 rfl (by have hc : ((43) : Int32).toInt = 43 := (by decide); omega), List.forall_mem_cons.mpr ⟨hd_p1 b70 rfl (by have hc : ((45) : Int32).toInt = 45 := (by decide); omega), List.forall_mem_cons.mpr ⟨hd_p1 b70 rfl (by have hc : ((42) : Int32).toInt = 42 := (by decide); omega), List.forall_mem_cons.mpr ⟨hd_p1 b70 rfl (by have hc : ((47) : Int32).toInt = 47 := (by decide); omega), List.forall_mem_cons.mpr ⟨hd_p1 b70 rfl (by have hc : ((60) : Int32).toInt = 60 := (by decide); omega), List.forall_mem_cons.mpr ⟨hd_pb b3 (by first | exact h9 | exact h9), List.forall_mem_cons.mpr ⟨hd_pb b3 (by first | exact h10 | exact h10), List.forall_mem_cons.mpr ⟨hd_pb b3 (by first | exact h11 | exact h11), List.forall_mem_cons.mpr ⟨hd_pb b3 (by first | exact h12 | exact h12), fun _ h => absurd h List.not_mem_nil⟩⟩⟩⟩⟩⟩⟩⟩⟩⟩⟩⟩⟩, ?_⟩
  refine k _ ?_ ?_ ?_ ?_ ?_ ?_
  · exact fun j hj hn => (hd_keep hB' (Nat.lt_of_lt_of_le hj (by decide +kernel)) (by simp; omega)).trans (hF j (Nat.lt_of_lt_of_le hj (by decide)))
  · exact hd_gi (x := .inr (.inl 76)) (by decide +kernel) t76
  · exact hd_ga (a := .inr (.inl 72)) (by decide +kernel) t72
  · exact hd_ga (a := .inr (.inl 73)) (by decide +kernel) t73
  · exact hd_ga (a := .inr (.inl 74)) (by decide +kernel) t74
  · exact hd_gA (a := .inr (.inr 75)) (by decide +kernel) t75
theorem rs_0_p1 {Ls : Nat} {xs : Nat → Int32} {d : Nat} {Q : Option Value → jm_h → Prop} (hd : 4 ≤ d) (F : Nat → sy_d) (X1 X2 : List jm_c) (hB : iv_in F iv_B4)
    (h0 : (sy_i F 70).toInt ≠ 59)
    (h1 : (sy_i F 70).toInt ≠ 61)
    (h2 : (sy_i F 70).toInt ≠ 40)
    (h3 : (sy_i F 70).toInt ≠ 41)
    (h4 : (sy_i F 70).toInt ≠ 43)
    (h5 : (sy_i F 70).toInt ≠ 45)
    (h6 : (sy_i F 70).toInt ≠ 42)
    (h7 : (sy_i F 70).toInt ≠ 47)
    (h8 : (sy_i F 70).toInt = 60)
    (h9 : 0 ≤ (sy_i F 3).toInt ∧ (sy_i F 3).toInt < 403)
    (h10 : 0 ≤ (sy_i F 3).toInt ∧ (sy_i F 3).toInt < 403)
    (h11 : 0 ≤ (sy_i F 3).toInt ∧ (sy_i F 3).toInt < 403)
    (h12 : 0 ≤ (sy_i F 3).toInt ∧ (sy_i F 3).toInt < 403)
    (k : ∀ F1 : Nat → sy_d, (∀ j, j < 69 → j ≠ 3 ∧ j ≠ 25 ∧ j ≠ 26 ∧ j ≠ 27 ∧ j ≠ 28 → F1 j = F j) → F1 3 = .inl (.int ((sy_i F 3) + ((1 : Int32)))) → F1 25 = .inr (.inl (jm_upd (sy_ai F 25) (sy_i F 3).toNatClampNeg ((13 : Int32)))) → F1 26 = .inr (.inl (jm_upd (sy_ai F 26) (sy_i F 3).toNatClampNeg (sy_i F 69))) → F1 27 = .inr (.inl (jm_upd (sy_ai F 27) (sy_i F 3).toNatClampNeg ((0 : Int32)))) → F1 28 = .inr (.inr (jm_updL (sy_al F 28) (sy_i F 3).toNatClampNeg ((0 : Int64)))) → Q (some (.int ((1 : Int32)))) (sy_dh F1 X1 X2 (iv_H 4))) :
    hd_W Ls xs d jm_M143 Q (0, sy_dL F [some (.inl (.ref 1000)), some (.inr (.inl 69)), some (.inr (.inl 70)), some (.inr (.inl 71)), none], sy_dS F [], sy_dh F X1 X2 (iv_H 4), 0, 0) := by
  refine hd_ret (s := 4) (nv := 72) (v := some (.inl (.int 1))) (uh := hd_ov (iv_id 0 iv_B4) [(3, .inl (.inr (.inl 76))), (25, .inr (.inr (.inl 72))), (26, .inr (.inr (.inl 73))), (27, .inr (.inr (.inl 74))), (28, .inr (.inr (.inr 75)))]) (f := true) (sp := []) (d0 := 3) (O := [true, true, true, true, true, true, true, true, false]) (T := [(40, [.inr (.inl 3), .inl (.int 13)], [.inr (.inl 25)]), (40, [.inr (.inl 3), .inr (.inl 69)], [.inr (.inl 26)]), (40, [.inr (.inl 3), .inl (.int 0)], [.inr (.inl 27)]), (40, [.inr (.inl 3), .inl (.long 0)], [.inr (.inr 28)]), (0, [.inr (.inl 3), .inl (.int 1)], [])]) (P := [(1, .inr (.inl 70), .inl (.int 59)), (1, .inr (.inl 70), .inl (.int 61)), (1, .inr (.inl 70), .inl (.int 40)), (1, .inr (.inl 70), .inl (.int 41)), (1, .inr (.inl 70), .inl (.int 43)), (1, .inr (.inl 70), .inl (.int 45)), (1, .inr (.inl 70), .inl (.int 42)), (1, .inr (.inl 70), .inl (.int 47)), (0, .inr (.inl 70), .inl (.int 60)), (6, .inr (.inl 3), .inl (.ref 403)), (6, .inr (.inl 3), .inl (.ref 403)), (6, .inr (.inl 3), .inl (.ref 403)), (6, .inr (.inl 3), .inl (.ref 403))]) jm_ok143 (by decide +kernel) (by decide +kernel) hd F X1 X2 (fun F' hF hs => ?_)
  have b70 := hd_b (F := F) (F' := F') (k := 70) (hF 70 (by decide))
  have b3 := hd_b (F := F) (F' := F') (k := 3) (hF 3 (by decide))
  have t76 : sy_dv F' (.inr (.inl 76)) = .int ((sy_i F 3) + ((1 : Int32))) := hd_o (hs 4 _ rfl) b3 rfl rfl
  have a25 := hd_ba (F := F) (F' := F') (k := 25) (hF 25 (by decide))
  have t72 : sy_da F' (.inr (.inl 72)) = .inl (jm_upd (sy_ai F 25) (sy_i F 3).toNatClampNeg ((13 : Int32))) := hd_up (hs 0 _ rfl) b3 rfl a25
  have b69 := hd_b (F := F) (F' := F') (k := 69) (hF 69 (by decide))
  have a26 := hd_ba (F := F) (F' := F') (k := 26) (hF 26 (by decide))
  have t73 : sy_da F' (.inr (.inl 73)) = .inl (jm_upd (sy_ai F 26) (sy_i F 3).toNatClampNeg (sy_i F 69)) := hd_up (hs 1 _ rfl) b3 b69 a26
  have a27 := hd_ba (F := F) (F' := F') (k := 27) (hF 27 (by decide))
  have t74 : sy_da F' (.inr (.inl 74)) = .inl (jm_upd (sy_ai F 27) (sy_i F 3).toNatClampNeg ((0 : Int32))) := hd_up (hs 2 _ rfl) b3 rfl a27
  have a28 := hd_bA (F := F) (F' := F') (k := 28) (hF 28 (by decide))
  have t75 : sy_da F' (.inr (.inr 75)) = .inr (jm_updL (sy_al F 28) (sy_i F 3).toNatClampNeg ((0 : Int64))) := hd_uA (hs 3 _ rfl) b3 rfl a28
  have hB' : iv_in F' iv_B4 := iv_in_eq hB (fun j hj => hF j (Nat.lt_of_lt_of_le hj (by decide +kernel)))
  refine ⟨List.forall_mem_cons.mpr ⟨hd_p1 b70 rfl (by have hc : ((59) : Int32).toInt = 59 := (by decide); omega), List.forall_mem_cons.mpr ⟨hd_p1 b70 rfl (by have hc : ((61) : Int32).toInt = 61 := (by decide); omega), List.forall_mem_cons.mpr ⟨hd_p1 b70 rfl (by have hc : ((40) : Int32).toInt = 40 := (by decide); omega), List.forall_mem_cons.mpr ⟨hd_p1 b70 rfl (by have hc : ((41) : Int32).toInt = 41 := (by decide); omega), List.forall_mem_cons.mpr ⟨hd_p1 b70 rfl (by have hc : ((43) : Int32).toInt = 43 := (by decide); omega), List.forall_mem_cons.mpr ⟨hd_p1 b70 rfl (by have hc : ((45) : Int32).toInt = 45 := (by decide); omega), List.forall_mem_cons.mpr ⟨hd_p1 b70 rfl (by have hc : ((42) : Int32).toInt = 42 := (by decide); omega), List.forall_mem_cons.mpr ⟨hd_p1 b70 rfl (by have hc : ((47) : Int32).toInt = 47 := (by decide); omega), List.forall_mem_cons.mpr ⟨hd_p0 b70 rfl (by have hc : ((60) : Int32).toInt = 60 := (by decide); omega), List.forall_mem_cons.mpr ⟨hd_pb b3 (by first | exact h9 | exact h9), List.forall_mem_cons.mpr ⟨hd_pb b3 (by first | exact h10 | exact h10), List.forall_mem_cons.mpr ⟨hd_pb b3 (by first | exact h11 | exact h11), List.forall_mem_cons.mpr ⟨hd_pb b3 (by first | exact h12 | exact h12), fun _ h => absurd h List.not_mem_nil⟩⟩⟩⟩⟩⟩⟩⟩⟩⟩⟩⟩⟩, ?_⟩
  refine k _ ?_ ?_ ?_ ?_ ?_ ?_
  · exact fun j hj hn => (hd_keep hB' (Nat.lt_of_lt_of_le hj (by decide +kernel)) (by simp; omega)).trans (hF j (Nat.lt_of_lt_of_le hj (by decide)))
  · exact hd_gi (x := .inr (.inl 76)) (by decide +kernel) t76
  · exact hd_ga (a := .inr (.inl 72)) (by decide +kernel) t72
  · exact hd_ga (a := .inr (.inl 73)) (by decide +kernel) t73
  · exact hd_ga (a := .inr (.inl 74)) (by decide +kernel) t74
  · exact hd_gA (a := .inr (.inr 75)) (by decide +kernel) t75
theorem rs_0_p2 {Ls : Nat} {xs : Nat → Int32} {d : Nat} {Q : Option Value → jm_h → Prop} (hd : 4 ≤ d) (F : Nat → sy_d) (X1 X2 : List jm_c) (hB : iv_in F iv_B4)
    (h0 : (sy_i F 70).toInt ≠ 59)
    (h1 : (sy_i F 70).toInt ≠ 61)
    (h2 : (sy_i F 70).toInt ≠ 40)
    (h3 : (sy_i F 70).toInt ≠ 41)
    (h4 : (sy_i F 70).toInt ≠ 43)
    (h5 : (sy_i F 70).toInt ≠ 45)
    (h6 : (sy_i F 70).toInt ≠ 42)
    (h7 : (sy_i F 70).toInt = 47)
    (h8 : (sy_i F 70).toInt ≠ 60)
    (h9 : 0 ≤ (sy_i F 3).toInt ∧ (sy_i F 3).toInt < 403)
    (h10 : 0 ≤ (sy_i F 3).toInt ∧ (sy_i F 3).toInt < 403)
    (h11 : 0 ≤ (sy_i F 3).toInt ∧ (sy_i F 3).toInt < 403)
    (h12 : 0 ≤ (sy_i F 3).toInt ∧ (sy_i F 3).toInt < 403)
    (k : ∀ F1 : Nat → sy_d, (∀ j, j < 69 → j ≠ 3 ∧ j ≠ 25 ∧ j ≠ 26 ∧ j ≠ 27 ∧ j ≠ 28 → F1 j = F j) → F1 3 = .inl (.int ((sy_i F 3) + ((1 : Int32)))) → F1 25 = .inr (.inl (jm_upd (sy_ai F 25) (sy_i F 3).toNatClampNeg ((15 : Int32)))) → F1 26 = .inr (.inl (jm_upd (sy_ai F 26) (sy_i F 3).toNatClampNeg (sy_i F 69))) → F1 27 = .inr (.inl (jm_upd (sy_ai F 27) (sy_i F 3).toNatClampNeg ((0 : Int32)))) → F1 28 = .inr (.inr (jm_updL (sy_al F 28) (sy_i F 3).toNatClampNeg ((0 : Int64)))) → Q (some (.int ((1 : Int32)))) (sy_dh F1 X1 X2 (iv_H 4))) :
    hd_W Ls xs d jm_M143 Q (0, sy_dL F [some (.inl (.ref 1000)), some (.inr (.inl 69)), some (.inr (.inl 70)), some (.inr (.inl 71)), none], sy_dS F [], sy_dh F X1 X2 (iv_H 4), 0, 0) := by
  refine hd_ret (s := 4) (nv := 72) (v := some (.inl (.int 1))) (uh := hd_ov (iv_id 0 iv_B4) [(3, .inl (.inr (.inl 76))), (25, .inr (.inr (.inl 72))), (26, .inr (.inr (.inl 73))), (27, .inr (.inr (.inl 74))), (28, .inr (.inr (.inr 75)))]) (f := true) (sp := []) (d0 := 3) (O := [true, true, true, true, true, true, true, false, true]) (T := [(40, [.inr (.inl 3), .inl (.int 15)], [.inr (.inl 25)]), (40, [.inr (.inl 3), .inr (.inl 69)], [.inr (.inl 26)]), (40, [.inr (.inl 3), .inl (.int 0)], [.inr (.inl 27)]), (40, [.inr (.inl 3), .inl (.long 0)], [.inr (.inr 28)]), (0, [.inr (.inl 3), .inl (.int 1)], [])]) (P := [(1, .inr (.inl 70), .inl (.int 59)), (1, .inr (.inl 70), .inl (.int 61)), (1, .inr (.inl 70), .inl (.int 40)), (1, .inr (.inl 70), .inl (.int 41)), (1, .inr (.inl 70), .inl (.int 43)), (1, .inr (.inl 70), .inl (.int 45)), (1, .inr (.inl 70), .inl (.int 42)), (0, .inr (.inl 70), .inl (.int 47)), (1, .inr (.inl 70), .inl (.int 60)), (6, .inr (.inl 3), .inl (.ref 403)), (6, .inr (.inl 3), .inl (.ref 403)), (6, .inr (.inl 3), .inl (.ref 403)), (6, .inr (.inl 3), .inl (.ref 403))]) jm_ok143 (by decide +kernel) (by decide +kernel) hd F X1 X2 (fun F' hF hs => ?_)
  have b70 := hd_b (F := F) (F' := F') (k := 70) (hF 70 (by decide))
  have b3 := hd_b (F := F) (F' := F') (k := 3) (hF 3 (by decide))
  have t76 : sy_dv F' (.inr (.inl 76)) = .int ((sy_i F 3) + ((1 : Int32))) := hd_o (hs 4 _ rfl) b3 rfl rfl
  have a25 := hd_ba (F := F) (F' := F') (k := 25) (hF 25 (by decide))
  have t72 : sy_da F' (.inr (.inl 72)) = .inl (jm_upd (sy_ai F 25) (sy_i F 3).toNatClampNeg ((15 : Int32))) := hd_up (hs 0 _ rfl) b3 rfl a25
  have b69 := hd_b (F := F) (F' := F') (k := 69) (hF 69 (by decide))
  have a26 := hd_ba (F := F) (F' := F') (k := 26) (hF 26 (by decide))
  have t73 : sy_da F' (.inr (.inl 73)) = .inl (jm_upd (sy_ai F 26) (sy_i F 3).toNatClampNeg (sy_i F 69)) := hd_up (hs 1 _ rfl) b3 b69 a26
  have a27 := hd_ba (F := F) (F' := F') (k := 27) (hF 27 (by decide))
  have t74 : sy_da F' (.inr (.inl 74)) = .inl (jm_upd (sy_ai F 27) (sy_i F 3).toNatClampNeg ((0 : Int32))) := hd_up (hs 2 _ rfl) b3 rfl a27
  have a28 := hd_bA (F := F) (F' := F') (k := 28) (hF 28 (by decide))
  have t75 : sy_da F' (.inr (.inr 75)) = .inr (jm_updL (sy_al F 28) (sy_i F 3).toNatClampNeg ((0 : Int64))) := hd_uA (hs 3 _ rfl) b3 rfl a28
  have hB' : iv_in F' iv_B4 := iv_in_eq hB (fun j hj => hF j (Nat.lt_of_lt_of_le hj (by decide +kernel)))
  refine ⟨List.forall_mem_cons.mpr ⟨hd_p1 b70 rfl (by have hc : ((59) : Int32).toInt = 59 := (by decide); omega), List.forall_mem_cons.mpr ⟨hd_p1 b70 rfl (by have hc : ((61) : Int32).toInt = 61 := (by decide); omega), List.forall_mem_cons.mpr ⟨hd_p1 b70 rfl (by have hc : ((40) : Int32).toInt = 40 := (by decide); omega), List.forall_mem_cons.mpr ⟨hd_p1 b70 rfl (by have hc : ((41) : Int32).toInt = 41 := (by decide); omega), List.forall_mem_cons.mpr ⟨hd_p1 b70 rfl (by have hc : ((43) : Int32).toInt = 43 := (by decide); omega), List.forall_mem_cons.mpr ⟨hd_p1 b70 rfl (by have hc : ((45) : Int32).toInt = 45 := (by decide); omega), List.forall_mem_cons.mpr ⟨hd_p1 b70 rfl (by have hc : ((42) : Int32).toInt = 42 := (by decide); omega), List.forall_mem_cons.mpr ⟨hd_p0 b70 rfl (by have hc : ((47) : Int32).toInt = 47 := (by decide); omega), List.forall_mem_cons.mpr ⟨hd_p1 b70 rfl (by have hc : ((60) : Int32).toInt = 60 := (by decide); omega), List.forall_mem_cons.mpr ⟨hd_pb b3 (by first | exact h9 | exact h9), List.forall_mem_cons.mpr ⟨hd_pb b3 (by first | exact h10 | exact h10), List.forall_mem_cons.mpr ⟨hd_pb b3 (by first | exact h11 | exact h11), List.forall_mem_cons.mpr ⟨hd_pb b3 (by first | exact h12 | exact h12), fun _ h => absurd h List.not_mem_nil⟩⟩⟩⟩⟩⟩⟩⟩⟩⟩⟩⟩⟩, ?_⟩
  refine k _ ?_ ?_ ?_ ?_ ?_ ?_
  · exact fun j hj hn => (hd_keep hB' (Nat.lt_of_lt_of_le hj (by decide +kernel)) (by simp; omega)).trans (hF j (Nat.lt_of_lt_of_le hj (by decide)))
  · exact hd_gi (x := .inr (.inl 76)) (by decide +kernel) t76
  · exact hd_ga (a := .inr (.inl 72)) (by decide +kernel) t72
  · exact hd_ga (a := .inr (.inl 73)) (by decide +kernel) t73
  · exact hd_ga (a := .inr (.inl 74)) (by decide +kernel) t74
  · exact hd_gA (a := .inr (.inr 75)) (by decide +kernel) t75
theorem rs_0_p3 {Ls : Nat} {xs : Nat → Int32} {d : Nat} {Q : Option Value → jm_h → Prop} (hd : 4 ≤ d) (F : Nat → sy_d) (X1 X2 : List jm_c) (hB : iv_in F iv_B4)
    (h0 : (sy_i F 70).toInt ≠ 59)
    (h1 : (sy_i F 70).toInt ≠ 61)
    (h2 : (sy_i F 70).toInt ≠ 40)
    (h3 : (sy_i F 70).toInt ≠ 41)
    (h4 : (sy_i F 70).toInt ≠ 43)
    (h5 : (sy_i F 70).toInt ≠ 45)
    (h6 : (sy_i F 70).toInt = 42)
    (h7 : (sy_i F 70).toInt ≠ 47)
    (h8 : (sy_i F 70).toInt ≠ 60)
    (h9 : 0 ≤ (sy_i F 3).toInt ∧ (sy_i F 3).toInt < 403)
    (h10 : 0 ≤ (sy_i F 3).toInt ∧ (sy_i F 3).toInt < 403)
    (h11 : 0 ≤ (sy_i F 3).toInt ∧ (sy_i F 3).toInt < 403)
    (h12 : 0 ≤ (sy_i F 3).toInt ∧ (sy_i F 3).toInt < 403)
    (k : ∀ F1 : Nat → sy_d, (∀ j, j < 69 → j ≠ 3 ∧ j ≠ 25 ∧ j ≠ 26 ∧ j ≠ 27 ∧ j ≠ 28 → F1 j = F j) → F1 3 = .inl (.int ((sy_i F 3) + ((1 : Int32)))) → F1 25 = .inr (.inl (jm_upd (sy_ai F 25) (sy_i F 3).toNatClampNeg ((10 : Int32)))) → F1 26 = .inr (.inl (jm_upd (sy_ai F 26) (sy_i F 3).toNatClampNeg (sy_i F 69))) → F1 27 = .inr (.inl (jm_upd (sy_ai F 27) (sy_i F 3).toNatClampNeg ((0 : Int32)))) → F1 28 = .inr (.inr (jm_updL (sy_al F 28) (sy_i F 3).toNatClampNeg ((0 : Int64)))) → Q (some (.int ((1 : Int32)))) (sy_dh F1 X1 X2 (iv_H 4))) :
    hd_W Ls xs d jm_M143 Q (0, sy_dL F [some (.inl (.ref 1000)), some (.inr (.inl 69)), some (.inr (.inl 70)), some (.inr (.inl 71)), none], sy_dS F [], sy_dh F X1 X2 (iv_H 4), 0, 0) := by
  refine hd_ret (s := 4) (nv := 72) (v := some (.inl (.int 1))) (uh := hd_ov (iv_id 0 iv_B4) [(3, .inl (.inr (.inl 76))), (25, .inr (.inr (.inl 72))), (26, .inr (.inr (.inl 73))), (27, .inr (.inr (.inl 74))), (28, .inr (.inr (.inr 75)))]) (f := true) (sp := []) (d0 := 3) (O := [true, true, true, true, true, true, false, true, true]) (T := [(40, [.inr (.inl 3), .inl (.int 10)], [.inr (.inl 25)]), (40, [.inr (.inl 3), .inr (.inl 69)], [.inr (.inl 26)]), (40, [.inr (.inl 3), .inl (.int 0)], [.inr (.inl 27)]), (40, [.inr (.inl 3), .inl (.long 0)], [.inr (.inr 28)]), (0, [.inr (.inl 3), .inl (.int 1)], [])]) (P := [(1, .inr (.inl 70), .inl (.int 59)), (1, .inr (.inl 70), .inl (.int 61)), (1, .inr (.inl 70), .inl (.int 40)), (1, .inr (.inl 70), .inl (.int 41)), (1, .inr (.inl 70), .inl (.int 43)), (1, .inr (.inl 70), .inl (.int 45)), (0, .inr (.inl 70), .inl (.int 42)), (1, .inr (.inl 70), .inl (.int 47)), (1, .inr (.inl 70), .inl (.int 60)), (6, .inr (.inl 3), .inl (.ref 403)), (6, .inr (.inl 3), .inl (.ref 403)), (6, .inr (.inl 3), .inl (.ref 403)), (6, .inr (.inl 3), .inl (.ref 403))]) jm_ok143 (by decide +kernel) (by decide +kernel) hd F X1 X2 (fun F' hF hs => ?_)
  have b70 := hd_b (F := F) (F' := F') (k := 70) (hF 70 (by decide))
  have b3 := hd_b (F := F) (F' := F') (k := 3) (hF 3 (by decide))
  have t76 : sy_dv F' (.inr (.inl 76)) = .int ((sy_i F 3) + ((1 : Int32))) := hd_o (hs 4 _ rfl) b3 rfl rfl
  have a25 := hd_ba (F := F) (F' := F') (k := 25) (hF 25 (by decide))
  have t72 : sy_da F' (.inr (.inl 72)) = .inl (jm_upd (sy_ai F 25) (sy_i F 3).toNatClampNeg ((10 : Int32))) := hd_up (hs 0 _ rfl) b3 rfl a25
  have b69 := hd_b (F := F) (F' := F') (k := 69) (hF 69 (by decide))
  have a26 := hd_ba (F := F) (F' := F') (k := 26) (hF 26 (by decide))
  have t73 : sy_da F' (.inr (.inl 73)) = .inl (jm_upd (sy_ai F 26) (sy_i F 3).toNatClampNeg (sy_i F 69)) := hd_up (hs 1 _ rfl) b3 b69 a26
  have a27 := hd_ba (F := F) (F' := F') (k := 27) (hF 27 (by decide))
  have t74 : sy_da F' (.inr (.inl 74)) = .inl (jm_upd (sy_ai F 27) (sy_i F 3).toNatClampNeg ((0 : Int32))) := hd_up (hs 2 _ rfl) b3 rfl a27
  have a28 := hd_bA (F := F) (F' := F') (k := 28) (hF 28 (by decide))
  have t75 : sy_da F' (.inr (.inr 75)) = .inr (jm_updL (sy_al F 28) (sy_i F 3).toNatClampNeg ((0 : Int64))) := hd_uA (hs 3 _ rfl) b3 rfl a28
  have hB' : iv_in F' iv_B4 := iv_in_eq hB (fun j hj => hF j (Nat.lt_of_lt_of_le hj (by decide +kernel)))
  refine ⟨List.forall_mem_cons.mpr ⟨hd_p1 b70 rfl (by have hc : ((59) : Int32).toInt = 59 := (by decide); omega), List.forall_mem_cons.mpr ⟨hd_p1 b70 rfl (by have hc : ((61) : Int32).toInt = 61 := (by decide); omega), List.forall_mem_cons.mpr ⟨hd_p1 b70 rfl (by have hc : ((40) : Int32).toInt = 40 := (by decide); omega), List.forall_mem_cons.mpr ⟨hd_p1 b70 rfl (by have hc : ((41) : Int32).toInt = 41 := (by decide); omega), List.forall_mem_cons.mpr ⟨hd_p1 b70 rfl (by have hc : ((43) : Int32).toInt = 43 := (by decide); omega), List.forall_mem_cons.mpr ⟨hd_p1 b70 rfl (by have hc : ((45) : Int32).toInt = 45 := (by decide); omega), List.forall_mem_cons.mpr ⟨hd_p0 b70 rfl (by have hc : ((42) : Int32).toInt = 42 := (by decide); omega), List.forall_mem_cons.mpr ⟨hd_p1 b70 rfl (by have hc : ((47) : Int32).toInt = 47 := (by decide); omega), List.forall_mem_cons.mpr ⟨hd_p1 b70 rfl (by have hc : ((60) : Int32).toInt = 60 := (by decide); omega), List.forall_mem_cons.mpr ⟨hd_pb b3 (by first | exact h9 | exact h9), List.forall_mem_cons.mpr ⟨hd_pb b3 (by first | exact h10 | exact h10), List.forall_mem_cons.mpr ⟨hd_pb b3 (by first | exact h11 | exact h11), List.forall_mem_cons.mpr ⟨hd_pb b3 (by first | exact h12 | exact h12), fun _ h => absurd h List.not_mem_nil⟩⟩⟩⟩⟩⟩⟩⟩⟩⟩⟩⟩⟩, ?_⟩
  refine k _ ?_ ?_ ?_ ?_ ?_ ?_
  · exact fun j hj hn => (hd_keep hB' (Nat.lt_of_lt_of_le hj (by decide +kernel)) (by simp; omega)).trans (hF j (Nat.lt_of_lt_of_le hj (by decide)))
  · exact hd_gi (x := .inr (.inl 76)) (by decide +kernel) t76
  · exact hd_ga (a := .inr (.inl 72)) (by decide +kernel) t72
  · exact hd_ga (a := .inr (.inl 73)) (by decide +kernel) t73
  · exact hd_ga (a := .inr (.inl 74)) (by decide +kernel) t74
  · exact hd_gA (a := .inr (.inr 75)) (by decide +kernel) t75
theorem rs_0_p4 {Ls : Nat} {xs : Nat → Int32} {d : Nat} {Q : Option Value → jm_h → Prop} (hd : 4 ≤ d) (F : Nat → sy_d) (X1 X2 : List jm_c) (hB : iv_in F iv_B4)
    (h0 : (sy_i F 70).toInt ≠ 59)
    (h1 : (sy_i F 70).toInt ≠ 61)
    (h2 : (sy_i F 70).toInt ≠ 40)
    (h3 : (sy_i F 70).toInt ≠ 41)
    (h4 : (sy_i F 70).toInt ≠ 43)
    (h5 : (sy_i F 70).toInt = 45)
    (h6 : (sy_i F 70).toInt ≠ 42)
    (h7 : (sy_i F 70).toInt ≠ 47)
    (h8 : (sy_i F 70).toInt ≠ 60)
    (h9 : 0 ≤ (sy_i F 3).toInt ∧ (sy_i F 3).toInt < 403)
    (h10 : 0 ≤ (sy_i F 3).toInt ∧ (sy_i F 3).toInt < 403)
    (h11 : 0 ≤ (sy_i F 3).toInt ∧ (sy_i F 3).toInt < 403)
    (h12 : 0 ≤ (sy_i F 3).toInt ∧ (sy_i F 3).toInt < 403)
    (k : ∀ F1 : Nat → sy_d, (∀ j, j < 69 → j ≠ 3 ∧ j ≠ 25 ∧ j ≠ 26 ∧ j ≠ 27 ∧ j ≠ 28 → F1 j = F j) → F1 3 = .inl (.int ((sy_i F 3) + ((1 : Int32)))) → F1 25 = .inr (.inl (jm_upd (sy_ai F 25) (sy_i F 3).toNatClampNeg ((9 : Int32)))) → F1 26 = .inr (.inl (jm_upd (sy_ai F 26) (sy_i F 3).toNatClampNeg (sy_i F 69))) → F1 27 = .inr (.inl (jm_upd (sy_ai F 27) (sy_i F 3).toNatClampNeg ((0 : Int32)))) → F1 28 = .inr (.inr (jm_updL (sy_al F 28) (sy_i F 3).toNatClampNeg ((0 : Int64)))) → Q (some (.int ((1 : Int32)))) (sy_dh F1 X1 X2 (iv_H 4))) :
    hd_W Ls xs d jm_M143 Q (0, sy_dL F [some (.inl (.ref 1000)), some (.inr (.inl 69)), some (.inr (.inl 70)), some (.inr (.inl 71)), none], sy_dS F [], sy_dh F X1 X2 (iv_H 4), 0, 0) := by
  refine hd_ret (s := 4) (nv := 72) (v := some (.inl (.int 1))) (uh := hd_ov (iv_id 0 iv_B4) [(3, .inl (.inr (.inl 76))), (25, .inr (.inr (.inl 72))), (26, .inr (.inr (.inl 73))), (27, .inr (.inr (.inl 74))), (28, .inr (.inr (.inr 75)))]) (f := true) (sp := []) (d0 := 3) (O := [true, true, true, true, true, false, true, true, true]) (T := [(40, [.inr (.inl 3), .inl (.int 9)], [.inr (.inl 25)]), (40, [.inr (.inl 3), .inr (.inl 69)], [.inr (.inl 26)]), (40, [.inr (.inl 3), .inl (.int 0)], [.inr (.inl 27)]), (40, [.inr (.inl 3), .inl (.long 0)], [.inr (.inr 28)]), (0, [.inr (.inl 3), .inl (.int 1)], [])]) (P := [(1, .inr (.inl 70), .inl (.int 59)), (1, .inr (.inl 70), .inl (.int 61)), (1, .inr (.inl 70), .inl (.int 40)), (1, .inr (.inl 70), .inl (.int 41)), (1, .inr (.inl 70), .inl (.int 43)), (0, .inr (.inl 70), .inl (.int 45)), (1, .inr (.inl 70), .inl (.int 42)), (1, .inr (.inl 70), .inl (.int 47)), (1, .inr (.inl 70), .inl (.int 60)), (6, .inr (.inl 3), .inl (.ref 403)), (6, .inr (.inl 3), .inl (.ref 403)), (6, .inr (.inl 3), .inl (.ref 403)), (6, .inr (.inl 3), .inl (.ref 403))]) jm_ok143 (by decide +kernel) (by decide +kernel) hd F X1 X2 (fun F' hF hs => ?_)
  have b70 := hd_b (F := F) (F' := F') (k := 70) (hF 70 (by decide))
  have b3 := hd_b (F := F) (F' := F') (k := 3) (hF 3 (by decide))
  have t76 : sy_dv F' (.inr (.inl 76)) = .int ((sy_i F 3) + ((1 : Int32))) := hd_o (hs 4 _ rfl) b3 rfl rfl
  have a25 := hd_ba (F := F) (F' := F') (k := 25) (hF 25 (by decide))
  have t72 : sy_da F' (.inr (.inl 72)) = .inl (jm_upd (sy_ai F 25) (sy_i F 3).toNatClampNeg ((9 : Int32))) := hd_up (hs 0 _ rfl) b3 rfl a25
  have b69 := hd_b (F := F) (F' := F') (k := 69) (hF 69 (by decide))
  have a26 := hd_ba (F := F) (F' := F') (k := 26) (hF 26 (by decide))
  have t73 : sy_da F' (.inr (.inl 73)) = .inl (jm_upd (sy_ai F 26) (sy_i F 3).toNatClampNeg (sy_i F 69)) := hd_up (hs 1 _ rfl) b3 b69 a26
  have a27 := hd_ba (F := F) (F' := F') (k := 27) (hF 27 (by decide))
  have t74 : sy_da F' (.inr (.inl 74)) = .inl (jm_upd (sy_ai F 27) (sy_i F 3).toNatClampNeg ((0 : Int32))) := hd_up (hs 2 _ rfl) b3 rfl a27
  have a28 := hd_bA (F := F) (F' := F') (k := 28) (hF 28 (by decide))
  have t75 : sy_da F' (.inr (.inr 75)) = .inr (jm_updL (sy_al F 28) (sy_i F 3).toNatClampNeg ((0 : Int64))) := hd_uA (hs 3 _ rfl) b3 rfl a28
  have hB' : iv_in F' iv_B4 := iv_in_eq hB (fun j hj => hF j (Nat.lt_of_lt_of_le hj (by decide +kernel)))
  refine ⟨List.forall_mem_cons.mpr ⟨hd_p1 b70 rfl (by have hc : ((59) : Int32).toInt = 59 := (by decide); omega), List.forall_mem_cons.mpr ⟨hd_p1 b70 rfl (by have hc : ((61) : Int32).toInt = 61 := (by decide); omega), List.forall_mem_cons.mpr ⟨hd_p1 b70 rfl (by have hc : ((40) : Int32).toInt = 40 := (by decide); omega), List.forall_mem_cons.mpr ⟨hd_p1 b70 rfl (by have hc : ((41) : Int32).toInt = 41 := (by decide); omega), List.forall_mem_cons.mpr ⟨hd_p1 b70 rfl (by have hc : ((43) : Int32).toInt = 43 := (by decide); omega), List.forall_mem_cons.mpr ⟨hd_p0 b70 rfl (by have hc : ((45) : Int32).toInt = 45 := (by decide); omega), List.forall_mem_cons.mpr ⟨hd_p1 b70 rfl (by have hc : ((42) : Int32).toInt = 42 := (by decide); omega), List.forall_mem_cons.mpr ⟨hd_p1 b70 rfl (by have hc : ((47) : Int32).toInt = 47 := (by decide); omega), List.forall_mem_cons.mpr ⟨hd_p1 b70 rfl (by have hc : ((60) : Int32).toInt = 60 := (by decide); omega), List.forall_mem_cons.mpr ⟨hd_pb b3 (by first | exact h9 | exact h9), List.forall_mem_cons.mpr ⟨hd_pb b3 (by first | exact h10 | exact h10), List.forall_mem_cons.mpr ⟨hd_pb b3 (by first | exact h11 | exact h11), List.forall_mem_cons.mpr ⟨hd_pb b3 (by first | exact h12 | exact h12), fun _ h => absurd h List.not_mem_nil⟩⟩⟩⟩⟩⟩⟩⟩⟩⟩⟩⟩⟩, ?_⟩
  refine k _ ?_ ?_ ?_ ?_ ?_ ?_
  · exact fun j hj hn => (hd_keep hB' (Nat.lt_of_lt_of_le hj (by decide +kernel)) (by simp; omega)).trans (hF j (Nat.lt_of_lt_of_le hj (by decide)))
  · exact hd_gi (x := .inr (.inl 76)) (by decide +kernel) t76
  · exact hd_ga (a := .inr (.inl 72)) (by decide +kernel) t72
  · exact hd_ga (a := .inr (.inl 73)) (by decide +kernel) t73
  · exact hd_ga (a := .inr (.inl 74)) (by decide +kernel) t74
  · exact hd_gA (a := .inr (.inr 75)) (by decide +kernel) t75
theorem rs_0_p5 {Ls : Nat} {xs : Nat → Int32} {d : Nat} {Q : Option Value → jm_h → Prop} (hd : 4 ≤ d) (F : Nat → sy_d) (X1 X2 : List jm_c) (hB : iv_in F iv_B4)
    (h0 : (sy_i F 70).toInt ≠ 59)
    (h1 : (sy_i F 70).toInt ≠ 61)
    (h2 : (sy_i F 70).toInt ≠ 40)
    (h3 : (sy_i F 70).toInt ≠ 41)
    (h4 : (sy_i F 70).toInt = 43)
    (h5 : (sy_i F 70).toInt ≠ 45)
    (h6 : (sy_i F 70).toInt ≠ 42)
    (h7 : (sy_i F 70).toInt ≠ 47)
    (h8 : (sy_i F 70).toInt ≠ 60)
    (h9 : 0 ≤ (sy_i F 3).toInt ∧ (sy_i F 3).toInt < 403)
    (h10 : 0 ≤ (sy_i F 3).toInt ∧ (sy_i F 3).toInt < 403)
    (h11 : 0 ≤ (sy_i F 3).toInt ∧ (sy_i F 3).toInt < 403)
    (h12 : 0 ≤ (sy_i F 3).toInt ∧ (sy_i F 3).toInt < 403)
    (k : ∀ F1 : Nat → sy_d, (∀ j, j < 69 → j ≠ 3 ∧ j ≠ 25 ∧ j ≠ 26 ∧ j ≠ 27 ∧ j ≠ 28 → F1 j = F j) → F1 3 = .inl (.int ((sy_i F 3) + ((1 : Int32)))) → F1 25 = .inr (.inl (jm_upd (sy_ai F 25) (sy_i F 3).toNatClampNeg ((8 : Int32)))) → F1 26 = .inr (.inl (jm_upd (sy_ai F 26) (sy_i F 3).toNatClampNeg (sy_i F 69))) → F1 27 = .inr (.inl (jm_upd (sy_ai F 27) (sy_i F 3).toNatClampNeg ((0 : Int32)))) → F1 28 = .inr (.inr (jm_updL (sy_al F 28) (sy_i F 3).toNatClampNeg ((0 : Int64)))) → Q (some (.int ((1 : Int32)))) (sy_dh F1 X1 X2 (iv_H 4))) :
    hd_W Ls xs d jm_M143 Q (0, sy_dL F [some (.inl (.ref 1000)), some (.inr (.inl 69)), some (.inr (.inl 70)), some (.inr (.inl 71)), none], sy_dS F [], sy_dh F X1 X2 (iv_H 4), 0, 0) := by
  refine hd_ret (s := 4) (nv := 72) (v := some (.inl (.int 1))) (uh := hd_ov (iv_id 0 iv_B4) [(3, .inl (.inr (.inl 76))), (25, .inr (.inr (.inl 72))), (26, .inr (.inr (.inl 73))), (27, .inr (.inr (.inl 74))), (28, .inr (.inr (.inr 75)))]) (f := true) (sp := []) (d0 := 3) (O := [true, true, true, true, false, true, true, true, true]) (T := [(40, [.inr (.inl 3), .inl (.int 8)], [.inr (.inl 25)]), (40, [.inr (.inl 3), .inr (.inl 69)], [.inr (.inl 26)]), (40, [.inr (.inl 3), .inl (.int 0)], [.inr (.inl 27)]), (40, [.inr (.inl 3), .inl (.long 0)], [.inr (.inr 28)]), (0, [.inr (.inl 3), .inl (.int 1)], [])]) (P := [(1, .inr (.inl 70), .inl (.int 59)), (1, .inr (.inl 70), .inl (.int 61)), (1, .inr (.inl 70), .inl (.int 40)), (1, .inr (.inl 70), .inl (.int 41)), (0, .inr (.inl 70), .inl (.int 43)), (1, .inr (.inl 70), .inl (.int 45)), (1, .inr (.inl 70), .inl (.int 42)), (1, .inr (.inl 70), .inl (.int 47)), (1, .inr (.inl 70), .inl (.int 60)), (6, .inr (.inl 3), .inl (.ref 403)), (6, .inr (.inl 3), .inl (.ref 403)), (6, .inr (.inl 3), .inl (.ref 403)), (6, .inr (.inl 3), .inl (.ref 403))]) jm_ok143 (by decide +kernel) (by decide +kernel) hd F X1 X2 (fun F' hF hs => ?_)
  have b70 := hd_b (F := F) (F' := F') (k := 70) (hF 70 (by decide))
  have b3 := hd_b (F := F) (F' := F') (k := 3) (hF 3 (by decide))
  have t76 : sy_dv F' (.inr (.inl 76)) = .int ((sy_i F 3) + ((1 : Int32))) := hd_o (hs 4 _ rfl) b3 rfl rfl
  have a25 := hd_ba (F := F) (F' := F') (k := 25) (hF 25 (by decide))
  have t72 : sy_da F' (.inr (.inl 72)) = .inl (jm_upd (sy_ai F 25) (sy_i F 3).toNatClampNeg ((8 : Int32))) := hd_up (hs 0 _ rfl) b3 rfl a25
  have b69 := hd_b (F := F) (F' := F') (k := 69) (hF 69 (by decide))
  have a26 := hd_ba (F := F) (F' := F') (k := 26) (hF 26 (by decide))
  have t73 : sy_da F' (.inr (.inl 73)) = .inl (jm_upd (sy_ai F 26) (sy_i F 3).toNatClampNeg (sy_i F 69)) := hd_up (hs 1 _ rfl) b3 b69 a26
  have a27 := hd_ba (F := F) (F' := F') (k := 27) (hF 27 (by decide))
  have t74 : sy_da F' (.inr (.inl 74)) = .inl (jm_upd (sy_ai F 27) (sy_i F 3).toNatClampNeg ((0 : Int32))) := hd_up (hs 2 _ rfl) b3 rfl a27
  have a28 := hd_bA (F := F) (F' := F') (k := 28) (hF 28 (by decide))
  have t75 : sy_da F' (.inr (.inr 75)) = .inr (jm_updL (sy_al F 28) (sy_i F 3).toNatClampNeg ((0 : Int64))) := hd_uA (hs 3 _ rfl) b3 rfl a28
  have hB' : iv_in F' iv_B4 := iv_in_eq hB (fun j hj => hF j (Nat.lt_of_lt_of_le hj (by decide +kernel)))
  refine ⟨List.forall_mem_cons.mpr ⟨hd_p1 b70 rfl (by have hc : ((59) : Int32).toInt = 59 := (by decide); omega), List.forall_mem_cons.mpr ⟨hd_p1 b70 rfl (by have hc : ((61) : Int32).toInt = 61 := (by decide); omega), List.forall_mem_cons.mpr ⟨hd_p1 b70 rfl (by have hc : ((40) : Int32).toInt = 40 := (by decide); omega), List.forall_mem_cons.mpr ⟨hd_p1 b70 rfl (by have hc : ((41) : Int32).toInt = 41 := (by decide); omega), List.forall_mem_cons.mpr ⟨hd_p0 b70 rfl (by have hc : ((43) : Int32).toInt = 43 := (by decide); omega), List.forall_mem_cons.mpr ⟨hd_p1 b70 rfl (by have hc : ((45) : Int32).toInt = 45 := (by decide); omega), List.forall_mem_cons.mpr ⟨hd_p1 b70 rfl (by have hc : ((42) : Int32).toInt = 42 := (by decide); omega), List.forall_mem_cons.mpr ⟨hd_p1 b70 rfl (by have hc : ((47) : Int32).toInt = 47 := (by decide); omega), List.forall_mem_cons.mpr ⟨hd_p1 b70 rfl (by have hc : ((60) : Int32).toInt = 60 := (by decide); omega), List.forall_mem_cons.mpr ⟨hd_pb b3 (by first | exact h9 | exact h9), List.forall_mem_cons.mpr ⟨hd_pb b3 (by first | exact h10 | exact h10), List.forall_mem_cons.mpr ⟨hd_pb b3 (by first | exact h11 | exact h11), List.forall_mem_cons.mpr ⟨hd_pb b3 (by first | exact h12 | exact h12), fun _ h => absurd h List.not_mem_nil⟩⟩⟩⟩⟩⟩⟩⟩⟩⟩⟩⟩⟩, ?_⟩
  refine k _ ?_ ?_ ?_ ?_ ?_ ?_
  · exact fun j hj hn => (hd_keep hB' (Nat.lt_of_lt_of_le hj (by decide +kernel)) (by simp; omega)).trans (hF j (Nat.lt_of_lt_of_le hj (by decide)))
  · exact hd_gi (x := .inr (.inl 76)) (by decide +kernel) t76
  · exact hd_ga (a := .inr (.inl 72)) (by decide +kernel) t72
  · exact hd_ga (a := .inr (.inl 73)) (by decide +kernel) t73
  · exact hd_ga (a := .inr (.inl 74)) (by decide +kernel) t74
  · exact hd_gA (a := .inr (.inr 75)) (by decide +kernel) t75
theorem rs_0_p6 {Ls : Nat} {xs : Nat → Int32} {d : Nat} {Q : Option Value → jm_h → Prop} (hd : 4 ≤ d) (F : Nat → sy_d) (X1 X2 : List jm_c) (hB : iv_in F iv_B4)
    (h0 : (sy_i F 70).toInt ≠ 59)
    (h1 : (sy_i F 70).toInt ≠ 61)
    (h2 : (sy_i F 70).toInt ≠ 40)
    (h3 : (sy_i F 70).toInt = 41)
    (h4 : (sy_i F 70).toInt ≠ 43)
    (h5 : (sy_i F 70).toInt ≠ 45)
    (h6 : (sy_i F 70).toInt ≠ 42)
    (h7 : (sy_i F 70).toInt ≠ 47)
    (h8 : (sy_i F 70).toInt ≠ 60)
    (h9 : 0 ≤ (sy_i F 3).toInt ∧ (sy_i F 3).toInt < 403)
    (h10 : 0 ≤ (sy_i F 3).toInt ∧ (sy_i F 3).toInt < 403)
    (h11 : 0 ≤ (sy_i F 3).toInt ∧ (sy_i F 3).toInt < 403)
    (h12 : 0 ≤ (sy_i F 3).toInt ∧ (sy_i F 3).toInt < 403)
    (k : ∀ F1 : Nat → sy_d, (∀ j, j < 69 → j ≠ 3 ∧ j ≠ 25 ∧ j ≠ 26 ∧ j ≠ 27 ∧ j ≠ 28 → F1 j = F j) → F1 3 = .inl (.int ((sy_i F 3) + ((1 : Int32)))) → F1 25 = .inr (.inl (jm_upd (sy_ai F 25) (sy_i F 3).toNatClampNeg ((7 : Int32)))) → F1 26 = .inr (.inl (jm_upd (sy_ai F 26) (sy_i F 3).toNatClampNeg (sy_i F 69))) → F1 27 = .inr (.inl (jm_upd (sy_ai F 27) (sy_i F 3).toNatClampNeg ((0 : Int32)))) → F1 28 = .inr (.inr (jm_updL (sy_al F 28) (sy_i F 3).toNatClampNeg ((0 : Int64)))) → Q (some (.int ((1 : Int32)))) (sy_dh F1 X1 X2 (iv_H 4))) :
    hd_W Ls xs d jm_M143 Q (0, sy_dL F [some (.inl (.ref 1000)), some (.inr (.inl 69)), some (.inr (.inl 70)), some (.inr (.inl 71)), none], sy_dS F [], sy_dh F X1 X2 (iv_H 4), 0, 0) := by
  refine hd_ret (s := 4) (nv := 72) (v := some (.inl (.int 1))) (uh := hd_ov (iv_id 0 iv_B4) [(3, .inl (.inr (.inl 76))), (25, .inr (.inr (.inl 72))), (26, .inr (.inr (.inl 73))), (27, .inr (.inr (.inl 74))), (28, .inr (.inr (.inr 75)))]) (f := true) (sp := []) (d0 := 3) (O := [true, true, true, false, true, true, true, true, true]) (T := [(40, [.inr (.inl 3), .inl (.int 7)], [.inr (.inl 25)]), (40, [.inr (.inl 3), .inr (.inl 69)], [.inr (.inl 26)]), (40, [.inr (.inl 3), .inl (.int 0)], [.inr (.inl 27)]), (40, [.inr (.inl 3), .inl (.long 0)], [.inr (.inr 28)]), (0, [.inr (.inl 3), .inl (.int 1)], [])]) (P := [(1, .inr (.inl 70), .inl (.int 59)), (1, .inr (.inl 70), .inl (.int 61)), (1, .inr (.inl 70), .inl (.int 40)), (0, .inr (.inl 70), .inl (.int 41)), (1, .inr (.inl 70), .inl (.int 43)), (1, .inr (.inl 70), .inl (.int 45)), (1, .inr (.inl 70), .inl (.int 42)), (1, .inr (.inl 70), .inl (.int 47)), (1, .inr (.inl 70), .inl (.int 60)), (6, .inr (.inl 3), .inl (.ref 403)), (6, .inr (.inl 3), .inl (.ref 403)), (6, .inr (.inl 3), .inl (.ref 403)), (6, .inr (.inl 3), .inl (.ref 403))]) jm_ok143 (by decide +kernel) (by decide +kernel) hd F X1 X2 (fun F' hF hs => ?_)
  have b70 := hd_b (F := F) (F' := F') (k := 70) (hF 70 (by decide))
  have b3 := hd_b (F := F) (F' := F') (k := 3) (hF 3 (by decide))
  have t76 : sy_dv F' (.inr (.inl 76)) = .int ((sy_i F 3) + ((1 : Int32))) := hd_o (hs 4 _ rfl) b3 rfl rfl
  have a25 := hd_ba (F := F) (F' := F') (k := 25) (hF 25 (by decide))
  have t72 : sy_da F' (.inr (.inl 72)) = .inl (jm_upd (sy_ai F 25) (sy_i F 3).toNatClampNeg ((7 : Int32))) := hd_up (hs 0 _ rfl) b3 rfl a25
  have b69 := hd_b (F := F) (F' := F') (k := 69) (hF 69 (by decide))
  have a26 := hd_ba (F := F) (F' := F') (k := 26) (hF 26 (by decide))
  have t73 : sy_da F' (.inr (.inl 73)) = .inl (jm_upd (sy_ai F 26) (sy_i F 3).toNatClampNeg (sy_i F 69)) := hd_up (hs 1 _ rfl) b3 b69 a26
  have a27 := hd_ba (F := F) (F' := F') (k := 27) (hF 27 (by decide))
  have t74 : sy_da F' (.inr (.inl 74)) = .inl (jm_upd (sy_ai F 27) (sy_i F 3).toNatClampNeg ((0 : Int32))) := hd_up (hs 2 _ rfl) b3 rfl a27
  have a28 := hd_bA (F := F) (F' := F') (k := 28) (hF 28 (by decide))
  have t75 : sy_da F' (.inr (.inr 75)) = .inr (jm_updL (sy_al F 28) (sy_i F 3).toNatClampNeg ((0 : Int64))) := hd_uA (hs 3 _ rfl) b3 rfl a28
  have hB' : iv_in F' iv_B4 := iv_in_eq hB (fun j hj => hF j (Nat.lt_of_lt_of_le hj (by decide +kernel)))
  refine ⟨List.forall_mem_cons.mpr ⟨hd_p1 b70 rfl (by have hc : ((59) : Int32).toInt = 59 := (by decide); omega), List.forall_mem_cons.mpr ⟨hd_p1 b70 rfl (by have hc : ((61) : Int32).toInt = 61 := (by decide); omega), List.forall_mem_cons.mpr ⟨hd_p1 b70 rfl (by have hc : ((40) : Int32).toInt = 40 := (by decide); omega), List.forall_mem_cons.mpr ⟨hd_p0 b70 rfl (by have hc : ((41) : Int32).toInt = 41 := (by decide); omega), List.forall_mem_cons.mpr ⟨hd_p1 b70 rfl (by have hc : ((43) : Int32).toInt = 43 := (by decide); omega), List.forall_mem_cons.mpr ⟨hd_p1 b70 rfl (by have hc : ((45) : Int32).toInt = 45 := (by decide); omega), List.forall_mem_cons.mpr ⟨hd_p1 b70 rfl (by have hc : ((42) : Int32).toInt = 42 := (by decide); omega), List.forall_mem_cons.mpr ⟨hd_p1 b70 rfl (by have hc : ((47) : Int32).toInt = 47 := (by decide); omega), List.forall_mem_cons.mpr ⟨hd_p1 b70 rfl (by have hc : ((60) : Int32).toInt = 60 := (by decide); omega), List.forall_mem_cons.mpr ⟨hd_pb b3 (by first | exact h9 | exact h9), List.forall_mem_cons.mpr ⟨hd_pb b3 (by first | exact h10 | exact h10), List.forall_mem_cons.mpr ⟨hd_pb b3 (by first | exact h11 | exact h11), List.forall_mem_cons.mpr ⟨hd_pb b3 (by first | exact h12 | exact h12), fun _ h => absurd h List.not_mem_nil⟩⟩⟩⟩⟩⟩⟩⟩⟩⟩⟩⟩⟩, ?_⟩
  refine k _ ?_ ?_ ?_ ?_ ?_ ?_
  · exact fun j hj hn => (hd_keep hB' (Nat.lt_of_lt_of_le hj (by decide +kernel)) (by simp; omega)).trans (hF j (Nat.lt_of_lt_of_le hj (by decide)))
  · exact hd_gi (x := .inr (.inl 76)) (by decide +kernel) t76
  · exact hd_ga (a := .inr (.inl 72)) (by decide +kernel) t72
  · exact hd_ga (a := .inr (.inl 73)) (by decide +kernel) t73
  · exact hd_ga (a := .inr (.inl 74)) (by decide +kernel) t74
  · exact hd_gA (a := .inr (.inr 75)) (by decide +kernel) t75
theorem rs_0_p7 {Ls : Nat} {xs : Nat → Int32} {d : Nat} {Q : Option Value → jm_h → Prop} (hd : 4 ≤ d) (F : Nat → sy_d) (X1 X2 : List jm_c) (hB : iv_in F iv_B4)
    (h0 : (sy_i F 70).toInt ≠ 59)
    (h1 : (sy_i F 70).toInt ≠ 61)
    (h2 : (sy_i F 70).toInt = 40)
    (h3 : (sy_i F 70).toInt ≠ 43)
    (h4 : (sy_i F 70).toInt ≠ 45)
    (h5 : (sy_i F 70).toInt ≠ 42)
    (h6 : (sy_i F 70).toInt ≠ 47)
    (h7 : (sy_i F 70).toInt ≠ 60)
    (h8 : 0 ≤ (sy_i F 3).toInt ∧ (sy_i F 3).toInt < 403)
    (h9 : 0 ≤ (sy_i F 3).toInt ∧ (sy_i F 3).toInt < 403)
    (h10 : 0 ≤ (sy_i F 3).toInt ∧ (sy_i F 3).toInt < 403)
    (h11 : 0 ≤ (sy_i F 3).toInt ∧ (sy_i F 3).toInt < 403)
    (k : ∀ F1 : Nat → sy_d, (∀ j, j < 69 → j ≠ 3 ∧ j ≠ 25 ∧ j ≠ 26 ∧ j ≠ 27 ∧ j ≠ 28 → F1 j = F j) → F1 3 = .inl (.int ((sy_i F 3) + ((1 : Int32)))) → F1 25 = .inr (.inl (jm_upd (sy_ai F 25) (sy_i F 3).toNatClampNeg ((6 : Int32)))) → F1 26 = .inr (.inl (jm_upd (sy_ai F 26) (sy_i F 3).toNatClampNeg (sy_i F 69))) → F1 27 = .inr (.inl (jm_upd (sy_ai F 27) (sy_i F 3).toNatClampNeg ((0 : Int32)))) → F1 28 = .inr (.inr (jm_updL (sy_al F 28) (sy_i F 3).toNatClampNeg ((0 : Int64)))) → Q (some (.int ((1 : Int32)))) (sy_dh F1 X1 X2 (iv_H 4))) :
    hd_W Ls xs d jm_M143 Q (0, sy_dL F [some (.inl (.ref 1000)), some (.inr (.inl 69)), some (.inr (.inl 70)), some (.inr (.inl 71)), none], sy_dS F [], sy_dh F X1 X2 (iv_H 4), 0, 0) := by
  refine hd_ret (s := 4) (nv := 72) (v := some (.inl (.int 1))) (uh := hd_ov (iv_id 0 iv_B4) [(3, .inl (.inr (.inl 76))), (25, .inr (.inr (.inl 72))), (26, .inr (.inr (.inl 73))), (27, .inr (.inr (.inl 74))), (28, .inr (.inr (.inr 75)))]) (f := true) (sp := []) (d0 := 3) (O := [true, true, false, true, true, true, true, true]) (T := [(40, [.inr (.inl 3), .inl (.int 6)], [.inr (.inl 25)]), (40, [.inr (.inl 3), .inr (.inl 69)], [.inr (.inl 26)]), (40, [.inr (.inl 3), .inl (.int 0)], [.inr (.inl 27)]), (40, [.inr (.inl 3), .inl (.long 0)], [.inr (.inr 28)]), (0, [.inr (.inl 3), .inl (.int 1)], [])]) (P := [(1, .inr (.inl 70), .inl (.int 59)), (1, .inr (.inl 70), .inl (.int 61)), (0, .inr (.inl 70), .inl (.int 40)), (1, .inr (.inl 70), .inl (.int 43)), (1, .inr (.inl 70), .inl (.int 45)), (1, .inr (.inl 70), .inl (.int 42)), (1, .inr (.inl 70), .inl (.int 47)), (1, .inr (.inl 70), .inl (.int 60)), (6, .inr (.inl 3), .inl (.ref 403)), (6, .inr (.inl 3), .inl (.ref 403)), (6, .inr (.inl 3), .inl (.ref 403)), (6, .inr (.inl 3), .inl (.ref 403))]) jm_ok143 (by decide +kernel) (by decide +kernel) hd F X1 X2 (fun F' hF hs => ?_)
  have b70 := hd_b (F := F) (F' := F') (k := 70) (hF 70 (by decide))
  have b3 := hd_b (F := F) (F' := F') (k := 3) (hF 3 (by decide))
  have t76 : sy_dv F' (.inr (.inl 76)) = .int ((sy_i F 3) + ((1 : Int32))) := hd_o (hs 4 _ rfl) b3 rfl rfl
  have a25 := hd_ba (F := F) (F' := F') (k := 25) (hF 25 (by decide))
  have t72 : sy_da F' (.inr (.inl 72)) = .inl (jm_upd (sy_ai F 25) (sy_i F 3).toNatClampNeg ((6 : Int32))) := hd_up (hs 0 _ rfl) b3 rfl a25
  have b69 := hd_b (F := F) (F' := F') (k := 69) (hF 69 (by decide))
  have a26 := hd_ba (F := F) (F' := F') (k := 26) (hF 26 (by decide))
  have t73 : sy_da F' (.inr (.inl 73)) = .inl (jm_upd (sy_ai F 26) (sy_i F 3).toNatClampNeg (sy_i F 69)) := hd_up (hs 1 _ rfl) b3 b69 a26
  have a27 := hd_ba (F := F) (F' := F') (k := 27) (hF 27 (by decide))
  have t74 : sy_da F' (.inr (.inl 74)) = .inl (jm_upd (sy_ai F 27) (sy_i F 3).toNatClampNeg ((0 : Int32))) := hd_up (hs 2 _ rfl) b3 rfl a27
  have a28 := hd_bA (F := F) (F' := F') (k := 28) (hF 28 (by decide))
  have t75 : sy_da F' (.inr (.inr 75)) = .inr (jm_updL (sy_al F 28) (sy_i F 3).toNatClampNeg ((0 : Int64))) := hd_uA (hs 3 _ rfl) b3 rfl a28
  have hB' : iv_in F' iv_B4 := iv_in_eq hB (fun j hj => hF j (Nat.lt_of_lt_of_le hj (by decide +kernel)))
  refine ⟨List.forall_mem_cons.mpr ⟨hd_p1 b70 rfl (by have hc : ((59) : Int32).toInt = 59 := (by decide); omega), List.forall_mem_cons.mpr ⟨hd_p1 b70 rfl (by have hc : ((61) : Int32).toInt = 61 := (by decide); omega), List.forall_mem_cons.mpr ⟨hd_p0 b70 rfl (by have hc : ((40) : Int32).toInt = 40 := (by decide); omega), List.forall_mem_cons.mpr ⟨hd_p1 b70 rfl (by have hc : ((43) : Int32).toInt = 43 := (by decide); omega), List.forall_mem_cons.mpr ⟨hd_p1 b70 rfl (by have hc : ((45) : Int32).toInt = 45 := (by decide); omega), List.forall_mem_cons.mpr ⟨hd_p1 b70 rfl (by have hc : ((42) : Int32).toInt = 42 := (by decide); omega), List.forall_mem_cons.mpr ⟨hd_p1 b70 rfl (by have hc : ((47) : Int32).toInt = 47 := (by decide); omega), List.forall_mem_cons.mpr ⟨hd_p1 b70 rfl (by have hc : ((60) : Int32).toInt = 60 := (by decide); omega), List.forall_mem_cons.mpr ⟨hd_pb b3 (by first | exact h8 | exact h8), List.forall_mem_cons.mpr ⟨hd_pb b3 (by first | exact h9 | exact h9), List.forall_mem_cons.mpr ⟨hd_pb b3 (by first | exact h10 | exact h10), List.forall_mem_cons.mpr ⟨hd_pb b3 (by first | exact h11 | exact h11), fun _ h => absurd h List.not_mem_nil⟩⟩⟩⟩⟩⟩⟩⟩⟩⟩⟩⟩, ?_⟩
  refine k _ ?_ ?_ ?_ ?_ ?_ ?_
  · exact fun j hj hn => (hd_keep hB' (Nat.lt_of_lt_of_le hj (by decide +kernel)) (by simp; omega)).trans (hF j (Nat.lt_of_lt_of_le hj (by decide)))
  · exact hd_gi (x := .inr (.inl 76)) (by decide +kernel) t76
  · exact hd_ga (a := .inr (.inl 72)) (by decide +kernel) t72
  · exact hd_ga (a := .inr (.inl 73)) (by decide +kernel) t73
  · exact hd_ga (a := .inr (.inl 74)) (by decide +kernel) t74
  · exact hd_gA (a := .inr (.inr 75)) (by decide +kernel) t75
theorem rs_0_p8 {Ls : Nat} {xs : Nat → Int32} {d : Nat} {Q : Option Value → jm_h → Prop} (hd : 4 ≤ d) (F : Nat → sy_d) (X1 X2 : List jm_c) (hB : iv_in F iv_B4)
    (h0 : (sy_i F 70).toInt ≠ 59)
    (h1 : (sy_i F 70).toInt = 61)
    (h2 : (sy_i F 70).toInt ≠ 43)
    (h3 : (sy_i F 70).toInt ≠ 45)
    (h4 : (sy_i F 70).toInt ≠ 42)
    (h5 : (sy_i F 70).toInt ≠ 47)
    (h6 : (sy_i F 70).toInt ≠ 60)
    (h7 : 0 ≤ (sy_i F 3).toInt ∧ (sy_i F 3).toInt < 403)
    (h8 : 0 ≤ (sy_i F 3).toInt ∧ (sy_i F 3).toInt < 403)
    (h9 : 0 ≤ (sy_i F 3).toInt ∧ (sy_i F 3).toInt < 403)
    (h10 : 0 ≤ (sy_i F 3).toInt ∧ (sy_i F 3).toInt < 403)
    (k : ∀ F1 : Nat → sy_d, (∀ j, j < 69 → j ≠ 3 ∧ j ≠ 25 ∧ j ≠ 26 ∧ j ≠ 27 ∧ j ≠ 28 → F1 j = F j) → F1 3 = .inl (.int ((sy_i F 3) + ((1 : Int32)))) → F1 25 = .inr (.inl (jm_upd (sy_ai F 25) (sy_i F 3).toNatClampNeg ((5 : Int32)))) → F1 26 = .inr (.inl (jm_upd (sy_ai F 26) (sy_i F 3).toNatClampNeg (sy_i F 69))) → F1 27 = .inr (.inl (jm_upd (sy_ai F 27) (sy_i F 3).toNatClampNeg ((0 : Int32)))) → F1 28 = .inr (.inr (jm_updL (sy_al F 28) (sy_i F 3).toNatClampNeg ((0 : Int64)))) → Q (some (.int ((1 : Int32)))) (sy_dh F1 X1 X2 (iv_H 4))) :
    hd_W Ls xs d jm_M143 Q (0, sy_dL F [some (.inl (.ref 1000)), some (.inr (.inl 69)), some (.inr (.inl 70)), some (.inr (.inl 71)), none], sy_dS F [], sy_dh F X1 X2 (iv_H 4), 0, 0) := by
  refine hd_ret (s := 4) (nv := 72) (v := some (.inl (.int 1))) (uh := hd_ov (iv_id 0 iv_B4) [(3, .inl (.inr (.inl 76))), (25, .inr (.inr (.inl 72))), (26, .inr (.inr (.inl 73))), (27, .inr (.inr (.inl 74))), (28, .inr (.inr (.inr 75)))]) (f := true) (sp := []) (d0 := 3) (O := [true, false, true, true, true, true, true]) (T := [(40, [.inr (.inl 3), .inl (.int 5)], [.inr (.inl 25)]), (40, [.inr (.inl 3), .inr (.inl 69)], [.inr (.inl 26)]), (40, [.inr (.inl 3), .inl (.int 0)], [.inr (.inl 27)]), (40, [.inr (.inl 3), .inl (.long 0)], [.inr (.inr 28)]), (0, [.inr (.inl 3), .inl (.int 1)], [])]) (P := [(1, .inr (.inl 70), .inl (.int 59)), (0, .inr (.inl 70), .inl (.int 61)), (1, .inr (.inl 70), .inl (.int 43)), (1, .inr (.inl 70), .inl (.int 45)), (1, .inr (.inl 70), .inl (.int 42)), (1, .inr (.inl 70), .inl (.int 47)), (1, .inr (.inl 70), .inl (.int 60)), (6, .inr (.inl 3), .inl (.ref 403)), (6, .inr (.inl 3), .inl (.ref 403)), (6, .inr (.inl 3), .inl (.ref 403)), (6, .inr (.inl 3), .inl (.ref 403))]) jm_ok143 (by decide +kernel) (by decide +kernel) hd F X1 X2 (fun F' hF hs => ?_)
  have b70 := hd_b (F := F) (F' := F') (k := 70) (hF 70 (by decide))
  have b3 := hd_b (F := F) (F' := F') (k := 3) (hF 3 (by decide))
  have t76 : sy_dv F' (.inr (.inl 76)) = .int ((sy_i F 3) + ((1 : Int32))) := hd_o (hs 4 _ rfl) b3 rfl rfl
  have a25 := hd_ba (F := F) (F' := F') (k := 25) (hF 25 (by decide))
  have t72 : sy_da F' (.inr (.inl 72)) = .inl (jm_upd (sy_ai F 25) (sy_i F 3).toNatClampNeg ((5 : Int32))) := hd_up (hs 0 _ rfl) b3 rfl a25
  have b69 := hd_b (F := F) (F' := F') (k := 69) (hF 69 (by decide))
  have a26 := hd_ba (F := F) (F' := F') (k := 26) (hF 26 (by decide))
  have t73 : sy_da F' (.inr (.inl 73)) = .inl (jm_upd (sy_ai F 26) (sy_i F 3).toNatClampNeg (sy_i F 69)) := hd_up (hs 1 _ rfl) b3 b69 a26
  have a27 := hd_ba (F := F) (F' := F') (k := 27) (hF 27 (by decide))
  have t74 : sy_da F' (.inr (.inl 74)) = .inl (jm_upd (sy_ai F 27) (sy_i F 3).toNatClampNeg ((0 : Int32))) := hd_up (hs 2 _ rfl) b3 rfl a27
  have a28 := hd_bA (F := F) (F' := F') (k := 28) (hF 28 (by decide))
  have t75 : sy_da F' (.inr (.inr 75)) = .inr (jm_updL (sy_al F 28) (sy_i F 3).toNatClampNeg ((0 : Int64))) := hd_uA (hs 3 _ rfl) b3 rfl a28
  have hB' : iv_in F' iv_B4 := iv_in_eq hB (fun j hj => hF j (Nat.lt_of_lt_of_le hj (by decide +kernel)))
  refine ⟨List.forall_mem_cons.mpr ⟨hd_p1 b70 rfl (by have hc : ((59) : Int32).toInt = 59 := (by decide); omega), List.forall_mem_cons.mpr ⟨hd_p0 b70 rfl (by have hc : ((61) : Int32).toInt = 61 := (by decide); omega), List.forall_mem_cons.mpr ⟨hd_p1 b70 rfl (by have hc : ((43) : Int32).toInt = 43 := (by decide); omega), List.forall_mem_cons.mpr ⟨hd_p1 b70 rfl (by have hc : ((45) : Int32).toInt = 45 := (by decide); omega), List.forall_mem_cons.mpr ⟨hd_p1 b70 rfl (by have hc : ((42) : Int32).toInt = 42 := (by decide); omega), List.forall_mem_cons.mpr ⟨hd_p1 b70 rfl (by have hc : ((47) : Int32).toInt = 47 := (by decide); omega), List.forall_mem_cons.mpr ⟨hd_p1 b70 rfl (by have hc : ((60) : Int32).toInt = 60 := (by decide); omega), List.forall_mem_cons.mpr ⟨hd_pb b3 (by first | exact h7 | exact h7), List.forall_mem_cons.mpr ⟨hd_pb b3 (by first | exact h8 | exact h8), List.forall_mem_cons.mpr ⟨hd_pb b3 (by first | exact h9 | exact h9), List.forall_mem_cons.mpr ⟨hd_pb b3 (by first | exact h10 | exact h10), fun _ h => absurd h List.not_mem_nil⟩⟩⟩⟩⟩⟩⟩⟩⟩⟩⟩, ?_⟩
  refine k _ ?_ ?_ ?_ ?_ ?_ ?_
  · exact fun j hj hn => (hd_keep hB' (Nat.lt_of_lt_of_le hj (by decide +kernel)) (by simp; omega)).trans (hF j (Nat.lt_of_lt_of_le hj (by decide)))
  · exact hd_gi (x := .inr (.inl 76)) (by decide +kernel) t76
  · exact hd_ga (a := .inr (.inl 72)) (by decide +kernel) t72
  · exact hd_ga (a := .inr (.inl 73)) (by decide +kernel) t73
  · exact hd_ga (a := .inr (.inl 74)) (by decide +kernel) t74
  · exact hd_gA (a := .inr (.inr 75)) (by decide +kernel) t75
theorem rs_0_p9 {Ls : Nat} {xs : Nat → Int32} {d : Nat} {Q : Option Value → jm_h → Prop} (hd : 4 ≤ d) (F : Nat → sy_d) (X1 X2 : List jm_c) (hB : iv_in F iv_B4)
    (h0 : (sy_i F 70).toInt = 59)
    (h1 : (sy_i F 70).toInt ≠ 43)
    (h2 : (sy_i F 70).toInt ≠ 45)
    (h3 : (sy_i F 70).toInt ≠ 42)
    (h4 : (sy_i F 70).toInt ≠ 47)
    (h5 : (sy_i F 70).toInt ≠ 60)
    (h6 : 0 ≤ (sy_i F 3).toInt ∧ (sy_i F 3).toInt < 403)
    (h7 : 0 ≤ (sy_i F 3).toInt ∧ (sy_i F 3).toInt < 403)
    (h8 : 0 ≤ (sy_i F 3).toInt ∧ (sy_i F 3).toInt < 403)
    (h9 : 0 ≤ (sy_i F 3).toInt ∧ (sy_i F 3).toInt < 403)
    (k : ∀ F1 : Nat → sy_d, (∀ j, j < 69 → j ≠ 3 ∧ j ≠ 25 ∧ j ≠ 26 ∧ j ≠ 27 ∧ j ≠ 28 → F1 j = F j) → F1 3 = .inl (.int ((sy_i F 3) + ((1 : Int32)))) → F1 25 = .inr (.inl (jm_upd (sy_ai F 25) (sy_i F 3).toNatClampNeg ((4 : Int32)))) → F1 26 = .inr (.inl (jm_upd (sy_ai F 26) (sy_i F 3).toNatClampNeg (sy_i F 69))) → F1 27 = .inr (.inl (jm_upd (sy_ai F 27) (sy_i F 3).toNatClampNeg ((0 : Int32)))) → F1 28 = .inr (.inr (jm_updL (sy_al F 28) (sy_i F 3).toNatClampNeg ((0 : Int64)))) → Q (some (.int ((1 : Int32)))) (sy_dh F1 X1 X2 (iv_H 4))) :
    hd_W Ls xs d jm_M143 Q (0, sy_dL F [some (.inl (.ref 1000)), some (.inr (.inl 69)), some (.inr (.inl 70)), some (.inr (.inl 71)), none], sy_dS F [], sy_dh F X1 X2 (iv_H 4), 0, 0) := by
  refine hd_ret (s := 4) (nv := 72) (v := some (.inl (.int 1))) (uh := hd_ov (iv_id 0 iv_B4) [(3, .inl (.inr (.inl 76))), (25, .inr (.inr (.inl 72))), (26, .inr (.inr (.inl 73))), (27, .inr (.inr (.inl 74))), (28, .inr (.inr (.inr 75)))]) (f := true) (sp := []) (d0 := 3) (O := [false, true, true, true, true, true]) (T := [(40, [.inr (.inl 3), .inl (.int 4)], [.inr (.inl 25)]), (40, [.inr (.inl 3), .inr (.inl 69)], [.inr (.inl 26)]), (40, [.inr (.inl 3), .inl (.int 0)], [.inr (.inl 27)]), (40, [.inr (.inl 3), .inl (.long 0)], [.inr (.inr 28)]), (0, [.inr (.inl 3), .inl (.int 1)], [])]) (P := [(0, .inr (.inl 70), .inl (.int 59)), (1, .inr (.inl 70), .inl (.int 43)), (1, .inr (.inl 70), .inl (.int 45)), (1, .inr (.inl 70), .inl (.int 42)), (1, .inr (.inl 70), .inl (.int 47)), (1, .inr (.inl 70), .inl (.int 60)), (6, .inr (.inl 3), .inl (.ref 403)), (6, .inr (.inl 3), .inl (.ref 403)), (6, .inr (.inl 3), .inl (.ref 403)), (6, .inr (.inl 3), .inl (.ref 403))]) jm_ok143 (by decide +kernel) (by decide +kernel) hd F X1 X2 (fun F' hF hs => ?_)
  have b70 := hd_b (F := F) (F' := F') (k := 70) (hF 70 (by decide))
  have b3 := hd_b (F := F) (F' := F') (k := 3) (hF 3 (by decide))
  have t76 : sy_dv F' (.inr (.inl 76)) = .int ((sy_i F 3) + ((1 : Int32))) := hd_o (hs 4 _ rfl) b3 rfl rfl
  have a25 := hd_ba (F := F) (F' := F') (k := 25) (hF 25 (by decide))
  have t72 : sy_da F' (.inr (.inl 72)) = .inl (jm_upd (sy_ai F 25) (sy_i F 3).toNatClampNeg ((4 : Int32))) := hd_up (hs 0 _ rfl) b3 rfl a25
  have b69 := hd_b (F := F) (F' := F') (k := 69) (hF 69 (by decide))
  have a26 := hd_ba (F := F) (F' := F') (k := 26) (hF 26 (by decide))
  have t73 : sy_da F' (.inr (.inl 73)) = .inl (jm_upd (sy_ai F 26) (sy_i F 3).toNatClampNeg (sy_i F 69)) := hd_up (hs 1 _ rfl) b3 b69 a26
  have a27 := hd_ba (F := F) (F' := F') (k := 27) (hF 27 (by decide))
  have t74 : sy_da F' (.inr (.inl 74)) = .inl (jm_upd (sy_ai F 27) (sy_i F 3).toNatClampNeg ((0 : Int32))) := hd_up (hs 2 _ rfl) b3 rfl a27
  have a28 := hd_bA (F := F) (F' := F') (k := 28) (hF 28 (by decide))
  have t75 : sy_da F' (.inr (.inr 75)) = .inr (jm_updL (sy_al F 28) (sy_i F 3).toNatClampNeg ((0 : Int64))) := hd_uA (hs 3 _ rfl) b3 rfl a28
  have hB' : iv_in F' iv_B4 := iv_in_eq hB (fun j hj => hF j (Nat.lt_of_lt_of_le hj (by decide +kernel)))
  refine ⟨List.forall_mem_cons.mpr ⟨hd_p0 b70 rfl (by have hc : ((59) : Int32).toInt = 59 := (by decide); omega), List.forall_mem_cons.mpr ⟨hd_p1 b70 rfl (by have hc : ((43) : Int32).toInt = 43 := (by decide); omega), List.forall_mem_cons.mpr ⟨hd_p1 b70 rfl (by have hc : ((45) : Int32).toInt = 45 := (by decide); omega), List.forall_mem_cons.mpr ⟨hd_p1 b70 rfl (by have hc : ((42) : Int32).toInt = 42 := (by decide); omega), List.forall_mem_cons.mpr ⟨hd_p1 b70 rfl (by have hc : ((47) : Int32).toInt = 47 := (by decide); omega), List.forall_mem_cons.mpr ⟨hd_p1 b70 rfl (by have hc : ((60) : Int32).toInt = 60 := (by decide); omega), List.forall_mem_cons.mpr ⟨hd_pb b3 (by first | exact h6 | exact h6), List.forall_mem_cons.mpr ⟨hd_pb b3 (by first | exact h7 | exact h7), List.forall_mem_cons.mpr ⟨hd_pb b3 (by first | exact h8 | exact h8), List.forall_mem_cons.mpr ⟨hd_pb b3 (by first | exact h9 | exact h9), fun _ h => absurd h List.not_mem_nil⟩⟩⟩⟩⟩⟩⟩⟩⟩⟩, ?_⟩
  refine k _ ?_ ?_ ?_ ?_ ?_ ?_
  · exact fun j hj hn => (hd_keep hB' (Nat.lt_of_lt_of_le hj (by decide +kernel)) (by simp; omega)).trans (hF j (Nat.lt_of_lt_of_le hj (by decide)))
  · exact hd_gi (x := .inr (.inl 76)) (by decide +kernel) t76
  · exact hd_ga (a := .inr (.inl 72)) (by decide +kernel) t72
  · exact hd_ga (a := .inr (.inl 73)) (by decide +kernel) t73
  · exact hd_ga (a := .inr (.inl 74)) (by decide +kernel) t74
  · exact hd_gA (a := .inr (.inr 75)) (by decide +kernel) t75
theorem rs_0 {Ls : Nat} {xs : Nat → Int32} {d : Nat} {Q : Option Value → jm_h → Prop} (hd : 4 ≤ d) (F : Nat → sy_d) (X1 X2 : List jm_c) (hB : iv_in F iv_B4)
    (a69 : 0 ≤ (sy_i F 69).toInt ∧ (sy_i F 69).toInt ≤ 2000)
    (o0 : (sy_i F 70).toInt ≠ 59 → (sy_i F 70).toInt ≠ 61 → (sy_i F 70).toInt ≠ 40 → (sy_i F 70).toInt ≠ 41 → (sy_i F 70).toInt ≠ 43 → (sy_i F 70).toInt ≠ 45 → (sy_i F 70).toInt ≠ 42 → (sy_i F 70).toInt ≠ 47 → (sy_i F 70).toInt ≠ 60 → (0 ≤ ((sy_i F 3).toInt + 1) ∧ ((sy_i F 3).toInt + 1) ≤ 402))
    (o1 : (sy_i F 70).toInt ≠ 59 → (sy_i F 70).toInt ≠ 61 → (sy_i F 70).toInt ≠ 40 → (sy_i F 70).toInt ≠ 41 → (sy_i F 70).toInt ≠ 43 → (sy_i F 70).toInt ≠ 45 → (sy_i F 70).toInt ≠ 42 → (sy_i F 70).toInt ≠ 47 → (sy_i F 70).toInt = 60 → (0 ≤ ((sy_i F 3).toInt + 1) ∧ ((sy_i F 3).toInt + 1) ≤ 402))
    (o2 : (sy_i F 70).toInt ≠ 59 → (sy_i F 70).toInt ≠ 61 → (sy_i F 70).toInt ≠ 40 → (sy_i F 70).toInt ≠ 41 → (sy_i F 70).toInt ≠ 43 → (sy_i F 70).toInt ≠ 45 → (sy_i F 70).toInt ≠ 42 → (sy_i F 70).toInt = 47 → (sy_i F 70).toInt ≠ 60 → (0 ≤ ((sy_i F 3).toInt + 1) ∧ ((sy_i F 3).toInt + 1) ≤ 402))
    (o3 : (sy_i F 70).toInt ≠ 59 → (sy_i F 70).toInt ≠ 61 → (sy_i F 70).toInt ≠ 40 → (sy_i F 70).toInt ≠ 41 → (sy_i F 70).toInt ≠ 43 → (sy_i F 70).toInt ≠ 45 → (sy_i F 70).toInt = 42 → (sy_i F 70).toInt ≠ 47 → (sy_i F 70).toInt ≠ 60 → (0 ≤ ((sy_i F 3).toInt + 1) ∧ ((sy_i F 3).toInt + 1) ≤ 402))
    (o4 : (sy_i F 70).toInt ≠ 59 → (sy_i F 70).toInt ≠ 61 → (sy_i F 70).toInt ≠ 40 → (sy_i F 70).toInt ≠ 41 → (sy_i F 70).toInt ≠ 43 → (sy_i F 70).toInt = 45 → (sy_i F 70).toInt ≠ 42 → (sy_i F 70).toInt ≠ 47 → (sy_i F 70).toInt ≠ 60 → (0 ≤ ((sy_i F 3).toInt + 1) ∧ ((sy_i F 3).toInt + 1) ≤ 402))
    (o5 : (sy_i F 70).toInt ≠ 59 → (sy_i F 70).toInt ≠ 61 → (sy_i F 70).toInt ≠ 40 → (sy_i F 70).toInt ≠ 41 → (sy_i F 70).toInt = 43 → (sy_i F 70).toInt ≠ 45 → (sy_i F 70).toInt ≠ 42 → (sy_i F 70).toInt ≠ 47 → (sy_i F 70).toInt ≠ 60 → (0 ≤ ((sy_i F 3).toInt + 1) ∧ ((sy_i F 3).toInt + 1) ≤ 402))
    (o6 : (sy_i F 70).toInt ≠ 59 → (sy_i F 70).toInt ≠ 61 → (sy_i F 70).toInt ≠ 40 → (sy_i F 70).toInt = 41 → (sy_i F 70).toInt ≠ 43 → (sy_i F 70).toInt ≠ 45 → (sy_i F 70).toInt ≠ 42 → (sy_i F 70).toInt ≠ 47 → (sy_i F 70).toInt ≠ 60 → (0 ≤ ((sy_i F 3).toInt + 1) ∧ ((sy_i F 3).toInt + 1) ≤ 402))
    (o7 : (sy_i F 70).toInt ≠ 59 → (sy_i F 70).toInt ≠ 61 → (sy_i F 70).toInt = 40 → (sy_i F 70).toInt ≠ 43 → (sy_i F 70).toInt ≠ 45 → (sy_i F 70).toInt ≠ 42 → (sy_i F 70).toInt ≠ 47 → (sy_i F 70).toInt ≠ 60 → (0 ≤ ((sy_i F 3).toInt + 1) ∧ ((sy_i F 3).toInt + 1) ≤ 402))
    (o8 : (sy_i F 70).toInt ≠ 59 → (sy_i F 70).toInt = 61 → (sy_i F 70).toInt ≠ 43 → (sy_i F 70).toInt ≠ 45 → (sy_i F 70).toInt ≠ 42 → (sy_i F 70).toInt ≠ 47 → (sy_i F 70).toInt ≠ 60 → (0 ≤ ((sy_i F 3).toInt + 1) ∧ ((sy_i F 3).toInt + 1) ≤ 402))
    (o9 : (sy_i F 70).toInt = 59 → (sy_i F 70).toInt ≠ 43 → (sy_i F 70).toInt ≠ 45 → (sy_i F 70).toInt ≠ 42 → (sy_i F 70).toInt ≠ 47 → (sy_i F 70).toInt ≠ 60 → (0 ≤ ((sy_i F 3).toInt + 1) ∧ ((sy_i F 3).toInt + 1) ≤ 402))
    (k0 : (sy_i F 70).toInt ≠ 59 → (sy_i F 70).toInt ≠ 61 → (sy_i F 70).toInt ≠ 40 → (sy_i F 70).toInt ≠ 41 → (sy_i F 70).toInt ≠ 43 → (sy_i F 70).toInt ≠ 45 → (sy_i F 70).toInt ≠ 42 → (sy_i F 70).toInt ≠ 47 → (sy_i F 70).toInt ≠ 60 → ∀ F1 : Nat → sy_d, iv_in F1 iv_B4 → (∀ j, j < 69 → j ∉ ([3, 25, 26, 27, 28] : List Nat) → F1 j = F j) → (sy_i F1 2).toInt = (sy_i F 2).toInt → (sy_i F1 3).toInt = ((sy_i F 3).toInt + 1) → sy_ai F1 25 = jm_upd (sy_ai F 25) ((sy_i F 3).toInt).toNat ((3 : Int32)) → sy_ai F1 26 = jm_upd (sy_ai F 26) ((sy_i F 3).toInt).toNat (sy_i F 69) → sy_ai F1 27 = jm_upd (sy_ai F 27) ((sy_i F 3).toInt).toNat ((0 : Int32)) → sy_al F1 28 = jm_updL (sy_al F 28) ((sy_i F 3).toInt).toNat ((0 : Int64)) → Q (some (.int ((1 : Int32)))) (sy_dh F1 X1 X2 (iv_H 4)))
    (k1 : (sy_i F 70).toInt ≠ 59 → (sy_i F 70).toInt ≠ 61 → (sy_i F 70).toInt ≠ 40 → (sy_i F 70).toInt ≠ 41 → (sy_i F 70).toInt ≠ 43 → (sy_i F 70).toInt ≠ 45 → (sy_i F 70).toInt ≠ 42 → (sy_i F 70).toInt ≠ 47 → (sy_i F 70).toInt = 60 → ∀ F1 : Nat → sy_d, iv_in F1 iv_B4 → (∀ j, j < 69 → j ∉ ([3, 25, 26, 27, 28] : List Nat) → F1 j = F j) → (sy_i F1 2).toInt = (sy_i F 2).toInt → (sy_i F1 3).toInt = ((sy_i F 3).toInt + 1) → sy_ai F1 25 = jm_upd (sy_ai F 25) ((sy_i F 3).toInt).toNat ((13 : Int32)) → sy_ai F1 26 = jm_upd (sy_ai F 26) ((sy_i F 3).toInt).toNat (sy_i F 69) → sy_ai F1 27 = jm_upd (sy_ai F 27) ((sy_i F 3).toInt).toNat ((0 : Int32)) → sy_al F1 28 = jm_updL (sy_al F 28) ((sy_i F 3).toInt).toNat ((0 : Int64)) → Q (some (.int ((1 : Int32)))) (sy_dh F1 X1 X2 (iv_H 4)))
    (k2 : (sy_i F 70).toInt ≠ 59 → (sy_i F 70).toInt ≠ 61 → (sy_i F 70).toInt ≠ 40 → (sy_i F 70).toInt ≠ 41 → (sy_i F 70).toInt ≠ 43 → (sy_i F 70).toInt ≠ 45 → (sy_i F 70).toInt ≠ 42 → (sy_i F 70).toInt = 47 → (sy_i F 70).toInt ≠ 60 → ∀ F1 : Nat → sy_d, iv_in F1 iv_B4 → (∀ j, j < 69 → j ∉ ([3, 25, 26, 27, 28] : List Nat) → F1 j = F j) → (sy_i F1 2).toInt = (sy_i F 2).toInt → (sy_i F1 3).toInt = ((sy_i F 3).toInt + 1) → sy_ai F1 25 = jm_upd (sy_ai F 25) ((sy_i F 3).toInt).toNat ((15 : Int32)) → sy_ai F1 26 = jm_upd (sy_ai F 26) ((sy_i F 3).toInt).toNat (sy_i F 69) → sy_ai F1 27 = jm_upd (sy_ai F 27) ((sy_i F 3).toInt).toNat ((0 : Int32)) → sy_al F1 28 = jm_updL (sy_al F 28) ((sy_i F 3).toInt).toNat ((0 : Int64)) → Q (some (.int ((1 : Int32)))) (sy_dh F1 X1 X2 (iv_H 4)))
    (k3 : (sy_i F 70).toInt ≠ 59 → (sy_i F 70).toInt ≠ 61 → (sy_i F 70).toInt ≠ 40 → (sy_i F 70).toInt ≠ 41 → (sy_i F 70).toInt ≠ 43 → (sy_i F 70).toInt ≠ 45 → (sy_i F 70).toInt = 42 → (sy_i F 70).toInt ≠ 47 → (sy_i F 70).toInt ≠ 60 → ∀ F1 : Nat → sy_d, iv_in F1 iv_B4 → (∀ j, j < 69 → j ∉ ([3, 25, 26, 27, 28] : List Nat) → F1 j = F j) → (sy_i F1 2).toInt = (sy_i F 2).toInt → (sy_i F1 3).toInt = ((sy_i F 3).toInt + 1) → sy_ai F1 25 = jm_upd (sy_ai F 25) ((sy_i F 3).toInt).toNat ((10 : Int32)) → sy_ai F1 26 = jm_upd (sy_ai F 26) ((sy_i F 3).toInt).toNat (sy_i F 69) → sy_ai F1 27 = jm_upd (sy_ai F 27) ((sy_i F 3).toInt).toNat ((0 : Int32)) → sy_al F1 28 = jm_updL (sy_al F 28) ((sy_i F 3).toInt).toNat ((0 : Int64)) → Q (some (.int ((1 : Int32)))) (sy_dh F1 X1 X2 (iv_H 4)))
    (k4 : (sy_i F 70).toInt ≠ 59 → (sy_i F 70).toInt ≠ 61 → (sy_i F 70).toInt ≠ 40 → (sy_i F 70).toInt ≠ 41 → (sy_i F 70).toInt ≠ 43 → (sy_i F 70).toInt = 45 → (sy_i F 70).toInt ≠ 42 → (sy_i F 70).toInt ≠ 47 → (sy_i F 70).toInt ≠ 60 → ∀ F1 : Nat → sy_d, iv_in F1 iv_B4 → (∀ j, j < 69 → j ∉ ([3, 25, 26, 27, 28] : List Nat) → F1 j = F j) → (sy_i F1 2).toInt = (sy_i F 2).toInt → (sy_i F1 3).toInt = ((sy_i F 3).toInt + 1) → sy_ai F1 25 = jm_upd (sy_ai F 25) ((sy_i F 3).toInt).toNat ((9 : Int32)) → sy_ai F1 26 = jm_upd (sy_ai F 26) ((sy_i F 3).toInt).toNat (sy_i F 69) → sy_ai F1 27 = jm_upd (sy_ai F 27) ((sy_i F 3).toInt).toNat ((0 : Int32)) → sy_al F1 28 = jm_updL (sy_al F 28) ((sy_i F 3).toInt).toNat ((0 : Int64)) → Q (some (.int ((1 : Int32)))) (sy_dh F1 X1 X2 (iv_H 4)))
    (k5 : (sy_i F 70).toInt ≠ 59 → (sy_i F 70).toInt ≠ 61 → (sy_i F 70).toInt ≠ 40 → (sy_i F 70).toInt ≠ 41 → (sy_i F 70).toInt = 43 → (sy_i F 70).toInt ≠ 45 → (sy_i F 70).toInt ≠ 42 → (sy_i F 70).toInt ≠ 47 → (sy_i F 70).toInt ≠ 60 → ∀ F1 : Nat → sy_d, iv_in F1 iv_B4 → (∀ j, j < 69 → j ∉ ([3, 25, 26, 27, 28] : List Nat) → F1 j = F j) → (sy_i F1 2).toInt = (sy_i F 2).toInt → (sy_i F1 3).toInt = ((sy_i F 3).toInt + 1) → sy_ai F1 25 = jm_upd (sy_ai F 25) ((sy_i F 3).toInt).toNat ((8 : Int32)) → sy_ai F1 26 = jm_upd (sy_ai F 26) ((sy_i F 3).toInt).toNat (sy_i F 69) → sy_ai F1 27 = jm_upd (sy_ai F 27) ((sy_i F 3).toInt).toNat ((0 : Int32)) → sy_al F1 28 = jm_updL (sy_al F 28) ((sy_i F 3).toInt).toNat ((0 : Int64)) → Q (some (.int ((1 : Int32)))) (sy_dh F1 X1 X2 (iv_H 4)))
    (k6 : (sy_i F 70).toInt ≠ 59 → (sy_i F 70).toInt ≠ 61 → (sy_i F 70).toInt ≠ 40 → (sy_i F 70).toInt = 41 → (sy_i F 70).toInt ≠ 43 → (sy_i F 70).toInt ≠ 45 → (sy_i F 70).toInt ≠ 42 → (sy_i F 70).toInt ≠ 47 → (sy_i F 70).toInt ≠ 60 → ∀ F1 : Nat → sy_d, iv_in F1 iv_B4 → (∀ j, j < 69 → j ∉ ([3, 25, 26, 27, 28] : List Nat) → F1 j = F j) → (sy_i F1 2).toInt = (sy_i F 2).toInt → (sy_i F1 3).toInt = ((sy_i F 3).toInt + 1) → sy_ai F1 25 = jm_upd (sy_ai F 25) ((sy_i F 3).toInt).toNat ((7 : Int32)) → sy_ai F1 26 = jm_upd (sy_ai F 26) ((sy_i F 3).toInt).toNat (sy_i F 69) → sy_ai F1 27 = jm_upd (sy_ai F 27) ((sy_i F 3).toInt).toNat ((0 : Int32)) → sy_al F1 28 = jm_updL (sy_al F 28) ((sy_i F 3).toInt).toNat ((0 : Int64)) → Q (some (.int ((1 : Int32)))) (sy_dh F1 X1 X2 (iv_H 4)))
    (k7 : (sy_i F 70).toInt ≠ 59 → (sy_i F 70).toInt ≠ 61 → (sy_i F 70).toInt = 40 → (sy_i F 70).toInt ≠ 43 → (sy_i F 70).toInt ≠ 45 → (sy_i F 70).toInt ≠ 42 → (sy_i F 70).toInt ≠ 47 → (sy_i F 70).toInt ≠ 60 → ∀ F1 : Nat → sy_d, iv_in F1 iv_B4 → (∀ j, j < 69 → j ∉ ([3, 25, 26, 27, 28] : List Nat) → F1 j = F j) → (sy_i F1 2).toInt = (sy_i F 2).toInt → (sy_i F1 3).toInt = ((sy_i F 3).toInt + 1) → sy_ai F1 25 = jm_upd (sy_ai F 25) ((sy_i F 3).toInt).toNat ((6 : Int32)) → sy_ai F1 26 = jm_upd (sy_ai F 26) ((sy_i F 3).toInt).toNat (sy_i F 69) → sy_ai F1 27 = jm_upd (sy_ai F 27) ((sy_i F 3).toInt).toNat ((0 : Int32)) → sy_al F1 28 = jm_updL (sy_al F 28) ((sy_i F 3).toInt).toNat ((0 : Int64)) → Q (some (.int ((1 : Int32)))) (sy_dh F1 X1 X2 (iv_H 4)))
    (k8 : (sy_i F 70).toInt ≠ 59 → (sy_i F 70).toInt = 61 → (sy_i F 70).toInt ≠ 43 → (sy_i F 70).toInt ≠ 45 → (sy_i F 70).toInt ≠ 42 → (sy_i F 70).toInt ≠ 47 → (sy_i F 70).toInt ≠ 60 → ∀ F1 : Nat → sy_d, iv_in F1 iv_B4 → (∀ j, j < 69 → j ∉ ([3, 25, 26, 27, 28] : List Nat) → F1 j = F j) → (sy_i F1 2).toInt = (sy_i F 2).toInt → (sy_i F1 3).toInt = ((sy_i F 3).toInt + 1) → sy_ai F1 25 = jm_upd (sy_ai F 25) ((sy_i F 3).toInt).toNat ((5 : Int32)) → sy_ai F1 26 = jm_upd (sy_ai F 26) ((sy_i F 3).toInt).toNat (sy_i F 69) → sy_ai F1 27 = jm_upd (sy_ai F 27) ((sy_i F 3).toInt).toNat ((0 : Int32)) → sy_al F1 28 = jm_updL (sy_al F 28) ((sy_i F 3).toInt).toNat ((0 : Int64)) → Q (some (.int ((1 : Int32)))) (sy_dh F1 X1 X2 (iv_H 4)))
    (k9 : (sy_i F 70).toInt = 59 → (sy_i F 70).toInt ≠ 43 → (sy_i F 70).toInt ≠ 45 → (sy_i F 70).toInt ≠ 42 → (sy_i F 70).toInt ≠ 47 → (sy_i F 70).toInt ≠ 60 → ∀ F1 : Nat → sy_d, iv_in F1 iv_B4 → (∀ j, j < 69 → j ∉ ([3, 25, 26, 27, 28] : List Nat) → F1 j = F j) → (sy_i F1 2).toInt = (sy_i F 2).toInt → (sy_i F1 3).toInt = ((sy_i F 3).toInt + 1) → sy_ai F1 25 = jm_upd (sy_ai F 25) ((sy_i F 3).toInt).toNat ((4 : Int32)) → sy_ai F1 26 = jm_upd (sy_ai F 26) ((sy_i F 3).toInt).toNat (sy_i F 69) → sy_ai F1 27 = jm_upd (sy_ai F 27) ((sy_i F 3).toInt).toNat ((0 : Int32)) → sy_al F1 28 = jm_updL (sy_al F 28) ((sy_i F 3).toInt).toNat ((0 : Int64)) → Q (some (.int ((1 : Int32)))) (sy_dh F1 X1 X2 (iv_H 4))) :
    hd_W Ls xs d jm_M143 Q (0, sy_dL F [some (.inl (.ref 1000)), some (.inr (.inl 69)), some (.inr (.inl 70)), some (.inr (.inl 71)), none], sy_dS F [], sy_dh F X1 X2 (iv_H 4), 0, 0) := by
  by_cases g0 : (sy_i F 70).toInt ≠ 59
  · by_cases g1 : (sy_i F 70).toInt ≠ 61
    · by_cases g2 : (sy_i F 70).toInt ≠ 40
      · by_cases g3 : (sy_i F 70).toInt ≠ 41
        · by_cases g4 : (sy_i F 70).toInt ≠ 43
          · by_cases g5 : (sy_i F 70).toInt ≠ 45
            · by_cases g6 : (sy_i F 70).toInt ≠ 42
              · by_cases g7 : (sy_i F 70).toInt ≠ 47
                · by_cases g8 : (sy_i F 70).toInt ≠ 60
                  · have c3 := nz_bx hB (k := 3) (lo := 0) (hi := 402) rfl
                    have n76 : ((sy_i F 3) + ((1 : Int32))).toInt = ((sy_i F 3).toInt + 1) := nz_add (rfl : (sy_i F 3).toInt = (sy_i F 3).toInt) (by decide : ((1 : Int32)).toInt = 1) (by omega) (by omega)
                    have w72 : jm_upd (sy_ai F 25) (sy_i F 3).toNatClampNeg ((3 : Int32)) = jm_upd (sy_ai F 25) ((sy_i F 3).toInt).toNat ((3 : Int32)) := by simp only [nz_c, (by decide : ((3 : Int32)).toInt = 3)]
                    have w73 : jm_upd (sy_ai F 26) (sy_i F 3).toNatClampNeg (sy_i F 69) = jm_upd (sy_ai F 26) ((sy_i F 3).toInt).toNat (sy_i F 69) := by simp only [nz_c]
                    have w74 : jm_upd (sy_ai F 27) (sy_i F 3).toNatClampNeg ((0 : Int32)) = jm_upd (sy_ai F 27) ((sy_i F 3).toInt).toNat ((0 : Int32)) := by simp only [nz_c, (by decide : ((0 : Int32)).toInt = 0)]
                    have w75 : jm_updL (sy_al F 28) (sy_i F 3).toNatClampNeg ((0 : Int64)) = jm_updL (sy_al F 28) ((sy_i F 3).toInt).toNat ((0 : Int64)) := by simp only [nz_c]
                    exact rs_0_p0 hd F X1 X2 hB (by first | exact g0 | (simp only [nz_c]; exact g0)) (by first | exact g1 | (simp only [nz_c]; exact g1)) (by first | exact g2 | (simp only [nz_c]; exact g2)) (by first | exact g3 | (simp only [nz_c]; exact g3)) (by first | exact g4 | (simp only [nz_c]; exact g4)) (by first | exact g5 | (simp only [nz_c]; exact g5)) (by first | exact g6 | (simp only [nz_c]; exact g6)) (by first | exact g7 | (simp only [nz_c]; exact g7)) (by first | exact g8 | (simp only [nz_c]; exact g8)) (by first | exact ⟨by omega, by omega⟩ | (simp only [nz_c]; exact ⟨by omega, by omega⟩)) (by first | exact ⟨by omega, by omega⟩ | (simp only [nz_c]; exact ⟨by omega, by omega⟩)) (by first | exact ⟨by omega, by omega⟩ | (simp only [nz_c]; exact ⟨by omega, by omega⟩)) (by first | exact ⟨by omega, by omega⟩ | (simp only [nz_c]; exact ⟨by omega, by omega⟩)) (fun F1 g e3 e25 e26 e27 e28 => k0 g0 g1 g2 g3 g4 g5 g6 g7 g8 F1 (nz_in hB [3, 25, 26, 27, 28] (fun j hj hn => g j hj (by simp only [List.mem_cons, List.not_mem_nil, or_false, not_or] at hn; omega)) (List.forall_mem_cons.mpr ⟨fun t ht => (Option.some.inj ht) ▸ (nz_hi e3 n76 (o0 g0 g1 g2 g3 g4 g5 g6 g7 g8).1 (o0 g0 g1 g2 g3 g4 g5 g6 g7 g8).2), List.forall_mem_cons.mpr ⟨fun t ht => (Option.some.inj ht) ▸ (nz_hA e25 (nz_up (nz_ba hB (k := 25) (lo := 0) (hi := 42) rfl) (by decide : ((3 : Int32)).toInt = 3) (by omega) (by omega))), List.forall_mem_cons.mpr ⟨fun t ht => (Option.some.inj ht) ▸ (nz_hz2 e26), List.forall_mem_cons.mpr ⟨fun t ht => (Option.some.inj ht) ▸ (nz_hz2 e27), List.forall_mem_cons.mpr ⟨fun t ht => (Option.some.inj ht) ▸ (nz_hz3 e28), List.forall_mem_nil _⟩⟩⟩⟩⟩)) (fun j hj hn => g j hj (by simp only [List.mem_cons, List.not_mem_nil, or_false, not_or] at hn; omega)) (nz_fi (g 2 (by decide) (by decide))) ((congrArg Int32.toInt (zz_i e3)).trans n76) ((zz_ai e25).trans w72) ((zz_ai e26).trans w73) ((zz_ai e27).trans w74) ((zz_al e28).trans w75))
                  replace g8 : (sy_i F 70).toInt = 60 := by omega
                  have c3 := nz_bx hB (k := 3) (lo := 0) (hi := 402) rfl
                  have n76 : ((sy_i F 3) + ((1 : Int32))).toInt = ((sy_i F 3).toInt + 1) := nz_add (rfl : (sy_i F 3).toInt = (sy_i F 3).toInt) (by decide : ((1 : Int32)).toInt = 1) (by omega) (by omega)
                  have w72 : jm_upd (sy_ai F 25) (sy_i F 3).toNatClampNeg ((13 : Int32)) = jm_upd (sy_ai F 25) ((sy_i F 3).toInt).toNat ((13 : Int32)) := by simp only [nz_c, (by decide : ((13 : Int32)).toInt = 13)]
                  have w73 : jm_upd (sy_ai F 26) (sy_i F 3).toNatClampNeg (sy_i F 69) = jm_upd (sy_ai F 26) ((sy_i F 3).toInt).toNat (sy_i F 69) := by simp only [nz_c]
                  have w74 : jm_upd (sy_ai F 27) (sy_i F 3).toNatClampNeg ((0 : Int32)) = jm_upd (sy_ai F 27) ((sy_i F 3).toInt).toNat ((0 : Int32)) := by simp only [nz_c, (by decide : ((0 : Int32)).toInt = 0)]
                  have w75 : jm_updL (sy_al F 28) (sy_i F 3).toNatClampNeg ((0 : Int64)) = jm_updL (sy_al F 28) ((sy_i F 3).toInt).toNat ((0 : Int64)) := by simp only [nz_c]
                  exact rs_0_p1 hd F X1 X2 hB (by first | exact g0 | (simp only [nz_c]; exact g0)) (by first | exact g1 | (simp only [nz_c]; exact g1)) (by first | exact g2 | (simp only [nz_c]; exact g2)) (by first | exact g3 | (simp only [nz_c]; exact g3)) (by first | exact g4 | (simp only [nz_c]; exact g4)) (by first | exact g5 | (simp only [nz_c]; exact g5)) (by first | exact g6 | (simp only [nz_c]; exact g6)) (by first | exact g7 | (simp only [nz_c]; exact g7)) (by first | exact g8 | (simp only [nz_c]; exact g8)) (by first | exact ⟨by omega, by omega⟩ | (simp only [nz_c]; exact ⟨by omega, by omega⟩)) (by first | exact ⟨by omega, by omega⟩ | (simp only [nz_c]; exact ⟨by omega, by omega⟩)) (by first | exact ⟨by omega, by omega⟩ | (simp only [nz_c]; exact ⟨by omega, by omega⟩)) (by first | exact ⟨by omega, by omega⟩ | (simp only [nz_c]; exact ⟨by omega, by omega⟩)) (fun F1 g e3 e25 e26 e27 e28 => k1 g0 g1 g2 g3 g4 g5 g6 g7 g8 F1 (nz_in hB [3, 25, 26, 27, 28] (fun j hj hn => g j hj (by simp only [List.mem_cons, List.not_mem_nil, or_false, not_or] at hn; omega)) (List.forall_mem_cons.mpr ⟨fun t ht => (Option.some.inj ht) ▸ (nz_hi e3 n76 (o1 g0 g1 g2 g3 g4 g5 g6 g7 g8).1 (o1 g0 g1 g2 g3 g4 g5 g6 g7 g8).2), List.forall_mem_cons.mpr ⟨fun t ht => (Option.some.inj ht) ▸ (nz_hA e25 (nz_up (nz_ba hB (k := 25) (lo := 0) (hi := 42) rfl) (by decide : ((13 : Int32)).toInt = 13) (by omega) (by omega))), List.forall_mem_cons.mpr ⟨fun t ht => (Option.some.inj ht) ▸ (nz_hz2 e26), List.forall_mem_cons.mpr ⟨fun t ht => (Option.some.inj ht) ▸ (nz_hz2 e27), List.forall_mem_cons.mpr ⟨fun t ht => (Option.some.inj ht) ▸ (nz_hz3 e28), List.forall_mem_nil _⟩⟩⟩⟩⟩)) (fun j hj hn => g j hj (by simp only [List.mem_cons, List.not_mem_nil, or_false, not_or] at hn; omega)) (nz_fi (g 2 (by decide) (by decide))) ((congrArg Int32.toInt (zz_i e3)).trans n76) ((zz_ai e25).trans w72) ((zz_ai e26).trans w73) ((zz_ai e27).trans w74) ((zz_al e28).trans w75))
                replace g7 : (sy_i F 70).toInt = 47 := by omega
                by_cases g8 : (sy_i F 70).toInt ≠ 60
                · have c3 := nz_bx hB (k := 3) (lo := 0) (hi := 402) rfl
                  have n76 : ((sy_i F 3) + ((1 : Int32))).toInt = ((sy_i F 3).toInt + 1) := nz_add (rfl : (sy_i F 3).toInt = (sy_i F 3).toInt) (by decide : ((1 : Int32)).toInt = 1) (by omega) (by omega)
                  have w72 : jm_upd (sy_ai F 25) (sy_i F 3).toNatClampNeg ((15 : Int32)) = jm_upd (sy_ai F 25) ((sy_i F 3).toInt).toNat ((15 : Int32)) := by simp only [nz_c, (by decide : ((15 : Int32)).toInt = 15)]
                  have w73 : jm_upd (sy_ai F 26) (sy_i F 3).toNatClampNeg (sy_i F 69) = jm_upd (sy_ai F 26) ((sy_i F 3).toInt).toNat (sy_i F 69) := by simp only [nz_c]
                  have w74 : jm_upd (sy_ai F 27) (sy_i F 3).toNatClampNeg ((0 : Int32)) = jm_upd (sy_ai F 27) ((sy_i F 3).toInt).toNat ((0 : Int32)) := by simp only [nz_c, (by decide : ((0 : Int32)).toInt = 0)]
                  have w75 : jm_updL (sy_al F 28) (sy_i F 3).toNatClampNeg ((0 : Int64)) = jm_updL (sy_al F 28) ((sy_i F 3).toInt).toNat ((0 : Int64)) := by simp only [nz_c]
                  exact rs_0_p2 hd F X1 X2 hB (by first | exact g0 | (simp only [nz_c]; exact g0)) (by first | exact g1 | (simp only [nz_c]; exact g1)) (by first | exact g2 | (simp only [nz_c]; exact g2)) (by first | exact g3 | (simp only [nz_c]; exact g3)) (by first | exact g4 | (simp only [nz_c]; exact g4)) (by first | exact g5 | (simp only [nz_c]; exact g5)) (by first | exact g6 | (simp only [nz_c]; exact g6)) (by first | exact g7 | (simp only [nz_c]; exact g7)) (by first | exact g8 | (simp only [nz_c]; exact g8)) (by first | exact ⟨by omega, by omega⟩ | (simp only [nz_c]; exact ⟨by omega, by omega⟩)) (by first | exact ⟨by omega, by omega⟩ | (simp only [nz_c]; exact ⟨by omega, by omega⟩)) (by first | exact ⟨by omega, by omega⟩ | (simp only [nz_c]; exact ⟨by omega, by omega⟩)) (by first | exact ⟨by omega, by omega⟩ | (simp only [nz_c]; exact ⟨by omega, by omega⟩)) (fun F1 g e3 e25 e26 e27 e28 => k2 g0 g1 g2 g3 g4 g5 g6 g7 g8 F1 (nz_in hB [3, 25, 26, 27, 28] (fun j hj hn => g j hj (by simp only [List.mem_cons, List.not_mem_nil, or_false, not_or] at hn; omega)) (List.forall_mem_cons.mpr ⟨fun t ht => (Option.some.inj ht) ▸ (nz_hi e3 n76 (o2 g0 g1 g2 g3 g4 g5 g6 g7 g8).1 (o2 g0 g1 g2 g3 g4 g5 g6 g7 g8).2), List.forall_mem_cons.mpr ⟨fun t ht => (Option.some.inj ht) ▸ (nz_hA e25 (nz_up (nz_ba hB (k := 25) (lo := 0) (hi := 42) rfl) (by decide : ((15 : Int32)).toInt = 15) (by omega) (by omega))), List.forall_mem_cons.mpr ⟨fun t ht => (Option.some.inj ht) ▸ (nz_hz2 e26), List.forall_mem_cons.mpr ⟨fun t ht => (Option.some.inj ht) ▸ (nz_hz2 e27), List.forall_mem_cons.mpr ⟨fun t ht => (Option.some.inj ht) ▸ (nz_hz3 e28), List.forall_mem_nil _⟩⟩⟩⟩⟩)) (fun j hj hn => g j hj (by simp only [List.mem_cons, List.not_mem_nil, or_false, not_or] at hn; omega)) (nz_fi (g 2 (by decide) (by decide))) ((congrArg Int32.toInt (zz_i e3)).trans n76) ((zz_ai e25).trans w72) ((zz_ai e26).trans w73) ((zz_ai e27).trans w74) ((zz_al e28).trans w75))
                replace g8 : (sy_i F 70).toInt = 60 := by omega
                exfalso
                omega
              replace g6 : (sy_i F 70).toInt = 42 := by omega
              by_cases g7 : (sy_i F 70).toInt ≠ 47
              · by_cases g8 : (sy_i F 70).toInt ≠ 60
                · have c3 := nz_bx hB (k := 3) (lo := 0) (hi := 402) rfl
                  have n76 : ((sy_i F 3) + ((1 : Int32))).toInt = ((sy_i F 3).toInt + 1) := nz_add (rfl : (sy_i F 3).toInt = (sy_i F 3).toInt) (by decide : ((1 : Int32)).toInt = 1) (by omega) (by omega)
                  have w72 : jm_upd (sy_ai F 25) (sy_i F 3).toNatClampNeg ((10 : Int32)) = jm_upd (sy_ai F 25) ((sy_i F 3).toInt).toNat ((10 : Int32)) := by simp only [nz_c, (by decide : ((10 : Int32)).toInt = 10)]
                  have w73 : jm_upd (sy_ai F 26) (sy_i F 3).toNatClampNeg (sy_i F 69) = jm_upd (sy_ai F 26) ((sy_i F 3).toInt).toNat (sy_i F 69) := by simp only [nz_c]
                  have w74 : jm_upd (sy_ai F 27) (sy_i F 3).toNatClampNeg ((0 : Int32)) = jm_upd (sy_ai F 27) ((sy_i F 3).toInt).toNat ((0 : Int32)) := by simp only [nz_c, (by decide : ((0 : Int32)).toInt = 0)]
                  have w75 : jm_updL (sy_al F 28) (sy_i F 3).toNatClampNeg ((0 : Int64)) = jm_updL (sy_al F 28) ((sy_i F 3).toInt).toNat ((0 : Int64)) := by simp only [nz_c]
                  exact rs_0_p3 hd F X1 X2 hB (by first | exact g0 | (simp only [nz_c]; exact g0)) (by first | exact g1 | (simp only [nz_c]; exact g1)) (by first | exact g2 | (simp only [nz_c]; exact g2)) (by first | exact g3 | (simp only [nz_c]; exact g3)) (by first | exact g4 | (simp only [nz_c]; exact g4)) (by first | exact g5 | (simp only [nz_c]; exact g5)) (by first | exact g6 | (simp only [nz_c]; exact g6)) (by first | exact g7 | (simp only [nz_c]; exact g7)) (by first | exact g8 | (simp only [nz_c]; exact g8)) (by first | exact ⟨by omega, by omega⟩ | (simp only [nz_c]; exact ⟨by omega, by omega⟩)) (by first | exact ⟨by omega, by omega⟩ | (simp only [nz_c]; exact ⟨by omega, by omega⟩)) (by first | exact ⟨by omega, by omega⟩ | (simp only [nz_c]; exact ⟨by omega, by omega⟩)) (by first | exact ⟨by omega, by omega⟩ | (simp only [nz_c]; exact ⟨by omega, by omega⟩)) (fun F1 g e3 e25 e26 e27 e28 => k3 g0 g1 g2 g3 g4 g5 g6 g7 g8 F1 (nz_in hB [3, 25, 26, 27, 28] (fun j hj hn => g j hj (by simp only [List.mem_cons, List.not_mem_nil, or_false, not_or] at hn; omega)) (List.forall_mem_cons.mpr ⟨fun t ht => (Option.some.inj ht) ▸ (nz_hi e3 n76 (o3 g0 g1 g2 g3 g4 g5 g6 g7 g8).1 (o3 g0 g1 g2 g3 g4 g5 g6 g7 g8).2), List.forall_mem_cons.mpr ⟨fun t ht => (Option.some.inj ht) ▸ (nz_hA e25 (nz_up (nz_ba hB (k := 25) (lo := 0) (hi := 42) rfl) (by decide : ((10 : Int32)).toInt = 10) (by omega) (by omega))), List.forall_mem_cons.mpr ⟨fun t ht => (Option.some.inj ht) ▸ (nz_hz2 e26), List.forall_mem_cons.mpr ⟨fun t ht => (Option.some.inj ht) ▸ (nz_hz2 e27), List.forall_mem_cons.mpr ⟨fun t ht => (Option.some.inj ht) ▸ (nz_hz3 e28), List.forall_mem_nil _⟩⟩⟩⟩⟩)) (fun j hj hn => g j hj (by simp only [List.mem_cons, List.not_mem_nil, or_false, not_or] at hn; omega)) (nz_fi (g 2 (by decide) (by decide))) ((congrArg Int32.toInt (zz_i e3)).trans n76) ((zz_ai e25).trans w72) ((zz_ai e26).trans w73) ((zz_ai e27).trans w74) ((zz_al e28).trans w75))
                replace g8 : (sy_i F 70).toInt = 60 := by omega
                exfalso
                omega
              replace g7 : (sy_i F 70).toInt = 47 := by omega
              exfalso
              omega
            replace g5 : (sy_i F 70).toInt = 45 := by omega
            by_cases g6 : (sy_i F 70).toInt ≠ 42
            · by_cases g7 : (sy_i F 70).toInt ≠ 47
              · by_cases g8 : (sy_i F 70).toInt ≠ 60
                · have c3 := nz_bx hB (k := 3) (lo := 0) (hi := 402) rfl
                  have n76 : ((sy_i F 3) + ((1 : Int32))).toInt = ((sy_i F 3).toInt + 1) := nz_add (rfl : (sy_i F 3).toInt = (sy_i F 3).toInt) (by decide : ((1 : Int32)).toInt = 1) (by omega) (by omega)
                  have w72 : jm_upd (sy_ai F 25) (sy_i F 3).toNatClampNeg ((9 : Int32)) = jm_upd (sy_ai F 25) ((sy_i F 3).toInt).toNat ((9 : Int32)) := by simp only [nz_c, (by decide : ((9 : Int32)).toInt = 9)]
                  have w73 : jm_upd (sy_ai F 26) (sy_i F 3).toNatClampNeg (sy_i F 69) = jm_upd (sy_ai F 26) ((sy_i F 3).toInt).toNat (sy_i F 69) := by simp only [nz_c]
                  have w74 : jm_upd (sy_ai F 27) (sy_i F 3).toNatClampNeg ((0 : Int32)) = jm_upd (sy_ai F 27) ((sy_i F 3).toInt).toNat ((0 : Int32)) := by simp only [nz_c, (by decide : ((0 : Int32)).toInt = 0)]
                  have w75 : jm_updL (sy_al F 28) (sy_i F 3).toNatClampNeg ((0 : Int64)) = jm_updL (sy_al F 28) ((sy_i F 3).toInt).toNat ((0 : Int64)) := by simp only [nz_c]
                  exact rs_0_p4 hd F X1 X2 hB (by first | exact g0 | (simp only [nz_c]; exact g0)) (by first | exact g1 | (simp only [nz_c]; exact g1)) (by first | exact g2 | (simp only [nz_c]; exact g2)) (by first | exact g3 | (simp only [nz_c]; exact g3)) (by first | exact g4 | (simp only [nz_c]; exact g4)) (by first | exact g5 | (simp only [nz_c]; exact g5)) (by first | exact g6 | (simp only [nz_c]; exact g6)) (by first | exact g7 | (simp only [nz_c]; exact g7)) (by first | exact g8 | (simp only [nz_c]; exact g8)) (by first | exact ⟨by omega, by omega⟩ | (simp only [nz_c]; exact ⟨by omega, by omega⟩)) (by first | exact ⟨by omega, by omega⟩ | (simp only [nz_c]; exact ⟨by omega, by omega⟩)) (by first | exact ⟨by omega, by omega⟩ | (simp only [nz_c]; exact ⟨by omega, by omega⟩)) (by first | exact ⟨by omega, by omega⟩ | (simp only [nz_c]; exact ⟨by omega, by omega⟩)) (fun F1 g e3 e25 e26 e27 e28 => k4 g0 g1 g2 g3 g4 g5 g6 g7 g8 F1 (nz_in hB [3, 25, 26, 27, 28] (fun j hj hn => g j hj (by simp only [List.mem_cons, List.not_mem_nil, or_false, not_or] at hn; omega)) (List.forall_mem_cons.mpr ⟨fun t ht => (Option.some.inj ht) ▸ (nz_hi e3 n76 (o4 g0 g1 g2 g3 g4 g5 g6 g7 g8).1 (o4 g0 g1 g2 g3 g4 g5 g6 g7 g8).2), List.forall_mem_cons.mpr ⟨fun t ht => (Option.some.inj ht) ▸ (nz_hA e25 (nz_up (nz_ba hB (k := 25) (lo := 0) (hi := 42) rfl) (by decide : ((9 : Int32)).toInt = 9) (by omega) (by omega))), List.forall_mem_cons.mpr ⟨fun t ht => (Option.some.inj ht) ▸ (nz_hz2 e26), List.forall_mem_cons.mpr ⟨fun t ht => (Option.some.inj ht) ▸ (nz_hz2 e27), List.forall_mem_cons.mpr ⟨fun t ht => (Option.some.inj ht) ▸ (nz_hz3 e28), List.forall_mem_nil _⟩⟩⟩⟩⟩)) (fun j hj hn => g j hj (by simp only [List.mem_cons, List.not_mem_nil, or_false, not_or] at hn; omega)) (nz_fi (g 2 (by decide) (by decide))) ((congrArg Int32.toInt (zz_i e3)).trans n76) ((zz_ai e25).trans w72) ((zz_ai e26).trans w73) ((zz_ai e27).trans w74) ((zz_al e28).trans w75))
                replace g8 : (sy_i F 70).toInt = 60 := by omega
                exfalso
                omega
              replace g7 : (sy_i F 70).toInt = 47 := by omega
              exfalso
              omega
            replace g6 : (sy_i F 70).toInt = 42 := by omega
            exfalso
            omega
          replace g4 : (sy_i F 70).toInt = 43 := by omega
          by_cases g5 : (sy_i F 70).toInt ≠ 45
          · by_cases g6 : (sy_i F 70).toInt ≠ 42
            · by_cases g7 : (sy_i F 70).toInt ≠ 47
              · by_cases g8 : (sy_i F 70).toInt ≠ 60
                · have c3 := nz_bx hB (k := 3) (lo := 0) (hi := 402) rfl
                  have n76 : ((sy_i F 3) + ((1 : Int32))).toInt = ((sy_i F 3).toInt + 1) := nz_add (rfl : (sy_i F 3).toInt = (sy_i F 3).toInt) (by decide : ((1 : Int32)).toInt = 1) (by omega) (by omega)
                  have w72 : jm_upd (sy_ai F 25) (sy_i F 3).toNatClampNeg ((8 : Int32)) = jm_upd (sy_ai F 25) ((sy_i F 3).toInt).toNat ((8 : Int32)) := by simp only [nz_c, (by decide : ((8 : Int32)).toInt = 8)]
                  have w73 : jm_upd (sy_ai F 26) (sy_i F 3).toNatClampNeg (sy_i F 69) = jm_upd (sy_ai F 26) ((sy_i F 3).toInt).toNat (sy_i F 69) := by simp only [nz_c]
                  have w74 : jm_upd (sy_ai F 27) (sy_i F 3).toNatClampNeg ((0 : Int32)) = jm_upd (sy_ai F 27) ((sy_i F 3).toInt).toNat ((0 : Int32)) := by simp only [nz_c, (by decide : ((0 : Int32)).toInt = 0)]
                  have w75 : jm_updL (sy_al F 28) (sy_i F 3).toNatClampNeg ((0 : Int64)) = jm_updL (sy_al F 28) ((sy_i F 3).toInt).toNat ((0 : Int64)) := by simp only [nz_c]
                  exact rs_0_p5 hd F X1 X2 hB (by first | exact g0 | (simp only [nz_c]; exact g0)) (by first | exact g1 | (simp only [nz_c]; exact g1)) (by first | exact g2 | (simp only [nz_c]; exact g2)) (by first | exact g3 | (simp only [nz_c]; exact g3)) (by first | exact g4 | (simp only [nz_c]; exact g4)) (by first | exact g5 | (simp only [nz_c]; exact g5)) (by first | exact g6 | (simp only [nz_c]; exact g6)) (by first | exact g7 | (simp only [nz_c]; exact g7)) (by first | exact g8 | (simp only [nz_c]; exact g8)) (by first | exact ⟨by omega, by omega⟩ | (simp only [nz_c]; exact ⟨by omega, by omega⟩)) (by first | exact ⟨by omega, by omega⟩ | (simp only [nz_c]; exact ⟨by omega, by omega⟩)) (by first | exact ⟨by omega, by omega⟩ | (simp only [nz_c]; exact ⟨by omega, by omega⟩)) (by first | exact ⟨by omega, by omega⟩ | (simp only [nz_c]; exact ⟨by omega, by omega⟩)) (fun F1 g e3 e25 e26 e27 e28 => k5 g0 g1 g2 g3 g4 g5 g6 g7 g8 F1 (nz_in hB [3, 25, 26, 27, 28] (fun j hj hn => g j hj (by simp only [List.mem_cons, List.not_mem_nil, or_false, not_or] at hn; omega)) (List.forall_mem_cons.mpr ⟨fun t ht => (Option.some.inj ht) ▸ (nz_hi e3 n76 (o5 g0 g1 g2 g3 g4 g5 g6 g7 g8).1 (o5 g0 g1 g2 g3 g4 g5 g6 g7 g8).2), List.forall_mem_cons.mpr ⟨fun t ht => (Option.some.inj ht) ▸ (nz_hA e25 (nz_up (nz_ba hB (k := 25) (lo := 0) (hi := 42) rfl) (by decide : ((8 : Int32)).toInt = 8) (by omega) (by omega))), List.forall_mem_cons.mpr ⟨fun t ht => (Option.some.inj ht) ▸ (nz_hz2 e26), List.forall_mem_cons.mpr ⟨fun t ht => (Option.some.inj ht) ▸ (nz_hz2 e27), List.forall_mem_cons.mpr ⟨fun t ht => (Option.some.inj ht) ▸ (nz_hz3 e28), List.forall_mem_nil _⟩⟩⟩⟩⟩)) (fun j hj hn => g j hj (by simp only [List.mem_cons, List.not_mem_nil, or_false, not_or] at hn; omega)) (nz_fi (g 2 (by decide) (by decide))) ((congrArg Int32.toInt (zz_i e3)).trans n76) ((zz_ai e25).trans w72) ((zz_ai e26).trans w73) ((zz_ai e27).trans w74) ((zz_al e28).trans w75))
                replace g8 : (sy_i F 70).toInt = 60 := by omega
                exfalso
                omega
              replace g7 : (sy_i F 70).toInt = 47 := by omega
              exfalso
              omega
            replace g6 : (sy_i F 70).toInt = 42 := by omega
            exfalso
            omega
          replace g5 : (sy_i F 70).toInt = 45 := by omega
          exfalso
          omega
        replace g3 : (sy_i F 70).toInt = 41 := by omega
        by_cases g4 : (sy_i F 70).toInt ≠ 43
        · by_cases g5 : (sy_i F 70).toInt ≠ 45
          · by_cases g6 : (sy_i F 70).toInt ≠ 42
            · by_cases g7 : (sy_i F 70).toInt ≠ 47
              · by_cases g8 : (sy_i F 70).toInt ≠ 60
                · have c3 := nz_bx hB (k := 3) (lo := 0) (hi := 402) rfl
                  have n76 : ((sy_i F 3) + ((1 : Int32))).toInt = ((sy_i F 3).toInt + 1) := nz_add (rfl : (sy_i F 3).toInt = (sy_i F 3).toInt) (by decide : ((1 : Int32)).toInt = 1) (by omega) (by omega)
                  have w72 : jm_upd (sy_ai F 25) (sy_i F 3).toNatClampNeg ((7 : Int32)) = jm_upd (sy_ai F 25) ((sy_i F 3).toInt).toNat ((7 : Int32)) := by simp only [nz_c, (by decide : ((7 : Int32)).toInt = 7)]
                  have w73 : jm_upd (sy_ai F 26) (sy_i F 3).toNatClampNeg (sy_i F 69) = jm_upd (sy_ai F 26) ((sy_i F 3).toInt).toNat (sy_i F 69) := by simp only [nz_c]
                  have w74 : jm_upd (sy_ai F 27) (sy_i F 3).toNatClampNeg ((0 : Int32)) = jm_upd (sy_ai F 27) ((sy_i F 3).toInt).toNat ((0 : Int32)) := by simp only [nz_c, (by decide : ((0 : Int32)).toInt = 0)]
                  have w75 : jm_updL (sy_al F 28) (sy_i F 3).toNatClampNeg ((0 : Int64)) = jm_updL (sy_al F 28) ((sy_i F 3).toInt).toNat ((0 : Int64)) := by simp only [nz_c]
                  exact rs_0_p6 hd F X1 X2 hB (by first | exact g0 | (simp only [nz_c]; exact g0)) (by first | exact g1 | (simp only [nz_c]; exact g1)) (by first | exact g2 | (simp only [nz_c]; exact g2)) (by first | exact g3 | (simp only [nz_c]; exact g3)) (by first | exact g4 | (simp only [nz_c]; exact g4)) (by first | exact g5 | (simp only [nz_c]; exact g5)) (by first | exact g6 | (simp only [nz_c]; exact g6)) (by first | exact g7 | (simp only [nz_c]; exact g7)) (by first | exact g8 | (simp only [nz_c]; exact g8)) (by first | exact ⟨by omega, by omega⟩ | (simp only [nz_c]; exact ⟨by omega, by omega⟩)) (by first | exact ⟨by omega, by omega⟩ | (simp only [nz_c]; exact ⟨by omega, by omega⟩)) (by first | exact ⟨by omega, by omega⟩ | (simp only [nz_c]; exact ⟨by omega, by omega⟩)) (by first | exact ⟨by omega, by omega⟩ | (simp only [nz_c]; exact ⟨by omega, by omega⟩)) (fun F1 g e3 e25 e26 e27 e28 => k6 g0 g1 g2 g3 g4 g5 g6 g7 g8 F1 (nz_in hB [3, 25, 26, 27, 28] (fun j hj hn => g j hj (by simp only [List.mem_cons, List.not_mem_nil, or_false, not_or] at hn; omega)) (List.forall_mem_cons.mpr ⟨fun t ht => (Option.some.inj ht) ▸ (nz_hi e3 n76 (o6 g0 g1 g2 g3 g4 g5 g6 g7 g8).1 (o6 g0 g1 g2 g3 g4 g5 g6 g7 g8).2), List.forall_mem_cons.mpr ⟨fun t ht => (Option.some.inj ht) ▸ (nz_hA e25 (nz_up (nz_ba hB (k := 25) (lo := 0) (hi := 42) rfl) (by decide : ((7 : Int32)).toInt = 7) (by omega) (by omega))), List.forall_mem_cons.mpr ⟨fun t ht => (Option.some.inj ht) ▸ (nz_hz2 e26), List.forall_mem_cons.mpr ⟨fun t ht => (Option.some.inj ht) ▸ (nz_hz2 e27), List.forall_mem_cons.mpr ⟨fun t ht => (Option.some.inj ht) ▸ (nz_hz3 e28), List.forall_mem_nil _⟩⟩⟩⟩⟩)) (fun j hj hn => g j hj (by simp only [List.mem_cons, List.not_mem_nil, or_false, not_or] at hn; omega)) (nz_fi (g 2 (by decide) (by decide))) ((congrArg Int32.toInt (zz_i e3)).trans n76) ((zz_ai e25).trans w72) ((zz_ai e26).trans w73) ((zz_ai e27).trans w74) ((zz_al e28).trans w75))
                replace g8 : (sy_i F 70).toInt = 60 := by omega
                exfalso
                omega
              replace g7 : (sy_i F 70).toInt = 47 := by omega
              exfalso
              omega
            replace g6 : (sy_i F 70).toInt = 42 := by omega
            exfalso
            omega
          replace g5 : (sy_i F 70).toInt = 45 := by omega
          exfalso
          omega
        replace g4 : (sy_i F 70).toInt = 43 := by omega
        exfalso
        omega
      replace g2 : (sy_i F 70).toInt = 40 := by omega
      by_cases g3 : (sy_i F 70).toInt ≠ 43
      · by_cases g4 : (sy_i F 70).toInt ≠ 45
        · by_cases g5 : (sy_i F 70).toInt ≠ 42
          · by_cases g6 : (sy_i F 70).toInt ≠ 47
            · by_cases g7 : (sy_i F 70).toInt ≠ 60
              · have c3 := nz_bx hB (k := 3) (lo := 0) (hi := 402) rfl
                have n76 : ((sy_i F 3) + ((1 : Int32))).toInt = ((sy_i F 3).toInt + 1) := nz_add (rfl : (sy_i F 3).toInt = (sy_i F 3).toInt) (by decide : ((1 : Int32)).toInt = 1) (by omega) (by omega)
                have w72 : jm_upd (sy_ai F 25) (sy_i F 3).toNatClampNeg ((6 : Int32)) = jm_upd (sy_ai F 25) ((sy_i F 3).toInt).toNat ((6 : Int32)) := by simp only [nz_c, (by decide : ((6 : Int32)).toInt = 6)]
                have w73 : jm_upd (sy_ai F 26) (sy_i F 3).toNatClampNeg (sy_i F 69) = jm_upd (sy_ai F 26) ((sy_i F 3).toInt).toNat (sy_i F 69) := by simp only [nz_c]
                have w74 : jm_upd (sy_ai F 27) (sy_i F 3).toNatClampNeg ((0 : Int32)) = jm_upd (sy_ai F 27) ((sy_i F 3).toInt).toNat ((0 : Int32)) := by simp only [nz_c, (by decide : ((0 : Int32)).toInt = 0)]
                have w75 : jm_updL (sy_al F 28) (sy_i F 3).toNatClampNeg ((0 : Int64)) = jm_updL (sy_al F 28) ((sy_i F 3).toInt).toNat ((0 : Int64)) := by simp only [nz_c]
                exact rs_0_p7 hd F X1 X2 hB (by first | exact g0 | (simp only [nz_c]; exact g0)) (by first | exact g1 | (simp only [nz_c]; exact g1)) (by first | exact g2 | (simp only [nz_c]; exact g2)) (by first | exact g3 | (simp only [nz_c]; exact g3)) (by first | exact g4 | (simp only [nz_c]; exact g4)) (by first | exact g5 | (simp only [nz_c]; exact g5)) (by first | exact g6 | (simp only [nz_c]; exact g6)) (by first | exact g7 | (simp only [nz_c]; exact g7)) (by first | exact ⟨by omega, by omega⟩ | (simp only [nz_c]; exact ⟨by omega, by omega⟩)) (by first | exact ⟨by omega, by omega⟩ | (simp only [nz_c]; exact ⟨by omega, by omega⟩)) (by first | exact ⟨by omega, by omega⟩ | (simp only [nz_c]; exact ⟨by omega, by omega⟩)) (by first | exact ⟨by omega, by omega⟩ | (simp only [nz_c]; exact ⟨by omega, by omega⟩)) (fun F1 g e3 e25 e26 e27 e28 => k7 g0 g1 g2 g3 g4 g5 g6 g7 F1 (nz_in hB [3, 25, 26, 27, 28] (fun j hj hn => g j hj (by simp only [List.mem_cons, List.not_mem_nil, or_false, not_or] at hn; omega)) (List.forall_mem_cons.mpr ⟨fun t ht => (Option.some.inj ht) ▸ (nz_hi e3 n76 (o7 g0 g1 g2 g3 g4 g5 g6 g7).1 (o7 g0 g1 g2 g3 g4 g5 g6 g7).2), List.forall_mem_cons.mpr ⟨fun t ht => (Option.some.inj ht) ▸ (nz_hA e25 (nz_up (nz_ba hB (k := 25) (lo := 0) (hi := 42) rfl) (by decide : ((6 : Int32)).toInt = 6) (by omega) (by omega))), List.forall_mem_cons.mpr ⟨fun t ht => (Option.some.inj ht) ▸ (nz_hz2 e26), List.forall_mem_cons.mpr ⟨fun t ht => (Option.some.inj ht) ▸ (nz_hz2 e27), List.forall_mem_cons.mpr ⟨fun t ht => (Option.some.inj ht) ▸ (nz_hz3 e28), List.forall_mem_nil _⟩⟩⟩⟩⟩)) (fun j hj hn => g j hj (by simp only [List.mem_cons, List.not_mem_nil, or_false, not_or] at hn; omega)) (nz_fi (g 2 (by decide) (by decide))) ((congrArg Int32.toInt (zz_i e3)).trans n76) ((zz_ai e25).trans w72) ((zz_ai e26).trans w73) ((zz_ai e27).trans w74) ((zz_al e28).trans w75))
              replace g7 : (sy_i F 70).toInt = 60 := by omega
              exfalso
              omega
            replace g6 : (sy_i F 70).toInt = 47 := by omega
            exfalso
            omega
          replace g5 : (sy_i F 70).toInt = 42 := by omega
          exfalso
          omega
        replace g4 : (sy_i F 70).toInt = 45 := by omega
        exfalso
        omega
      replace g3 : (sy_i F 70).toInt = 43 := by omega
      exfalso
      omega
    replace g1 : (sy_i F 70).toInt = 61 := by omega
    by_cases g2 : (sy_i F 70).toInt ≠ 43
    · by_cases g3 : (sy_i F 70).toInt ≠ 45
      · by_cases g4 : (sy_i F 70).toInt ≠ 42
        · by_cases g5 : (sy_i F 70).toInt ≠ 47
          · by_cases g6 : (sy_i F 70).toInt ≠ 60
            · have c3 := nz_bx hB (k := 3) (lo := 0) (hi := 402) rfl
              have n76 : ((sy_i F 3) + ((1 : Int32))).toInt = ((sy_i F 3).toInt + 1) := nz_add (rfl : (sy_i F 3).toInt = (sy_i F 3).toInt) (by decide : ((1 : Int32)).toInt = 1) (by omega) (by omega)
              have w72 : jm_upd (sy_ai F 25) (sy_i F 3).toNatClampNeg ((5 : Int32)) = jm_upd (sy_ai F 25) ((sy_i F 3).toInt).toNat ((5 : Int32)) := by simp only [nz_c, (by decide : ((5 : Int32)).toInt = 5)]
              have w73 : jm_upd (sy_ai F 26) (sy_i F 3).toNatClampNeg (sy_i F 69) = jm_upd (sy_ai F 26) ((sy_i F 3).toInt).toNat (sy_i F 69) := by simp only [nz_c]
              have w74 : jm_upd (sy_ai F 27) (sy_i F 3).toNatClampNeg ((0 : Int32)) = jm_upd (sy_ai F 27) ((sy_i F 3).toInt).toNat ((0 : Int32)) := by simp only [nz_c, (by decide : ((0 : Int32)).toInt = 0)]
              have w75 : jm_updL (sy_al F 28) (sy_i F 3).toNatClampNeg ((0 : Int64)) = jm_updL (sy_al F 28) ((sy_i F 3).toInt).toNat ((0 : Int64)) := by simp only [nz_c]
              exact rs_0_p8 hd F X1 X2 hB (by first | exact g0 | (simp only [nz_c]; exact g0)) (by first | exact g1 | (simp only [nz_c]; exact g1)) (by first | exact g2 | (simp only [nz_c]; exact g2)) (by first | exact g3 | (simp only [nz_c]; exact g3)) (by first | exact g4 | (simp only [nz_c]; exact g4)) (by first | exact g5 | (simp only [nz_c]; exact g5)) (by first | exact g6 | (simp only [nz_c]; exact g6)) (by first | exact ⟨by omega, by omega⟩ | (simp only [nz_c]; exact ⟨by omega, by omega⟩)) (by first | exact ⟨by omega, by omega⟩ | (simp only [nz_c]; exact ⟨by omega, by omega⟩)) (by first | exact ⟨by omega, by omega⟩ | (simp only [nz_c]; exact ⟨by omega, by omega⟩)) (by first | exact ⟨by omega, by omega⟩ | (simp only [nz_c]; exact ⟨by omega, by omega⟩)) (fun F1 g e3 e25 e26 e27 e28 => k8 g0 g1 g2 g3 g4 g5 g6 F1 (nz_in hB [3, 25, 26, 27, 28] (fun j hj hn => g j hj (by simp only [List.mem_cons, List.not_mem_nil, or_false, not_or] at hn; omega)) (List.forall_mem_cons.mpr ⟨fun t ht => (Option.some.inj ht) ▸ (nz_hi e3 n76 (o8 g0 g1 g2 g3 g4 g5 g6).1 (o8 g0 g1 g2 g3 g4 g5 g6).2), List.forall_mem_cons.mpr ⟨fun t ht => (Option.some.inj ht) ▸ (nz_hA e25 (nz_up (nz_ba hB (k := 25) (lo := 0) (hi := 42) rfl) (by decide : ((5 : Int32)).toInt = 5) (by omega) (by omega))), List.forall_mem_cons.mpr ⟨fun t ht => (Option.some.inj ht) ▸ (nz_hz2 e26), List.forall_mem_cons.mpr ⟨fun t ht => (Option.some.inj ht) ▸ (nz_hz2 e27), List.forall_mem_cons.mpr ⟨fun t ht => (Option.some.inj ht) ▸ (nz_hz3 e28), List.forall_mem_nil _⟩⟩⟩⟩⟩)) (fun j hj hn => g j hj (by simp only [List.mem_cons, List.not_mem_nil, or_false, not_or] at hn; omega)) (nz_fi (g 2 (by decide) (by decide))) ((congrArg Int32.toInt (zz_i e3)).trans n76) ((zz_ai e25).trans w72) ((zz_ai e26).trans w73) ((zz_ai e27).trans w74) ((zz_al e28).trans w75))
            replace g6 : (sy_i F 70).toInt = 60 := by omega
            exfalso
            omega
          replace g5 : (sy_i F 70).toInt = 47 := by omega
          exfalso
          omega
        replace g4 : (sy_i F 70).toInt = 42 := by omega
        exfalso
        omega
      replace g3 : (sy_i F 70).toInt = 45 := by omega
      exfalso
      omega
    replace g2 : (sy_i F 70).toInt = 43 := by omega
    exfalso
    omega
  replace g0 : (sy_i F 70).toInt = 59 := by omega
  by_cases g1 : (sy_i F 70).toInt ≠ 43
  · by_cases g2 : (sy_i F 70).toInt ≠ 45
    · by_cases g3 : (sy_i F 70).toInt ≠ 42
      · by_cases g4 : (sy_i F 70).toInt ≠ 47
        · by_cases g5 : (sy_i F 70).toInt ≠ 60
          · have c3 := nz_bx hB (k := 3) (lo := 0) (hi := 402) rfl
            have n76 : ((sy_i F 3) + ((1 : Int32))).toInt = ((sy_i F 3).toInt + 1) := nz_add (rfl : (sy_i F 3).toInt = (sy_i F 3).toInt) (by decide : ((1 : Int32)).toInt = 1) (by omega) (by omega)
            have w72 : jm_upd (sy_ai F 25) (sy_i F 3).toNatClampNeg ((4 : Int32)) = jm_upd (sy_ai F 25) ((sy_i F 3).toInt).toNat ((4 : Int32)) := by simp only [nz_c, (by decide : ((4 : Int32)).toInt = 4)]
            have w73 : jm_upd (sy_ai F 26) (sy_i F 3).toNatClampNeg (sy_i F 69) = jm_upd (sy_ai F 26) ((sy_i F 3).toInt).toNat (sy_i F 69) := by simp only [nz_c]
            have w74 : jm_upd (sy_ai F 27) (sy_i F 3).toNatClampNeg ((0 : Int32)) = jm_upd (sy_ai F 27) ((sy_i F 3).toInt).toNat ((0 : Int32)) := by simp only [nz_c, (by decide : ((0 : Int32)).toInt = 0)]
            have w75 : jm_updL (sy_al F 28) (sy_i F 3).toNatClampNeg ((0 : Int64)) = jm_updL (sy_al F 28) ((sy_i F 3).toInt).toNat ((0 : Int64)) := by simp only [nz_c]
            exact rs_0_p9 hd F X1 X2 hB (by first | exact g0 | (simp only [nz_c]; exact g0)) (by first | exact g1 | (simp only [nz_c]; exact g1)) (by first | exact g2 | (simp only [nz_c]; exact g2)) (by first | exact g3 | (simp only [nz_c]; exact g3)) (by first | exact g4 | (simp only [nz_c]; exact g4)) (by first | exact g5 | (simp only [nz_c]; exact g5)) (by first | exact ⟨by omega, by omega⟩ | (simp only [nz_c]; exact ⟨by omega, by omega⟩)) (by first | exact ⟨by omega, by omega⟩ | (simp only [nz_c]; exact ⟨by omega, by omega⟩)) (by first | exact ⟨by omega, by omega⟩ | (simp only [nz_c]; exact ⟨by omega, by omega⟩)) (by first | exact ⟨by omega, by omega⟩ | (simp only [nz_c]; exact ⟨by omega, by omega⟩)) (fun F1 g e3 e25 e26 e27 e28 => k9 g0 g1 g2 g3 g4 g5 F1 (nz_in hB [3, 25, 26, 27, 28] (fun j hj hn => g j hj (by simp only [List.mem_cons, List.not_mem_nil, or_false, not_or] at hn; omega)) (List.forall_mem_cons.mpr ⟨fun t ht => (Option.some.inj ht) ▸ (nz_hi e3 n76 (o9 g0 g1 g2 g3 g4 g5).1 (o9 g0 g1 g2 g3 g4 g5).2), List.forall_mem_cons.mpr ⟨fun t ht => (Option.some.inj ht) ▸ (nz_hA e25 (nz_up (nz_ba hB (k := 25) (lo := 0) (hi := 42) rfl) (by decide : ((4 : Int32)).toInt = 4) (by omega) (by omega))), List.forall_mem_cons.mpr ⟨fun t ht => (Option.some.inj ht) ▸ (nz_hz2 e26), List.forall_mem_cons.mpr ⟨fun t ht => (Option.some.inj ht) ▸ (nz_hz2 e27), List.forall_mem_cons.mpr ⟨fun t ht => (Option.some.inj ht) ▸ (nz_hz3 e28), List.forall_mem_nil _⟩⟩⟩⟩⟩)) (fun j hj hn => g j hj (by simp only [List.mem_cons, List.not_mem_nil, or_false, not_or] at hn; omega)) (nz_fi (g 2 (by decide) (by decide))) ((congrArg Int32.toInt (zz_i e3)).trans n76) ((zz_ai e25).trans w72) ((zz_ai e26).trans w73) ((zz_ai e27).trans w74) ((zz_al e28).trans w75))
          replace g5 : (sy_i F 70).toInt = 60 := by omega
          exfalso
          omega
        replace g4 : (sy_i F 70).toInt = 47 := by omega
        exfalso
        omega
      replace g3 : (sy_i F 70).toInt = 42 := by omega
      exfalso
      omega
    replace g2 : (sy_i F 70).toInt = 45 := by omega
    exfalso
    omega
  replace g1 : (sy_i F 70).toInt = 43 := by omega
  exfalso
  omega
end
section
/-! ===== the reference cuts a text into tokens ===== -/
theorem lgq (x y : Int64) : (lg_cmp x y).toInt = 0 ↔ x = y := by
  unfold lg_cmp
  split
  · rename_i h
    have := Int64.lt_iff_toInt_lt.mp h
    exact ⟨fun q => absurd q (by decide), fun q => by rw [q] at this; omega⟩
  · split
    · rename_i h
      exact ⟨fun _ => h, fun _ => by decide⟩
    · rename_i h
      exact ⟨fun q => absurd q (by decide), fun q => absurd q h⟩
theorem uW_c {w : Nat → Int64} {x : Int64} : ∀ k : Nat, uW w x k = 1 ∨ uW w x k ≤ 19 + (k : Int)
  | 0 => Or.inl rfl
  | k + 1 => by
    have h := uW_c (w := w) (x := x) k
    unfold uW
    split <;> omega
abbrev WU : List Nat := [3, 25, 26, 27, 28]
noncomputable def zf (F : Nat → sy_d) : Nat := (sy_i F 2).toInt.toNat
noncomputable def bf (F : Nat → sy_d) : Nat → Int := ub (sy_ai F 24) (zf F)
noncomputable def wf (F : Nat → sy_d) (k : Nat) : Int64 := (sy_al F 29).getD k 0
noncomputable def tf_ (F0 F : Nat → sy_d) (j : Nat) : Prop := tk (bf F0) (zf F0) (wf F0) (kf F) (pf F) (vf F) (nf F) j
noncomputable def rcQ (X1 X2 : List jm_c) (F0 : Nat → sy_d) (v : Option Value) (G : jm_h) : Prop := ∃ F' : Nat → sy_d, v = none ∧ G = sy_dh F' X1 X2 (iv_H 4) ∧ iv_in F' iv_B4 ∧ (∀ j, j < 69 → j ∉ WU → F' j = F0 j) ∧ ∃ L : Nat, L ≤ 400 ∧ (∀ j, j ≤ L → tf_ F0 F' j) ∧ (∀ j, j < L → kf F' j ≠ 0) ∧ (kf F' L = 0 ∨ L = 400)
/-- so far: the byte i, T tokens cut -/
noncomputable def cI (F0 F : Nat → sy_d) (i T : Nat) : Prop := iv_in F iv_B4 ∧ (∀ j, j < 69 → j ∉ WU → F j = F0 j) ∧ i ≤ zf F0 ∧ (sy_i F 3).toInt = T ∧ (∀ j, j < T → tf_ F0 F j ∧ kf F j ≠ 0) ∧ uR uB (bf F0) (zf F0) i = uP (bf F0) (zf F0) T
theorem cI_eq {F0 F F1 : Nat → sy_d} {i T : Nat} (h : cI F0 F i T) (hb : iv_in F1 iv_B4) (g : ∀ j, j < 69 → F1 j = F j) : cI F0 F1 i T := by
  obtain ⟨h1, h2, h3, h4, h5, h6⟩ := h
  refine ⟨hb, fun j hj hn => (g j hj).trans (h2 j hj hn), h3, by rw [nz_fi (g 3 (by decide))]; exact h4, fun j hj => ?_, h6⟩
  unfold tf_
  rw [kf_eq (g 25 (by decide)), pf_eq (g 26 (by decide)), vf_eq (g 27 (by decide)), nf_eq (g 28 (by decide))]
  exact h5 j hj
theorem tf_push {F0 F F1 : Nat → sy_d} {i T : Nat} {k p v : Int32} {nm : Int64} (h : cI F0 F i T) (hi : uP (bf F0) (zf F0) T = i) (a25 : sy_ai F1 25 = jm_upd (sy_ai F 25) ((sy_i F 3).toInt).toNat k) (a26 : sy_ai F1 26 = jm_upd (sy_ai F 26) ((sy_i F 3).toInt).toNat p) (a27 : sy_ai F1 27 = jm_upd (sy_ai F 27) ((sy_i F 3).toInt).toNat v) (a28 : sy_al F1 28 = jm_updL (sy_al F 28) ((sy_i F 3).toInt).toNat nm)
    (hk : k.toInt = uK (bf F0) (zf F0) (wf F0) i) (hp : p.toInt = i) (hv : k.toInt = 2 → v.toInt = uF gd (bf F0) i (uR uD (bf F0) (zf F0) i - i) 0) (hn : k.toInt = 1 → nm = uF gl (bf F0) i (uR uL (bf F0) (zf F0) i - i) 0) : (∀ j, j ≤ T → tf_ F0 F1 j) ∧ (∀ j, j < T → kf F1 j ≠ 0) ∧ kf F1 T = k.toInt := by
  obtain ⟨h1, h2, h3, h4, h5, h6⟩ := h
  rw [h4, Int.toNat_natCast] at a25 a26 a27 a28
  have k0 : ∀ j, kf F1 j = if j = T then k.toInt else kf F j := fun j => by unfold kf; rw [a25, jm_upd_at]; split <;> rfl
  have p0 : ∀ j, pf F1 j = if j = T then p.toInt else pf F j := fun j => by unfold pf; rw [a26, jm_upd_at]; split <;> rfl
  have v0 : ∀ j, vf F1 j = if j = T then v.toInt else vf F j := fun j => by unfold vf; rw [a27, jm_upd_at]; split <;> rfl
  have n0 : ∀ j, nf F1 j = if j = T then nm else nf F j := fun j => by unfold nf; rw [a28, jm_updL_at]
  refine ⟨fun j hj => ?_, fun j hj => ?_, by rw [k0, if_pos rfl]⟩
  · by_cases q : j = T
    · unfold tf_ tk
      rw [k0, p0, v0, n0, if_pos q, if_pos q, if_pos q, if_pos q, q, hi]
      exact ⟨hp, hk, hv, hn⟩
    · have := (h5 j (by omega)).1
      unfold tf_ tk at this ⊢
      rw [k0, p0, v0, n0, if_neg q, if_neg q, if_neg q, if_neg q]
      exact this
  · rw [k0, if_neg (by omega)]
    exact (h5 j hj).2
theorem cI_push {F0 F F1 : Nat → sy_d} {i T : Nat} {k p v : Int32} {nm : Int64} (h : cI F0 F i T) (hi : uP (bf F0) (zf F0) T = i) (hb : iv_in F1 iv_B4) (g : ∀ j, j < 69 → j ∉ ([3, 25, 26, 27, 28] : List Nat) → F1 j = F j) (e3 : (sy_i F1 3).toInt = (sy_i F 3).toInt + 1) (a25 : sy_ai F1 25 = jm_upd (sy_ai F 25) ((sy_i F 3).toInt).toNat k) (a26 : sy_ai F1 26 = jm_upd (sy_ai F 26) ((sy_i F 3).toInt).toNat p) (a27 : sy_ai F1 27 = jm_upd (sy_ai F 27) ((sy_i F 3).toInt).toNat v) (a28 : sy_al F1 28 = jm_updL (sy_al F 28) ((sy_i F 3).toInt).toNat nm)
    (hk : k.toInt = uK (bf F0) (zf F0) (wf F0) i) (hk0 : k.toInt ≠ 0) (hp : p.toInt = i) (hv : k.toInt = 2 → v.toInt = uF gd (bf F0) i (uR uD (bf F0) (zf F0) i - i) 0) (hn : k.toInt = 1 → nm = uF gl (bf F0) i (uR uL (bf F0) (zf F0) i - i) 0) {i' : Nat} (hi' : i' = uN (bf F0) (zf F0) i) : cI F0 F1 i' (T + 1) := by
  obtain ⟨q1, q2, q3⟩ := tf_push h hi a25 a26 a27 a28 hk hp hv hn
  obtain ⟨h1, h2, h3, h4, h5, h6⟩ := h
  refine ⟨hb, fun j hj hn => (g j hj hn).trans (h2 j hj hn), by rw [hi']; exact uN_le h3, by omega, fun j hj => ⟨q1 j (by omega), ?_⟩, ?_⟩
  · by_cases q : j = T
    · rw [q, q3]; exact hk0
    · exact q2 j (by omega)
  · rw [hi', ← hi]
    rfl
theorem by_ {F0 F : Nat → sy_d} (h : F 24 = F0 24) {z : Int} {p : Nat} (hz : z = p) (hp : p < zf F0) : ((sy_ai F 24).getD z.toNat 0 &&& 255).toInt = bf F0 p := by
  rw [nz_fa h, hz, Int.toNat_natCast]
  exact ub_and hp
section RC
variable {Ls : Nat} {xs : Nat → Int32} (X1 X2 : List jm_c) {F0 : Nat → sy_d} {Q : Option Value → jm_h → Prop}
abbrev rc7 (Ls : Nat) (xs : Nat → Int32) (X1 X2 : List jm_c) (Q : Option Value → jm_h → Prop) (F : Nat → sy_d) : Prop := hd_W Ls xs 5 jm_M142 Q (7, sy_dL F [some (.inl (.ref 1000)), some (.inr (.inl 69)), none, none, none, none, none, none], sy_dS F [], sy_dh F X1 X2 (iv_H 4), 0, 0)
/-- which word: one after the other -/
theorem rc_l {i c T : Nat} (hi : i < zf F0) (hu : uP (bf F0) (zf F0) T = i) (hL : uL (bf F0 i) = true) (hr : uR uL (bf F0) (zf F0) i = i + c) (hc : c ≤ 8) (K : ∀ F1 : Nat → sy_d, cI F0 F1 (i + c) (T + 1) → (sy_i F1 69).toInt = (i + c : Nat) → rc7 Ls xs X1 X2 Q F1) :
    ∀ (m : Nat) (F : Nat → sy_d) (k : Nat), 23 - k < m → k ≤ 23 → T ≤ 400 → cI F0 F i T → (sy_i F 69).toInt = i → (sy_i F 70).toInt = c → sy_l F 71 = uF gl (bf F0) i c 0 → (sy_i F 73).toInt = k → (sy_i F 72).toInt = uW (wf F0) (uF gl (bf F0) i c 0) k →
    hd_W Ls xs 5 jm_M142 Q (146, sy_dL F [some (.inl (.ref 1000)), some (.inr (.inl 69)), none, some (.inr (.inl 70)), some (.inr (.inr 71)), none, some (.inr (.inl 72)), some (.inr (.inl 73))], sy_dS F [], sy_dh F X1 X2 (iv_H 4), 0, 0) := by
  intro m
  induction m with
  | zero => intro F k hm; omega
  | succ m ih =>
    intro F k hm hk hT hI e69 e70 e71 e73 e72
    have hz : zf F0 ≤ 2000 := by
      have := nz_bx hI.1 (k := 2) (lo := 0) (hi := 2000) rfl
      have e := nz_fi (hI.2.1 2 (by decide) (by decide))
      unfold zf
      omega
    have hT3 := hI.2.2.2.1
    have hw := uW_b (w := wf F0) (x := uF gl (bf F0) i c 0) k
    have hw2 := uW_c (w := wf F0) (x := uF gl (bf F0) i c 0) k
    have hK : k = 23 → uK (bf F0) (zf F0) (wf F0) i = (sy_i F 72).toInt := fun z => by
      unfold uK
      rw [if_neg (by omega), if_pos hL, hr, if_neg (by omega), show i + c - i = c by omega, e72, z]
    have hN : uN (bf F0) (zf F0) i = i + c := by
      unfold uN
      rw [if_neg (by omega), if_pos hL, hr]
    have hcmp : ∀ {z : Int}, z = k → ((lg_cmp ((sy_al F 29).getD z.toNat 0) (sy_l F 71)).toInt = 0 ↔ wf F0 k = uF gl (bf F0) i c 0) := fun {z} hz => by
      rw [lgq, e71, nz_fl (hI.2.1 29 (by decide) (by decide)), hz, Int.toNat_natCast]
      exact Iff.rfl
    have hc0 := hcmp e73
    refine rc_146 (by decide) F X1 X2 hI.1 ?_ ?_ ?_ ?_ ?_ ?_ ?_ ?_
    · omega
    · omega
    · omega
    · intros; omega
    · intros; omega
    · intro q1 F1 hb g e2 e3 a25 a26 a27 a28 f69
      exact K F1 (cI_push hI hu hb g e3 a25 a26 a27 a28 (hK (by omega)).symm (by omega) e69 (fun z => absurd (e72 ▸ z) hw.2.2.2) (fun _ => by rw [e71, hr, show i + c - i = c by omega]) hN.symm) (by omega)
    · intro q1 q2 F1 hb g e2 e3 a25 a26 a27 a28 f69 f70 f71 f72 f73
      refine ih F1 (k + 1) (by omega) (by omega) hT (cI_eq hI hb (fun j hj => g j hj (by simp))) (by omega) (by omega) (f71.trans e71) (by omega) ?_
      rw [uW_n (fun z => q2 (hc0.mpr z)), f72]
      exact e72
    · intro q1 q2 F1 hb g e2 e3 a25 a26 a27 a28 f69 f70 f71 f72 f73
      refine ih F1 (k + 1) (by omega) (by omega) hT (cI_eq hI hb (fun j hj => g j hj (by simp))) (by omega) (by omega) (f71.trans e71) (by omega) ?_
      rw [uW_y (hc0.mp q2)]
      omega
/-- a word: letter by letter -/
theorem rc_w {i T : Nat} (hi : i < zf F0) (hu : uP (bf F0) (zf F0) T = i) (hL : uL (bf F0 i) = true) (K : ∀ (F1 : Nat → sy_d) (i' : Nat), i < i' → cI F0 F1 i' (T + 1) → (sy_i F1 69).toInt = i' → rc7 Ls xs X1 X2 Q F1) :
    ∀ (m : Nat) (F : Nat → sy_d) (c : Nat), zf F0 - (i + c) < m → i + c ≤ zf F0 → T ≤ 400 → cI F0 F i T → (sy_i F 69).toInt = i → (sy_i F 70).toInt = c → uR uL (bf F0) (zf F0) i = uR uL (bf F0) (zf F0) (i + c) → (c ≤ 8 → sy_l F 71 = uF gl (bf F0) i c 0) →
    hd_W Ls xs 5 jm_M142 Q (85, sy_dL F [some (.inl (.ref 1000)), some (.inr (.inl 69)), none, some (.inr (.inl 70)), some (.inr (.inr 71)), none, none, none], sy_dS F [], sy_dh F X1 X2 (iv_H 4), 0, 0) := by
  intro m
  induction m with
  | zero => intro F c hm; omega
  | succ m ih =>
    intro F c hm hc hT hI e69 e70 hr e71
    have e2' : (sy_i F 2).toInt = zf F0 := by
      have := nz_bx hI.1 (k := 2) (lo := 0) (hi := 2000) rfl
      have e := nz_fi (hI.2.1 2 (by decide) (by decide))
      unfold zf
      omega
    have hz : zf F0 ≤ 2000 := by
      have := nz_bx hI.1 (k := 2) (lo := 0) (hi := 2000) rfl
      omega
    have hT3 := hI.2.2.2.1
    have hby : i + c < zf F0 → ((sy_ai F 24).getD ((sy_i F 69).toInt + (sy_i F 70).toInt).toNat 0 &&& 255).toInt = bf F0 (i + c) := fun q => by_ (hI.2.1 24 (by decide) (by decide)) (by omega) q
    have hNe : zf F0 ≤ i + c ∨ uL (bf F0 (i + c)) = false → uR uL (bf F0) (zf F0) i = i + c := fun q => hr.trans (uR_e q)
    have c0 : uR uL (bf F0) (zf F0) i = i + c → 0 < c := fun q => by
      have := uR_gt hi hL
      omega
    have bad : uR uL (bf F0) (zf F0) i = i + c → 8 < c → (uK (bf F0) (zf F0) (wf F0) i = 3 ∧ uN (bf F0) (zf F0) i = i + c) := fun q q2 => by
      unfold uK uN
      rw [if_neg (by omega), if_pos hL, q, if_pos (by omega), if_neg (by omega), if_pos hL]
      exact ⟨rfl, rfl⟩
    have goL : ∀ F1 : Nat → sy_d, uR uL (bf F0) (zf F0) i = i + c → c ≤ 8 → iv_in F1 iv_B4 → (∀ j, j < 69 → j ∉ ([] : List Nat) → F1 j = F j) → (sy_i F1 69).toInt = (sy_i F 69).toInt → (sy_i F1 70).toInt = (sy_i F 70).toInt → sy_l F1 71 = sy_l F 71 → (sy_i F1 72).toInt = 1 → (sy_i F1 73).toInt = 0 → hd_W Ls xs 5 jm_M142 Q (146, sy_dL F1 [some (.inl (.ref 1000)), some (.inr (.inl 69)), none, some (.inr (.inl 70)), some (.inr (.inr 71)), none, some (.inr (.inl 72)), some (.inr (.inl 73))], sy_dS F1 [], sy_dh F1 X1 X2 (iv_H 4), 0, 0) := fun F1 q q2 hb g f69 f70 f71 f72 f73 =>
      rc_l X1 X2 hi hu hL q q2 (fun F2 h2 h3 => K F2 (i + c) (by have := c0 q; omega) h2 h3) 24 F1 0 (by omega) (by omega) hT (cI_eq hI hb (fun j hj => g j hj (by simp))) (by omega) (by omega) (f71.trans (e71 q2)) (by omega) (by rw [f72]; rfl)
    have goB : ∀ F1 : Nat → sy_d, uR uL (bf F0) (zf F0) i = i + c → 8 < c → iv_in F1 iv_B4 → (∀ j, j < 69 → j ∉ ([3, 25, 26, 27, 28] : List Nat) → F1 j = F j) → (sy_i F1 3).toInt = (sy_i F 3).toInt + 1 → sy_ai F1 25 = jm_upd (sy_ai F 25) ((sy_i F 3).toInt).toNat 3 → sy_ai F1 26 = jm_upd (sy_ai F 26) ((sy_i F 3).toInt).toNat (sy_i F 69) → sy_ai F1 27 = jm_upd (sy_ai F 27) ((sy_i F 3).toInt).toNat 0 → sy_al F1 28 = jm_updL (sy_al F 28) ((sy_i F 3).toInt).toNat (sy_l F 71) → (sy_i F1 69).toInt = (sy_i F 69).toInt + (sy_i F 70).toInt → rc7 Ls xs X1 X2 Q F1 := fun F1 q q2 hb g e3 a25 a26 a27 a28 f69 =>
      K F1 (i + c) (by omega) (cI_push hI hu hb g e3 a25 a26 a27 a28 (bad q q2).1.symm (by decide) e69 (fun z => absurd z (by decide)) (fun z => absurd z (by decide)) (bad q q2).2.symm) (by omega)
    refine rc_85 (by decide) F X1 X2 hI.1 ?_ ?_ ?_ ?_ ?_ ?_ ?_ ?_ ?_ ?_ ?_ ?_ ?_ ?_ ?_
    · omega
    · omega
    · intros; omega
    · intros; omega
    · intros; omega
    · intro q1 q2 q3 F1 hb g e2 e3 a25 a26 a27 a28 f69 f70 f71 f72 f73
      exact goL F1 (hNe (Or.inl (by omega))) (by omega) hb g f69 f70 f71 f72 f73
    · intro q1 q2 q3 F1 hb g e2 e3 a25 a26 a27 a28 f69
      exact goB F1 (hNe (Or.inl (by omega))) (by omega) hb g e3 a25 a26 a27 a28 f69
    · intro q0 q1 q2 q3 F1 hb g e2 e3 a25 a26 a27 a28 f69 f70 f71 f72 f73
      have hh := hby (by omega)
      exact goL F1 (hNe (Or.inr (uL_n.mpr (by omega)))) (by omega) hb g f69 f70 f71 f72 f73
    · intro q0 q1 q2 q3 F1 hb g e2 e3 a25 a26 a27 a28 f69
      have hh := hby (by omega)
      exact goB F1 (hNe (Or.inr (uL_n.mpr (by omega)))) (by omega) hb g e3 a25 a26 a27 a28 f69
    · intro q0 q1 q2 q3 q4 F1 hb g e2 e3 a25 a26 a27 a28 f69 f70 f71 f72 f73
      have hh := hby (by omega)
      exact goL F1 (hNe (Or.inr (uL_n.mpr (by omega)))) (by omega) hb g f69 f70 f71 f72 f73
    · intro q0 q1 q2 q3 q4 F1 hb g e2 e3 a25 a26 a27 a28 f69
      have hh := hby (by omega)
      exact goB F1 (hNe (Or.inr (uL_n.mpr (by omega)))) (by omega) hb g e3 a25 a26 a27 a28 f69
    · intro q0 q1 q2 q3 F1 hb g e2 e3 a25 a26 a27 a28 f69 f70 f71
      have hh := hby (by omega)
      exact ih F1 (c + 1) (by omega) (by omega) hT (cI_eq hI hb (fun j hj => g j hj (by simp))) (by omega) (by omega) (hr.trans (uR_s (by omega) (uL_i.mpr (by omega)))) (fun z => by omega)
    · intros; omega
    · intro q0 q1 q2 q3 q4 q5 F1 hb g e2 e3 a25 a26 a27 a28 f69 f70 f71
      have hh := hby (by omega)
      refine ih F1 (c + 1) (by omega) (by omega) hT (cI_eq hI hb (fun j hj => g j hj (by simp))) (by omega) (by omega) (hr.trans (uR_s (by omega) (uL_i.mpr (by omega)))) (fun _ => ?_)
      rw [uF_s, f71, ← e71 (by omega), ← hh, gl, gl_i _ q1 q2, Int64.mul_comm]
    · intro q0 q1 q2 q3 q4 q5
      unfold oq at q5
      intros; omega
/-- a number: digit by digit -/
theorem rc_d {i T : Nat} (hi : i < zf F0) (hu : uP (bf F0) (zf F0) T = i) (hL : uL (bf F0 i) = false) (hD : uD (bf F0 i) = true) (K : ∀ (F1 : Nat → sy_d) (i' : Nat), i < i' → cI F0 F1 i' (T + 1) → (sy_i F1 69).toInt = i' → rc7 Ls xs X1 X2 Q F1) :
    ∀ (m : Nat) (F : Nat → sy_d) (c : Nat), zf F0 - (i + c) < m → i + c ≤ zf F0 → T ≤ 400 → cI F0 F i T → (sy_i F 69).toInt = i → (sy_i F 70).toInt = c → uR uD (bf F0) (zf F0) i = uR uD (bf F0) (zf F0) (i + c) → (c ≤ 4 → (sy_i F 71).toInt = uF gd (bf F0) i c 0) → 0 ≤ (sy_i F 71).toInt ∧ (sy_i F 71).toInt ≤ 9999 ∧ (c = 0 → (sy_i F 71).toInt = 0) ∧ (c = 1 → (sy_i F 71).toInt ≤ 9) ∧ (c = 2 → (sy_i F 71).toInt ≤ 99) ∧ (c = 3 → (sy_i F 71).toInt ≤ 999) →
    hd_W Ls xs 5 jm_M142 Q (208, sy_dL F [some (.inl (.ref 1000)), some (.inr (.inl 69)), none, some (.inr (.inl 70)), some (.inr (.inl 71)), none, none, none], sy_dS F [], sy_dh F X1 X2 (iv_H 4), 0, 0) := by
  intro m
  induction m with
  | zero => intro F c hm; omega
  | succ m ih =>
    intro F c hm hc hT hI e69 e70 hr e71 hv
    have e2' : (sy_i F 2).toInt = zf F0 := by
      have := nz_bx hI.1 (k := 2) (lo := 0) (hi := 2000) rfl
      have e := nz_fi (hI.2.1 2 (by decide) (by decide))
      unfold zf
      omega
    have hz : zf F0 ≤ 2000 := by
      have := nz_bx hI.1 (k := 2) (lo := 0) (hi := 2000) rfl
      omega
    have hT3 := hI.2.2.2.1
    have hby : i + c < zf F0 → ((sy_ai F 24).getD ((sy_i F 69).toInt + (sy_i F 70).toInt).toNat 0 &&& 255).toInt = bf F0 (i + c) := fun q => by_ (hI.2.1 24 (by decide) (by decide)) (by omega) q
    have hNe : zf F0 ≤ i + c ∨ uD (bf F0 (i + c)) = false → uR uD (bf F0) (zf F0) i = i + c := fun q => hr.trans (uR_e q)
    have hLn : ¬ (uL (bf F0 i) = true) := by rw [hL]; decide
    have go2 : ∀ F1 : Nat → sy_d, uR uD (bf F0) (zf F0) i = i + c → c ≤ 4 → iv_in F1 iv_B4 → (∀ j, j < 69 → j ∉ ([3, 25, 26, 27, 28] : List Nat) → F1 j = F j) → (sy_i F1 3).toInt = (sy_i F 3).toInt + 1 → sy_ai F1 25 = jm_upd (sy_ai F 25) ((sy_i F 3).toInt).toNat 2 → sy_ai F1 26 = jm_upd (sy_ai F 26) ((sy_i F 3).toInt).toNat (sy_i F 69) → sy_ai F1 27 = jm_upd (sy_ai F 27) ((sy_i F 3).toInt).toNat (sy_i F 71) → sy_al F1 28 = jm_updL (sy_al F 28) ((sy_i F 3).toInt).toNat 0 → (sy_i F1 69).toInt = (sy_i F 69).toInt + (sy_i F 70).toInt → rc7 Ls xs X1 X2 Q F1 := fun F1 q q2 hb g e3 a25 a26 a27 a28 f69 =>
      K F1 (i + c) (by have := uR_gt hi hD; omega) (cI_push hI hu hb g e3 a25 a26 a27 a28 (by unfold uK; rw [if_neg (by omega), if_neg hLn, if_pos hD, q, if_neg (by omega)]; decide) (by decide) e69 (fun _ => by rw [q, show i + c - i = c by omega]; exact e71 q2) (fun z => absurd z (by decide)) (by unfold uN; rw [if_neg (by omega), if_neg hLn, if_pos hD, q])) (by omega)
    have goB : ∀ F1 : Nat → sy_d, uR uD (bf F0) (zf F0) i = i + c → 4 < c → iv_in F1 iv_B4 → (∀ j, j < 69 → j ∉ ([3, 25, 26, 27, 28] : List Nat) → F1 j = F j) → (sy_i F1 3).toInt = (sy_i F 3).toInt + 1 → sy_ai F1 25 = jm_upd (sy_ai F 25) ((sy_i F 3).toInt).toNat 3 → sy_ai F1 26 = jm_upd (sy_ai F 26) ((sy_i F 3).toInt).toNat (sy_i F 69) → sy_ai F1 27 = jm_upd (sy_ai F 27) ((sy_i F 3).toInt).toNat (sy_i F 71) → sy_al F1 28 = jm_updL (sy_al F 28) ((sy_i F 3).toInt).toNat 0 → (sy_i F1 69).toInt = (sy_i F 69).toInt + (sy_i F 70).toInt → rc7 Ls xs X1 X2 Q F1 := fun F1 q q2 hb g e3 a25 a26 a27 a28 f69 =>
      K F1 (i + c) (by omega) (cI_push hI hu hb g e3 a25 a26 a27 a28 (by unfold uK; rw [if_neg (by omega), if_neg hLn, if_pos hD, q, if_pos (by omega)]; decide) (by decide) e69 (fun z => absurd z (by decide)) (fun z => absurd z (by decide)) (by unfold uN; rw [if_neg (by omega), if_neg hLn, if_pos hD, q])) (by omega)
    obtain ⟨v1, v2, v3, v4, v5, v6⟩ := hv
    refine rc_208 (by decide) F X1 X2 hI.1 ?_ ?_ ?_ ?_ ?_ ?_ ?_ ?_ ?_ ?_ ?_ ?_ ?_ ?_ ?_ ?_ ?_ ?_
    · omega
    · omega
    · omega
    iterate 6 (intros; omega)
    · intro q1 q2 F1 hb g e2 e3 a25 a26 a27 a28 f69
      exact go2 F1 (hNe (Or.inl (by omega))) (by omega) hb g e3 a25 a26 a27 a28 f69
    · intro q1 q2 F1 hb g e2 e3 a25 a26 a27 a28 f69
      exact goB F1 (hNe (Or.inl (by omega))) (by omega) hb g e3 a25 a26 a27 a28 f69
    · intro q0 q1 q2 F1 hb g e2 e3 a25 a26 a27 a28 f69
      have hh := hby (by omega)
      exact go2 F1 (hNe (Or.inr (uD_n.mpr (by omega)))) (by omega) hb g e3 a25 a26 a27 a28 f69
    · intro q0 q1 q2 F1 hb g e2 e3 a25 a26 a27 a28 f69
      have hh := hby (by omega)
      exact goB F1 (hNe (Or.inr (uD_n.mpr (by omega)))) (by omega) hb g e3 a25 a26 a27 a28 f69
    · intro q0 q1 q2 q3 F1 hb g e2 e3 a25 a26 a27 a28 f69
      have hh := hby (by omega)
      exact go2 F1 (hNe (Or.inr (uD_n.mpr (by omega)))) (by omega) hb g e3 a25 a26 a27 a28 f69
    · intro q0 q1 q2 q3 F1 hb g e2 e3 a25 a26 a27 a28 f69
      have hh := hby (by omega)
      exact goB F1 (hNe (Or.inr (uD_n.mpr (by omega)))) (by omega) hb g e3 a25 a26 a27 a28 f69
    · intro q0 q1 q2 q3 F1 hb g e2 e3 a25 a26 a27 a28 f69 f70 f71
      have hh := hby (by omega)
      exact ih F1 (c + 1) (by omega) (by omega) hT (cI_eq hI hb (fun j hj => g j hj (by simp))) (by omega) (by omega) (hr.trans (uR_s (by omega) (uD_i.mpr (by omega)))) (fun z => by omega) (by omega)
    · intros; omega
    · intro q0 q1 q2 q3 q4 F1 hb g e2 e3 a25 a26 a27 a28 f69 f70 f71
      have hh := hby (by omega)
      refine ih F1 (c + 1) (by omega) (by omega) hT (cI_eq hI hb (fun j hj => g j hj (by simp))) (by omega) (by omega) (hr.trans (uR_s (by omega) (uD_i.mpr (by omega)))) (fun _ => ?_) (by omega)
      rw [uF_s, ← e71 (by omega), f71, hh]
      show _ = 10 * _ + (_ - 48)
      omega
theorem nz_T3 {d : Nat} {M : jm_M} {F : Nat → sy_d} {a b c : Int32} (hok : jm_ok jm_YN M) (hA : (sy_e1 [.inl (.ref 1000), .inr (.inl 69), .inr (.inl 70), .inr (.inl 71)]).length ≤ jm_mx M)
    (h : ∀ F0 : Nat → sy_d, (∀ j, j < 69 → F0 j = F j) → sy_i F0 69 = a → sy_i F0 70 = b → hd_W Ls xs d M Q (0, sy_dL F0 (sy_ent (jm_mx M) [.inl (.ref 1000), .inr (.inl 69), .inr (.inl 70), .inr (.inl 71)]), [], sy_dh F0 X1 X2 (iv_H 4), 0, 0)) :
    jm_T Ls xs d M [.ref 1000, .int a, .int b, .int c] (sy_dh F X1 X2 (iv_H 4)) 0 0 Q := by
  obtain ⟨F0, hF0⟩ : ∃ F0 : Nat → sy_d, F0 = fun j => if j = 69 then .inl (.int a) else if j = 70 then .inl (.int b) else if j = 71 then .inl (.int c) else F j := ⟨_, rfl⟩
  have k0 : ∀ j, j < 69 → F0 j = F j := fun j hj => by
    rw [hF0]
    dsimp only
    rw [if_neg (by omega), if_neg (by omega), if_neg (by omega)]
  have k1 : F0 69 = .inl (.int a) := by rw [hF0]; rfl
  have k2 : F0 70 = .inl (.int b) := by rw [hF0]; rfl
  have k3 : F0 71 = .inl (.int c) := by rw [hF0]; rfl
  have i69 : sy_i F0 69 = a := zz_i k1
  have i70 : sy_i F0 70 = b := zz_i k2
  have i71 : sy_i F0 71 = c := zz_i k3
  have eA : ([.ref 1000, .int a, .int b, .int c] : List Value) = ([.inl (.ref 1000), .inr (.inl 69), .inr (.inl 70), .inr (.inl 71)] : List sy_v).map (sy_dv F0) := by
    show _ = [Value.ref 1000, .int (sy_i F0 69), .int (sy_i F0 70), .int (sy_i F0 71)]
    rw [i69, i70, i71]
  rw [eA, nz_eH X1 X2 k0]
  exact hd_T hok hA (h F0 k0 i69 i70)
theorem rs_T (F : Nat → sy_d) (hB : iv_in F iv_B4) (a b c : Int32) (ha : 0 ≤ a.toInt) (ha2 : a.toInt ≤ 2000) (h3 : (sy_i F 3).toInt ≤ 401) : jm_T Ls xs 4 jm_M143 [.ref 1000, .int a, .int b, .int c] (sy_dh F X1 X2 (iv_H 4)) 0 0 (fun v G => ∃ (x : Int32) (F' : Nat → sy_d), v = some (.int x) ∧ G = sy_dh F' X1 X2 (iv_H 4) ∧ x = 1 ∧ iv_in F' iv_B4 ∧ (∀ j, j < 69 → j ∉ ([3, 25, 26, 27, 28] : List Nat) → F' j = F j) ∧ (sy_i F' 3).toInt = (sy_i F 3).toInt + 1 ∧ ∃ k : Int32, k.toInt = uS b.toInt ∧ sy_ai F' 25 = jm_upd (sy_ai F 25) ((sy_i F 3).toInt).toNat k ∧ sy_ai F' 26 = jm_upd (sy_ai F 26) ((sy_i F 3).toInt).toNat a ∧ sy_ai F' 27 = jm_upd (sy_ai F 27) ((sy_i F 3).toInt).toNat 0 ∧ sy_al F' 28 = jm_updL (sy_al F 28) ((sy_i F 3).toInt).toNat 0) := by
  refine nz_T3 X1 X2 jm_ok143 (by decide) (fun F0 k0 i69 i70 => ?_)
  have i3 := nz_fi (k0 3 (by decide))
  have c3 := nz_bx hB (k := 3) (lo := 0) (hi := 402) rfl
  have b25 := nz_fa (k0 25 (by decide))
  have b26 := nz_fa (k0 26 (by decide))
  have b27 := nz_fa (k0 27 (by decide))
  have b28 := nz_fl (k0 28 (by decide))
  subst i69
  subst i70
  refine rs_0 (by decide) F0 X1 X2 (hd_iveq hB k0) ⟨ha, ha2⟩ ?_ ?_ ?_ ?_ ?_ ?_ ?_ ?_ ?_ ?_ ?_ ?_ ?_ ?_ ?_ ?_ ?_ ?_ ?_ ?_
  iterate 10 (intros; omega)
  · intro q1 q2 q3 q4 q5 q6 q7 q8 q9 F1 hb g e2 e3 a25 a26 a27 a28
    exact ⟨_, F1, rfl, rfl, rfl, hb, fun j hj hn => (g j hj hn).trans (k0 j hj), by omega, 3, by unfold uS; repeat rw [if_neg (by omega)]; try decide, by rw [a25, b25, i3], by rw [a26, b26, i3], by rw [a27, b27, i3], by rw [a28, b28, i3]⟩
  · intro q1 q2 q3 q4 q5 q6 q7 q8 q9 F1 hb g e2 e3 a25 a26 a27 a28
    exact ⟨_, F1, rfl, rfl, rfl, hb, fun j hj hn => (g j hj hn).trans (k0 j hj), by omega, 13, by rw [q9]; decide, by rw [a25, b25, i3], by rw [a26, b26, i3], by rw [a27, b27, i3], by rw [a28, b28, i3]⟩
  · intro q1 q2 q3 q4 q5 q6 q7 q8 q9 F1 hb g e2 e3 a25 a26 a27 a28
    exact ⟨_, F1, rfl, rfl, rfl, hb, fun j hj hn => (g j hj hn).trans (k0 j hj), by omega, 15, by rw [q8]; decide, by rw [a25, b25, i3], by rw [a26, b26, i3], by rw [a27, b27, i3], by rw [a28, b28, i3]⟩
  · intro q1 q2 q3 q4 q5 q6 q7 q8 q9 F1 hb g e2 e3 a25 a26 a27 a28
    exact ⟨_, F1, rfl, rfl, rfl, hb, fun j hj hn => (g j hj hn).trans (k0 j hj), by omega, 10, by rw [q7]; decide, by rw [a25, b25, i3], by rw [a26, b26, i3], by rw [a27, b27, i3], by rw [a28, b28, i3]⟩
  · intro q1 q2 q3 q4 q5 q6 q7 q8 q9 F1 hb g e2 e3 a25 a26 a27 a28
    exact ⟨_, F1, rfl, rfl, rfl, hb, fun j hj hn => (g j hj hn).trans (k0 j hj), by omega, 9, by rw [q6]; decide, by rw [a25, b25, i3], by rw [a26, b26, i3], by rw [a27, b27, i3], by rw [a28, b28, i3]⟩
  · intro q1 q2 q3 q4 q5 q6 q7 q8 q9 F1 hb g e2 e3 a25 a26 a27 a28
    exact ⟨_, F1, rfl, rfl, rfl, hb, fun j hj hn => (g j hj hn).trans (k0 j hj), by omega, 8, by rw [q5]; decide, by rw [a25, b25, i3], by rw [a26, b26, i3], by rw [a27, b27, i3], by rw [a28, b28, i3]⟩
  · intro q1 q2 q3 q4 q5 q6 q7 q8 q9 F1 hb g e2 e3 a25 a26 a27 a28
    exact ⟨_, F1, rfl, rfl, rfl, hb, fun j hj hn => (g j hj hn).trans (k0 j hj), by omega, 7, by rw [q4]; decide, by rw [a25, b25, i3], by rw [a26, b26, i3], by rw [a27, b27, i3], by rw [a28, b28, i3]⟩
  · intro q1 q2 q3 q5 q6 q7 q8 q9 F1 hb g e2 e3 a25 a26 a27 a28
    exact ⟨_, F1, rfl, rfl, rfl, hb, fun j hj hn => (g j hj hn).trans (k0 j hj), by omega, 6, by rw [q3]; decide, by rw [a25, b25, i3], by rw [a26, b26, i3], by rw [a27, b27, i3], by rw [a28, b28, i3]⟩
  · intro q1 q2 q5 q6 q7 q8 q9 F1 hb g e2 e3 a25 a26 a27 a28
    exact ⟨_, F1, rfl, rfl, rfl, hb, fun j hj hn => (g j hj hn).trans (k0 j hj), by omega, 5, by rw [q2]; decide, by rw [a25, b25, i3], by rw [a26, b26, i3], by rw [a27, b27, i3], by rw [a28, b28, i3]⟩
  · intro q1 q5 q6 q7 q8 q9 F1 hb g e2 e3 a25 a26 a27 a28
    exact ⟨_, F1, rfl, rfl, rfl, hb, fun j hj hn => (g j hj hn).trans (k0 j hj), by omega, 4, by rw [q1]; decide, by rw [a25, b25, i3], by rw [a26, b26, i3], by rw [a27, b27, i3], by rw [a28, b28, i3]⟩
/-- token by token -/
theorem rc_go : ∀ (m : Nat) (F : Nat → sy_d) (i T : Nat), zf F0 - i < m → cI F0 F i T → T ≤ 401 → (sy_i F 69).toInt = i → rc7 Ls xs X1 X2 (rcQ X1 X2 F0) F := by
  intro m
  induction m with
  | zero => intro F i T hm; omega
  | succ m ih =>
    intro F i T hm hI hT e69
    have e2' : (sy_i F 2).toInt = zf F0 := by
      have := nz_bx hI.1 (k := 2) (lo := 0) (hi := 2000) rfl
      have e := nz_fi (hI.2.1 2 (by decide) (by decide))
      unfold zf
      omega
    have hz : zf F0 ≤ 2000 := by
      have := nz_bx hI.1 (k := 2) (lo := 0) (hi := 2000) rfl
      omega
    have hT3 := hI.2.2.2.1
    have hi := hI.2.2.1
    have hby : i < zf F0 → ((sy_ai F 24).getD (sy_i F 69).toInt.toNat 0 &&& 255).toInt = bf F0 i := fun q => by_ (hI.2.1 24 (by decide) (by decide)) (by omega) q
    have nb : uB (bf F0 i) = false → uP (bf F0) (zf F0) T = i := fun q => by rw [← hI.2.2.2.2.2]; exact uR_e (Or.inr q)
    have goBl : ∀ F1 : Nat → sy_d, i < zf F0 → uB (bf F0 i) = true → iv_in F1 iv_B4 → (∀ j, j < 69 → j ∉ ([] : List Nat) → F1 j = F j) → (sy_i F1 69).toInt = (sy_i F 69).toInt + 1 → rc7 Ls xs X1 X2 (rcQ X1 X2 F0) F1 := fun F1 q q2 hb g f69 => by
      have hI1 := cI_eq hI hb (fun j hj => g j hj (by simp))
      refine ih F1 (i + 1) T (by omega) ⟨hI1.1, hI1.2.1, by omega, hI1.2.2.2.1, hI1.2.2.2.2.1, ?_⟩ hT (by omega)
      rw [← uR_s q q2]
      exact hI1.2.2.2.2.2
    have goE : ∀ F1 : Nat → sy_d, zf F0 ≤ i → T ≤ 400 → iv_in F1 iv_B4 → (∀ j, j < 69 → j ∉ ([3, 25, 26, 27, 28] : List Nat) → F1 j = F j) → (sy_i F1 3).toInt = (sy_i F 3).toInt + 1 → sy_ai F1 25 = jm_upd (sy_ai F 25) ((sy_i F 3).toInt).toNat 0 → sy_ai F1 26 = jm_upd (sy_ai F 26) ((sy_i F 3).toInt).toNat (sy_i F 2) → sy_ai F1 27 = jm_upd (sy_ai F 27) ((sy_i F 3).toInt).toNat 0 → sy_al F1 28 = jm_updL (sy_al F 28) ((sy_i F 3).toInt).toNat 0 → rcQ X1 X2 F0 none (sy_dh F1 X1 X2 (iv_H 4)) := fun F1 q q2 hb g e3 a25 a26 a27 a28 => by
      obtain ⟨z1, z2, z3⟩ := tf_push hI (by rw [← hI.2.2.2.2.2]; exact uR_e (Or.inl q)) a25 a26 a27 a28 (by unfold uK; rw [if_pos q]; decide) (by omega) (fun z => absurd z (by decide)) (fun z => absurd z (by decide))
      exact ⟨F1, rfl, rfl, hb, fun j hj hn => (g j hj hn).trans (hI.2.1 j hj hn), T, q2, z1, z2, Or.inl (by rw [z3]; decide)⟩
    have goS : ∀ F1 : Nat → sy_d, i < zf F0 → T ≤ 400 → uB (bf F0 i) = false → uL (bf F0 i) = false → uD (bf F0 i) = false → iv_in F1 iv_B4 → (∀ j, j < 69 → j ∉ ([] : List Nat) → F1 j = F j) → (sy_i F1 70).toInt = bf F0 i → (sy_i F1 71).toInt = (sy_i F 69).toInt → (sy_i F1 72).toInt = (sy_i F 69).toInt → hd_W Ls xs 5 jm_M142 (rcQ X1 X2 F0) (286, sy_dL F1 [some (.inl (.ref 1000)), none, none, none, none, none, none, none], sy_dS F1 [.inr (.inl 69), .inr (.inl 70), .inr (.inl 71), .inl (.ref 1000), .inr (.inl 72)], sy_dh F1 X1 X2 (iv_H 4), 0, 0) := fun F1 q q2 qb ql qd hb g f70 f71 f72 => by
      have hI1 := cI_eq hI hb (fun j hj => g j hj (by simp))
      have h31 := hI1.2.2.2.1
      refine hd_calI (R := fun x F' => x = 1 ∧ iv_in F' iv_B4 ∧ (∀ j, j < 69 → j ∉ ([3, 25, 26, 27, 28] : List Nat) → F' j = F1 j) ∧ (sy_i F' 3).toInt = (sy_i F1 3).toInt + 1 ∧ ∃ k : Int32, k.toInt = uS (sy_i F1 70).toInt ∧ sy_ai F' 25 = jm_upd (sy_ai F1 25) ((sy_i F1 3).toInt).toNat k ∧ sy_ai F' 26 = jm_upd (sy_ai F1 26) ((sy_i F1 3).toInt).toNat (sy_i F1 71) ∧ sy_ai F' 27 = jm_upd (sy_ai F1 27) ((sy_i F1 3).toInt).toNat 0 ∧ sy_al F' 28 = jm_updL (sy_al F1 28) ((sy_i F1 3).toInt).toNat 0) (nh := 69) (nv := 73) (s := 4) (s1 := 4) (d1 := 4) (M1 := jm_M143) (As := [.inl (.ref 1000), .inr (.inl 71), .inr (.inl 70), .inr (.inl 69)]) (rest := [.inr (.inl 72)]) jm_ok142 rfl rfl (by decide) (by decide +kernel) (rs_T X1 X2 F1 hb _ _ _ (by omega) (by omega) (by omega)) (fun F3 F' x hR p1 p2 p3 => ?_)
      obtain ⟨r1, r2, r3, r4, k, r5, r6, r7, r8, r9⟩ := hR
      have f72' := nz_fi (p2 72 (by decide) (by decide))
      have f73' : (sy_i F3 73).toInt = 1 := by rw [zz_i p3, r1]; decide
      have hk : uK (bf F0) (zf F0) (wf F0) i = k.toInt := by
        unfold uK
        rw [if_neg (by omega), if_neg (by rw [ql]; decide), if_neg (by rw [qd]; decide), r5, f70]
      have hN : uN (bf F0) (zf F0) i = i + 1 := by
        unfold uN
        rw [if_neg (by omega), if_neg (by rw [ql]; decide), if_neg (by rw [qd]; decide)]
      have ks := uS_b (sy_i F1 70).toInt
      refine rc_289 (by decide) F3 X1 X2 (hd_iveq r2 p1) (by omega) (by omega) ?_
      intro F4 hb4 g4 e2 e3 a25 a26 a27 a28 f69
      have gg : ∀ j, j < 69 → F4 j = F' j := fun j hj => (g4 j hj (by simp)).trans (p1 j hj)
      refine ih F4 (i + 1) (T + 1) (by omega) (cI_push hI1 (nb qb) hb4 (fun j hj hn => (gg j hj).trans (r3 j hj hn)) ?_ ?_ ?_ ?_ ?_ hk.symm (by omega) (k := k) (p := sy_i F1 71) (v := 0) (nm := 0) (by omega) (fun z => by omega) (fun z => by omega) hN.symm) (by omega) (by omega)
      · rw [nz_fi (gg 3 (by decide))]; exact r4
      · rw [nz_fa (gg 25 (by decide))]; exact r6
      · rw [nz_fa (gg 26 (by decide))]; exact r7
      · rw [nz_fa (gg 27 (by decide))]; exact r8
      · rw [nz_fl (gg 28 (by decide))]; exact r9
    refine rc_7 (by decide) F X1 X2 hI.1 ?_ ?_ ?_ ?_ ?_ ?_ ?_ ?_ ?_ ?_ ?_ ?_ ?_ ?_ ?_ ?_ ?_ ?_
    · omega
    · intro q1 F1 hb g e2 e3 a25 a26 a27 a28
      have hI1 := cI_eq hI hb (fun j hj => g j hj (by simp))
      exact ⟨F1, rfl, rfl, hb, hI1.2.1, 400, Nat.le_refl _, fun j hj => (hI1.2.2.2.2.1 j (by omega)).1, fun j hj => (hI1.2.2.2.2.1 j (by omega)).2, Or.inr rfl⟩
    · intros; omega
    · intros; omega
    · intro q1 q2 q3 F1 hb g e2 e3 a25 a26 a27 a28
      exact goE F1 (by omega) (by omega) hb g e3 a25 a26 a27 a28
    · intro q1 q2 q3 q4 F1 hb g e2 e3 a25 a26 a27 a28 f69
      have hh := hby (by omega)
      unfold oq at q4
      exact goBl F1 (by omega) (uB_i.mpr (by omega)) hb g f69
    · intro q1 q2 q3 q4 q5 F1 hb g e2 e3 a25 a26 a27 a28 f69
      have hh := hby (by omega)
      unfold oq at q5
      exact goBl F1 (by omega) (uB_i.mpr (by omega)) hb g f69
    · intro q1 q2 q3 q4 q5 q6 F1 hb g e2 e3 a25 a26 a27 a28 f69
      have hh := hby (by omega)
      unfold oq at q6
      exact goBl F1 (by omega) (uB_i.mpr (by omega)) hb g f69
    · intro q1 q2 q3 q4 q5 q6 q7 q8 q9 q10 F1 hb g e2 e3 a25 a26 a27 a28 f69 f70 f71 f72
      have hh := hby (by omega)
      unfold oq at q4 q5 q6 q7
      exact goS F1 (by omega) (by omega) (uB_n.mpr (by omega)) (uL_n.mpr (by omega)) (uD_n.mpr (by omega)) hb g (by omega) f71 f72
    · intro q1 q2 q3 q4 q5 q6 q7 q8 q9 q10 F1 hb g e2 e3 a25 a26 a27 a28 f69 f70 f71 f72
      have hh := hby (by omega)
      unfold oq at q4 q5 q6 q7
      exact goS F1 (by omega) (by omega) (uB_n.mpr (by omega)) (uL_n.mpr (by omega)) (uD_n.mpr (by omega)) hb g (by omega) f71 f72
    · intro q1 q2 q3 q4 q5 q6 q7 q8 q9 q10 q11 F1 hb g e2 e3 a25 a26 a27 a28 f69 f70 f71 f72
      have hh := hby (by omega)
      unfold oq at q4 q5 q6 q7
      exact goS F1 (by omega) (by omega) (uB_n.mpr (by omega)) (uL_n.mpr (by omega)) (uD_n.mpr (by omega)) hb g (by omega) f71 f72
    · intro q1 q2 q3 q4 q5 q6 q7 q8 q9 q10 q11 F1 hb g e2 e3 a25 a26 a27 a28 f69 f70 f71 f72
      have hh := hby (by omega)
      unfold oq at q4 q5 q6 q7
      exact goS F1 (by omega) (by omega) (uB_n.mpr (by omega)) (uL_n.mpr (by omega)) (uD_n.mpr (by omega)) hb g (by omega) f71 f72
    · intro q1 q2 q3 q4 q5 q6 q7 q8 q9 q10 F1 hb g e2 e3 a25 a26 a27 a28 f69 f70 f71
      have hh := hby (by omega)
      unfold oq at q4 q5 q6 q7
      exact rc_d X1 X2 (by omega) (nb (uB_n.mpr (by omega))) (uL_n.mpr (by omega)) (uD_i.mpr (by omega)) (fun F2 i' h1 h2 h3 => ih F2 i' (T + 1) (by have := h2.2.2.1; omega) h2 (by omega) h3) (zf F0 + 1) F1 0 (by omega) (by omega) (by omega) (cI_eq hI hb (fun j hj => g j hj (by simp))) (by omega) (by omega) rfl (fun _ => f71) (by omega)
    · intro q1 q2 q3 q4 q5 q6 q7 q8 q9 q10 q11 q12 F1 hb g e2 e3 a25 a26 a27 a28 f69 f70 f71 f72
      have hh := hby (by omega)
      unfold oq at q4 q5 q6 q7
      exact goS F1 (by omega) (by omega) (uB_n.mpr (by omega)) (uL_n.mpr (by omega)) (uD_n.mpr (by omega)) hb g (by omega) f71 f72
    · intro q1 q2 q3 q4 q5 q6 q7 q8 q9 q10 q11 q12 F1 hb g e2 e3 a25 a26 a27 a28 f69 f70 f71 f72
      have hh := hby (by omega)
      unfold oq at q4 q5 q6 q7
      exact goS F1 (by omega) (by omega) (uB_n.mpr (by omega)) (uL_n.mpr (by omega)) (uD_n.mpr (by omega)) hb g (by omega) f71 f72
    · intro q1 q2 q3 q4 q5 q6 q7 q8 q9 F1 hb g e2 e3 a25 a26 a27 a28 f69 f70 f71
      have hh := hby (by omega)
      unfold oq at q4 q5 q6 q7
      exact rc_w X1 X2 (by omega) (nb (uB_n.mpr (by omega))) (uL_i.mpr (by omega)) (fun F2 i' h1 h2 h3 => ih F2 i' (T + 1) (by have := h2.2.2.1; omega) h2 (by omega) h3) (zf F0 + 1) F1 0 (by omega) (by omega) (by omega) (cI_eq hI hb (fun j hj => g j hj (by simp))) (by omega) (by omega) rfl (fun _ => f71)
    · intro q1 q2 q3 q4 q5 q6 q7 F1 hb g e2 e3 a25 a26 a27 a28 f69
      have hh := hby (by omega)
      unfold oq at q7
      exact goBl F1 (by omega) (uB_i.mpr (by omega)) hb g f69
    · intro q1 q2 q3 F1 hb g e2 e3 a25 a26 a27 a28
      exact goE F1 (by omega) (by omega) hb g e3 a25 a26 a27 a28
theorem rc_T (hB : iv_in F0 iv_B4) : jm_T Ls xs 5 jm_M142 [.ref 1000] (sy_dh F0 X1 X2 (iv_H 4)) 0 0 (rcQ X1 X2 F0) := by
  refine nz_T0 jm_ok142 (by decide) (rc_0 (by decide) F0 X1 X2 hB ?_)
  intro F1 hb g e2 e3 a25 a26 a27 a28 f69
  exact rc_go X1 X2 (zf F0 + 1) F1 0 0 (by omega) ⟨hb, fun j hj hn => g j hj (fun q => hn (by revert q; simp; omega)), Nat.zero_le _, e3, fun j hj => absurd hj (Nat.not_lt_zero _), rfl⟩ (by omega) f69
end RC
end
