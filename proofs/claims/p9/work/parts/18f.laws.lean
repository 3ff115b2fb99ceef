/-! ===== the reference: what a law tells, way by way ===== -/
theorem lt_0_0 {Ls : Nat} {xs : Nat → Int32} {d : Nat} {Q : Option Value → jm_h → Prop} (hd : 1 ≤ d) (F : Nat → sy_d) (X1 X2 : List jm_c) (hB : iv_in F iv_B4)
    (h0 : 0 ≤ (sy_i F 69).toInt ∧ (sy_i F 69).toInt < 12)
    (k : ∀ F1 : Nat → sy_d, (∀ j, j < 69 → j ≠ 17 → F1 j = F j) → F1 17 = .inl (.int ((0 : Int32))) → F1 69 = .inl (.int (sy_i F 69)) → F1 70 = .inl (.int ((sy_ai F 42).getD (sy_i F 69).toNatClampNeg 0)) → hd_W Ls xs d jm_M180 Q (12, sy_dL F1 [some (.inl (.ref 1000)), some (.inr (.inl 69)), some (.inr (.inl 70)), none, none], sy_dS F1 [], sy_dh F1 X1 X2 (iv_H 4), 0, 0)) :
    hd_W Ls xs d jm_M180 Q (0, sy_dL F [some (.inl (.ref 1000)), some (.inr (.inl 69)), none, none, none], sy_dS F [], sy_dh F X1 X2 (iv_H 4), 0, 0) := by
  refine hd_run (s := 4) (nv := 70) (pc := 12) (L := [some (.inl (.ref 1000)), some (.inr (.inl 69)), some (.inr (.inl 70)), none, none]) (S := []) (uh := hd_ov (iv_id 0 iv_B4) [(17, .inl (.inl (.int 0)))]) (ul := [.inl (.inr (.inl 69)), .inl (.inr (.inl 70))]) (f := true) (sp := [12, 44, 61, 97]) (d0 := 0) (O := []) (T := [(30, [.inr (.inl 69)], [.inr (.inl 42)])]) (P := [(6, .inr (.inl 69), .inl (.ref 12))]) jm_ok180 (by decide +kernel) (by decide +kernel) hd F X1 X2 (fun F' hF hs => ?_)
  have b69 := hd_b (F := F) (F' := F') (k := 69) (hF 69 (by decide))
  have a42 := hd_ba (F := F) (F' := F') (k := 42) (hF 42 (by decide))
  have t70 : sy_dv F' (.inr (.inl 70)) = .int ((sy_ai F 42).getD (sy_i F 69).toNatClampNeg 0) := hd_rd (hs 0 _ rfl) b69 a42
  have hB' : iv_in F' iv_B4 := iv_in_eq hB (fun j hj => hF j (Nat.lt_of_lt_of_le hj (by decide +kernel)))
  refine ⟨List.forall_mem_cons.mpr ⟨hd_pb b69 (by first | exact h0 | exact h0), fun _ h => absurd h List.not_mem_nil⟩, ?_⟩
  refine k _ ?_ ?_ ?_ ?_
  · exact fun j hj hn => (hd_keep hB' (Nat.lt_of_lt_of_le hj (by decide +kernel)) (by simp; omega)).trans (hF j (by omega))
  · exact hd_gi (x := .inl (.int 0)) (by decide +kernel) rfl
  · exact hd_gi (x := .inr (.inl 69)) (by decide +kernel) b69
  · exact hd_gi (x := .inr (.inl 70)) (by decide +kernel) t70
theorem lt_12_0 {Ls : Nat} {xs : Nat → Int32} {d : Nat} {Q : Option Value → jm_h → Prop} (hd : 1 ≤ d) (F : Nat → sy_d) (X1 X2 : List jm_c) (hB : iv_in F iv_B4)
    (h0 : 0 ≤ (sy_i F 69).toInt ∧ (sy_i F 69).toInt < 12)
    (h1 : ((sy_ai F 43).getD (sy_i F 69).toNatClampNeg 0).toInt ≤ (sy_i F 70).toInt)
    (k : ∀ F1 : Nat → sy_d, (∀ j, j < 69 → True → F1 j = F j) → Q (some (.int ((0 : Int32)))) (sy_dh F1 X1 X2 (iv_H 4))) :
    hd_W Ls xs d jm_M180 Q (12, sy_dL F [some (.inl (.ref 1000)), some (.inr (.inl 69)), some (.inr (.inl 70)), none, none], sy_dS F [], sy_dh F X1 X2 (iv_H 4), 0, 0) := by
  refine hd_ret (s := 4) (nv := 71) (v := some (.inl (.int 0))) (uh := hd_ov (iv_id 0 iv_B4) []) (f := true) (sp := [12, 44, 61, 97]) (d0 := 0) (O := [true]) (T := [(30, [.inr (.inl 69)], [.inr (.inl 43)])]) (P := [(6, .inr (.inl 69), .inl (.ref 12)), (4, .inr (.inl 71), .inr (.inl 70))]) jm_ok180 (by decide +kernel) (by decide +kernel) hd F X1 X2 (fun F' hF hs => ?_)
  have b69 := hd_b (F := F) (F' := F') (k := 69) (hF 69 (by decide))
  have a43 := hd_ba (F := F) (F' := F') (k := 43) (hF 43 (by decide))
  have t71 : sy_dv F' (.inr (.inl 71)) = .int ((sy_ai F 43).getD (sy_i F 69).toNatClampNeg 0) := hd_rd (hs 0 _ rfl) b69 a43
  have b70 := hd_b (F := F) (F' := F') (k := 70) (hF 70 (by decide))
  have hB' : iv_in F' iv_B4 := iv_in_eq hB (fun j hj => hF j (Nat.lt_of_lt_of_le hj (by decide +kernel)))
  refine ⟨List.forall_mem_cons.mpr ⟨hd_pb b69 (by first | exact h0 | exact h0), List.forall_mem_cons.mpr ⟨hd_p4 t71 b70 h1, fun _ h => absurd h List.not_mem_nil⟩⟩, ?_⟩
  refine k _ ?_
  · exact fun j hj _ => (hd_keep hB' (Nat.lt_of_lt_of_le hj (by decide +kernel)) (by simp)).trans (hF j (by omega))
theorem lt_12_1 {Ls : Nat} {xs : Nat → Int32} {d : Nat} {Q : Option Value → jm_h → Prop} (hd : 1 ≤ d) (F : Nat → sy_d) (X1 X2 : List jm_c) (hB : iv_in F iv_B4)
    (h0 : 0 ≤ (sy_i F 69).toInt ∧ (sy_i F 69).toInt < 12)
    (h1 : (sy_i F 70).toInt < ((sy_ai F 43).getD (sy_i F 69).toNatClampNeg 0).toInt)
    (h2 : 0 ≤ (sy_i F 70).toInt ∧ (sy_i F 70).toInt < 260)
    (h3 : ((sy_ai F 44).getD (sy_i F 70).toNatClampNeg 0).toInt = 0)
    (h4 : 0 ≤ (sy_i F 70).toInt ∧ (sy_i F 70).toInt < 260)
    (h5 : 0 ≤ (sy_i F 70).toInt ∧ (sy_i F 70).toInt < 260)
    (k : ∀ F1 : Nat → sy_d, (∀ j, j < 69 → True → F1 j = F j) → F1 69 = .inl (.int (sy_i F 69)) → F1 70 = .inl (.int (sy_i F 70)) → F1 71 = .inl (.int ((sy_ai F 48).getD (sy_i F 70).toNatClampNeg 0)) → F1 72 = .inl (.int ((sy_ai F 47).getD (sy_i F 70).toNatClampNeg 0)) → hd_W Ls xs d jm_M180 Q (97, sy_dL F1 [some (.inl (.ref 1000)), some (.inr (.inl 69)), some (.inr (.inl 70)), none, none], sy_dS F1 [.inr (.inl 71), .inr (.inl 72), .inl (.ref 1000)], sy_dh F1 X1 X2 (iv_H 4), 0, 0)) :
    hd_W Ls xs d jm_M180 Q (12, sy_dL F [some (.inl (.ref 1000)), some (.inr (.inl 69)), some (.inr (.inl 70)), none, none], sy_dS F [], sy_dh F X1 X2 (iv_H 4), 0, 0) := by
  refine hd_run (s := 4) (nv := 71) (pc := 97) (L := [some (.inl (.ref 1000)), some (.inr (.inl 69)), some (.inr (.inl 70)), none, none]) (S := [.inr (.inl 71), .inr (.inl 72), .inl (.ref 1000)]) (uh := hd_ov (iv_id 0 iv_B4) []) (ul := [.inl (.inr (.inl 69)), .inl (.inr (.inl 70)), .inl (.inr (.inl 74)), .inl (.inr (.inl 73))]) (f := true) (sp := [12, 44, 61, 97]) (d0 := 0) (O := [false, true]) (T := [(30, [.inr (.inl 69)], [.inr (.inl 43)]), (30, [.inr (.inl 70)], [.inr (.inl 44)]), (30, [.inr (.inl 70)], [.inr (.inl 47)]), (30, [.inr (.inl 70)], [.inr (.inl 48)])]) (P := [(6, .inr (.inl 69), .inl (.ref 12)), (5, .inr (.inl 71), .inr (.inl 70)), (6, .inr (.inl 70), .inl (.ref 260)), (0, .inr (.inl 72), .inl (.int 0)), (6, .inr (.inl 70), .inl (.ref 260)), (6, .inr (.inl 70), .inl (.ref 260))]) jm_ok180 (by decide +kernel) (by decide +kernel) hd F X1 X2 (fun F' hF hs => ?_)
  have b69 := hd_b (F := F) (F' := F') (k := 69) (hF 69 (by decide))
  have a43 := hd_ba (F := F) (F' := F') (k := 43) (hF 43 (by decide))
  have t71 : sy_dv F' (.inr (.inl 71)) = .int ((sy_ai F 43).getD (sy_i F 69).toNatClampNeg 0) := hd_rd (hs 0 _ rfl) b69 a43
  have b70 := hd_b (F := F) (F' := F') (k := 70) (hF 70 (by decide))
  have a44 := hd_ba (F := F) (F' := F') (k := 44) (hF 44 (by decide))
  have t72 : sy_dv F' (.inr (.inl 72)) = .int ((sy_ai F 44).getD (sy_i F 70).toNatClampNeg 0) := hd_rd (hs 1 _ rfl) b70 a44
  have a48 := hd_ba (F := F) (F' := F') (k := 48) (hF 48 (by decide))
  have t74 : sy_dv F' (.inr (.inl 74)) = .int ((sy_ai F 48).getD (sy_i F 70).toNatClampNeg 0) := hd_rd (hs 3 _ rfl) b70 a48
  have a47 := hd_ba (F := F) (F' := F') (k := 47) (hF 47 (by decide))
  have t73 : sy_dv F' (.inr (.inl 73)) = .int ((sy_ai F 47).getD (sy_i F 70).toNatClampNeg 0) := hd_rd (hs 2 _ rfl) b70 a47
  have hB' : iv_in F' iv_B4 := iv_in_eq hB (fun j hj => hF j (Nat.lt_of_lt_of_le hj (by decide +kernel)))
  refine ⟨List.forall_mem_cons.mpr ⟨hd_pb b69 (by first | exact h0 | exact h0), List.forall_mem_cons.mpr ⟨hd_p5 t71 b70 h1, List.forall_mem_cons.mpr ⟨hd_pb b70 (by first | exact h2 | exact h2), List.forall_mem_cons.mpr ⟨hd_p0 t72 rfl (by have hc : ((0) : Int32).toInt = 0 := (by decide); omega), List.forall_mem_cons.mpr ⟨hd_pb b70 (by first | exact h4 | exact h4), List.forall_mem_cons.mpr ⟨hd_pb b70 (by first | exact h5 | exact h5), fun _ h => absurd h List.not_mem_nil⟩⟩⟩⟩⟩⟩, ?_⟩
  refine k _ ?_ ?_ ?_ ?_ ?_
  · exact fun j hj _ => (hd_keep hB' (Nat.lt_of_lt_of_le hj (by decide +kernel)) (by simp)).trans (hF j (by omega))
  · exact hd_gi (x := .inr (.inl 69)) (by decide +kernel) b69
  · exact hd_gi (x := .inr (.inl 70)) (by decide +kernel) b70
  · exact hd_gi (x := .inr (.inl 74)) (by decide +kernel) t74
  · exact hd_gi (x := .inr (.inl 73)) (by decide +kernel) t73
theorem lt_12_2 {Ls : Nat} {xs : Nat → Int32} {d : Nat} {Q : Option Value → jm_h → Prop} (hd : 1 ≤ d) (F : Nat → sy_d) (X1 X2 : List jm_c) (hB : iv_in F iv_B4)
    (h0 : 0 ≤ (sy_i F 69).toInt ∧ (sy_i F 69).toInt < 12)
    (h1 : (sy_i F 70).toInt < ((sy_ai F 43).getD (sy_i F 69).toNatClampNeg 0).toInt)
    (h2 : 0 ≤ (sy_i F 70).toInt ∧ (sy_i F 70).toInt < 260)
    (h3 : ((sy_ai F 44).getD (sy_i F 70).toNatClampNeg 0).toInt ≠ 0)
    (h4 : 0 ≤ (sy_i F 70).toInt ∧ (sy_i F 70).toInt < 260)
    (h5 : 0 ≤ (sy_i F 70).toInt ∧ (sy_i F 70).toInt < 260)
    (k : ∀ F1 : Nat → sy_d, (∀ j, j < 69 → True → F1 j = F j) → F1 69 = .inl (.int (sy_i F 69)) → F1 70 = .inl (.int (sy_i F 70)) → F1 71 = .inl (.int ((sy_ai F 46).getD (sy_i F 70).toNatClampNeg 0)) → F1 72 = .inl (.int ((sy_ai F 45).getD (sy_i F 70).toNatClampNeg 0)) → hd_W Ls xs d jm_M180 Q (44, sy_dL F1 [some (.inl (.ref 1000)), some (.inr (.inl 69)), some (.inr (.inl 70)), none, none], sy_dS F1 [.inr (.inl 71), .inr (.inl 72), .inl (.ref 1000)], sy_dh F1 X1 X2 (iv_H 4), 0, 0)) :
    hd_W Ls xs d jm_M180 Q (12, sy_dL F [some (.inl (.ref 1000)), some (.inr (.inl 69)), some (.inr (.inl 70)), none, none], sy_dS F [], sy_dh F X1 X2 (iv_H 4), 0, 0) := by
  refine hd_run (s := 4) (nv := 71) (pc := 44) (L := [some (.inl (.ref 1000)), some (.inr (.inl 69)), some (.inr (.inl 70)), none, none]) (S := [.inr (.inl 71), .inr (.inl 72), .inl (.ref 1000)]) (uh := hd_ov (iv_id 0 iv_B4) []) (ul := [.inl (.inr (.inl 69)), .inl (.inr (.inl 70)), .inl (.inr (.inl 74)), .inl (.inr (.inl 73))]) (f := true) (sp := [12, 44, 61, 97]) (d0 := 0) (O := [false, false]) (T := [(30, [.inr (.inl 69)], [.inr (.inl 43)]), (30, [.inr (.inl 70)], [.inr (.inl 44)]), (30, [.inr (.inl 70)], [.inr (.inl 45)]), (30, [.inr (.inl 70)], [.inr (.inl 46)])]) (P := [(6, .inr (.inl 69), .inl (.ref 12)), (5, .inr (.inl 71), .inr (.inl 70)), (6, .inr (.inl 70), .inl (.ref 260)), (1, .inr (.inl 72), .inl (.int 0)), (6, .inr (.inl 70), .inl (.ref 260)), (6, .inr (.inl 70), .inl (.ref 260))]) jm_ok180 (by decide +kernel) (by decide +kernel) hd F X1 X2 (fun F' hF hs => ?_)
  have b69 := hd_b (F := F) (F' := F') (k := 69) (hF 69 (by decide))
  have a43 := hd_ba (F := F) (F' := F') (k := 43) (hF 43 (by decide))
  have t71 : sy_dv F' (.inr (.inl 71)) = .int ((sy_ai F 43).getD (sy_i F 69).toNatClampNeg 0) := hd_rd (hs 0 _ rfl) b69 a43
  have b70 := hd_b (F := F) (F' := F') (k := 70) (hF 70 (by decide))
  have a44 := hd_ba (F := F) (F' := F') (k := 44) (hF 44 (by decide))
  have t72 : sy_dv F' (.inr (.inl 72)) = .int ((sy_ai F 44).getD (sy_i F 70).toNatClampNeg 0) := hd_rd (hs 1 _ rfl) b70 a44
  have a46 := hd_ba (F := F) (F' := F') (k := 46) (hF 46 (by decide))
  have t74 : sy_dv F' (.inr (.inl 74)) = .int ((sy_ai F 46).getD (sy_i F 70).toNatClampNeg 0) := hd_rd (hs 3 _ rfl) b70 a46
  have a45 := hd_ba (F := F) (F' := F') (k := 45) (hF 45 (by decide))
  have t73 : sy_dv F' (.inr (.inl 73)) = .int ((sy_ai F 45).getD (sy_i F 70).toNatClampNeg 0) := hd_rd (hs 2 _ rfl) b70 a45
  have hB' : iv_in F' iv_B4 := iv_in_eq hB (fun j hj => hF j (Nat.lt_of_lt_of_le hj (by decide +kernel)))
  refine ⟨List.forall_mem_cons.mpr ⟨hd_pb b69 (by first | exact h0 | exact h0), List.forall_mem_cons.mpr ⟨hd_p5 t71 b70 h1, List.forall_mem_cons.mpr ⟨hd_pb b70 (by first | exact h2 | exact h2), List.forall_mem_cons.mpr ⟨hd_p1 t72 rfl (by have hc : ((0) : Int32).toInt = 0 := (by decide); omega), List.forall_mem_cons.mpr ⟨hd_pb b70 (by first | exact h4 | exact h4), List.forall_mem_cons.mpr ⟨hd_pb b70 (by first | exact h5 | exact h5), fun _ h => absurd h List.not_mem_nil⟩⟩⟩⟩⟩⟩, ?_⟩
  refine k _ ?_ ?_ ?_ ?_ ?_
  · exact fun j hj _ => (hd_keep hB' (Nat.lt_of_lt_of_le hj (by decide +kernel)) (by simp)).trans (hF j (by omega))
  · exact hd_gi (x := .inr (.inl 69)) (by decide +kernel) b69
  · exact hd_gi (x := .inr (.inl 70)) (by decide +kernel) b70
  · exact hd_gi (x := .inr (.inl 74)) (by decide +kernel) t74
  · exact hd_gi (x := .inr (.inl 73)) (by decide +kernel) t73
theorem lt_47_0 {Ls : Nat} {xs : Nat → Int32} {d : Nat} {Q : Option Value → jm_h → Prop} (hd : 1 ≤ d) (F : Nat → sy_d) (X1 X2 : List jm_c) (hB : iv_in F iv_B4)
    (h0 : 0 ≤ (sy_i F 70).toInt ∧ (sy_i F 70).toInt < 260)
    (h1 : 0 ≤ (sy_i F 70).toInt ∧ (sy_i F 70).toInt < 260)
    (k : ∀ F1 : Nat → sy_d, (∀ j, j < 69 → True → F1 j = F j) → F1 69 = .inl (.int (sy_i F 69)) → F1 70 = .inl (.int (sy_i F 70)) → F1 71 = .inl (.int (sy_i F 73)) → F1 72 = .inl (.int ((sy_ai F 47).getD (sy_i F 70).toNatClampNeg 0)) → F1 73 = .inl (.int ((sy_ai F 46).getD (sy_i F 70).toNatClampNeg 0)) → hd_W Ls xs d jm_M180 Q (61, sy_dL F1 [some (.inl (.ref 1000)), some (.inr (.inl 69)), some (.inr (.inl 70)), some (.inr (.inl 71)), none], sy_dS F1 [.inr (.inl 72), .inr (.inl 73), .inl (.ref 1000)], sy_dh F1 X1 X2 (iv_H 4), 0, 0)) :
    hd_W Ls xs d jm_M180 Q (47, sy_dL F [some (.inl (.ref 1000)), some (.inr (.inl 69)), some (.inr (.inl 70)), none, none], sy_dS F [.inr (.inl 73)], sy_dh F X1 X2 (iv_H 4), 0, 0) := by
  refine hd_run (s := 4) (nv := 74) (pc := 61) (L := [some (.inl (.ref 1000)), some (.inr (.inl 69)), some (.inr (.inl 70)), some (.inr (.inl 71)), none]) (S := [.inr (.inl 72), .inr (.inl 73), .inl (.ref 1000)]) (uh := hd_ov (iv_id 0 iv_B4) []) (ul := [.inl (.inr (.inl 69)), .inl (.inr (.inl 70)), .inl (.inr (.inl 73)), .inl (.inr (.inl 75)), .inl (.inr (.inl 74))]) (f := false) (sp := [12, 44, 61, 97]) (d0 := 0) (O := []) (T := [(30, [.inr (.inl 70)], [.inr (.inl 46)]), (30, [.inr (.inl 70)], [.inr (.inl 47)])]) (P := [(6, .inr (.inl 70), .inl (.ref 260)), (6, .inr (.inl 70), .inl (.ref 260))]) jm_ok180 (by decide +kernel) (by decide +kernel) hd F X1 X2 (fun F' hF hs => ?_)
  have b70 := hd_b (F := F) (F' := F') (k := 70) (hF 70 (by decide))
  have b69 := hd_b (F := F) (F' := F') (k := 69) (hF 69 (by decide))
  have b73 := hd_b (F := F) (F' := F') (k := 73) (hF 73 (by decide))
  have a47 := hd_ba (F := F) (F' := F') (k := 47) (hF 47 (by decide))
  have t75 : sy_dv F' (.inr (.inl 75)) = .int ((sy_ai F 47).getD (sy_i F 70).toNatClampNeg 0) := hd_rd (hs 1 _ rfl) b70 a47
  have a46 := hd_ba (F := F) (F' := F') (k := 46) (hF 46 (by decide))
  have t74 : sy_dv F' (.inr (.inl 74)) = .int ((sy_ai F 46).getD (sy_i F 70).toNatClampNeg 0) := hd_rd (hs 0 _ rfl) b70 a46
  have hB' : iv_in F' iv_B4 := iv_in_eq hB (fun j hj => hF j (Nat.lt_of_lt_of_le hj (by decide +kernel)))
  refine ⟨List.forall_mem_cons.mpr ⟨hd_pb b70 (by first | exact h0 | exact h0), List.forall_mem_cons.mpr ⟨hd_pb b70 (by first | exact h1 | exact h1), fun _ h => absurd h List.not_mem_nil⟩⟩, ?_⟩
  refine k _ ?_ ?_ ?_ ?_ ?_ ?_
  · exact fun j hj _ => (hd_keep hB' (Nat.lt_of_lt_of_le hj (by decide +kernel)) (by simp)).trans (hF j (by omega))
  · exact hd_gi (x := .inr (.inl 69)) (by decide +kernel) b69
  · exact hd_gi (x := .inr (.inl 70)) (by decide +kernel) b70
  · exact hd_gi (x := .inr (.inl 73)) (by decide +kernel) b73
  · exact hd_gi (x := .inr (.inl 75)) (by decide +kernel) t75
  · exact hd_gi (x := .inr (.inl 74)) (by decide +kernel) t74
theorem lt_64_0 {Ls : Nat} {xs : Nat → Int32} {d : Nat} {Q : Option Value → jm_h → Prop} (hd : 1 ≤ d) (F : Nat → sy_d) (X1 X2 : List jm_c) (hB : iv_in F iv_B4)
    (h0 : (sy_i F 17).toInt = 0)
    (h1 : (sy_i F 71).toInt < (sy_i F 74).toInt)
    (h2 : 0 ≤ (sy_i F 70).toInt ∧ (sy_i F 70).toInt < 260)
    (h3 : 0 ≤ (sy_i F 70).toInt ∧ (sy_i F 70).toInt < 260)
    (k : ∀ F1 : Nat → sy_d, (∀ j, j < 69 → True → F1 j = F j) → F1 69 = .inl (.int (sy_i F 69)) → F1 70 = .inl (.int (sy_i F 70)) → F1 71 = .inl (.int ((sy_ai F 48).getD (sy_i F 70).toNatClampNeg 0)) → F1 72 = .inl (.int ((sy_ai F 47).getD (sy_i F 70).toNatClampNeg 0)) → hd_W Ls xs d jm_M180 Q (97, sy_dL F1 [some (.inl (.ref 1000)), some (.inr (.inl 69)), some (.inr (.inl 70)), none, none], sy_dS F1 [.inr (.inl 71), .inr (.inl 72), .inl (.ref 1000)], sy_dh F1 X1 X2 (iv_H 4), 0, 0)) :
    hd_W Ls xs d jm_M180 Q (64, sy_dL F [some (.inl (.ref 1000)), some (.inr (.inl 69)), some (.inr (.inl 70)), some (.inr (.inl 71)), none], sy_dS F [.inr (.inl 74)], sy_dh F X1 X2 (iv_H 4), 0, 0) := by
  refine hd_run (s := 4) (nv := 75) (pc := 97) (L := [some (.inl (.ref 1000)), some (.inr (.inl 69)), some (.inr (.inl 70)), none, none]) (S := [.inr (.inl 71), .inr (.inl 72), .inl (.ref 1000)]) (uh := hd_ov (iv_id 0 iv_B4) []) (ul := [.inl (.inr (.inl 69)), .inl (.inr (.inl 70)), .inl (.inr (.inl 76)), .inl (.inr (.inl 75))]) (f := false) (sp := [12, 44, 61, 97]) (d0 := 0) (O := [true, true]) (T := [(30, [.inr (.inl 70)], [.inr (.inl 47)]), (30, [.inr (.inl 70)], [.inr (.inl 48)])]) (P := [(0, .inr (.inl 17), .inl (.int 0)), (2, .inr (.inl 71), .inr (.inl 74)), (6, .inr (.inl 70), .inl (.ref 260)), (6, .inr (.inl 70), .inl (.ref 260))]) jm_ok180 (by decide +kernel) (by decide +kernel) hd F X1 X2 (fun F' hF hs => ?_)
  have b17 := hd_b (F := F) (F' := F') (k := 17) (hF 17 (by decide))
  have b71 := hd_b (F := F) (F' := F') (k := 71) (hF 71 (by decide))
  have b74 := hd_b (F := F) (F' := F') (k := 74) (hF 74 (by decide))
  have b70 := hd_b (F := F) (F' := F') (k := 70) (hF 70 (by decide))
  have b69 := hd_b (F := F) (F' := F') (k := 69) (hF 69 (by decide))
  have a48 := hd_ba (F := F) (F' := F') (k := 48) (hF 48 (by decide))
  have t76 : sy_dv F' (.inr (.inl 76)) = .int ((sy_ai F 48).getD (sy_i F 70).toNatClampNeg 0) := hd_rd (hs 1 _ rfl) b70 a48
  have a47 := hd_ba (F := F) (F' := F') (k := 47) (hF 47 (by decide))
  have t75 : sy_dv F' (.inr (.inl 75)) = .int ((sy_ai F 47).getD (sy_i F 70).toNatClampNeg 0) := hd_rd (hs 0 _ rfl) b70 a47
  have hB' : iv_in F' iv_B4 := iv_in_eq hB (fun j hj => hF j (Nat.lt_of_lt_of_le hj (by decide +kernel)))
  refine ⟨List.forall_mem_cons.mpr ⟨hd_p0 b17 rfl (by have hc : ((0) : Int32).toInt = 0 := (by decide); omega), List.forall_mem_cons.mpr ⟨hd_p2 b71 b74 h1, List.forall_mem_cons.mpr ⟨hd_pb b70 (by first | exact h2 | exact h2), List.forall_mem_cons.mpr ⟨hd_pb b70 (by first | exact h3 | exact h3), fun _ h => absurd h List.not_mem_nil⟩⟩⟩⟩, ?_⟩
  refine k _ ?_ ?_ ?_ ?_ ?_
  · exact fun j hj _ => (hd_keep hB' (Nat.lt_of_lt_of_le hj (by decide +kernel)) (by simp)).trans (hF j (by omega))
  · exact hd_gi (x := .inr (.inl 69)) (by decide +kernel) b69
  · exact hd_gi (x := .inr (.inl 70)) (by decide +kernel) b70
  · exact hd_gi (x := .inr (.inl 76)) (by decide +kernel) t76
  · exact hd_gi (x := .inr (.inl 75)) (by decide +kernel) t75
theorem lt_64_1 {Ls : Nat} {xs : Nat → Int32} {d : Nat} {Q : Option Value → jm_h → Prop} (hd : 1 ≤ d) (F : Nat → sy_d) (X1 X2 : List jm_c) (hB : iv_in F iv_B4)
    (h0 : (sy_i F 17).toInt = 0)
    (h1 : (sy_i F 74).toInt ≤ (sy_i F 71).toInt)
    (k : ∀ F1 : Nat → sy_d, (∀ j, j < 69 → True → F1 j = F j) → F1 69 = .inl (.int (sy_i F 69)) → F1 70 = .inl (.int ((sy_i F 70) + ((1 : Int32)))) → hd_W Ls xs d jm_M180 Q (12, sy_dL F1 [some (.inl (.ref 1000)), some (.inr (.inl 69)), some (.inr (.inl 70)), none, none], sy_dS F1 [], sy_dh F1 X1 X2 (iv_H 4), 0, 0)) :
    hd_W Ls xs d jm_M180 Q (64, sy_dL F [some (.inl (.ref 1000)), some (.inr (.inl 69)), some (.inr (.inl 70)), some (.inr (.inl 71)), none], sy_dS F [.inr (.inl 74)], sy_dh F X1 X2 (iv_H 4), 0, 0) := by
  refine hd_run (s := 4) (nv := 75) (pc := 12) (L := [some (.inl (.ref 1000)), some (.inr (.inl 69)), some (.inr (.inl 70)), none, none]) (S := []) (uh := hd_ov (iv_id 0 iv_B4) []) (ul := [.inl (.inr (.inl 69)), .inl (.inr (.inl 75))]) (f := false) (sp := [12, 44, 61, 97]) (d0 := 0) (O := [true, false]) (T := [(0, [.inr (.inl 70), .inl (.int 1)], [])]) (P := [(0, .inr (.inl 17), .inl (.int 0)), (3, .inr (.inl 71), .inr (.inl 74))]) jm_ok180 (by decide +kernel) (by decide +kernel) hd F X1 X2 (fun F' hF hs => ?_)
  have b17 := hd_b (F := F) (F' := F') (k := 17) (hF 17 (by decide))
  have b71 := hd_b (F := F) (F' := F') (k := 71) (hF 71 (by decide))
  have b74 := hd_b (F := F) (F' := F') (k := 74) (hF 74 (by decide))
  have b69 := hd_b (F := F) (F' := F') (k := 69) (hF 69 (by decide))
  have b70 := hd_b (F := F) (F' := F') (k := 70) (hF 70 (by decide))
  have t75 : sy_dv F' (.inr (.inl 75)) = .int ((sy_i F 70) + ((1 : Int32))) := hd_o (hs 0 _ rfl) b70 rfl rfl
  have hB' : iv_in F' iv_B4 := iv_in_eq hB (fun j hj => hF j (Nat.lt_of_lt_of_le hj (by decide +kernel)))
  refine ⟨List.forall_mem_cons.mpr ⟨hd_p0 b17 rfl (by have hc : ((0) : Int32).toInt = 0 := (by decide); omega), List.forall_mem_cons.mpr ⟨hd_p3 b71 b74 h1, fun _ h => absurd h List.not_mem_nil⟩⟩, ?_⟩
  refine k _ ?_ ?_ ?_
  · exact fun j hj _ => (hd_keep hB' (Nat.lt_of_lt_of_le hj (by decide +kernel)) (by simp)).trans (hF j (by omega))
  · exact hd_gi (x := .inr (.inl 69)) (by decide +kernel) b69
  · exact hd_gi (x := .inr (.inl 75)) (by decide +kernel) t75
theorem lt_64_2 {Ls : Nat} {xs : Nat → Int32} {d : Nat} {Q : Option Value → jm_h → Prop} (hd : 1 ≤ d) (F : Nat → sy_d) (X1 X2 : List jm_c) (hB : iv_in F iv_B4)
    (h0 : (sy_i F 17).toInt ≠ 0)
    (k : ∀ F1 : Nat → sy_d, (∀ j, j < 69 → True → F1 j = F j) → Q (some (.int ((0 : Int32)))) (sy_dh F1 X1 X2 (iv_H 4))) :
    hd_W Ls xs d jm_M180 Q (64, sy_dL F [some (.inl (.ref 1000)), some (.inr (.inl 69)), some (.inr (.inl 70)), some (.inr (.inl 71)), none], sy_dS F [.inr (.inl 74)], sy_dh F X1 X2 (iv_H 4), 0, 0) := by
  refine hd_ret (s := 4) (nv := 75) (v := some (.inl (.int 0))) (uh := hd_ov (iv_id 0 iv_B4) []) (f := false) (sp := [12, 44, 61, 97]) (d0 := 0) (O := [false]) (T := []) (P := [(1, .inr (.inl 17), .inl (.int 0))]) jm_ok180 (by decide +kernel) (by decide +kernel) hd F X1 X2 (fun F' hF hs => ?_)
  have b17 := hd_b (F := F) (F' := F') (k := 17) (hF 17 (by decide))
  have hB' : iv_in F' iv_B4 := iv_in_eq hB (fun j hj => hF j (Nat.lt_of_lt_of_le hj (by decide +kernel)))
  refine ⟨List.forall_mem_cons.mpr ⟨hd_p1 b17 rfl (by have hc : ((0) : Int32).toInt = 0 := (by decide); omega), fun _ h => absurd h List.not_mem_nil⟩, ?_⟩
  refine k _ ?_
  · exact fun j hj _ => (hd_keep hB' (Nat.lt_of_lt_of_le hj (by decide +kernel)) (by simp)).trans (hF j (by omega))
theorem lt_100_0 {Ls : Nat} {xs : Nat → Int32} {d : Nat} {Q : Option Value → jm_h → Prop} (hd : 1 ≤ d) (F : Nat → sy_d) (X1 X2 : List jm_c) (hB : iv_in F iv_B4)
    (h0 : (sy_i F 17).toInt = 0)
    (k : ∀ F1 : Nat → sy_d, (∀ j, j < 69 → True → F1 j = F j) → Q (some (.int (sy_i F 73))) (sy_dh F1 X1 X2 (iv_H 4))) :
    hd_W Ls xs d jm_M180 Q (100, sy_dL F [some (.inl (.ref 1000)), some (.inr (.inl 69)), some (.inr (.inl 70)), none, none], sy_dS F [.inr (.inl 73)], sy_dh F X1 X2 (iv_H 4), 0, 0) := by
  refine hd_ret (s := 4) (nv := 74) (v := some (.inr (.inl 73))) (uh := hd_ov (iv_id 0 iv_B4) []) (f := false) (sp := [12, 44, 61, 97]) (d0 := 0) (O := [true]) (T := []) (P := [(0, .inr (.inl 17), .inl (.int 0))]) jm_ok180 (by decide +kernel) (by decide +kernel) hd F X1 X2 (fun F' hF hs => ?_)
  have b17 := hd_b (F := F) (F' := F') (k := 17) (hF 17 (by decide))
  have b73 := hd_b (F := F) (F' := F') (k := 73) (hF 73 (by decide))
  have hB' : iv_in F' iv_B4 := iv_in_eq hB (fun j hj => hF j (Nat.lt_of_lt_of_le hj (by decide +kernel)))
  have hk := k (sy_cm F' (hd_ov (iv_id 0 iv_B4) [] ++ [])) (fun j hj _ => (hd_keep hB' (Nat.lt_of_lt_of_le hj (by decide +kernel)) (by simp)).trans (hF j (by omega)))
  refine ⟨List.forall_mem_cons.mpr ⟨hd_p0 b17 rfl (by have hc : ((0) : Int32).toInt = 0 := (by decide); omega), fun _ h => absurd h List.not_mem_nil⟩, ?_⟩
  show Q (some (sy_dv F' (.inr (.inl 73)))) _
  rw [b73]
  exact hk
theorem lt_100_1 {Ls : Nat} {xs : Nat → Int32} {d : Nat} {Q : Option Value → jm_h → Prop} (hd : 1 ≤ d) (F : Nat → sy_d) (X1 X2 : List jm_c) (hB : iv_in F iv_B4)
    (h0 : (sy_i F 17).toInt ≠ 0)
    (k : ∀ F1 : Nat → sy_d, (∀ j, j < 69 → True → F1 j = F j) → Q (some (.int ((0 : Int32)))) (sy_dh F1 X1 X2 (iv_H 4))) :
    hd_W Ls xs d jm_M180 Q (100, sy_dL F [some (.inl (.ref 1000)), some (.inr (.inl 69)), some (.inr (.inl 70)), none, none], sy_dS F [.inr (.inl 73)], sy_dh F X1 X2 (iv_H 4), 0, 0) := by
  refine hd_ret (s := 4) (nv := 74) (v := some (.inl (.int 0))) (uh := hd_ov (iv_id 0 iv_B4) []) (f := false) (sp := [12, 44, 61, 97]) (d0 := 0) (O := [false]) (T := []) (P := [(1, .inr (.inl 17), .inl (.int 0))]) jm_ok180 (by decide +kernel) (by decide +kernel) hd F X1 X2 (fun F' hF hs => ?_)
  have b17 := hd_b (F := F) (F' := F') (k := 17) (hF 17 (by decide))
  have hB' : iv_in F' iv_B4 := iv_in_eq hB (fun j hj => hF j (Nat.lt_of_lt_of_le hj (by decide +kernel)))
  refine ⟨List.forall_mem_cons.mpr ⟨hd_p1 b17 rfl (by have hc : ((0) : Int32).toInt = 0 := (by decide); omega), fun _ h => absurd h List.not_mem_nil⟩, ?_⟩
  refine k _ ?_
  · exact fun j hj _ => (hd_keep hB' (Nat.lt_of_lt_of_le hj (by decide +kernel)) (by simp)).trans (hF j (by omega))
theorem ak_0_0 {Ls : Nat} {xs : Nat → Int32} {d : Nat} {Q : Option Value → jm_h → Prop} (hd : 2 ≤ d) (F : Nat → sy_d) (X1 X2 : List jm_c) (hB : iv_in F iv_B4)
    (h0 : 0 ≤ ((((6 : Int32)) * (sy_i F 11)) + (sy_i F 69)).toInt ∧ ((((6 : Int32)) * (sy_i F 11)) + (sy_i F 69)).toInt < 12)
    (h1 : 0 ≤ ((((6 : Int32)) * (sy_i F 11)) + (sy_i F 69)).toInt ∧ ((((6 : Int32)) * (sy_i F 11)) + (sy_i F 69)).toInt < 12)
    (h2 : ((sy_ai F 43).getD ((((6 : Int32)) * (sy_i F 11)) + (sy_i F 69)).toNatClampNeg 0).toInt ≤ ((sy_ai F 42).getD ((((6 : Int32)) * (sy_i F 11)) + (sy_i F 69)).toNatClampNeg 0).toInt)
    (h3 : (sy_i F 71).toInt ≤ (sy_i F 70).toInt)
    (h4 : (sy_i F 70).toInt ≤ (sy_i F 72).toInt)
    (k : ∀ F1 : Nat → sy_d, (∀ j, j < 69 → True → F1 j = F j) → Q (some (.int (sy_i F 70))) (sy_dh F1 X1 X2 (iv_H 4))) :
    hd_W Ls xs d jm_M179 Q (0, sy_dL F [some (.inl (.ref 1000)), some (.inr (.inl 69)), some (.inr (.inl 70)), some (.inr (.inl 71)), some (.inr (.inl 72)), none, none], sy_dS F [], sy_dh F X1 X2 (iv_H 4), 0, 0) := by
  refine hd_ret (s := 4) (nv := 73) (v := some (.inr (.inl 70))) (uh := hd_ov (iv_id 0 iv_B4) []) (f := true) (sp := [34]) (d0 := 1) (O := [true, true, true]) (T := [(2, [.inl (.int 6), .inr (.inl 11)], []), (0, [.inr (.inl 73), .inr (.inl 69)], []), (30, [.inr (.inl 74)], [.inr (.inl 42)]), (30, [.inr (.inl 74)], [.inr (.inl 43)])]) (P := [(6, .inr (.inl 74), .inl (.ref 12)), (6, .inr (.inl 74), .inl (.ref 12)), (4, .inr (.inl 76), .inr (.inl 75)), (4, .inr (.inl 71), .inr (.inl 70)), (4, .inr (.inl 70), .inr (.inl 72))]) jm_ok179 (by decide +kernel) (by decide +kernel) hd F X1 X2 (fun F' hF hs => ?_)
  have b11 := hd_b (F := F) (F' := F') (k := 11) (hF 11 (by decide))
  have t73 : sy_dv F' (.inr (.inl 73)) = .int (((6 : Int32)) * (sy_i F 11)) := hd_o (hs 0 _ rfl) rfl b11 rfl
  have b69 := hd_b (F := F) (F' := F') (k := 69) (hF 69 (by decide))
  have t74 : sy_dv F' (.inr (.inl 74)) = .int ((((6 : Int32)) * (sy_i F 11)) + (sy_i F 69)) := hd_o (hs 1 _ rfl) t73 b69 rfl
  have a43 := hd_ba (F := F) (F' := F') (k := 43) (hF 43 (by decide))
  have t76 : sy_dv F' (.inr (.inl 76)) = .int ((sy_ai F 43).getD ((((6 : Int32)) * (sy_i F 11)) + (sy_i F 69)).toNatClampNeg 0) := hd_rd (hs 3 _ rfl) t74 a43
  have a42 := hd_ba (F := F) (F' := F') (k := 42) (hF 42 (by decide))
  have t75 : sy_dv F' (.inr (.inl 75)) = .int ((sy_ai F 42).getD ((((6 : Int32)) * (sy_i F 11)) + (sy_i F 69)).toNatClampNeg 0) := hd_rd (hs 2 _ rfl) t74 a42
  have b71 := hd_b (F := F) (F' := F') (k := 71) (hF 71 (by decide))
  have b70 := hd_b (F := F) (F' := F') (k := 70) (hF 70 (by decide))
  have b72 := hd_b (F := F) (F' := F') (k := 72) (hF 72 (by decide))
  have hB' : iv_in F' iv_B4 := iv_in_eq hB (fun j hj => hF j (Nat.lt_of_lt_of_le hj (by decide +kernel)))
  have hk := k (sy_cm F' (hd_ov (iv_id 0 iv_B4) [] ++ [])) (fun j hj _ => (hd_keep hB' (Nat.lt_of_lt_of_le hj (by decide +kernel)) (by simp)).trans (hF j (by omega)))
  refine ⟨List.forall_mem_cons.mpr ⟨hd_pb t74 (by first | exact h0 | exact h0), List.forall_mem_cons.mpr ⟨hd_pb t74 (by first | exact h1 | exact h1), List.forall_mem_cons.mpr ⟨hd_p4 t76 t75 h2, List.forall_mem_cons.mpr ⟨hd_p4 b71 b70 h3, List.forall_mem_cons.mpr ⟨hd_p4 b70 b72 h4, fun _ h => absurd h List.not_mem_nil⟩⟩⟩⟩⟩, ?_⟩
  show Q (some (sy_dv F' (.inr (.inl 70)))) _
  rw [b70]
  exact hk
theorem ak_0_1 {Ls : Nat} {xs : Nat → Int32} {d : Nat} {Q : Option Value → jm_h → Prop} (hd : 2 ≤ d) (F : Nat → sy_d) (X1 X2 : List jm_c) (hB : iv_in F iv_B4)
    (h0 : 0 ≤ ((((6 : Int32)) * (sy_i F 11)) + (sy_i F 69)).toInt ∧ ((((6 : Int32)) * (sy_i F 11)) + (sy_i F 69)).toInt < 12)
    (h1 : 0 ≤ ((((6 : Int32)) * (sy_i F 11)) + (sy_i F 69)).toInt ∧ ((((6 : Int32)) * (sy_i F 11)) + (sy_i F 69)).toInt < 12)
    (h2 : ((sy_ai F 43).getD ((((6 : Int32)) * (sy_i F 11)) + (sy_i F 69)).toNatClampNeg 0).toInt ≤ ((sy_ai F 42).getD ((((6 : Int32)) * (sy_i F 11)) + (sy_i F 69)).toNatClampNeg 0).toInt)
    (h3 : (sy_i F 71).toInt ≤ (sy_i F 70).toInt)
    (h4 : (sy_i F 72).toInt < (sy_i F 70).toInt)
    (k : ∀ F1 : Nat → sy_d, (∀ j, j < 69 → True → F1 j = F j) → Q (some (.int (sy_i F 72))) (sy_dh F1 X1 X2 (iv_H 4))) :
    hd_W Ls xs d jm_M179 Q (0, sy_dL F [some (.inl (.ref 1000)), some (.inr (.inl 69)), some (.inr (.inl 70)), some (.inr (.inl 71)), some (.inr (.inl 72)), none, none], sy_dS F [], sy_dh F X1 X2 (iv_H 4), 0, 0) := by
  refine hd_ret (s := 4) (nv := 73) (v := some (.inr (.inl 72))) (uh := hd_ov (iv_id 0 iv_B4) []) (f := true) (sp := [34]) (d0 := 1) (O := [true, true, false]) (T := [(2, [.inl (.int 6), .inr (.inl 11)], []), (0, [.inr (.inl 73), .inr (.inl 69)], []), (30, [.inr (.inl 74)], [.inr (.inl 42)]), (30, [.inr (.inl 74)], [.inr (.inl 43)])]) (P := [(6, .inr (.inl 74), .inl (.ref 12)), (6, .inr (.inl 74), .inl (.ref 12)), (4, .inr (.inl 76), .inr (.inl 75)), (4, .inr (.inl 71), .inr (.inl 70)), (5, .inr (.inl 70), .inr (.inl 72))]) jm_ok179 (by decide +kernel) (by decide +kernel) hd F X1 X2 (fun F' hF hs => ?_)
  have b11 := hd_b (F := F) (F' := F') (k := 11) (hF 11 (by decide))
  have t73 : sy_dv F' (.inr (.inl 73)) = .int (((6 : Int32)) * (sy_i F 11)) := hd_o (hs 0 _ rfl) rfl b11 rfl
  have b69 := hd_b (F := F) (F' := F') (k := 69) (hF 69 (by decide))
  have t74 : sy_dv F' (.inr (.inl 74)) = .int ((((6 : Int32)) * (sy_i F 11)) + (sy_i F 69)) := hd_o (hs 1 _ rfl) t73 b69 rfl
  have a43 := hd_ba (F := F) (F' := F') (k := 43) (hF 43 (by decide))
  have t76 : sy_dv F' (.inr (.inl 76)) = .int ((sy_ai F 43).getD ((((6 : Int32)) * (sy_i F 11)) + (sy_i F 69)).toNatClampNeg 0) := hd_rd (hs 3 _ rfl) t74 a43
  have a42 := hd_ba (F := F) (F' := F') (k := 42) (hF 42 (by decide))
  have t75 : sy_dv F' (.inr (.inl 75)) = .int ((sy_ai F 42).getD ((((6 : Int32)) * (sy_i F 11)) + (sy_i F 69)).toNatClampNeg 0) := hd_rd (hs 2 _ rfl) t74 a42
  have b71 := hd_b (F := F) (F' := F') (k := 71) (hF 71 (by decide))
  have b70 := hd_b (F := F) (F' := F') (k := 70) (hF 70 (by decide))
  have b72 := hd_b (F := F) (F' := F') (k := 72) (hF 72 (by decide))
  have hB' : iv_in F' iv_B4 := iv_in_eq hB (fun j hj => hF j (Nat.lt_of_lt_of_le hj (by decide +kernel)))
  have hk := k (sy_cm F' (hd_ov (iv_id 0 iv_B4) [] ++ [])) (fun j hj _ => (hd_keep hB' (Nat.lt_of_lt_of_le hj (by decide +kernel)) (by simp)).trans (hF j (by omega)))
  refine ⟨List.forall_mem_cons.mpr ⟨hd_pb t74 (by first | exact h0 | exact h0), List.forall_mem_cons.mpr ⟨hd_pb t74 (by first | exact h1 | exact h1), List.forall_mem_cons.mpr ⟨hd_p4 t76 t75 h2, List.forall_mem_cons.mpr ⟨hd_p4 b71 b70 h3, List.forall_mem_cons.mpr ⟨hd_p5 b70 b72 h4, fun _ h => absurd h List.not_mem_nil⟩⟩⟩⟩⟩, ?_⟩
  show Q (some (sy_dv F' (.inr (.inl 72)))) _
  rw [b72]
  exact hk
theorem ak_0_2 {Ls : Nat} {xs : Nat → Int32} {d : Nat} {Q : Option Value → jm_h → Prop} (hd : 2 ≤ d) (F : Nat → sy_d) (X1 X2 : List jm_c) (hB : iv_in F iv_B4)
    (h0 : 0 ≤ ((((6 : Int32)) * (sy_i F 11)) + (sy_i F 69)).toInt ∧ ((((6 : Int32)) * (sy_i F 11)) + (sy_i F 69)).toInt < 12)
    (h1 : 0 ≤ ((((6 : Int32)) * (sy_i F 11)) + (sy_i F 69)).toInt ∧ ((((6 : Int32)) * (sy_i F 11)) + (sy_i F 69)).toInt < 12)
    (h2 : ((sy_ai F 43).getD ((((6 : Int32)) * (sy_i F 11)) + (sy_i F 69)).toNatClampNeg 0).toInt ≤ ((sy_ai F 42).getD ((((6 : Int32)) * (sy_i F 11)) + (sy_i F 69)).toNatClampNeg 0).toInt)
    (h3 : (sy_i F 70).toInt < (sy_i F 71).toInt)
    (k : ∀ F1 : Nat → sy_d, (∀ j, j < 69 → True → F1 j = F j) → Q (some (.int (sy_i F 71))) (sy_dh F1 X1 X2 (iv_H 4))) :
    hd_W Ls xs d jm_M179 Q (0, sy_dL F [some (.inl (.ref 1000)), some (.inr (.inl 69)), some (.inr (.inl 70)), some (.inr (.inl 71)), some (.inr (.inl 72)), none, none], sy_dS F [], sy_dh F X1 X2 (iv_H 4), 0, 0) := by
  refine hd_ret (s := 4) (nv := 73) (v := some (.inr (.inl 71))) (uh := hd_ov (iv_id 0 iv_B4) []) (f := true) (sp := [34]) (d0 := 1) (O := [true, false]) (T := [(2, [.inl (.int 6), .inr (.inl 11)], []), (0, [.inr (.inl 73), .inr (.inl 69)], []), (30, [.inr (.inl 74)], [.inr (.inl 42)]), (30, [.inr (.inl 74)], [.inr (.inl 43)])]) (P := [(6, .inr (.inl 74), .inl (.ref 12)), (6, .inr (.inl 74), .inl (.ref 12)), (4, .inr (.inl 76), .inr (.inl 75)), (5, .inr (.inl 71), .inr (.inl 70))]) jm_ok179 (by decide +kernel) (by decide +kernel) hd F X1 X2 (fun F' hF hs => ?_)
  have b11 := hd_b (F := F) (F' := F') (k := 11) (hF 11 (by decide))
  have t73 : sy_dv F' (.inr (.inl 73)) = .int (((6 : Int32)) * (sy_i F 11)) := hd_o (hs 0 _ rfl) rfl b11 rfl
  have b69 := hd_b (F := F) (F' := F') (k := 69) (hF 69 (by decide))
  have t74 : sy_dv F' (.inr (.inl 74)) = .int ((((6 : Int32)) * (sy_i F 11)) + (sy_i F 69)) := hd_o (hs 1 _ rfl) t73 b69 rfl
  have a43 := hd_ba (F := F) (F' := F') (k := 43) (hF 43 (by decide))
  have t76 : sy_dv F' (.inr (.inl 76)) = .int ((sy_ai F 43).getD ((((6 : Int32)) * (sy_i F 11)) + (sy_i F 69)).toNatClampNeg 0) := hd_rd (hs 3 _ rfl) t74 a43
  have a42 := hd_ba (F := F) (F' := F') (k := 42) (hF 42 (by decide))
  have t75 : sy_dv F' (.inr (.inl 75)) = .int ((sy_ai F 42).getD ((((6 : Int32)) * (sy_i F 11)) + (sy_i F 69)).toNatClampNeg 0) := hd_rd (hs 2 _ rfl) t74 a42
  have b71 := hd_b (F := F) (F' := F') (k := 71) (hF 71 (by decide))
  have b70 := hd_b (F := F) (F' := F') (k := 70) (hF 70 (by decide))
  have hB' : iv_in F' iv_B4 := iv_in_eq hB (fun j hj => hF j (Nat.lt_of_lt_of_le hj (by decide +kernel)))
  have hk := k (sy_cm F' (hd_ov (iv_id 0 iv_B4) [] ++ [])) (fun j hj _ => (hd_keep hB' (Nat.lt_of_lt_of_le hj (by decide +kernel)) (by simp)).trans (hF j (by omega)))
  refine ⟨List.forall_mem_cons.mpr ⟨hd_pb t74 (by first | exact h0 | exact h0), List.forall_mem_cons.mpr ⟨hd_pb t74 (by first | exact h1 | exact h1), List.forall_mem_cons.mpr ⟨hd_p4 t76 t75 h2, List.forall_mem_cons.mpr ⟨hd_p5 b71 b70 h3, fun _ h => absurd h List.not_mem_nil⟩⟩⟩⟩, ?_⟩
  show Q (some (sy_dv F' (.inr (.inl 71)))) _
  rw [b71]
  exact hk
theorem ak_0_3 {Ls : Nat} {xs : Nat → Int32} {d : Nat} {Q : Option Value → jm_h → Prop} (hd : 2 ≤ d) (F : Nat → sy_d) (X1 X2 : List jm_c) (hB : iv_in F iv_B4)
    (h0 : 0 ≤ ((((6 : Int32)) * (sy_i F 11)) + (sy_i F 69)).toInt ∧ ((((6 : Int32)) * (sy_i F 11)) + (sy_i F 69)).toInt < 12)
    (h1 : 0 ≤ ((((6 : Int32)) * (sy_i F 11)) + (sy_i F 69)).toInt ∧ ((((6 : Int32)) * (sy_i F 11)) + (sy_i F 69)).toInt < 12)
    (h2 : ((sy_ai F 42).getD ((((6 : Int32)) * (sy_i F 11)) + (sy_i F 69)).toNatClampNeg 0).toInt < ((sy_ai F 43).getD ((((6 : Int32)) * (sy_i F 11)) + (sy_i F 69)).toNatClampNeg 0).toInt)
    (k : ∀ F1 : Nat → sy_d, (∀ j, j < 69 → True → F1 j = F j) → F1 69 = .inl (.int (sy_i F 71)) → F1 70 = .inl (.int (sy_i F 72)) → F1 71 = .inl (.int ((((6 : Int32)) * (sy_i F 11)) + (sy_i F 69))) → hd_W Ls xs d jm_M179 Q (34, sy_dL F1 [some (.inl (.ref 1000)), none, none, some (.inr (.inl 69)), some (.inr (.inl 70)), none, none], sy_dS F1 [.inr (.inl 71), .inl (.ref 1000)], sy_dh F1 X1 X2 (iv_H 4), 0, 0)) :
    hd_W Ls xs d jm_M179 Q (0, sy_dL F [some (.inl (.ref 1000)), some (.inr (.inl 69)), some (.inr (.inl 70)), some (.inr (.inl 71)), some (.inr (.inl 72)), none, none], sy_dS F [], sy_dh F X1 X2 (iv_H 4), 0, 0) := by
  refine hd_run (s := 4) (nv := 73) (pc := 34) (L := [some (.inl (.ref 1000)), none, none, some (.inr (.inl 69)), some (.inr (.inl 70)), none, none]) (S := [.inr (.inl 71), .inl (.ref 1000)]) (uh := hd_ov (iv_id 0 iv_B4) []) (ul := [.inl (.inr (.inl 71)), .inl (.inr (.inl 72)), .inl (.inr (.inl 74))]) (f := true) (sp := [34]) (d0 := 1) (O := [false]) (T := [(2, [.inl (.int 6), .inr (.inl 11)], []), (0, [.inr (.inl 73), .inr (.inl 69)], []), (30, [.inr (.inl 74)], [.inr (.inl 42)]), (30, [.inr (.inl 74)], [.inr (.inl 43)])]) (P := [(6, .inr (.inl 74), .inl (.ref 12)), (6, .inr (.inl 74), .inl (.ref 12)), (5, .inr (.inl 76), .inr (.inl 75))]) jm_ok179 (by decide +kernel) (by decide +kernel) hd F X1 X2 (fun F' hF hs => ?_)
  have b11 := hd_b (F := F) (F' := F') (k := 11) (hF 11 (by decide))
  have t73 : sy_dv F' (.inr (.inl 73)) = .int (((6 : Int32)) * (sy_i F 11)) := hd_o (hs 0 _ rfl) rfl b11 rfl
  have b69 := hd_b (F := F) (F' := F') (k := 69) (hF 69 (by decide))
  have t74 : sy_dv F' (.inr (.inl 74)) = .int ((((6 : Int32)) * (sy_i F 11)) + (sy_i F 69)) := hd_o (hs 1 _ rfl) t73 b69 rfl
  have a43 := hd_ba (F := F) (F' := F') (k := 43) (hF 43 (by decide))
  have t76 : sy_dv F' (.inr (.inl 76)) = .int ((sy_ai F 43).getD ((((6 : Int32)) * (sy_i F 11)) + (sy_i F 69)).toNatClampNeg 0) := hd_rd (hs 3 _ rfl) t74 a43
  have a42 := hd_ba (F := F) (F' := F') (k := 42) (hF 42 (by decide))
  have t75 : sy_dv F' (.inr (.inl 75)) = .int ((sy_ai F 42).getD ((((6 : Int32)) * (sy_i F 11)) + (sy_i F 69)).toNatClampNeg 0) := hd_rd (hs 2 _ rfl) t74 a42
  have b71 := hd_b (F := F) (F' := F') (k := 71) (hF 71 (by decide))
  have b72 := hd_b (F := F) (F' := F') (k := 72) (hF 72 (by decide))
  have hB' : iv_in F' iv_B4 := iv_in_eq hB (fun j hj => hF j (Nat.lt_of_lt_of_le hj (by decide +kernel)))
  refine ⟨List.forall_mem_cons.mpr ⟨hd_pb t74 (by first | exact h0 | exact h0), List.forall_mem_cons.mpr ⟨hd_pb t74 (by first | exact h1 | exact h1), List.forall_mem_cons.mpr ⟨hd_p5 t76 t75 h2, fun _ h => absurd h List.not_mem_nil⟩⟩⟩, ?_⟩
  refine k _ ?_ ?_ ?_ ?_
  · exact fun j hj _ => (hd_keep hB' (Nat.lt_of_lt_of_le hj (by decide +kernel)) (by simp)).trans (hF j (by omega))
  · exact hd_gi (x := .inr (.inl 71)) (by decide +kernel) b71
  · exact hd_gi (x := .inr (.inl 72)) (by decide +kernel) b72
  · exact hd_gi (x := .inr (.inl 74)) (by decide +kernel) t74
theorem ak_37_0 {Ls : Nat} {xs : Nat → Int32} {d : Nat} {Q : Option Value → jm_h → Prop} (hd : 2 ≤ d) (F : Nat → sy_d) (X1 X2 : List jm_c) (hB : iv_in F iv_B4)
    (h0 : (sy_i F 69).toInt ≤ (sy_i F 72).toInt)
    (h1 : (sy_i F 72).toInt ≤ (sy_i F 70).toInt)
    (k : ∀ F1 : Nat → sy_d, (∀ j, j < 69 → True → F1 j = F j) → Q (some (.int (sy_i F 72))) (sy_dh F1 X1 X2 (iv_H 4))) :
    hd_W Ls xs d jm_M179 Q (37, sy_dL F [some (.inl (.ref 1000)), none, none, some (.inr (.inl 69)), some (.inr (.inl 70)), none, none], sy_dS F [.inr (.inl 72)], sy_dh F X1 X2 (iv_H 4), 0, 0) := by
  refine hd_ret (s := 4) (nv := 73) (v := some (.inr (.inl 72))) (uh := hd_ov (iv_id 0 iv_B4) []) (f := false) (sp := [34]) (d0 := 1) (O := [true, true]) (T := []) (P := [(4, .inr (.inl 69), .inr (.inl 72)), (4, .inr (.inl 72), .inr (.inl 70))]) jm_ok179 (by decide +kernel) (by decide +kernel) hd F X1 X2 (fun F' hF hs => ?_)
  have b69 := hd_b (F := F) (F' := F') (k := 69) (hF 69 (by decide))
  have b72 := hd_b (F := F) (F' := F') (k := 72) (hF 72 (by decide))
  have b70 := hd_b (F := F) (F' := F') (k := 70) (hF 70 (by decide))
  have hB' : iv_in F' iv_B4 := iv_in_eq hB (fun j hj => hF j (Nat.lt_of_lt_of_le hj (by decide +kernel)))
  have hk := k (sy_cm F' (hd_ov (iv_id 0 iv_B4) [] ++ [])) (fun j hj _ => (hd_keep hB' (Nat.lt_of_lt_of_le hj (by decide +kernel)) (by simp)).trans (hF j (by omega)))
  refine ⟨List.forall_mem_cons.mpr ⟨hd_p4 b69 b72 h0, List.forall_mem_cons.mpr ⟨hd_p4 b72 b70 h1, fun _ h => absurd h List.not_mem_nil⟩⟩, ?_⟩
  show Q (some (sy_dv F' (.inr (.inl 72)))) _
  rw [b72]
  exact hk
theorem ak_37_1 {Ls : Nat} {xs : Nat → Int32} {d : Nat} {Q : Option Value → jm_h → Prop} (hd : 2 ≤ d) (F : Nat → sy_d) (X1 X2 : List jm_c) (hB : iv_in F iv_B4)
    (h0 : (sy_i F 69).toInt ≤ (sy_i F 72).toInt)
    (h1 : (sy_i F 70).toInt < (sy_i F 72).toInt)
    (k : ∀ F1 : Nat → sy_d, (∀ j, j < 69 → True → F1 j = F j) → Q (some (.int (sy_i F 70))) (sy_dh F1 X1 X2 (iv_H 4))) :
    hd_W Ls xs d jm_M179 Q (37, sy_dL F [some (.inl (.ref 1000)), none, none, some (.inr (.inl 69)), some (.inr (.inl 70)), none, none], sy_dS F [.inr (.inl 72)], sy_dh F X1 X2 (iv_H 4), 0, 0) := by
  refine hd_ret (s := 4) (nv := 73) (v := some (.inr (.inl 70))) (uh := hd_ov (iv_id 0 iv_B4) []) (f := false) (sp := [34]) (d0 := 1) (O := [true, false]) (T := []) (P := [(4, .inr (.inl 69), .inr (.inl 72)), (5, .inr (.inl 72), .inr (.inl 70))]) jm_ok179 (by decide +kernel) (by decide +kernel) hd F X1 X2 (fun F' hF hs => ?_)
  have b69 := hd_b (F := F) (F' := F') (k := 69) (hF 69 (by decide))
  have b72 := hd_b (F := F) (F' := F') (k := 72) (hF 72 (by decide))
  have b70 := hd_b (F := F) (F' := F') (k := 70) (hF 70 (by decide))
  have hB' : iv_in F' iv_B4 := iv_in_eq hB (fun j hj => hF j (Nat.lt_of_lt_of_le hj (by decide +kernel)))
  have hk := k (sy_cm F' (hd_ov (iv_id 0 iv_B4) [] ++ [])) (fun j hj _ => (hd_keep hB' (Nat.lt_of_lt_of_le hj (by decide +kernel)) (by simp)).trans (hF j (by omega)))
  refine ⟨List.forall_mem_cons.mpr ⟨hd_p4 b69 b72 h0, List.forall_mem_cons.mpr ⟨hd_p5 b72 b70 h1, fun _ h => absurd h List.not_mem_nil⟩⟩, ?_⟩
  show Q (some (sy_dv F' (.inr (.inl 70)))) _
  rw [b70]
  exact hk
theorem ak_37_2 {Ls : Nat} {xs : Nat → Int32} {d : Nat} {Q : Option Value → jm_h → Prop} (hd : 2 ≤ d) (F : Nat → sy_d) (X1 X2 : List jm_c) (hB : iv_in F iv_B4)
    (h0 : (sy_i F 72).toInt < (sy_i F 69).toInt)
    (k : ∀ F1 : Nat → sy_d, (∀ j, j < 69 → True → F1 j = F j) → Q (some (.int (sy_i F 69))) (sy_dh F1 X1 X2 (iv_H 4))) :
    hd_W Ls xs d jm_M179 Q (37, sy_dL F [some (.inl (.ref 1000)), none, none, some (.inr (.inl 69)), some (.inr (.inl 70)), none, none], sy_dS F [.inr (.inl 72)], sy_dh F X1 X2 (iv_H 4), 0, 0) := by
  refine hd_ret (s := 4) (nv := 73) (v := some (.inr (.inl 69))) (uh := hd_ov (iv_id 0 iv_B4) []) (f := false) (sp := [34]) (d0 := 1) (O := [false]) (T := []) (P := [(5, .inr (.inl 69), .inr (.inl 72))]) jm_ok179 (by decide +kernel) (by decide +kernel) hd F X1 X2 (fun F' hF hs => ?_)
  have b69 := hd_b (F := F) (F' := F') (k := 69) (hF 69 (by decide))
  have b72 := hd_b (F := F) (F' := F') (k := 72) (hF 72 (by decide))
  have hB' : iv_in F' iv_B4 := iv_in_eq hB (fun j hj => hF j (Nat.lt_of_lt_of_le hj (by decide +kernel)))
  have hk := k (sy_cm F' (hd_ov (iv_id 0 iv_B4) [] ++ [])) (fun j hj _ => (hd_keep hB' (Nat.lt_of_lt_of_le hj (by decide +kernel)) (by simp)).trans (hF j (by omega)))
  refine ⟨List.forall_mem_cons.mpr ⟨hd_p5 b69 b72 h0, fun _ h => absurd h List.not_mem_nil⟩, ?_⟩
  show Q (some (sy_dv F' (.inr (.inl 69)))) _
  rw [b69]
  exact hk
