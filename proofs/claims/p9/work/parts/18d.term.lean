/-! ===== the reference: a term of a law, way by way ===== -/
theorem te_0_0 {Ls : Nat} {xs : Nat → Int32} {d : Nat} {Q : Option Value → jm_h → Prop} (hd : 1 ≤ d) (F : Nat → sy_d) (X1 X2 : List jm_c) (hB : iv_in F iv_B4)
    (k : ∀ F1 : Nat → sy_d, (∀ j, j < 69 → True → F1 j = F j) → F1 69 = .inl (.int (sy_i F 70)) → F1 70 = .inl (.int ((0 : Int32))) → F1 71 = .inl (.int (sy_i F 69)) → hd_W Ls xs d jm_M166 Q (5, sy_dL F1 [some (.inl (.ref 1000)), none, some (.inr (.inl 69)), some (.inr (.inl 70)), some (.inr (.inl 71)), none, none, none], sy_dS F1 [], sy_dh F1 X1 X2 (iv_H 4), 0, 0)) :
    hd_W Ls xs d jm_M166 Q (0, sy_dL F [some (.inl (.ref 1000)), some (.inr (.inl 69)), some (.inr (.inl 70)), none, none, none, none, none], sy_dS F [], sy_dh F X1 X2 (iv_H 4), 0, 0) := by
  refine hd_run (s := 4) (nv := 71) (pc := 5) (L := [some (.inl (.ref 1000)), none, some (.inr (.inl 69)), some (.inr (.inl 70)), some (.inr (.inl 71)), none, none, none]) (S := []) (uh := hd_ov (iv_id 0 iv_B4) []) (ul := [.inl (.inr (.inl 70)), .inl (.inl (.int 0)), .inl (.inr (.inl 69))]) (f := true) (sp := [5]) (d0 := 0) (O := []) (T := []) (P := []) jm_ok166 (by decide +kernel) (by decide +kernel) hd F X1 X2 (fun F' hF hs => ?_)
  have b70 := hd_b (F := F) (F' := F') (k := 70) (hF 70 (by decide))
  have b69 := hd_b (F := F) (F' := F') (k := 69) (hF 69 (by decide))
  have hB' : iv_in F' iv_B4 := iv_in_eq hB (fun j hj => hF j (Nat.lt_of_lt_of_le hj (by decide +kernel)))
  refine ⟨fun _ h => absurd h List.not_mem_nil, ?_⟩
  refine k _ ?_ ?_ ?_ ?_
  · exact fun j hj _ => (hd_keep hB' (Nat.lt_of_lt_of_le hj (by decide +kernel)) (by simp)).trans (hF j (by omega))
  · exact hd_gi (x := .inr (.inl 70)) (by decide +kernel) b70
  · exact hd_gi (x := .inl (.int 0)) (by decide +kernel) rfl
  · exact hd_gi (x := .inr (.inl 69)) (by decide +kernel) b69
theorem te_5_0 {Ls : Nat} {xs : Nat → Int32} {d : Nat} {Q : Option Value → jm_h → Prop} (hd : 1 ≤ d) (F : Nat → sy_d) (X1 X2 : List jm_c) (hB : iv_in F iv_B4)
    (h0 : (sy_i F 69).toInt ≤ (sy_i F 71).toInt)
    (k : ∀ F1 : Nat → sy_d, (∀ j, j < 69 → True → F1 j = F j) → Q (some (.int ((sy_ai F 53).getD ((0 : Int32)).toNatClampNeg 0))) (sy_dh F1 X1 X2 (iv_H 4))) :
    hd_W Ls xs d jm_M166 Q (5, sy_dL F [some (.inl (.ref 1000)), none, some (.inr (.inl 69)), some (.inr (.inl 70)), some (.inr (.inl 71)), none, none, none], sy_dS F [], sy_dh F X1 X2 (iv_H 4), 0, 0) := by
  refine hd_ret (s := 4) (nv := 72) (v := some (.inr (.inl 72))) (uh := hd_ov (iv_id 0 iv_B4) []) (f := true) (sp := [5]) (d0 := 0) (O := [true]) (T := [(30, [.inl (.int 0)], [.inr (.inl 53)])]) (P := [(4, .inr (.inl 69), .inr (.inl 71))]) jm_ok166 (by decide +kernel) (by decide +kernel) hd F X1 X2 (fun F' hF hs => ?_)
  have b69 := hd_b (F := F) (F' := F') (k := 69) (hF 69 (by decide))
  have b71 := hd_b (F := F) (F' := F') (k := 71) (hF 71 (by decide))
  have a53 := hd_ba (F := F) (F' := F') (k := 53) (hF 53 (by decide))
  have t72 : sy_dv F' (.inr (.inl 72)) = .int ((sy_ai F 53).getD ((0 : Int32)).toNatClampNeg 0) := hd_rd (hs 0 _ rfl) rfl a53
  have hB' : iv_in F' iv_B4 := iv_in_eq hB (fun j hj => hF j (Nat.lt_of_lt_of_le hj (by decide +kernel)))
  have hk := k (sy_cm F' (hd_ov (iv_id 0 iv_B4) [] ++ [])) (fun j hj _ => (hd_keep hB' (Nat.lt_of_lt_of_le hj (by decide +kernel)) (by simp)).trans (hF j (by omega)))
  refine ⟨List.forall_mem_cons.mpr ⟨hd_p4 b69 b71 h0, fun _ h => absurd h List.not_mem_nil⟩, ?_⟩
  show Q (some (sy_dv F' (.inr (.inl 72)))) _
  rw [t72]
  exact hk
theorem te_5_1 {Ls : Nat} {xs : Nat → Int32} {d : Nat} {Q : Option Value → jm_h → Prop} (hd : 1 ≤ d) (F : Nat → sy_d) (X1 X2 : List jm_c) (hB : iv_in F iv_B4)
    (h0 : (sy_i F 71).toInt < (sy_i F 69).toInt)
    (h1 : 0 ≤ (sy_i F 71).toInt ∧ (sy_i F 71).toInt < 840)
    (h2 : 2 ≤ ((sy_ai F 49).getD (sy_i F 71).toNatClampNeg 0).toInt)
    (h3 : 0 ≤ (((sy_i F 70) + (((-1) : Int32))) - ((1 : Int32))).toInt ∧ (((sy_i F 70) + (((-1) : Int32))) - ((1 : Int32))).toInt < 400)
    (h4 : 0 ≤ ((sy_i F 70) + (((-1) : Int32))).toInt ∧ ((sy_i F 70) + (((-1) : Int32))).toInt < 400)
    (h5 : ((sy_ai F 49).getD (sy_i F 71).toNatClampNeg 0).toInt ≠ 5)
    (h6 : ((sy_ai F 49).getD (sy_i F 71).toNatClampNeg 0).toInt ≠ 2)
    (h7 : ((sy_ai F 49).getD (sy_i F 71).toNatClampNeg 0).toInt ≠ 3)
    (h8 : ((sy_ai F 49).getD (sy_i F 71).toNatClampNeg 0).toInt = 4)
    (h9 : 0 ≤ (((sy_i F 70) + (((-1) : Int32))) - ((1 : Int32))).toInt ∧ (((sy_i F 70) + (((-1) : Int32))) - ((1 : Int32))).toInt < 400)
    (k : ∀ F1 : Nat → sy_d, (∀ j, j < 69 → j ≠ 53 → F1 j = F j) → F1 53 = .inr (.inl (jm_upd (sy_ai F 53) (((sy_i F 70) + (((-1) : Int32))) - ((1 : Int32))).toNatClampNeg (((sy_ai F 53).getD (((sy_i F 70) + (((-1) : Int32))) - ((1 : Int32))).toNatClampNeg 0) * ((sy_ai F 53).getD ((sy_i F 70) + (((-1) : Int32))).toNatClampNeg 0)))) → F1 69 = .inl (.int (sy_i F 69)) → F1 70 = .inl (.int ((sy_i F 70) + (((-1) : Int32)))) → F1 71 = .inl (.int ((sy_i F 71) + ((1 : Int32)))) → hd_W Ls xs d jm_M166 Q (5, sy_dL F1 [some (.inl (.ref 1000)), none, some (.inr (.inl 69)), some (.inr (.inl 70)), some (.inr (.inl 71)), none, none, none], sy_dS F1 [], sy_dh F1 X1 X2 (iv_H 4), 0, 0)) :
    hd_W Ls xs d jm_M166 Q (5, sy_dL F [some (.inl (.ref 1000)), none, some (.inr (.inl 69)), some (.inr (.inl 70)), some (.inr (.inl 71)), none, none, none], sy_dS F [], sy_dh F X1 X2 (iv_H 4), 0, 0) := by
  refine hd_run (s := 4) (nv := 72) (pc := 5) (L := [some (.inl (.ref 1000)), none, some (.inr (.inl 69)), some (.inr (.inl 70)), some (.inr (.inl 71)), none, none, none]) (S := []) (uh := hd_ov (iv_id 0 iv_B4) [(53, .inr (.inr (.inl 79)))]) (ul := [.inl (.inr (.inl 69)), .inl (.inr (.inl 73)), .inl (.inr (.inl 80))]) (f := true) (sp := [5]) (d0 := 0) (O := [false, true, true, true, true, false]) (T := [(30, [.inr (.inl 71)], [.inr (.inl 49)]), (0, [.inr (.inl 70), .inl (.int (-1))], []), (1, [.inr (.inl 73), .inl (.int 1)], []), (30, [.inr (.inl 74)], [.inr (.inl 53)]), (30, [.inr (.inl 73)], [.inr (.inl 53)]), (1, [.inr (.inl 73), .inl (.int 1)], []), (2, [.inr (.inl 75), .inr (.inl 76)], []), (40, [.inr (.inl 77), .inr (.inl 78)], [.inr (.inl 53)]), (0, [.inr (.inl 71), .inl (.int 1)], [])]) (P := [(5, .inr (.inl 69), .inr (.inl 71)), (6, .inr (.inl 71), .inl (.ref 840)), (4, .inl (.int 2), .inr (.inl 72)), (6, .inr (.inl 74), .inl (.ref 400)), (6, .inr (.inl 73), .inl (.ref 400)), (1, .inr (.inl 72), .inl (.int 5)), (1, .inr (.inl 72), .inl (.int 2)), (1, .inr (.inl 72), .inl (.int 3)), (0, .inr (.inl 72), .inl (.int 4)), (6, .inr (.inl 77), .inl (.ref 400))]) jm_ok166 (by decide +kernel) (by decide +kernel) hd F X1 X2 (fun F' hF hs => ?_)
  have b69 := hd_b (F := F) (F' := F') (k := 69) (hF 69 (by decide))
  have b71 := hd_b (F := F) (F' := F') (k := 71) (hF 71 (by decide))
  have a49 := hd_ba (F := F) (F' := F') (k := 49) (hF 49 (by decide))
  have t72 : sy_dv F' (.inr (.inl 72)) = .int ((sy_ai F 49).getD (sy_i F 71).toNatClampNeg 0) := hd_rd (hs 0 _ rfl) b71 a49
  have b70 := hd_b (F := F) (F' := F') (k := 70) (hF 70 (by decide))
  have t73 : sy_dv F' (.inr (.inl 73)) = .int ((sy_i F 70) + (((-1) : Int32))) := hd_o (hs 1 _ rfl) b70 rfl rfl
  have t74 : sy_dv F' (.inr (.inl 74)) = .int (((sy_i F 70) + (((-1) : Int32))) - ((1 : Int32))) := hd_o (hs 2 _ rfl) t73 rfl rfl
  have t77 : sy_dv F' (.inr (.inl 77)) = .int (((sy_i F 70) + (((-1) : Int32))) - ((1 : Int32))) := hd_o (hs 5 _ rfl) t73 rfl rfl
  have a53 := hd_ba (F := F) (F' := F') (k := 53) (hF 53 (by decide))
  have t75 : sy_dv F' (.inr (.inl 75)) = .int ((sy_ai F 53).getD (((sy_i F 70) + (((-1) : Int32))) - ((1 : Int32))).toNatClampNeg 0) := hd_rd (hs 3 _ rfl) t74 a53
  have t76 : sy_dv F' (.inr (.inl 76)) = .int ((sy_ai F 53).getD ((sy_i F 70) + (((-1) : Int32))).toNatClampNeg 0) := hd_rd (hs 4 _ rfl) t73 a53
  have t78 : sy_dv F' (.inr (.inl 78)) = .int (((sy_ai F 53).getD (((sy_i F 70) + (((-1) : Int32))) - ((1 : Int32))).toNatClampNeg 0) * ((sy_ai F 53).getD ((sy_i F 70) + (((-1) : Int32))).toNatClampNeg 0)) := hd_o (hs 6 _ rfl) t75 t76 rfl
  have t79 : sy_da F' (.inr (.inl 79)) = .inl (jm_upd (sy_ai F 53) (((sy_i F 70) + (((-1) : Int32))) - ((1 : Int32))).toNatClampNeg (((sy_ai F 53).getD (((sy_i F 70) + (((-1) : Int32))) - ((1 : Int32))).toNatClampNeg 0) * ((sy_ai F 53).getD ((sy_i F 70) + (((-1) : Int32))).toNatClampNeg 0))) := hd_up (hs 7 _ rfl) t77 t78 a53
  have t80 : sy_dv F' (.inr (.inl 80)) = .int ((sy_i F 71) + ((1 : Int32))) := hd_o (hs 8 _ rfl) b71 rfl rfl
  have hB' : iv_in F' iv_B4 := iv_in_eq hB (fun j hj => hF j (Nat.lt_of_lt_of_le hj (by decide +kernel)))
  refine ⟨List.forall_mem_cons.mpr ⟨hd_p5 b69 b71 h0, List.forall_mem_cons.mpr ⟨hd_pb b71 (by first | exact h1 | exact h1), List.forall_mem_cons.mpr ⟨hd_p4 rfl t72 (by have hc : ((2) : Int32).toInt = 2 := (by decide); omega), List.forall_mem_cons.mpr ⟨hd_pb t74 (by first | exact h3 | exact h3), List.forall_mem_cons.mpr ⟨hd_pb t73 (by first | exact h4 | exact h4), List.forall_mem_cons.mpr ⟨hd_p1 t72 rfl (by have hc : ((5) : Int32).toInt = 5 := (by decide); omega), List.forall_mem_cons.mpr ⟨hd_p1 t72 rfl (by have hc : ((2) : Int32).toInt = 2 := (by decide); omega), List.forall_mem_cons.mpr ⟨hd_p1 t72 rfl (by have hc : ((3) : Int32).toInt = 3 := (by decide); omega), List.forall_mem_cons.mpr ⟨hd_p0 t72 rfl (by have hc : ((4) : Int32).toInt = 4 := (by decide); omega), List.forall_mem_cons.mpr ⟨hd_pb t77 (by first | exact h9 | exact h9), fun _ h => absurd h List.not_mem_nil⟩⟩⟩⟩⟩⟩⟩⟩⟩⟩, ?_⟩
  refine k _ ?_ ?_ ?_ ?_ ?_
  · exact fun j hj hn => (hd_keep hB' (Nat.lt_of_lt_of_le hj (by decide +kernel)) (by simp; omega)).trans (hF j (by omega))
  · exact hd_ga (a := .inr (.inl 79)) (by decide +kernel) t79
  · exact hd_gi (x := .inr (.inl 69)) (by decide +kernel) b69
  · exact hd_gi (x := .inr (.inl 73)) (by decide +kernel) t73
  · exact hd_gi (x := .inr (.inl 80)) (by decide +kernel) t80
theorem te_5_2 {Ls : Nat} {xs : Nat → Int32} {d : Nat} {Q : Option Value → jm_h → Prop} (hd : 1 ≤ d) (F : Nat → sy_d) (X1 X2 : List jm_c) (hB : iv_in F iv_B4)
    (h0 : (sy_i F 71).toInt < (sy_i F 69).toInt)
    (h1 : 0 ≤ (sy_i F 71).toInt ∧ (sy_i F 71).toInt < 840)
    (h2 : 2 ≤ ((sy_ai F 49).getD (sy_i F 71).toNatClampNeg 0).toInt)
    (h3 : 0 ≤ (((sy_i F 70) + (((-1) : Int32))) - ((1 : Int32))).toInt ∧ (((sy_i F 70) + (((-1) : Int32))) - ((1 : Int32))).toInt < 400)
    (h4 : 0 ≤ ((sy_i F 70) + (((-1) : Int32))).toInt ∧ ((sy_i F 70) + (((-1) : Int32))).toInt < 400)
    (h5 : ((sy_ai F 49).getD (sy_i F 71).toNatClampNeg 0).toInt ≠ 5)
    (h6 : ((sy_ai F 49).getD (sy_i F 71).toNatClampNeg 0).toInt ≠ 2)
    (h7 : ((sy_ai F 49).getD (sy_i F 71).toNatClampNeg 0).toInt = 3)
    (h8 : 0 ≤ (((sy_i F 70) + (((-1) : Int32))) - ((1 : Int32))).toInt ∧ (((sy_i F 70) + (((-1) : Int32))) - ((1 : Int32))).toInt < 400)
    (k : ∀ F1 : Nat → sy_d, (∀ j, j < 69 → j ≠ 53 → F1 j = F j) → F1 53 = .inr (.inl (jm_upd (sy_ai F 53) (((sy_i F 70) + (((-1) : Int32))) - ((1 : Int32))).toNatClampNeg (((sy_ai F 53).getD (((sy_i F 70) + (((-1) : Int32))) - ((1 : Int32))).toNatClampNeg 0) - ((sy_ai F 53).getD ((sy_i F 70) + (((-1) : Int32))).toNatClampNeg 0)))) → F1 69 = .inl (.int (sy_i F 69)) → F1 70 = .inl (.int ((sy_i F 70) + (((-1) : Int32)))) → F1 71 = .inl (.int ((sy_i F 71) + ((1 : Int32)))) → hd_W Ls xs d jm_M166 Q (5, sy_dL F1 [some (.inl (.ref 1000)), none, some (.inr (.inl 69)), some (.inr (.inl 70)), some (.inr (.inl 71)), none, none, none], sy_dS F1 [], sy_dh F1 X1 X2 (iv_H 4), 0, 0)) :
    hd_W Ls xs d jm_M166 Q (5, sy_dL F [some (.inl (.ref 1000)), none, some (.inr (.inl 69)), some (.inr (.inl 70)), some (.inr (.inl 71)), none, none, none], sy_dS F [], sy_dh F X1 X2 (iv_H 4), 0, 0) := by
  refine hd_run (s := 4) (nv := 72) (pc := 5) (L := [some (.inl (.ref 1000)), none, some (.inr (.inl 69)), some (.inr (.inl 70)), some (.inr (.inl 71)), none, none, none]) (S := []) (uh := hd_ov (iv_id 0 iv_B4) [(53, .inr (.inr (.inl 79)))]) (ul := [.inl (.inr (.inl 69)), .inl (.inr (.inl 73)), .inl (.inr (.inl 80))]) (f := true) (sp := [5]) (d0 := 0) (O := [false, true, true, true, false]) (T := [(30, [.inr (.inl 71)], [.inr (.inl 49)]), (0, [.inr (.inl 70), .inl (.int (-1))], []), (1, [.inr (.inl 73), .inl (.int 1)], []), (30, [.inr (.inl 74)], [.inr (.inl 53)]), (30, [.inr (.inl 73)], [.inr (.inl 53)]), (1, [.inr (.inl 73), .inl (.int 1)], []), (1, [.inr (.inl 75), .inr (.inl 76)], []), (40, [.inr (.inl 77), .inr (.inl 78)], [.inr (.inl 53)]), (0, [.inr (.inl 71), .inl (.int 1)], [])]) (P := [(5, .inr (.inl 69), .inr (.inl 71)), (6, .inr (.inl 71), .inl (.ref 840)), (4, .inl (.int 2), .inr (.inl 72)), (6, .inr (.inl 74), .inl (.ref 400)), (6, .inr (.inl 73), .inl (.ref 400)), (1, .inr (.inl 72), .inl (.int 5)), (1, .inr (.inl 72), .inl (.int 2)), (0, .inr (.inl 72), .inl (.int 3)), (6, .inr (.inl 77), .inl (.ref 400))]) jm_ok166 (by decide +kernel) (by decide +kernel) hd F X1 X2 (fun F' hF hs => ?_)
  have b69 := hd_b (F := F) (F' := F') (k := 69) (hF 69 (by decide))
  have b71 := hd_b (F := F) (F' := F') (k := 71) (hF 71 (by decide))
  have a49 := hd_ba (F := F) (F' := F') (k := 49) (hF 49 (by decide))
  have t72 : sy_dv F' (.inr (.inl 72)) = .int ((sy_ai F 49).getD (sy_i F 71).toNatClampNeg 0) := hd_rd (hs 0 _ rfl) b71 a49
  have b70 := hd_b (F := F) (F' := F') (k := 70) (hF 70 (by decide))
  have t73 : sy_dv F' (.inr (.inl 73)) = .int ((sy_i F 70) + (((-1) : Int32))) := hd_o (hs 1 _ rfl) b70 rfl rfl
  have t74 : sy_dv F' (.inr (.inl 74)) = .int (((sy_i F 70) + (((-1) : Int32))) - ((1 : Int32))) := hd_o (hs 2 _ rfl) t73 rfl rfl
  have t77 : sy_dv F' (.inr (.inl 77)) = .int (((sy_i F 70) + (((-1) : Int32))) - ((1 : Int32))) := hd_o (hs 5 _ rfl) t73 rfl rfl
  have a53 := hd_ba (F := F) (F' := F') (k := 53) (hF 53 (by decide))
  have t75 : sy_dv F' (.inr (.inl 75)) = .int ((sy_ai F 53).getD (((sy_i F 70) + (((-1) : Int32))) - ((1 : Int32))).toNatClampNeg 0) := hd_rd (hs 3 _ rfl) t74 a53
  have t76 : sy_dv F' (.inr (.inl 76)) = .int ((sy_ai F 53).getD ((sy_i F 70) + (((-1) : Int32))).toNatClampNeg 0) := hd_rd (hs 4 _ rfl) t73 a53
  have t78 : sy_dv F' (.inr (.inl 78)) = .int (((sy_ai F 53).getD (((sy_i F 70) + (((-1) : Int32))) - ((1 : Int32))).toNatClampNeg 0) - ((sy_ai F 53).getD ((sy_i F 70) + (((-1) : Int32))).toNatClampNeg 0)) := hd_o (hs 6 _ rfl) t75 t76 rfl
  have t79 : sy_da F' (.inr (.inl 79)) = .inl (jm_upd (sy_ai F 53) (((sy_i F 70) + (((-1) : Int32))) - ((1 : Int32))).toNatClampNeg (((sy_ai F 53).getD (((sy_i F 70) + (((-1) : Int32))) - ((1 : Int32))).toNatClampNeg 0) - ((sy_ai F 53).getD ((sy_i F 70) + (((-1) : Int32))).toNatClampNeg 0))) := hd_up (hs 7 _ rfl) t77 t78 a53
  have t80 : sy_dv F' (.inr (.inl 80)) = .int ((sy_i F 71) + ((1 : Int32))) := hd_o (hs 8 _ rfl) b71 rfl rfl
  have hB' : iv_in F' iv_B4 := iv_in_eq hB (fun j hj => hF j (Nat.lt_of_lt_of_le hj (by decide +kernel)))
  refine ⟨List.forall_mem_cons.mpr ⟨hd_p5 b69 b71 h0, List.forall_mem_cons.mpr ⟨hd_pb b71 (by first | exact h1 | exact h1), List.forall_mem_cons.mpr ⟨hd_p4 rfl t72 (by have hc : ((2) : Int32).toInt = 2 := (by decide); omega), List.forall_mem_cons.mpr ⟨hd_pb t74 (by first | exact h3 | exact h3), List.forall_mem_cons.mpr ⟨hd_pb t73 (by first | exact h4 | exact h4), List.forall_mem_cons.mpr ⟨hd_p1 t72 rfl (by have hc : ((5) : Int32).toInt = 5 := (by decide); omega), List.forall_mem_cons.mpr ⟨hd_p1 t72 rfl (by have hc : ((2) : Int32).toInt = 2 := (by decide); omega), List.forall_mem_cons.mpr ⟨hd_p0 t72 rfl (by have hc : ((3) : Int32).toInt = 3 := (by decide); omega), List.forall_mem_cons.mpr ⟨hd_pb t77 (by first | exact h8 | exact h8), fun _ h => absurd h List.not_mem_nil⟩⟩⟩⟩⟩⟩⟩⟩⟩, ?_⟩
  refine k _ ?_ ?_ ?_ ?_ ?_
  · exact fun j hj hn => (hd_keep hB' (Nat.lt_of_lt_of_le hj (by decide +kernel)) (by simp; omega)).trans (hF j (by omega))
  · exact hd_ga (a := .inr (.inl 79)) (by decide +kernel) t79
  · exact hd_gi (x := .inr (.inl 69)) (by decide +kernel) b69
  · exact hd_gi (x := .inr (.inl 73)) (by decide +kernel) t73
  · exact hd_gi (x := .inr (.inl 80)) (by decide +kernel) t80
theorem te_5_3 {Ls : Nat} {xs : Nat → Int32} {d : Nat} {Q : Option Value → jm_h → Prop} (hd : 1 ≤ d) (F : Nat → sy_d) (X1 X2 : List jm_c) (hB : iv_in F iv_B4)
    (h0 : (sy_i F 71).toInt < (sy_i F 69).toInt)
    (h1 : 0 ≤ (sy_i F 71).toInt ∧ (sy_i F 71).toInt < 840)
    (h2 : 2 ≤ ((sy_ai F 49).getD (sy_i F 71).toNatClampNeg 0).toInt)
    (h3 : 0 ≤ (((sy_i F 70) + (((-1) : Int32))) - ((1 : Int32))).toInt ∧ (((sy_i F 70) + (((-1) : Int32))) - ((1 : Int32))).toInt < 400)
    (h4 : 0 ≤ ((sy_i F 70) + (((-1) : Int32))).toInt ∧ ((sy_i F 70) + (((-1) : Int32))).toInt < 400)
    (h5 : ((sy_ai F 49).getD (sy_i F 71).toNatClampNeg 0).toInt ≠ 5)
    (h6 : ((sy_ai F 49).getD (sy_i F 71).toNatClampNeg 0).toInt = 2)
    (h7 : 0 ≤ (((sy_i F 70) + (((-1) : Int32))) - ((1 : Int32))).toInt ∧ (((sy_i F 70) + (((-1) : Int32))) - ((1 : Int32))).toInt < 400)
    (k : ∀ F1 : Nat → sy_d, (∀ j, j < 69 → j ≠ 53 → F1 j = F j) → F1 53 = .inr (.inl (jm_upd (sy_ai F 53) (((sy_i F 70) + (((-1) : Int32))) - ((1 : Int32))).toNatClampNeg (((sy_ai F 53).getD (((sy_i F 70) + (((-1) : Int32))) - ((1 : Int32))).toNatClampNeg 0) + ((sy_ai F 53).getD ((sy_i F 70) + (((-1) : Int32))).toNatClampNeg 0)))) → F1 69 = .inl (.int (sy_i F 69)) → F1 70 = .inl (.int ((sy_i F 70) + (((-1) : Int32)))) → F1 71 = .inl (.int ((sy_i F 71) + ((1 : Int32)))) → hd_W Ls xs d jm_M166 Q (5, sy_dL F1 [some (.inl (.ref 1000)), none, some (.inr (.inl 69)), some (.inr (.inl 70)), some (.inr (.inl 71)), none, none, none], sy_dS F1 [], sy_dh F1 X1 X2 (iv_H 4), 0, 0)) :
    hd_W Ls xs d jm_M166 Q (5, sy_dL F [some (.inl (.ref 1000)), none, some (.inr (.inl 69)), some (.inr (.inl 70)), some (.inr (.inl 71)), none, none, none], sy_dS F [], sy_dh F X1 X2 (iv_H 4), 0, 0) := by
  refine hd_run (s := 4) (nv := 72) (pc := 5) (L := [some (.inl (.ref 1000)), none, some (.inr (.inl 69)), some (.inr (.inl 70)), some (.inr (.inl 71)), none, none, none]) (S := []) (uh := hd_ov (iv_id 0 iv_B4) [(53, .inr (.inr (.inl 79)))]) (ul := [.inl (.inr (.inl 69)), .inl (.inr (.inl 73)), .inl (.inr (.inl 80))]) (f := true) (sp := [5]) (d0 := 0) (O := [false, true, true, false]) (T := [(30, [.inr (.inl 71)], [.inr (.inl 49)]), (0, [.inr (.inl 70), .inl (.int (-1))], []), (1, [.inr (.inl 73), .inl (.int 1)], []), (30, [.inr (.inl 74)], [.inr (.inl 53)]), (30, [.inr (.inl 73)], [.inr (.inl 53)]), (1, [.inr (.inl 73), .inl (.int 1)], []), (0, [.inr (.inl 75), .inr (.inl 76)], []), (40, [.inr (.inl 77), .inr (.inl 78)], [.inr (.inl 53)]), (0, [.inr (.inl 71), .inl (.int 1)], [])]) (P := [(5, .inr (.inl 69), .inr (.inl 71)), (6, .inr (.inl 71), .inl (.ref 840)), (4, .inl (.int 2), .inr (.inl 72)), (6, .inr (.inl 74), .inl (.ref 400)), (6, .inr (.inl 73), .inl (.ref 400)), (1, .inr (.inl 72), .inl (.int 5)), (0, .inr (.inl 72), .inl (.int 2)), (6, .inr (.inl 77), .inl (.ref 400))]) jm_ok166 (by decide +kernel) (by decide +kernel) hd F X1 X2 (fun F' hF hs => ?_)
  have b69 := hd_b (F := F) (F' := F') (k := 69) (hF 69 (by decide))
  have b71 := hd_b (F := F) (F' := F') (k := 71) (hF 71 (by decide))
  have a49 := hd_ba (F := F) (F' := F') (k := 49) (hF 49 (by decide))
  have t72 : sy_dv F' (.inr (.inl 72)) = .int ((sy_ai F 49).getD (sy_i F 71).toNatClampNeg 0) := hd_rd (hs 0 _ rfl) b71 a49
  have b70 := hd_b (F := F) (F' := F') (k := 70) (hF 70 (by decide))
  have t73 : sy_dv F' (.inr (.inl 73)) = .int ((sy_i F 70) + (((-1) : Int32))) := hd_o (hs 1 _ rfl) b70 rfl rfl
  have t74 : sy_dv F' (.inr (.inl 74)) = .int (((sy_i F 70) + (((-1) : Int32))) - ((1 : Int32))) := hd_o (hs 2 _ rfl) t73 rfl rfl
  have t77 : sy_dv F' (.inr (.inl 77)) = .int (((sy_i F 70) + (((-1) : Int32))) - ((1 : Int32))) := hd_o (hs 5 _ rfl) t73 rfl rfl
  have a53 := hd_ba (F := F) (F' := F') (k := 53) (hF 53 (by decide))
  have t75 : sy_dv F' (.inr (.inl 75)) = .int ((sy_ai F 53).getD (((sy_i F 70) + (((-1) : Int32))) - ((1 : Int32))).toNatClampNeg 0) := hd_rd (hs 3 _ rfl) t74 a53
  have t76 : sy_dv F' (.inr (.inl 76)) = .int ((sy_ai F 53).getD ((sy_i F 70) + (((-1) : Int32))).toNatClampNeg 0) := hd_rd (hs 4 _ rfl) t73 a53
  have t78 : sy_dv F' (.inr (.inl 78)) = .int (((sy_ai F 53).getD (((sy_i F 70) + (((-1) : Int32))) - ((1 : Int32))).toNatClampNeg 0) + ((sy_ai F 53).getD ((sy_i F 70) + (((-1) : Int32))).toNatClampNeg 0)) := hd_o (hs 6 _ rfl) t75 t76 rfl
  have t79 : sy_da F' (.inr (.inl 79)) = .inl (jm_upd (sy_ai F 53) (((sy_i F 70) + (((-1) : Int32))) - ((1 : Int32))).toNatClampNeg (((sy_ai F 53).getD (((sy_i F 70) + (((-1) : Int32))) - ((1 : Int32))).toNatClampNeg 0) + ((sy_ai F 53).getD ((sy_i F 70) + (((-1) : Int32))).toNatClampNeg 0))) := hd_up (hs 7 _ rfl) t77 t78 a53
  have t80 : sy_dv F' (.inr (.inl 80)) = .int ((sy_i F 71) + ((1 : Int32))) := hd_o (hs 8 _ rfl) b71 rfl rfl
  have hB' : iv_in F' iv_B4 := iv_in_eq hB (fun j hj => hF j (Nat.lt_of_lt_of_le hj (by decide +kernel)))
  refine ⟨List.forall_mem_cons.mpr ⟨hd_p5 b69 b71 h0, List.forall_mem_cons.mpr ⟨hd_pb b71 (by first | exact h1 | exact h1), List.forall_mem_cons.mpr ⟨hd_p4 rfl t72 (by have hc : ((2) : Int32).toInt = 2 := (by decide); omega), List.forall_mem_cons.mpr ⟨hd_pb t74 (by first | exact h3 | exact h3), List.forall_mem_cons.mpr ⟨hd_pb t73 (by first | exact h4 | exact h4), List.forall_mem_cons.mpr ⟨hd_p1 t72 rfl (by have hc : ((5) : Int32).toInt = 5 := (by decide); omega), List.forall_mem_cons.mpr ⟨hd_p0 t72 rfl (by have hc : ((2) : Int32).toInt = 2 := (by decide); omega), List.forall_mem_cons.mpr ⟨hd_pb t77 (by first | exact h7 | exact h7), fun _ h => absurd h List.not_mem_nil⟩⟩⟩⟩⟩⟩⟩⟩, ?_⟩
  refine k _ ?_ ?_ ?_ ?_ ?_
  · exact fun j hj hn => (hd_keep hB' (Nat.lt_of_lt_of_le hj (by decide +kernel)) (by simp; omega)).trans (hF j (by omega))
  · exact hd_ga (a := .inr (.inl 79)) (by decide +kernel) t79
  · exact hd_gi (x := .inr (.inl 69)) (by decide +kernel) b69
  · exact hd_gi (x := .inr (.inl 73)) (by decide +kernel) t73
  · exact hd_gi (x := .inr (.inl 80)) (by decide +kernel) t80
theorem te_5_4 {Ls : Nat} {xs : Nat → Int32} {d : Nat} {Q : Option Value → jm_h → Prop} (hd : 1 ≤ d) (F : Nat → sy_d) (X1 X2 : List jm_c) (hB : iv_in F iv_B4)
    (h0 : (sy_i F 71).toInt < (sy_i F 69).toInt)
    (h1 : 0 ≤ (sy_i F 71).toInt ∧ (sy_i F 71).toInt < 840)
    (h2 : 2 ≤ ((sy_ai F 49).getD (sy_i F 71).toNatClampNeg 0).toInt)
    (h3 : 0 ≤ (((sy_i F 70) + (((-1) : Int32))) - ((1 : Int32))).toInt ∧ (((sy_i F 70) + (((-1) : Int32))) - ((1 : Int32))).toInt < 400)
    (h4 : 0 ≤ ((sy_i F 70) + (((-1) : Int32))).toInt ∧ ((sy_i F 70) + (((-1) : Int32))).toInt < 400)
    (h5 : ((sy_ai F 49).getD (sy_i F 71).toNatClampNeg 0).toInt = 5)
    (h6 : ((sy_ai F 53).getD ((sy_i F 70) + (((-1) : Int32))).toNatClampNeg 0).toInt ≠ 0)
    (h7 : ((sy_ai F 49).getD (sy_i F 71).toNatClampNeg 0).toInt ≠ 2)
    (h8 : ((sy_ai F 49).getD (sy_i F 71).toNatClampNeg 0).toInt ≠ 3)
    (h9 : ((sy_ai F 49).getD (sy_i F 71).toNatClampNeg 0).toInt ≠ 4)
    (h10 : ((sy_ai F 53).getD ((sy_i F 70) + (((-1) : Int32))).toNatClampNeg 0).toInt ≠ 0)
    (h11 : 0 ≤ (((sy_i F 70) + (((-1) : Int32))) - ((1 : Int32))).toInt ∧ (((sy_i F 70) + (((-1) : Int32))) - ((1 : Int32))).toInt < 400)
    (k : ∀ F1 : Nat → sy_d, (∀ j, j < 69 → j ≠ 53 → F1 j = F j) → F1 53 = .inr (.inl (jm_upd (sy_ai F 53) (((sy_i F 70) + (((-1) : Int32))) - ((1 : Int32))).toNatClampNeg (((sy_ai F 53).getD (((sy_i F 70) + (((-1) : Int32))) - ((1 : Int32))).toNatClampNeg 0) / ((sy_ai F 53).getD ((sy_i F 70) + (((-1) : Int32))).toNatClampNeg 0)))) → F1 69 = .inl (.int (sy_i F 69)) → F1 70 = .inl (.int ((sy_i F 70) + (((-1) : Int32)))) → F1 71 = .inl (.int ((sy_i F 71) + ((1 : Int32)))) → hd_W Ls xs d jm_M166 Q (5, sy_dL F1 [some (.inl (.ref 1000)), none, some (.inr (.inl 69)), some (.inr (.inl 70)), some (.inr (.inl 71)), none, none, none], sy_dS F1 [], sy_dh F1 X1 X2 (iv_H 4), 0, 0)) :
    hd_W Ls xs d jm_M166 Q (5, sy_dL F [some (.inl (.ref 1000)), none, some (.inr (.inl 69)), some (.inr (.inl 70)), some (.inr (.inl 71)), none, none, none], sy_dS F [], sy_dh F X1 X2 (iv_H 4), 0, 0) := by
  refine hd_run (s := 4) (nv := 72) (pc := 5) (L := [some (.inl (.ref 1000)), none, some (.inr (.inl 69)), some (.inr (.inl 70)), some (.inr (.inl 71)), none, none, none]) (S := []) (uh := hd_ov (iv_id 0 iv_B4) [(53, .inr (.inr (.inl 79)))]) (ul := [.inl (.inr (.inl 69)), .inl (.inr (.inl 73)), .inl (.inr (.inl 80))]) (f := true) (sp := [5]) (d0 := 0) (O := [false, true, false, true, true, true, true]) (T := [(30, [.inr (.inl 71)], [.inr (.inl 49)]), (0, [.inr (.inl 70), .inl (.int (-1))], []), (1, [.inr (.inl 73), .inl (.int 1)], []), (30, [.inr (.inl 74)], [.inr (.inl 53)]), (30, [.inr (.inl 73)], [.inr (.inl 53)]), (1, [.inr (.inl 73), .inl (.int 1)], []), (9, [.inr (.inl 75), .inr (.inl 76)], []), (40, [.inr (.inl 77), .inr (.inl 78)], [.inr (.inl 53)]), (0, [.inr (.inl 71), .inl (.int 1)], [])]) (P := [(5, .inr (.inl 69), .inr (.inl 71)), (6, .inr (.inl 71), .inl (.ref 840)), (4, .inl (.int 2), .inr (.inl 72)), (6, .inr (.inl 74), .inl (.ref 400)), (6, .inr (.inl 73), .inl (.ref 400)), (0, .inr (.inl 72), .inl (.int 5)), (1, .inr (.inl 76), .inl (.int 0)), (1, .inr (.inl 72), .inl (.int 2)), (1, .inr (.inl 72), .inl (.int 3)), (1, .inr (.inl 72), .inl (.int 4)), (1, .inr (.inl 76), .inl (.int 0)), (6, .inr (.inl 77), .inl (.ref 400))]) jm_ok166 (by decide +kernel) (by decide +kernel) hd F X1 X2 (fun F' hF hs => ?_)
  have b69 := hd_b (F := F) (F' := F') (k := 69) (hF 69 (by decide))
  have b71 := hd_b (F := F) (F' := F') (k := 71) (hF 71 (by decide))
  have a49 := hd_ba (F := F) (F' := F') (k := 49) (hF 49 (by decide))
  have t72 : sy_dv F' (.inr (.inl 72)) = .int ((sy_ai F 49).getD (sy_i F 71).toNatClampNeg 0) := hd_rd (hs 0 _ rfl) b71 a49
  have b70 := hd_b (F := F) (F' := F') (k := 70) (hF 70 (by decide))
  have t73 : sy_dv F' (.inr (.inl 73)) = .int ((sy_i F 70) + (((-1) : Int32))) := hd_o (hs 1 _ rfl) b70 rfl rfl
  have t74 : sy_dv F' (.inr (.inl 74)) = .int (((sy_i F 70) + (((-1) : Int32))) - ((1 : Int32))) := hd_o (hs 2 _ rfl) t73 rfl rfl
  have a53 := hd_ba (F := F) (F' := F') (k := 53) (hF 53 (by decide))
  have t76 : sy_dv F' (.inr (.inl 76)) = .int ((sy_ai F 53).getD ((sy_i F 70) + (((-1) : Int32))).toNatClampNeg 0) := hd_rd (hs 4 _ rfl) t73 a53
  have t77 : sy_dv F' (.inr (.inl 77)) = .int (((sy_i F 70) + (((-1) : Int32))) - ((1 : Int32))) := hd_o (hs 5 _ rfl) t73 rfl rfl
  have t75 : sy_dv F' (.inr (.inl 75)) = .int ((sy_ai F 53).getD (((sy_i F 70) + (((-1) : Int32))) - ((1 : Int32))).toNatClampNeg 0) := hd_rd (hs 3 _ rfl) t74 a53
  have t78 : sy_dv F' (.inr (.inl 78)) = .int (((sy_ai F 53).getD (((sy_i F 70) + (((-1) : Int32))) - ((1 : Int32))).toNatClampNeg 0) / ((sy_ai F 53).getD ((sy_i F 70) + (((-1) : Int32))).toNatClampNeg 0)) := hd_o (hs 6 _ rfl) t75 t76 rfl
  have t79 : sy_da F' (.inr (.inl 79)) = .inl (jm_upd (sy_ai F 53) (((sy_i F 70) + (((-1) : Int32))) - ((1 : Int32))).toNatClampNeg (((sy_ai F 53).getD (((sy_i F 70) + (((-1) : Int32))) - ((1 : Int32))).toNatClampNeg 0) / ((sy_ai F 53).getD ((sy_i F 70) + (((-1) : Int32))).toNatClampNeg 0))) := hd_up (hs 7 _ rfl) t77 t78 a53
  have t80 : sy_dv F' (.inr (.inl 80)) = .int ((sy_i F 71) + ((1 : Int32))) := hd_o (hs 8 _ rfl) b71 rfl rfl
  have hB' : iv_in F' iv_B4 := iv_in_eq hB (fun j hj => hF j (Nat.lt_of_lt_of_le hj (by decide +kernel)))
  refine ⟨List.forall_mem_cons.mpr ⟨hd_p5 b69 b71 h0, List.forall_mem_cons.mpr ⟨hd_pb b71 (by first | exact h1 | exact h1), List.forall_mem_cons.mpr ⟨hd_p4 rfl t72 (by have hc : ((2) : Int32).toInt = 2 := (by decide); omega), List.forall_mem_cons.mpr ⟨hd_pb t74 (by first | exact h3 | exact h3), List.forall_mem_cons.mpr ⟨hd_pb t73 (by first | exact h4 | exact h4), List.forall_mem_cons.mpr ⟨hd_p0 t72 rfl (by have hc : ((5) : Int32).toInt = 5 := (by decide); omega), List.forall_mem_cons.mpr ⟨hd_p1 t76 rfl (by have hc : ((0) : Int32).toInt = 0 := (by decide); omega), List.forall_mem_cons.mpr ⟨hd_p1 t72 rfl (by have hc : ((2) : Int32).toInt = 2 := (by decide); omega), List.forall_mem_cons.mpr ⟨hd_p1 t72 rfl (by have hc : ((3) : Int32).toInt = 3 := (by decide); omega), List.forall_mem_cons.mpr ⟨hd_p1 t72 rfl (by have hc : ((4) : Int32).toInt = 4 := (by decide); omega), List.forall_mem_cons.mpr ⟨hd_p1 t76 rfl (by have hc : ((0) : Int32).toInt = 0 := (by decide); omega), List.forall_mem_cons.mpr ⟨hd_pb t77 (by first | exact h11 | exact h11), fun _ h => absurd h List.not_mem_nil⟩⟩⟩⟩⟩⟩⟩⟩⟩⟩⟩⟩, ?_⟩
  refine k _ ?_ ?_ ?_ ?_ ?_
  · exact fun j hj hn => (hd_keep hB' (Nat.lt_of_lt_of_le hj (by decide +kernel)) (by simp; omega)).trans (hF j (by omega))
  · exact hd_ga (a := .inr (.inl 79)) (by decide +kernel) t79
  · exact hd_gi (x := .inr (.inl 69)) (by decide +kernel) b69
  · exact hd_gi (x := .inr (.inl 73)) (by decide +kernel) t73
  · exact hd_gi (x := .inr (.inl 80)) (by decide +kernel) t80
theorem te_5_5 {Ls : Nat} {xs : Nat → Int32} {d : Nat} {Q : Option Value → jm_h → Prop} (hd : 1 ≤ d) (F : Nat → sy_d) (X1 X2 : List jm_c) (hB : iv_in F iv_B4)
    (h0 : (sy_i F 71).toInt < (sy_i F 69).toInt)
    (h1 : 0 ≤ (sy_i F 71).toInt ∧ (sy_i F 71).toInt < 840)
    (h2 : 2 ≤ ((sy_ai F 49).getD (sy_i F 71).toNatClampNeg 0).toInt)
    (h3 : 0 ≤ (((sy_i F 70) + (((-1) : Int32))) - ((1 : Int32))).toInt ∧ (((sy_i F 70) + (((-1) : Int32))) - ((1 : Int32))).toInt < 400)
    (h4 : 0 ≤ ((sy_i F 70) + (((-1) : Int32))).toInt ∧ ((sy_i F 70) + (((-1) : Int32))).toInt < 400)
    (h5 : ((sy_ai F 49).getD (sy_i F 71).toNatClampNeg 0).toInt = 5)
    (h6 : ((sy_ai F 53).getD ((sy_i F 70) + (((-1) : Int32))).toNatClampNeg 0).toInt = 0)
    (k : ∀ F1 : Nat → sy_d, (∀ j, j < 69 → j ≠ 17 → F1 j = F j) → F1 17 = .inl (.int ((1 : Int32))) → Q (some (.int ((0 : Int32)))) (sy_dh F1 X1 X2 (iv_H 4))) :
    hd_W Ls xs d jm_M166 Q (5, sy_dL F [some (.inl (.ref 1000)), none, some (.inr (.inl 69)), some (.inr (.inl 70)), some (.inr (.inl 71)), none, none, none], sy_dS F [], sy_dh F X1 X2 (iv_H 4), 0, 0) := by
  refine hd_ret (s := 4) (nv := 72) (v := some (.inl (.int 0))) (uh := hd_ov (iv_id 0 iv_B4) [(17, .inl (.inl (.int 1)))]) (f := true) (sp := [5]) (d0 := 0) (O := [false, true, false, false]) (T := [(30, [.inr (.inl 71)], [.inr (.inl 49)]), (0, [.inr (.inl 70), .inl (.int (-1))], []), (1, [.inr (.inl 73), .inl (.int 1)], []), (30, [.inr (.inl 74)], [.inr (.inl 53)]), (30, [.inr (.inl 73)], [.inr (.inl 53)])]) (P := [(5, .inr (.inl 69), .inr (.inl 71)), (6, .inr (.inl 71), .inl (.ref 840)), (4, .inl (.int 2), .inr (.inl 72)), (6, .inr (.inl 74), .inl (.ref 400)), (6, .inr (.inl 73), .inl (.ref 400)), (0, .inr (.inl 72), .inl (.int 5)), (0, .inr (.inl 76), .inl (.int 0))]) jm_ok166 (by decide +kernel) (by decide +kernel) hd F X1 X2 (fun F' hF hs => ?_)
  have b69 := hd_b (F := F) (F' := F') (k := 69) (hF 69 (by decide))
  have b71 := hd_b (F := F) (F' := F') (k := 71) (hF 71 (by decide))
  have a49 := hd_ba (F := F) (F' := F') (k := 49) (hF 49 (by decide))
  have t72 : sy_dv F' (.inr (.inl 72)) = .int ((sy_ai F 49).getD (sy_i F 71).toNatClampNeg 0) := hd_rd (hs 0 _ rfl) b71 a49
  have b70 := hd_b (F := F) (F' := F') (k := 70) (hF 70 (by decide))
  have t73 : sy_dv F' (.inr (.inl 73)) = .int ((sy_i F 70) + (((-1) : Int32))) := hd_o (hs 1 _ rfl) b70 rfl rfl
  have t74 : sy_dv F' (.inr (.inl 74)) = .int (((sy_i F 70) + (((-1) : Int32))) - ((1 : Int32))) := hd_o (hs 2 _ rfl) t73 rfl rfl
  have a53 := hd_ba (F := F) (F' := F') (k := 53) (hF 53 (by decide))
  have t76 : sy_dv F' (.inr (.inl 76)) = .int ((sy_ai F 53).getD ((sy_i F 70) + (((-1) : Int32))).toNatClampNeg 0) := hd_rd (hs 4 _ rfl) t73 a53
  have hB' : iv_in F' iv_B4 := iv_in_eq hB (fun j hj => hF j (Nat.lt_of_lt_of_le hj (by decide +kernel)))
  refine ⟨List.forall_mem_cons.mpr ⟨hd_p5 b69 b71 h0, List.forall_mem_cons.mpr ⟨hd_pb b71 (by first | exact h1 | exact h1), List.forall_mem_cons.mpr ⟨hd_p4 rfl t72 (by have hc : ((2) : Int32).toInt = 2 := (by decide); omega), List.forall_mem_cons.mpr ⟨hd_pb t74 (by first | exact h3 | exact h3), List.forall_mem_cons.mpr ⟨hd_pb t73 (by first | exact h4 | exact h4), List.forall_mem_cons.mpr ⟨hd_p0 t72 rfl (by have hc : ((5) : Int32).toInt = 5 := (by decide); omega), List.forall_mem_cons.mpr ⟨hd_p0 t76 rfl (by have hc : ((0) : Int32).toInt = 0 := (by decide); omega), fun _ h => absurd h List.not_mem_nil⟩⟩⟩⟩⟩⟩⟩, ?_⟩
  refine k _ ?_ ?_
  · exact fun j hj hn => (hd_keep hB' (Nat.lt_of_lt_of_le hj (by decide +kernel)) (by simp; omega)).trans (hF j (by omega))
  · exact hd_gi (x := .inl (.int 1)) (by decide +kernel) rfl
theorem te_5_6 {Ls : Nat} {xs : Nat → Int32} {d : Nat} {Q : Option Value → jm_h → Prop} (hd : 1 ≤ d) (F : Nat → sy_d) (X1 X2 : List jm_c) (hB : iv_in F iv_B4)
    (h0 : (sy_i F 71).toInt < (sy_i F 69).toInt)
    (h1 : 0 ≤ (sy_i F 71).toInt ∧ (sy_i F 71).toInt < 840)
    (h2 : ((sy_ai F 49).getD (sy_i F 71).toNatClampNeg 0).toInt < 2)
    (h3 : ((sy_ai F 49).getD (sy_i F 71).toNatClampNeg 0).toInt ≠ 0)
    (h4 : 0 ≤ (sy_i F 71).toInt ∧ (sy_i F 71).toInt < 840)
    (h5 : 0 ≤ ((sy_ai F 50).getD (sy_i F 71).toNatClampNeg 0).toInt ∧ ((sy_ai F 50).getD (sy_i F 71).toNatClampNeg 0).toInt < 9)
    (h6 : 0 ≤ (sy_i F 70).toInt ∧ (sy_i F 70).toInt < 400)
    (k : ∀ F1 : Nat → sy_d, (∀ j, j < 69 → j ≠ 53 → F1 j = F j) → F1 53 = .inr (.inl (jm_upd (sy_ai F 53) (sy_i F 70).toNatClampNeg ((sy_ai F 52).getD ((sy_ai F 50).getD (sy_i F 71).toNatClampNeg 0).toNatClampNeg 0))) → F1 69 = .inl (.int (sy_i F 69)) → F1 70 = .inl (.int ((sy_i F 70) + ((1 : Int32)))) → F1 71 = .inl (.int ((sy_i F 71) + ((1 : Int32)))) → hd_W Ls xs d jm_M166 Q (5, sy_dL F1 [some (.inl (.ref 1000)), none, some (.inr (.inl 69)), some (.inr (.inl 70)), some (.inr (.inl 71)), none, none, none], sy_dS F1 [], sy_dh F1 X1 X2 (iv_H 4), 0, 0)) :
    hd_W Ls xs d jm_M166 Q (5, sy_dL F [some (.inl (.ref 1000)), none, some (.inr (.inl 69)), some (.inr (.inl 70)), some (.inr (.inl 71)), none, none, none], sy_dS F [], sy_dh F X1 X2 (iv_H 4), 0, 0) := by
  refine hd_run (s := 4) (nv := 72) (pc := 5) (L := [some (.inl (.ref 1000)), none, some (.inr (.inl 69)), some (.inr (.inl 70)), some (.inr (.inl 71)), none, none, none]) (S := []) (uh := hd_ov (iv_id 0 iv_B4) [(53, .inr (.inr (.inl 75)))]) (ul := [.inl (.inr (.inl 69)), .inl (.inr (.inl 76)), .inl (.inr (.inl 77))]) (f := true) (sp := [5]) (d0 := 0) (O := [false, false, true]) (T := [(30, [.inr (.inl 71)], [.inr (.inl 49)]), (30, [.inr (.inl 71)], [.inr (.inl 50)]), (30, [.inr (.inl 73)], [.inr (.inl 52)]), (40, [.inr (.inl 70), .inr (.inl 74)], [.inr (.inl 53)]), (0, [.inr (.inl 70), .inl (.int 1)], []), (0, [.inr (.inl 71), .inl (.int 1)], [])]) (P := [(5, .inr (.inl 69), .inr (.inl 71)), (6, .inr (.inl 71), .inl (.ref 840)), (5, .inl (.int 2), .inr (.inl 72)), (1, .inr (.inl 72), .inl (.int 0)), (6, .inr (.inl 71), .inl (.ref 840)), (6, .inr (.inl 73), .inl (.ref 9)), (6, .inr (.inl 70), .inl (.ref 400))]) jm_ok166 (by decide +kernel) (by decide +kernel) hd F X1 X2 (fun F' hF hs => ?_)
  have b69 := hd_b (F := F) (F' := F') (k := 69) (hF 69 (by decide))
  have b71 := hd_b (F := F) (F' := F') (k := 71) (hF 71 (by decide))
  have a49 := hd_ba (F := F) (F' := F') (k := 49) (hF 49 (by decide))
  have t72 : sy_dv F' (.inr (.inl 72)) = .int ((sy_ai F 49).getD (sy_i F 71).toNatClampNeg 0) := hd_rd (hs 0 _ rfl) b71 a49
  have a50 := hd_ba (F := F) (F' := F') (k := 50) (hF 50 (by decide))
  have t73 : sy_dv F' (.inr (.inl 73)) = .int ((sy_ai F 50).getD (sy_i F 71).toNatClampNeg 0) := hd_rd (hs 1 _ rfl) b71 a50
  have b70 := hd_b (F := F) (F' := F') (k := 70) (hF 70 (by decide))
  have a52 := hd_ba (F := F) (F' := F') (k := 52) (hF 52 (by decide))
  have t74 : sy_dv F' (.inr (.inl 74)) = .int ((sy_ai F 52).getD ((sy_ai F 50).getD (sy_i F 71).toNatClampNeg 0).toNatClampNeg 0) := hd_rd (hs 2 _ rfl) t73 a52
  have a53 := hd_ba (F := F) (F' := F') (k := 53) (hF 53 (by decide))
  have t75 : sy_da F' (.inr (.inl 75)) = .inl (jm_upd (sy_ai F 53) (sy_i F 70).toNatClampNeg ((sy_ai F 52).getD ((sy_ai F 50).getD (sy_i F 71).toNatClampNeg 0).toNatClampNeg 0)) := hd_up (hs 3 _ rfl) b70 t74 a53
  have t76 : sy_dv F' (.inr (.inl 76)) = .int ((sy_i F 70) + ((1 : Int32))) := hd_o (hs 4 _ rfl) b70 rfl rfl
  have t77 : sy_dv F' (.inr (.inl 77)) = .int ((sy_i F 71) + ((1 : Int32))) := hd_o (hs 5 _ rfl) b71 rfl rfl
  have hB' : iv_in F' iv_B4 := iv_in_eq hB (fun j hj => hF j (Nat.lt_of_lt_of_le hj (by decide +kernel)))
  refine ⟨List.forall_mem_cons.mpr ⟨hd_p5 b69 b71 h0, List.forall_mem_cons.mpr ⟨hd_pb b71 (by first | exact h1 | exact h1), List.forall_mem_cons.mpr ⟨hd_p5 rfl t72 (by have hc : ((2) : Int32).toInt = 2 := (by decide); omega), List.forall_mem_cons.mpr ⟨hd_p1 t72 rfl (by have hc : ((0) : Int32).toInt = 0 := (by decide); omega), List.forall_mem_cons.mpr ⟨hd_pb b71 (by first | exact h4 | exact h4), List.forall_mem_cons.mpr ⟨hd_pb t73 (by first | exact h5 | exact h5), List.forall_mem_cons.mpr ⟨hd_pb b70 (by first | exact h6 | exact h6), fun _ h => absurd h List.not_mem_nil⟩⟩⟩⟩⟩⟩⟩, ?_⟩
  refine k _ ?_ ?_ ?_ ?_ ?_
  · exact fun j hj hn => (hd_keep hB' (Nat.lt_of_lt_of_le hj (by decide +kernel)) (by simp; omega)).trans (hF j (by omega))
  · exact hd_ga (a := .inr (.inl 75)) (by decide +kernel) t75
  · exact hd_gi (x := .inr (.inl 69)) (by decide +kernel) b69
  · exact hd_gi (x := .inr (.inl 76)) (by decide +kernel) t76
  · exact hd_gi (x := .inr (.inl 77)) (by decide +kernel) t77
theorem te_5_7 {Ls : Nat} {xs : Nat → Int32} {d : Nat} {Q : Option Value → jm_h → Prop} (hd : 1 ≤ d) (F : Nat → sy_d) (X1 X2 : List jm_c) (hB : iv_in F iv_B4)
    (h0 : (sy_i F 71).toInt < (sy_i F 69).toInt)
    (h1 : 0 ≤ (sy_i F 71).toInt ∧ (sy_i F 71).toInt < 840)
    (h2 : ((sy_ai F 49).getD (sy_i F 71).toNatClampNeg 0).toInt < 2)
    (h3 : ((sy_ai F 49).getD (sy_i F 71).toNatClampNeg 0).toInt = 0)
    (h4 : 0 ≤ (sy_i F 71).toInt ∧ (sy_i F 71).toInt < 840)
    (h5 : 0 ≤ (sy_i F 70).toInt ∧ (sy_i F 70).toInt < 400)
    (k : ∀ F1 : Nat → sy_d, (∀ j, j < 69 → j ≠ 53 → F1 j = F j) → F1 53 = .inr (.inl (jm_upd (sy_ai F 53) (sy_i F 70).toNatClampNeg ((sy_ai F 50).getD (sy_i F 71).toNatClampNeg 0))) → F1 69 = .inl (.int (sy_i F 69)) → F1 70 = .inl (.int ((sy_i F 70) + ((1 : Int32)))) → F1 71 = .inl (.int ((sy_i F 71) + ((1 : Int32)))) → hd_W Ls xs d jm_M166 Q (5, sy_dL F1 [some (.inl (.ref 1000)), none, some (.inr (.inl 69)), some (.inr (.inl 70)), some (.inr (.inl 71)), none, none, none], sy_dS F1 [], sy_dh F1 X1 X2 (iv_H 4), 0, 0)) :
    hd_W Ls xs d jm_M166 Q (5, sy_dL F [some (.inl (.ref 1000)), none, some (.inr (.inl 69)), some (.inr (.inl 70)), some (.inr (.inl 71)), none, none, none], sy_dS F [], sy_dh F X1 X2 (iv_H 4), 0, 0) := by
  refine hd_run (s := 4) (nv := 72) (pc := 5) (L := [some (.inl (.ref 1000)), none, some (.inr (.inl 69)), some (.inr (.inl 70)), some (.inr (.inl 71)), none, none, none]) (S := []) (uh := hd_ov (iv_id 0 iv_B4) [(53, .inr (.inr (.inl 74)))]) (ul := [.inl (.inr (.inl 69)), .inl (.inr (.inl 75)), .inl (.inr (.inl 76))]) (f := true) (sp := [5]) (d0 := 0) (O := [false, false, false]) (T := [(30, [.inr (.inl 71)], [.inr (.inl 49)]), (30, [.inr (.inl 71)], [.inr (.inl 50)]), (40, [.inr (.inl 70), .inr (.inl 73)], [.inr (.inl 53)]), (0, [.inr (.inl 70), .inl (.int 1)], []), (0, [.inr (.inl 71), .inl (.int 1)], [])]) (P := [(5, .inr (.inl 69), .inr (.inl 71)), (6, .inr (.inl 71), .inl (.ref 840)), (5, .inl (.int 2), .inr (.inl 72)), (0, .inr (.inl 72), .inl (.int 0)), (6, .inr (.inl 71), .inl (.ref 840)), (6, .inr (.inl 70), .inl (.ref 400))]) jm_ok166 (by decide +kernel) (by decide +kernel) hd F X1 X2 (fun F' hF hs => ?_)
  have b69 := hd_b (F := F) (F' := F') (k := 69) (hF 69 (by decide))
  have b71 := hd_b (F := F) (F' := F') (k := 71) (hF 71 (by decide))
  have a49 := hd_ba (F := F) (F' := F') (k := 49) (hF 49 (by decide))
  have t72 : sy_dv F' (.inr (.inl 72)) = .int ((sy_ai F 49).getD (sy_i F 71).toNatClampNeg 0) := hd_rd (hs 0 _ rfl) b71 a49
  have b70 := hd_b (F := F) (F' := F') (k := 70) (hF 70 (by decide))
  have a50 := hd_ba (F := F) (F' := F') (k := 50) (hF 50 (by decide))
  have t73 : sy_dv F' (.inr (.inl 73)) = .int ((sy_ai F 50).getD (sy_i F 71).toNatClampNeg 0) := hd_rd (hs 1 _ rfl) b71 a50
  have a53 := hd_ba (F := F) (F' := F') (k := 53) (hF 53 (by decide))
  have t74 : sy_da F' (.inr (.inl 74)) = .inl (jm_upd (sy_ai F 53) (sy_i F 70).toNatClampNeg ((sy_ai F 50).getD (sy_i F 71).toNatClampNeg 0)) := hd_up (hs 2 _ rfl) b70 t73 a53
  have t75 : sy_dv F' (.inr (.inl 75)) = .int ((sy_i F 70) + ((1 : Int32))) := hd_o (hs 3 _ rfl) b70 rfl rfl
  have t76 : sy_dv F' (.inr (.inl 76)) = .int ((sy_i F 71) + ((1 : Int32))) := hd_o (hs 4 _ rfl) b71 rfl rfl
  have hB' : iv_in F' iv_B4 := iv_in_eq hB (fun j hj => hF j (Nat.lt_of_lt_of_le hj (by decide +kernel)))
  refine ⟨List.forall_mem_cons.mpr ⟨hd_p5 b69 b71 h0, List.forall_mem_cons.mpr ⟨hd_pb b71 (by first | exact h1 | exact h1), List.forall_mem_cons.mpr ⟨hd_p5 rfl t72 (by have hc : ((2) : Int32).toInt = 2 := (by decide); omega), List.forall_mem_cons.mpr ⟨hd_p0 t72 rfl (by have hc : ((0) : Int32).toInt = 0 := (by decide); omega), List.forall_mem_cons.mpr ⟨hd_pb b71 (by first | exact h4 | exact h4), List.forall_mem_cons.mpr ⟨hd_pb b70 (by first | exact h5 | exact h5), fun _ h => absurd h List.not_mem_nil⟩⟩⟩⟩⟩⟩, ?_⟩
  refine k _ ?_ ?_ ?_ ?_ ?_
  · exact fun j hj hn => (hd_keep hB' (Nat.lt_of_lt_of_le hj (by decide +kernel)) (by simp; omega)).trans (hF j (by omega))
  · exact hd_ga (a := .inr (.inl 74)) (by decide +kernel) t74
  · exact hd_gi (x := .inr (.inl 69)) (by decide +kernel) b69
  · exact hd_gi (x := .inr (.inl 75)) (by decide +kernel) t75
  · exact hd_gi (x := .inr (.inl 76)) (by decide +kernel) t76
