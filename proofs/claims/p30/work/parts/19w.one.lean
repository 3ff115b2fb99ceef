/-! ===== one thing is told, way by way ===== -/
theorem to_0_p0 {Ls : Nat} {xs : Nat → Int32} {d : Nat} {Q : Option Value → jm_h → Prop} (hd : 5 ≤ d) (F : Nat → sy_d) (X1 X2 : List jm_c) (hB : iv_in F iv_B4)
    (h0 : 0 ≤ (sy_i F 4).toInt ∧ (sy_i F 4).toInt < 403)
    (h1 : ((sy_ai F 25).getD (sy_i F 4).toNatClampNeg 0).toInt < 20)
    (h2 : 0 ≤ (sy_i F 4).toInt ∧ (sy_i F 4).toInt < 403)
    (h3 : (((sy_ai F 25).getD (sy_i F 4).toNatClampNeg 0) - ((22 : Int32))).toInt < 0)
    (h4 : (sy_i F 6).toInt ≤ 0)
    (h5 : 0 ≤ (sy_i F 4).toInt ∧ (sy_i F 4).toInt < 403)
    (k : ∀ F1 : Nat → sy_d, (∀ j, j < 69 → j ≠ 6 ∧ j ≠ 7 → F1 j = F j) → F1 6 = .inl (.int ((1 : Int32))) → F1 7 = .inl (.int ((sy_ai F 26).getD (sy_i F 4).toNatClampNeg 0)) → Q (none) (sy_dh F1 X1 X2 (iv_H 4))) :
    hd_W Ls xs d jm_M154 Q (0, sy_dL F [some (.inl (.ref 1000)), none], sy_dS F [], sy_dh F X1 X2 (iv_H 4), 0, 0) := by
  refine hd_ret (s := 4) (nv := 69) (v := none) (uh := hd_ov (iv_id 0 iv_B4) [(6, .inl (.inl (.int 1))), (7, .inl (.inr (.inl 72)))]) (f := true) (sp := [91, 119, 137, 156, 176, 233]) (d0 := 4) (O := [true, true, true, true]) (T := [(30, [.inr (.inl 4)], [.inr (.inl 25)]), (30, [.inr (.inl 4)], [.inr (.inl 25)]), (1, [.inr (.inl 70), .inl (.int 22)], []), (30, [.inr (.inl 4)], [.inr (.inl 26)])]) (P := [(6, .inr (.inl 4), .inl (.ref 403)), (2, .inr (.inl 69), .inl (.int 20)), (6, .inr (.inl 4), .inl (.ref 403)), (2, .inr (.inl 71), .inl (.int 0)), (4, .inr (.inl 6), .inl (.int 0)), (6, .inr (.inl 4), .inl (.ref 403))]) jm_ok154 (by decide +kernel) (by decide +kernel) hd F X1 X2 (fun F' hF hs => ?_)
  have b4 := hd_b (F := F) (F' := F') (k := 4) (hF 4 (by decide))
  have a25 := hd_ba (F := F) (F' := F') (k := 25) (hF 25 (by decide))
  have t69 : sy_dv F' (.inr (.inl 69)) = .int ((sy_ai F 25).getD (sy_i F 4).toNatClampNeg 0) := hd_rd (hs 0 _ rfl) b4 a25
  have t70 : sy_dv F' (.inr (.inl 70)) = .int ((sy_ai F 25).getD (sy_i F 4).toNatClampNeg 0) := hd_rd (hs 1 _ rfl) b4 a25
  have t71 : sy_dv F' (.inr (.inl 71)) = .int (((sy_ai F 25).getD (sy_i F 4).toNatClampNeg 0) - ((22 : Int32))) := hd_o (hs 2 _ rfl) t70 rfl rfl
  have b6 := hd_b (F := F) (F' := F') (k := 6) (hF 6 (by decide))
  have a26 := hd_ba (F := F) (F' := F') (k := 26) (hF 26 (by decide))
  have t72 : sy_dv F' (.inr (.inl 72)) = .int ((sy_ai F 26).getD (sy_i F 4).toNatClampNeg 0) := hd_rd (hs 3 _ rfl) b4 a26
  have hB' : iv_in F' iv_B4 := iv_in_eq hB (fun j hj => hF j (Nat.lt_of_lt_of_le hj (by decide +kernel)))
  refine ⟨List.forall_mem_cons.mpr ⟨hd_pb b4 (by first | exact h0 | exact h0), List.forall_mem_cons.mpr ⟨hd_p2 t69 rfl (by have hc : ((20) : Int32).toInt = 20 := (by decide); omega), List.forall_mem_cons.mpr ⟨hd_pb b4 (by first | exact h2 | exact h2), List.forall_mem_cons.mpr ⟨hd_p2 t71 rfl (by have hc : ((0) : Int32).toInt = 0 := (by decide); omega), List.forall_mem_cons.mpr ⟨hd_p4 b6 rfl (by have hc : ((0) : Int32).toInt = 0 := (by decide); omega), List.forall_mem_cons.mpr ⟨hd_pb b4 (by first | exact h5 | exact h5), fun _ h => absurd h List.not_mem_nil⟩⟩⟩⟩⟩⟩, ?_⟩
  refine k _ ?_ ?_ ?_
  · exact fun j hj hn => (hd_keep hB' (Nat.lt_of_lt_of_le hj (by decide +kernel)) (by simp; omega)).trans (hF j (by omega))
  · exact hd_gi (x := .inl (.int 1)) (by decide +kernel) rfl
  · exact hd_gi (x := .inr (.inl 72)) (by decide +kernel) t72
theorem to_0_p1 {Ls : Nat} {xs : Nat → Int32} {d : Nat} {Q : Option Value → jm_h → Prop} (hd : 5 ≤ d) (F : Nat → sy_d) (X1 X2 : List jm_c) (hB : iv_in F iv_B4)
    (h0 : 0 ≤ (sy_i F 4).toInt ∧ (sy_i F 4).toInt < 403)
    (h1 : ((sy_ai F 25).getD (sy_i F 4).toNatClampNeg 0).toInt < 20)
    (h2 : 0 ≤ (sy_i F 4).toInt ∧ (sy_i F 4).toInt < 403)
    (h3 : (((sy_ai F 25).getD (sy_i F 4).toNatClampNeg 0) - ((22 : Int32))).toInt < 0)
    (h4 : 0 < (sy_i F 6).toInt)
    (h5 : 0 < (sy_i F 6).toInt)
    (k : ∀ F1 : Nat → sy_d, (∀ j, j < 69 → True → F1 j = F j) → Q (none) (sy_dh F1 X1 X2 (iv_H 4))) :
    hd_W Ls xs d jm_M154 Q (0, sy_dL F [some (.inl (.ref 1000)), none], sy_dS F [], sy_dh F X1 X2 (iv_H 4), 0, 0) := by
  refine hd_ret (s := 4) (nv := 69) (v := none) (uh := hd_ov (iv_id 0 iv_B4) []) (f := true) (sp := [91, 119, 137, 156, 176, 233]) (d0 := 4) (O := [true, true, true, false, false]) (T := [(30, [.inr (.inl 4)], [.inr (.inl 25)]), (30, [.inr (.inl 4)], [.inr (.inl 25)]), (1, [.inr (.inl 70), .inl (.int 22)], [])]) (P := [(6, .inr (.inl 4), .inl (.ref 403)), (2, .inr (.inl 69), .inl (.int 20)), (6, .inr (.inl 4), .inl (.ref 403)), (2, .inr (.inl 71), .inl (.int 0)), (5, .inr (.inl 6), .inl (.int 0)), (5, .inr (.inl 6), .inl (.int 0))]) jm_ok154 (by decide +kernel) (by decide +kernel) hd F X1 X2 (fun F' hF hs => ?_)
  have b4 := hd_b (F := F) (F' := F') (k := 4) (hF 4 (by decide))
  have a25 := hd_ba (F := F) (F' := F') (k := 25) (hF 25 (by decide))
  have t69 : sy_dv F' (.inr (.inl 69)) = .int ((sy_ai F 25).getD (sy_i F 4).toNatClampNeg 0) := hd_rd (hs 0 _ rfl) b4 a25
  have t70 : sy_dv F' (.inr (.inl 70)) = .int ((sy_ai F 25).getD (sy_i F 4).toNatClampNeg 0) := hd_rd (hs 1 _ rfl) b4 a25
  have t71 : sy_dv F' (.inr (.inl 71)) = .int (((sy_ai F 25).getD (sy_i F 4).toNatClampNeg 0) - ((22 : Int32))) := hd_o (hs 2 _ rfl) t70 rfl rfl
  have b6 := hd_b (F := F) (F' := F') (k := 6) (hF 6 (by decide))
  have hB' : iv_in F' iv_B4 := iv_in_eq hB (fun j hj => hF j (Nat.lt_of_lt_of_le hj (by decide +kernel)))
  refine ⟨List.forall_mem_cons.mpr ⟨hd_pb b4 (by first | exact h0 | exact h0), List.forall_mem_cons.mpr ⟨hd_p2 t69 rfl (by have hc : ((20) : Int32).toInt = 20 := (by decide); omega), List.forall_mem_cons.mpr ⟨hd_pb b4 (by first | exact h2 | exact h2), List.forall_mem_cons.mpr ⟨hd_p2 t71 rfl (by have hc : ((0) : Int32).toInt = 0 := (by decide); omega), List.forall_mem_cons.mpr ⟨hd_p5 b6 rfl (by have hc : ((0) : Int32).toInt = 0 := (by decide); omega), List.forall_mem_cons.mpr ⟨hd_p5 b6 rfl (by have hc : ((0) : Int32).toInt = 0 := (by decide); omega), fun _ h => absurd h List.not_mem_nil⟩⟩⟩⟩⟩⟩, ?_⟩
  refine k _ ?_
  · exact fun j hj _ => (hd_keep hB' (Nat.lt_of_lt_of_le hj (by decide +kernel)) (by simp)).trans (hF j (by omega))
theorem to_0_p2 {Ls : Nat} {xs : Nat → Int32} {d : Nat} {Q : Option Value → jm_h → Prop} (hd : 5 ≤ d) (F : Nat → sy_d) (X1 X2 : List jm_c) (hB : iv_in F iv_B4)
    (h0 : 0 ≤ (sy_i F 4).toInt ∧ (sy_i F 4).toInt < 403)
    (h1 : 30 < ((sy_ai F 25).getD (sy_i F 4).toNatClampNeg 0).toInt)
    (h2 : 0 ≤ (sy_i F 4).toInt ∧ (sy_i F 4).toInt < 403)
    (h3 : 0 ≤ (((sy_ai F 25).getD (sy_i F 4).toNatClampNeg 0) - ((22 : Int32))).toInt)
    (h4 : 0 ≤ (sy_i F 4).toInt ∧ (sy_i F 4).toInt < 403)
    (h5 : 27 < ((sy_ai F 25).getD (sy_i F 4).toNatClampNeg 0).toInt)
    (h6 : (sy_i F 6).toInt ≤ 0)
    (h7 : 0 ≤ (sy_i F 4).toInt ∧ (sy_i F 4).toInt < 403)
    (k : ∀ F1 : Nat → sy_d, (∀ j, j < 69 → j ≠ 6 ∧ j ≠ 7 → F1 j = F j) → F1 6 = .inl (.int ((1 : Int32))) → F1 7 = .inl (.int ((sy_ai F 26).getD (sy_i F 4).toNatClampNeg 0)) → Q (none) (sy_dh F1 X1 X2 (iv_H 4))) :
    hd_W Ls xs d jm_M154 Q (0, sy_dL F [some (.inl (.ref 1000)), none], sy_dS F [], sy_dh F X1 X2 (iv_H 4), 0, 0) := by
  refine hd_ret (s := 4) (nv := 69) (v := none) (uh := hd_ov (iv_id 0 iv_B4) [(6, .inl (.inl (.int 1))), (7, .inl (.inr (.inl 73)))]) (f := true) (sp := [91, 119, 137, 156, 176, 233]) (d0 := 4) (O := [true, false, false, false, true]) (T := [(30, [.inr (.inl 4)], [.inr (.inl 25)]), (30, [.inr (.inl 4)], [.inr (.inl 25)]), (1, [.inr (.inl 70), .inl (.int 22)], []), (30, [.inr (.inl 4)], [.inr (.inl 25)]), (30, [.inr (.inl 4)], [.inr (.inl 26)])]) (P := [(6, .inr (.inl 4), .inl (.ref 403)), (2, .inl (.int 30), .inr (.inl 69)), (6, .inr (.inl 4), .inl (.ref 403)), (3, .inr (.inl 71), .inl (.int 0)), (6, .inr (.inl 4), .inl (.ref 403)), (5, .inr (.inl 72), .inl (.int 27)), (4, .inr (.inl 6), .inl (.int 0)), (6, .inr (.inl 4), .inl (.ref 403))]) jm_ok154 (by decide +kernel) (by decide +kernel) hd F X1 X2 (fun F' hF hs => ?_)
  have b4 := hd_b (F := F) (F' := F') (k := 4) (hF 4 (by decide))
  have a25 := hd_ba (F := F) (F' := F') (k := 25) (hF 25 (by decide))
  have t69 : sy_dv F' (.inr (.inl 69)) = .int ((sy_ai F 25).getD (sy_i F 4).toNatClampNeg 0) := hd_rd (hs 0 _ rfl) b4 a25
  have t70 : sy_dv F' (.inr (.inl 70)) = .int ((sy_ai F 25).getD (sy_i F 4).toNatClampNeg 0) := hd_rd (hs 1 _ rfl) b4 a25
  have t71 : sy_dv F' (.inr (.inl 71)) = .int (((sy_ai F 25).getD (sy_i F 4).toNatClampNeg 0) - ((22 : Int32))) := hd_o (hs 2 _ rfl) t70 rfl rfl
  have t72 : sy_dv F' (.inr (.inl 72)) = .int ((sy_ai F 25).getD (sy_i F 4).toNatClampNeg 0) := hd_rd (hs 3 _ rfl) b4 a25
  have b6 := hd_b (F := F) (F' := F') (k := 6) (hF 6 (by decide))
  have a26 := hd_ba (F := F) (F' := F') (k := 26) (hF 26 (by decide))
  have t73 : sy_dv F' (.inr (.inl 73)) = .int ((sy_ai F 26).getD (sy_i F 4).toNatClampNeg 0) := hd_rd (hs 4 _ rfl) b4 a26
  have hB' : iv_in F' iv_B4 := iv_in_eq hB (fun j hj => hF j (Nat.lt_of_lt_of_le hj (by decide +kernel)))
  refine ⟨List.forall_mem_cons.mpr ⟨hd_pb b4 (by first | exact h0 | exact h0), List.forall_mem_cons.mpr ⟨hd_p2 rfl t69 (by have hc : ((30) : Int32).toInt = 30 := (by decide); omega), List.forall_mem_cons.mpr ⟨hd_pb b4 (by first | exact h2 | exact h2), List.forall_mem_cons.mpr ⟨hd_p3 t71 rfl (by have hc : ((0) : Int32).toInt = 0 := (by decide); omega), List.forall_mem_cons.mpr ⟨hd_pb b4 (by first | exact h4 | exact h4), List.forall_mem_cons.mpr ⟨hd_p5 t72 rfl (by have hc : ((27) : Int32).toInt = 27 := (by decide); omega), List.forall_mem_cons.mpr ⟨hd_p4 b6 rfl (by have hc : ((0) : Int32).toInt = 0 := (by decide); omega), List.forall_mem_cons.mpr ⟨hd_pb b4 (by first | exact h7 | exact h7), fun _ h => absurd h List.not_mem_nil⟩⟩⟩⟩⟩⟩⟩⟩, ?_⟩
  refine k _ ?_ ?_ ?_
  · exact fun j hj hn => (hd_keep hB' (Nat.lt_of_lt_of_le hj (by decide +kernel)) (by simp; omega)).trans (hF j (by omega))
  · exact hd_gi (x := .inl (.int 1)) (by decide +kernel) rfl
  · exact hd_gi (x := .inr (.inl 73)) (by decide +kernel) t73
theorem to_0_p3 {Ls : Nat} {xs : Nat → Int32} {d : Nat} {Q : Option Value → jm_h → Prop} (hd : 5 ≤ d) (F : Nat → sy_d) (X1 X2 : List jm_c) (hB : iv_in F iv_B4)
    (h0 : 0 ≤ (sy_i F 4).toInt ∧ (sy_i F 4).toInt < 403)
    (h1 : 30 < ((sy_ai F 25).getD (sy_i F 4).toNatClampNeg 0).toInt)
    (h2 : 0 ≤ (sy_i F 4).toInt ∧ (sy_i F 4).toInt < 403)
    (h3 : 0 ≤ (((sy_ai F 25).getD (sy_i F 4).toNatClampNeg 0) - ((22 : Int32))).toInt)
    (h4 : 0 ≤ (sy_i F 4).toInt ∧ (sy_i F 4).toInt < 403)
    (h5 : 27 < ((sy_ai F 25).getD (sy_i F 4).toNatClampNeg 0).toInt)
    (h6 : 0 < (sy_i F 6).toInt)
    (h7 : 0 < (sy_i F 6).toInt)
    (k : ∀ F1 : Nat → sy_d, (∀ j, j < 69 → True → F1 j = F j) → Q (none) (sy_dh F1 X1 X2 (iv_H 4))) :
    hd_W Ls xs d jm_M154 Q (0, sy_dL F [some (.inl (.ref 1000)), none], sy_dS F [], sy_dh F X1 X2 (iv_H 4), 0, 0) := by
  refine hd_ret (s := 4) (nv := 69) (v := none) (uh := hd_ov (iv_id 0 iv_B4) []) (f := true) (sp := [91, 119, 137, 156, 176, 233]) (d0 := 4) (O := [true, false, false, false, false, false]) (T := [(30, [.inr (.inl 4)], [.inr (.inl 25)]), (30, [.inr (.inl 4)], [.inr (.inl 25)]), (1, [.inr (.inl 70), .inl (.int 22)], []), (30, [.inr (.inl 4)], [.inr (.inl 25)])]) (P := [(6, .inr (.inl 4), .inl (.ref 403)), (2, .inl (.int 30), .inr (.inl 69)), (6, .inr (.inl 4), .inl (.ref 403)), (3, .inr (.inl 71), .inl (.int 0)), (6, .inr (.inl 4), .inl (.ref 403)), (5, .inr (.inl 72), .inl (.int 27)), (5, .inr (.inl 6), .inl (.int 0)), (5, .inr (.inl 6), .inl (.int 0))]) jm_ok154 (by decide +kernel) (by decide +kernel) hd F X1 X2 (fun F' hF hs => ?_)
  have b4 := hd_b (F := F) (F' := F') (k := 4) (hF 4 (by decide))
  have a25 := hd_ba (F := F) (F' := F') (k := 25) (hF 25 (by decide))
  have t69 : sy_dv F' (.inr (.inl 69)) = .int ((sy_ai F 25).getD (sy_i F 4).toNatClampNeg 0) := hd_rd (hs 0 _ rfl) b4 a25
  have t70 : sy_dv F' (.inr (.inl 70)) = .int ((sy_ai F 25).getD (sy_i F 4).toNatClampNeg 0) := hd_rd (hs 1 _ rfl) b4 a25
  have t71 : sy_dv F' (.inr (.inl 71)) = .int (((sy_ai F 25).getD (sy_i F 4).toNatClampNeg 0) - ((22 : Int32))) := hd_o (hs 2 _ rfl) t70 rfl rfl
  have t72 : sy_dv F' (.inr (.inl 72)) = .int ((sy_ai F 25).getD (sy_i F 4).toNatClampNeg 0) := hd_rd (hs 3 _ rfl) b4 a25
  have b6 := hd_b (F := F) (F' := F') (k := 6) (hF 6 (by decide))
  have hB' : iv_in F' iv_B4 := iv_in_eq hB (fun j hj => hF j (Nat.lt_of_lt_of_le hj (by decide +kernel)))
  refine ⟨List.forall_mem_cons.mpr ⟨hd_pb b4 (by first | exact h0 | exact h0), List.forall_mem_cons.mpr ⟨hd_p2 rfl t69 (by have hc : ((30) : Int32).toInt = 30 := (by decide); omega), List.forall_mem_cons.mpr ⟨hd_pb b4 (by first | exact h2 | exact h2), List.forall_mem_cons.mpr ⟨hd_p3 t71 rfl (by have hc : ((0) : Int32).toInt = 0 := (by decide); omega), List.forall_mem_cons.mpr ⟨hd_pb b4 (by first | exact h4 | exact h4), List.forall_mem_cons.mpr ⟨hd_p5 t72 rfl (by have hc : ((27) : Int32).toInt = 27 := (by decide); omega), List.forall_mem_cons.mpr ⟨hd_p5 b6 rfl (by have hc : ((0) : Int32).toInt = 0 := (by decide); omega), List.forall_mem_cons.mpr ⟨hd_p5 b6 rfl (by have hc : ((0) : Int32).toInt = 0 := (by decide); omega), fun _ h => absurd h List.not_mem_nil⟩⟩⟩⟩⟩⟩⟩⟩, ?_⟩
  refine k _ ?_
  · exact fun j hj _ => (hd_keep hB' (Nat.lt_of_lt_of_le hj (by decide +kernel)) (by simp)).trans (hF j (by omega))
theorem to_0_p4 {Ls : Nat} {xs : Nat → Int32} {d : Nat} {Q : Option Value → jm_h → Prop} (hd : 5 ≤ d) (F : Nat → sy_d) (X1 X2 : List jm_c) (hB : iv_in F iv_B4)
    (h0 : 0 ≤ (sy_i F 4).toInt ∧ (sy_i F 4).toInt < 403)
    (h1 : ((sy_ai F 25).getD (sy_i F 4).toNatClampNeg 0).toInt = 20)
    (h2 : 0 ≤ (sy_i F 12).toInt ∧ (sy_i F 12).toInt < 2)
    (h3 : ((sy_ai F 31).getD (sy_i F 12).toNatClampNeg 0).toInt ≠ 7)
    (h4 : (sy_i F 6).toInt ≠ 0)
    (h5 : (sy_i F 6).toInt ≠ 0)
    (k : ∀ F1 : Nat → sy_d, (∀ j, j < 69 → True → F1 j = F j) → Q (none) (sy_dh F1 X1 X2 (iv_H 4))) :
    hd_W Ls xs d jm_M154 Q (0, sy_dL F [some (.inl (.ref 1000)), none], sy_dS F [], sy_dh F X1 X2 (iv_H 4), 0, 0) := by
  refine hd_ret (s := 4) (nv := 69) (v := none) (uh := hd_ov (iv_id 0 iv_B4) []) (f := true) (sp := [91, 119, 137, 156, 176, 233]) (d0 := 4) (O := [false, true, true, true, true]) (T := [(30, [.inr (.inl 4)], [.inr (.inl 25)]), (30, [.inr (.inl 12)], [.inr (.inl 31)])]) (P := [(6, .inr (.inl 4), .inl (.ref 403)), (0, .inr (.inl 69), .inl (.int 20)), (6, .inr (.inl 12), .inl (.ref 2)), (1, .inr (.inl 70), .inl (.int 7)), (1, .inr (.inl 6), .inl (.int 0)), (1, .inr (.inl 6), .inl (.int 0))]) jm_ok154 (by decide +kernel) (by decide +kernel) hd F X1 X2 (fun F' hF hs => ?_)
  have b4 := hd_b (F := F) (F' := F') (k := 4) (hF 4 (by decide))
  have a25 := hd_ba (F := F) (F' := F') (k := 25) (hF 25 (by decide))
  have t69 : sy_dv F' (.inr (.inl 69)) = .int ((sy_ai F 25).getD (sy_i F 4).toNatClampNeg 0) := hd_rd (hs 0 _ rfl) b4 a25
  have b12 := hd_b (F := F) (F' := F') (k := 12) (hF 12 (by decide))
  have a31 := hd_ba (F := F) (F' := F') (k := 31) (hF 31 (by decide))
  have t70 : sy_dv F' (.inr (.inl 70)) = .int ((sy_ai F 31).getD (sy_i F 12).toNatClampNeg 0) := hd_rd (hs 1 _ rfl) b12 a31
  have b6 := hd_b (F := F) (F' := F') (k := 6) (hF 6 (by decide))
  have hB' : iv_in F' iv_B4 := iv_in_eq hB (fun j hj => hF j (Nat.lt_of_lt_of_le hj (by decide +kernel)))
  refine ⟨List.forall_mem_cons.mpr ⟨hd_pb b4 (by first | exact h0 | exact h0), List.forall_mem_cons.mpr ⟨hd_p0 t69 rfl (by have hc : ((20) : Int32).toInt = 20 := (by decide); omega), List.forall_mem_cons.mpr ⟨hd_pb b12 (by first | exact h2 | exact h2), List.forall_mem_cons.mpr ⟨hd_p1 t70 rfl (by have hc : ((7) : Int32).toInt = 7 := (by decide); omega), List.forall_mem_cons.mpr ⟨hd_p1 b6 rfl (by have hc : ((0) : Int32).toInt = 0 := (by decide); omega), List.forall_mem_cons.mpr ⟨hd_p1 b6 rfl (by have hc : ((0) : Int32).toInt = 0 := (by decide); omega), fun _ h => absurd h List.not_mem_nil⟩⟩⟩⟩⟩⟩, ?_⟩
  refine k _ ?_
  · exact fun j hj _ => (hd_keep hB' (Nat.lt_of_lt_of_le hj (by decide +kernel)) (by simp)).trans (hF j (by omega))
theorem to_0_p5 {Ls : Nat} {xs : Nat → Int32} {d : Nat} {Q : Option Value → jm_h → Prop} (hd : 5 ≤ d) (F : Nat → sy_d) (X1 X2 : List jm_c) (hB : iv_in F iv_B4)
    (h0 : 0 ≤ (sy_i F 4).toInt ∧ (sy_i F 4).toInt < 403)
    (h1 : ((sy_ai F 25).getD (sy_i F 4).toNatClampNeg 0).toInt = 20)
    (h2 : 0 ≤ (sy_i F 12).toInt ∧ (sy_i F 12).toInt < 2)
    (h3 : ((sy_ai F 31).getD (sy_i F 12).toNatClampNeg 0).toInt ≠ 7)
    (h4 : (sy_i F 6).toInt = 0)
    (h5 : (sy_i F 4).toInt ≠ 400)
    (h6 : (sy_i F 6).toInt = 0)
    (k : ∀ F1 : Nat → sy_d, (∀ j, j < 69 → j ≠ 4 → F1 j = F j) → F1 4 = .inl (.int ((sy_i F 4) + ((1 : Int32)))) → hd_W Ls xs d jm_M154 Q (91, sy_dL F1 [some (.inl (.ref 1000)), none], sy_dS F1 [.inl (.ref 1000)], sy_dh F1 X1 X2 (iv_H 4), 0, 0)) :
    hd_W Ls xs d jm_M154 Q (0, sy_dL F [some (.inl (.ref 1000)), none], sy_dS F [], sy_dh F X1 X2 (iv_H 4), 0, 0) := by
  refine hd_run (s := 4) (nv := 69) (pc := 91) (L := [some (.inl (.ref 1000)), none]) (S := [.inl (.ref 1000)]) (uh := hd_ov (iv_id 0 iv_B4) [(4, .inl (.inr (.inl 71)))]) (ul := []) (f := true) (sp := [91, 119, 137, 156, 176, 233]) (d0 := 4) (O := [false, true, true, false, true, false]) (T := [(30, [.inr (.inl 4)], [.inr (.inl 25)]), (30, [.inr (.inl 12)], [.inr (.inl 31)]), (0, [.inr (.inl 4), .inl (.int 1)], [])]) (P := [(6, .inr (.inl 4), .inl (.ref 403)), (0, .inr (.inl 69), .inl (.int 20)), (6, .inr (.inl 12), .inl (.ref 2)), (1, .inr (.inl 70), .inl (.int 7)), (0, .inr (.inl 6), .inl (.int 0)), (1, .inr (.inl 4), .inl (.int 400)), (0, .inr (.inl 6), .inl (.int 0))]) jm_ok154 (by decide +kernel) (by decide +kernel) hd F X1 X2 (fun F' hF hs => ?_)
  have b4 := hd_b (F := F) (F' := F') (k := 4) (hF 4 (by decide))
  have a25 := hd_ba (F := F) (F' := F') (k := 25) (hF 25 (by decide))
  have t69 : sy_dv F' (.inr (.inl 69)) = .int ((sy_ai F 25).getD (sy_i F 4).toNatClampNeg 0) := hd_rd (hs 0 _ rfl) b4 a25
  have b12 := hd_b (F := F) (F' := F') (k := 12) (hF 12 (by decide))
  have a31 := hd_ba (F := F) (F' := F') (k := 31) (hF 31 (by decide))
  have t70 : sy_dv F' (.inr (.inl 70)) = .int ((sy_ai F 31).getD (sy_i F 12).toNatClampNeg 0) := hd_rd (hs 1 _ rfl) b12 a31
  have b6 := hd_b (F := F) (F' := F') (k := 6) (hF 6 (by decide))
  have t71 : sy_dv F' (.inr (.inl 71)) = .int ((sy_i F 4) + ((1 : Int32))) := hd_o (hs 2 _ rfl) b4 rfl rfl
  have hB' : iv_in F' iv_B4 := iv_in_eq hB (fun j hj => hF j (Nat.lt_of_lt_of_le hj (by decide +kernel)))
  refine ⟨List.forall_mem_cons.mpr ⟨hd_pb b4 (by first | exact h0 | exact h0), List.forall_mem_cons.mpr ⟨hd_p0 t69 rfl (by have hc : ((20) : Int32).toInt = 20 := (by decide); omega), List.forall_mem_cons.mpr ⟨hd_pb b12 (by first | exact h2 | exact h2), List.forall_mem_cons.mpr ⟨hd_p1 t70 rfl (by have hc : ((7) : Int32).toInt = 7 := (by decide); omega), List.forall_mem_cons.mpr ⟨hd_p0 b6 rfl (by have hc : ((0) : Int32).toInt = 0 := (by decide); omega), List.forall_mem_cons.mpr ⟨hd_p1 b4 rfl (by have hc : ((400) : Int32).toInt = 400 := (by decide); omega), List.forall_mem_cons.mpr ⟨hd_p0 b6 rfl (by have hc : ((0) : Int32).toInt = 0 := (by decide); omega), fun _ h => absurd h List.not_mem_nil⟩⟩⟩⟩⟩⟩⟩, ?_⟩
  refine k _ ?_ ?_
  · exact fun j hj hn => (hd_keep hB' (Nat.lt_of_lt_of_le hj (by decide +kernel)) (by simp; omega)).trans (hF j (by omega))
  · exact hd_gi (x := .inr (.inl 71)) (by decide +kernel) t71
theorem to_0_p6 {Ls : Nat} {xs : Nat → Int32} {d : Nat} {Q : Option Value → jm_h → Prop} (hd : 5 ≤ d) (F : Nat → sy_d) (X1 X2 : List jm_c) (hB : iv_in F iv_B4)
    (h0 : 0 ≤ (sy_i F 4).toInt ∧ (sy_i F 4).toInt < 403)
    (h1 : ((sy_ai F 25).getD (sy_i F 4).toNatClampNeg 0).toInt = 20)
    (h2 : 0 ≤ (sy_i F 12).toInt ∧ (sy_i F 12).toInt < 2)
    (h3 : ((sy_ai F 31).getD (sy_i F 12).toNatClampNeg 0).toInt ≠ 7)
    (h4 : (sy_i F 6).toInt = 0)
    (h5 : (sy_i F 4).toInt = 400)
    (h6 : (sy_i F 6).toInt ≤ 0)
    (h7 : 0 ≤ (sy_i F 4).toInt ∧ (sy_i F 4).toInt < 403)
    (k : ∀ F1 : Nat → sy_d, (∀ j, j < 69 → j ≠ 6 ∧ j ≠ 7 → F1 j = F j) → F1 6 = .inl (.int ((2 : Int32))) → F1 7 = .inl (.int ((sy_ai F 26).getD (sy_i F 4).toNatClampNeg 0)) → Q (none) (sy_dh F1 X1 X2 (iv_H 4))) :
    hd_W Ls xs d jm_M154 Q (0, sy_dL F [some (.inl (.ref 1000)), none], sy_dS F [], sy_dh F X1 X2 (iv_H 4), 0, 0) := by
  refine hd_ret (s := 4) (nv := 69) (v := none) (uh := hd_ov (iv_id 0 iv_B4) [(6, .inl (.inl (.int 2))), (7, .inl (.inr (.inl 71)))]) (f := true) (sp := [91, 119, 137, 156, 176, 233]) (d0 := 4) (O := [false, true, true, false, false, true]) (T := [(30, [.inr (.inl 4)], [.inr (.inl 25)]), (30, [.inr (.inl 12)], [.inr (.inl 31)]), (30, [.inr (.inl 4)], [.inr (.inl 26)])]) (P := [(6, .inr (.inl 4), .inl (.ref 403)), (0, .inr (.inl 69), .inl (.int 20)), (6, .inr (.inl 12), .inl (.ref 2)), (1, .inr (.inl 70), .inl (.int 7)), (0, .inr (.inl 6), .inl (.int 0)), (0, .inr (.inl 4), .inl (.int 400)), (4, .inr (.inl 6), .inl (.int 0)), (6, .inr (.inl 4), .inl (.ref 403))]) jm_ok154 (by decide +kernel) (by decide +kernel) hd F X1 X2 (fun F' hF hs => ?_)
  have b4 := hd_b (F := F) (F' := F') (k := 4) (hF 4 (by decide))
  have a25 := hd_ba (F := F) (F' := F') (k := 25) (hF 25 (by decide))
  have t69 : sy_dv F' (.inr (.inl 69)) = .int ((sy_ai F 25).getD (sy_i F 4).toNatClampNeg 0) := hd_rd (hs 0 _ rfl) b4 a25
  have b12 := hd_b (F := F) (F' := F') (k := 12) (hF 12 (by decide))
  have a31 := hd_ba (F := F) (F' := F') (k := 31) (hF 31 (by decide))
  have t70 : sy_dv F' (.inr (.inl 70)) = .int ((sy_ai F 31).getD (sy_i F 12).toNatClampNeg 0) := hd_rd (hs 1 _ rfl) b12 a31
  have b6 := hd_b (F := F) (F' := F') (k := 6) (hF 6 (by decide))
  have a26 := hd_ba (F := F) (F' := F') (k := 26) (hF 26 (by decide))
  have t71 : sy_dv F' (.inr (.inl 71)) = .int ((sy_ai F 26).getD (sy_i F 4).toNatClampNeg 0) := hd_rd (hs 2 _ rfl) b4 a26
  have hB' : iv_in F' iv_B4 := iv_in_eq hB (fun j hj => hF j (Nat.lt_of_lt_of_le hj (by decide +kernel)))
  refine ⟨List.forall_mem_cons.mpr ⟨hd_pb b4 (by first | exact h0 | exact h0), List.forall_mem_cons.mpr ⟨hd_p0 t69 rfl (by have hc : ((20) : Int32).toInt = 20 := (by decide); omega), List.forall_mem_cons.mpr ⟨hd_pb b12 (by first | exact h2 | exact h2), List.forall_mem_cons.mpr ⟨hd_p1 t70 rfl (by have hc : ((7) : Int32).toInt = 7 := (by decide); omega), List.forall_mem_cons.mpr ⟨hd_p0 b6 rfl (by have hc : ((0) : Int32).toInt = 0 := (by decide); omega), List.forall_mem_cons.mpr ⟨hd_p0 b4 rfl (by have hc : ((400) : Int32).toInt = 400 := (by decide); omega), List.forall_mem_cons.mpr ⟨hd_p4 b6 rfl (by have hc : ((0) : Int32).toInt = 0 := (by decide); omega), List.forall_mem_cons.mpr ⟨hd_pb b4 (by first | exact h7 | exact h7), fun _ h => absurd h List.not_mem_nil⟩⟩⟩⟩⟩⟩⟩⟩, ?_⟩
  refine k _ ?_ ?_ ?_
  · exact fun j hj hn => (hd_keep hB' (Nat.lt_of_lt_of_le hj (by decide +kernel)) (by simp; omega)).trans (hF j (by omega))
  · exact hd_gi (x := .inl (.int 2)) (by decide +kernel) rfl
  · exact hd_gi (x := .inr (.inl 71)) (by decide +kernel) t71
theorem to_0_p7 {Ls : Nat} {xs : Nat → Int32} {d : Nat} {Q : Option Value → jm_h → Prop} (hd : 5 ≤ d) (F : Nat → sy_d) (X1 X2 : List jm_c) (hB : iv_in F iv_B4)
    (h0 : 0 ≤ (sy_i F 4).toInt ∧ (sy_i F 4).toInt < 403)
    (h1 : ((sy_ai F 25).getD (sy_i F 4).toNatClampNeg 0).toInt = 20)
    (h2 : 0 ≤ (sy_i F 12).toInt ∧ (sy_i F 12).toInt < 2)
    (h3 : ((sy_ai F 31).getD (sy_i F 12).toNatClampNeg 0).toInt = 7)
    (h4 : (sy_i F 6).toInt ≤ 0)
    (h5 : 0 ≤ (sy_i F 4).toInt ∧ (sy_i F 4).toInt < 403)
    (k : ∀ F1 : Nat → sy_d, (∀ j, j < 69 → j ≠ 6 ∧ j ≠ 7 → F1 j = F j) → F1 6 = .inl (.int ((2 : Int32))) → F1 7 = .inl (.int ((sy_ai F 26).getD (sy_i F 4).toNatClampNeg 0)) → Q (none) (sy_dh F1 X1 X2 (iv_H 4))) :
    hd_W Ls xs d jm_M154 Q (0, sy_dL F [some (.inl (.ref 1000)), none], sy_dS F [], sy_dh F X1 X2 (iv_H 4), 0, 0) := by
  refine hd_ret (s := 4) (nv := 69) (v := none) (uh := hd_ov (iv_id 0 iv_B4) [(6, .inl (.inl (.int 2))), (7, .inl (.inr (.inl 71)))]) (f := true) (sp := [91, 119, 137, 156, 176, 233]) (d0 := 4) (O := [false, true, false, true]) (T := [(30, [.inr (.inl 4)], [.inr (.inl 25)]), (30, [.inr (.inl 12)], [.inr (.inl 31)]), (30, [.inr (.inl 4)], [.inr (.inl 26)])]) (P := [(6, .inr (.inl 4), .inl (.ref 403)), (0, .inr (.inl 69), .inl (.int 20)), (6, .inr (.inl 12), .inl (.ref 2)), (0, .inr (.inl 70), .inl (.int 7)), (4, .inr (.inl 6), .inl (.int 0)), (6, .inr (.inl 4), .inl (.ref 403))]) jm_ok154 (by decide +kernel) (by decide +kernel) hd F X1 X2 (fun F' hF hs => ?_)
  have b4 := hd_b (F := F) (F' := F') (k := 4) (hF 4 (by decide))
  have a25 := hd_ba (F := F) (F' := F') (k := 25) (hF 25 (by decide))
  have t69 : sy_dv F' (.inr (.inl 69)) = .int ((sy_ai F 25).getD (sy_i F 4).toNatClampNeg 0) := hd_rd (hs 0 _ rfl) b4 a25
  have b12 := hd_b (F := F) (F' := F') (k := 12) (hF 12 (by decide))
  have a31 := hd_ba (F := F) (F' := F') (k := 31) (hF 31 (by decide))
  have t70 : sy_dv F' (.inr (.inl 70)) = .int ((sy_ai F 31).getD (sy_i F 12).toNatClampNeg 0) := hd_rd (hs 1 _ rfl) b12 a31
  have b6 := hd_b (F := F) (F' := F') (k := 6) (hF 6 (by decide))
  have a26 := hd_ba (F := F) (F' := F') (k := 26) (hF 26 (by decide))
  have t71 : sy_dv F' (.inr (.inl 71)) = .int ((sy_ai F 26).getD (sy_i F 4).toNatClampNeg 0) := hd_rd (hs 2 _ rfl) b4 a26
  have hB' : iv_in F' iv_B4 := iv_in_eq hB (fun j hj => hF j (Nat.lt_of_lt_of_le hj (by decide +kernel)))
  refine ⟨List.forall_mem_cons.mpr ⟨hd_pb b4 (by first | exact h0 | exact h0), List.forall_mem_cons.mpr ⟨hd_p0 t69 rfl (by have hc : ((20) : Int32).toInt = 20 := (by decide); omega), List.forall_mem_cons.mpr ⟨hd_pb b12 (by first | exact h2 | exact h2), List.forall_mem_cons.mpr ⟨hd_p0 t70 rfl (by have hc : ((7) : Int32).toInt = 7 := (by decide); omega), List.forall_mem_cons.mpr ⟨hd_p4 b6 rfl (by have hc : ((0) : Int32).toInt = 0 := (by decide); omega), List.forall_mem_cons.mpr ⟨hd_pb b4 (by first | exact h5 | exact h5), fun _ h => absurd h List.not_mem_nil⟩⟩⟩⟩⟩⟩, ?_⟩
  refine k _ ?_ ?_ ?_
  · exact fun j hj hn => (hd_keep hB' (Nat.lt_of_lt_of_le hj (by decide +kernel)) (by simp; omega)).trans (hF j (by omega))
  · exact hd_gi (x := .inl (.int 2)) (by decide +kernel) rfl
  · exact hd_gi (x := .inr (.inl 71)) (by decide +kernel) t71
theorem to_0_p8 {Ls : Nat} {xs : Nat → Int32} {d : Nat} {Q : Option Value → jm_h → Prop} (hd : 5 ≤ d) (F : Nat → sy_d) (X1 X2 : List jm_c) (hB : iv_in F iv_B4)
    (h0 : 0 ≤ (sy_i F 4).toInt ∧ (sy_i F 4).toInt < 403)
    (h1 : ((sy_ai F 25).getD (sy_i F 4).toNatClampNeg 0).toInt = 20)
    (h2 : 0 ≤ (sy_i F 12).toInt ∧ (sy_i F 12).toInt < 2)
    (h3 : ((sy_ai F 31).getD (sy_i F 12).toNatClampNeg 0).toInt = 7)
    (h4 : 0 < (sy_i F 6).toInt)
    (h5 : (sy_i F 6).toInt ≠ 0)
    (h6 : (sy_i F 6).toInt ≠ 0)
    (k : ∀ F1 : Nat → sy_d, (∀ j, j < 69 → True → F1 j = F j) → Q (none) (sy_dh F1 X1 X2 (iv_H 4))) :
    hd_W Ls xs d jm_M154 Q (0, sy_dL F [some (.inl (.ref 1000)), none], sy_dS F [], sy_dh F X1 X2 (iv_H 4), 0, 0) := by
  refine hd_ret (s := 4) (nv := 69) (v := none) (uh := hd_ov (iv_id 0 iv_B4) []) (f := true) (sp := [91, 119, 137, 156, 176, 233]) (d0 := 4) (O := [false, true, false, false, true, true]) (T := [(30, [.inr (.inl 4)], [.inr (.inl 25)]), (30, [.inr (.inl 12)], [.inr (.inl 31)])]) (P := [(6, .inr (.inl 4), .inl (.ref 403)), (0, .inr (.inl 69), .inl (.int 20)), (6, .inr (.inl 12), .inl (.ref 2)), (0, .inr (.inl 70), .inl (.int 7)), (5, .inr (.inl 6), .inl (.int 0)), (1, .inr (.inl 6), .inl (.int 0)), (1, .inr (.inl 6), .inl (.int 0))]) jm_ok154 (by decide +kernel) (by decide +kernel) hd F X1 X2 (fun F' hF hs => ?_)
  have b4 := hd_b (F := F) (F' := F') (k := 4) (hF 4 (by decide))
  have a25 := hd_ba (F := F) (F' := F') (k := 25) (hF 25 (by decide))
  have t69 : sy_dv F' (.inr (.inl 69)) = .int ((sy_ai F 25).getD (sy_i F 4).toNatClampNeg 0) := hd_rd (hs 0 _ rfl) b4 a25
  have b12 := hd_b (F := F) (F' := F') (k := 12) (hF 12 (by decide))
  have a31 := hd_ba (F := F) (F' := F') (k := 31) (hF 31 (by decide))
  have t70 : sy_dv F' (.inr (.inl 70)) = .int ((sy_ai F 31).getD (sy_i F 12).toNatClampNeg 0) := hd_rd (hs 1 _ rfl) b12 a31
  have b6 := hd_b (F := F) (F' := F') (k := 6) (hF 6 (by decide))
  have hB' : iv_in F' iv_B4 := iv_in_eq hB (fun j hj => hF j (Nat.lt_of_lt_of_le hj (by decide +kernel)))
  refine ⟨List.forall_mem_cons.mpr ⟨hd_pb b4 (by first | exact h0 | exact h0), List.forall_mem_cons.mpr ⟨hd_p0 t69 rfl (by have hc : ((20) : Int32).toInt = 20 := (by decide); omega), List.forall_mem_cons.mpr ⟨hd_pb b12 (by first | exact h2 | exact h2), List.forall_mem_cons.mpr ⟨hd_p0 t70 rfl (by have hc : ((7) : Int32).toInt = 7 := (by decide); omega), List.forall_mem_cons.mpr ⟨hd_p5 b6 rfl (by have hc : ((0) : Int32).toInt = 0 := (by decide); omega), List.forall_mem_cons.mpr ⟨hd_p1 b6 rfl (by have hc : ((0) : Int32).toInt = 0 := (by decide); omega), List.forall_mem_cons.mpr ⟨hd_p1 b6 rfl (by have hc : ((0) : Int32).toInt = 0 := (by decide); omega), fun _ h => absurd h List.not_mem_nil⟩⟩⟩⟩⟩⟩⟩, ?_⟩
  refine k _ ?_
  · exact fun j hj _ => (hd_keep hB' (Nat.lt_of_lt_of_le hj (by decide +kernel)) (by simp)).trans (hF j (by omega))
theorem to_0_p9 {Ls : Nat} {xs : Nat → Int32} {d : Nat} {Q : Option Value → jm_h → Prop} (hd : 5 ≤ d) (F : Nat → sy_d) (X1 X2 : List jm_c) (hB : iv_in F iv_B4)
    (h0 : 0 ≤ (sy_i F 4).toInt ∧ (sy_i F 4).toInt < 403)
    (h1 : ((sy_ai F 25).getD (sy_i F 4).toNatClampNeg 0).toInt = 21)
    (h2 : 0 ≤ (sy_i F 12).toInt ∧ (sy_i F 12).toInt < 2)
    (h3 : ((sy_ai F 35).getD (sy_i F 12).toNatClampNeg 0).toInt ≠ 4)
    (h4 : (sy_i F 6).toInt ≠ 0)
    (h5 : (sy_i F 6).toInt ≠ 0)
    (k : ∀ F1 : Nat → sy_d, (∀ j, j < 69 → True → F1 j = F j) → Q (none) (sy_dh F1 X1 X2 (iv_H 4))) :
    hd_W Ls xs d jm_M154 Q (0, sy_dL F [some (.inl (.ref 1000)), none], sy_dS F [], sy_dh F X1 X2 (iv_H 4), 0, 0) := by
  refine hd_ret (s := 4) (nv := 69) (v := none) (uh := hd_ov (iv_id 0 iv_B4) []) (f := true) (sp := [91, 119, 137, 156, 176, 233]) (d0 := 4) (O := [false, false, true, true, true, true]) (T := [(30, [.inr (.inl 4)], [.inr (.inl 25)]), (30, [.inr (.inl 12)], [.inr (.inl 35)])]) (P := [(6, .inr (.inl 4), .inl (.ref 403)), (0, .inr (.inl 69), .inl (.int 21)), (6, .inr (.inl 12), .inl (.ref 2)), (1, .inr (.inl 70), .inl (.int 4)), (1, .inr (.inl 6), .inl (.int 0)), (1, .inr (.inl 6), .inl (.int 0))]) jm_ok154 (by decide +kernel) (by decide +kernel) hd F X1 X2 (fun F' hF hs => ?_)
  have b4 := hd_b (F := F) (F' := F') (k := 4) (hF 4 (by decide))
  have a25 := hd_ba (F := F) (F' := F') (k := 25) (hF 25 (by decide))
  have t69 : sy_dv F' (.inr (.inl 69)) = .int ((sy_ai F 25).getD (sy_i F 4).toNatClampNeg 0) := hd_rd (hs 0 _ rfl) b4 a25
  have b12 := hd_b (F := F) (F' := F') (k := 12) (hF 12 (by decide))
  have a35 := hd_ba (F := F) (F' := F') (k := 35) (hF 35 (by decide))
  have t70 : sy_dv F' (.inr (.inl 70)) = .int ((sy_ai F 35).getD (sy_i F 12).toNatClampNeg 0) := hd_rd (hs 1 _ rfl) b12 a35
  have b6 := hd_b (F := F) (F' := F') (k := 6) (hF 6 (by decide))
  have hB' : iv_in F' iv_B4 := iv_in_eq hB (fun j hj => hF j (Nat.lt_of_lt_of_le hj (by decide +kernel)))
  refine ⟨List.forall_mem_cons.mpr ⟨hd_pb b4 (by first | exact h0 | exact h0), List.forall_mem_cons.mpr ⟨hd_p0 t69 rfl (by have hc : ((21) : Int32).toInt = 21 := (by decide); omega), List.forall_mem_cons.mpr ⟨hd_pb b12 (by first | exact h2 | exact h2), List.forall_mem_cons.mpr ⟨hd_p1 t70 rfl (by have hc : ((4) : Int32).toInt = 4 := (by decide); omega), List.forall_mem_cons.mpr ⟨hd_p1 b6 rfl (by have hc : ((0) : Int32).toInt = 0 := (by decide); omega), List.forall_mem_cons.mpr ⟨hd_p1 b6 rfl (by have hc : ((0) : Int32).toInt = 0 := (by decide); omega), fun _ h => absurd h List.not_mem_nil⟩⟩⟩⟩⟩⟩, ?_⟩
  refine k _ ?_
  · exact fun j hj _ => (hd_keep hB' (Nat.lt_of_lt_of_le hj (by decide +kernel)) (by simp)).trans (hF j (by omega))
theorem to_0_p10 {Ls : Nat} {xs : Nat → Int32} {d : Nat} {Q : Option Value → jm_h → Prop} (hd : 5 ≤ d) (F : Nat → sy_d) (X1 X2 : List jm_c) (hB : iv_in F iv_B4)
    (h0 : 0 ≤ (sy_i F 4).toInt ∧ (sy_i F 4).toInt < 403)
    (h1 : ((sy_ai F 25).getD (sy_i F 4).toNatClampNeg 0).toInt = 21)
    (h2 : 0 ≤ (sy_i F 12).toInt ∧ (sy_i F 12).toInt < 2)
    (h3 : ((sy_ai F 35).getD (sy_i F 12).toNatClampNeg 0).toInt ≠ 4)
    (h4 : (sy_i F 6).toInt = 0)
    (h5 : (sy_i F 4).toInt ≠ 400)
    (h6 : (sy_i F 6).toInt = 0)
    (k : ∀ F1 : Nat → sy_d, (∀ j, j < 69 → j ≠ 4 → F1 j = F j) → F1 4 = .inl (.int ((sy_i F 4) + ((1 : Int32)))) → hd_W Ls xs d jm_M154 Q (119, sy_dL F1 [some (.inl (.ref 1000)), none], sy_dS F1 [.inl (.ref 1000)], sy_dh F1 X1 X2 (iv_H 4), 0, 0)) :
    hd_W Ls xs d jm_M154 Q (0, sy_dL F [some (.inl (.ref 1000)), none], sy_dS F [], sy_dh F X1 X2 (iv_H 4), 0, 0) := by
  refine hd_run (s := 4) (nv := 69) (pc := 119) (L := [some (.inl (.ref 1000)), none]) (S := [.inl (.ref 1000)]) (uh := hd_ov (iv_id 0 iv_B4) [(4, .inl (.inr (.inl 71)))]) (ul := []) (f := true) (sp := [91, 119, 137, 156, 176, 233]) (d0 := 4) (O := [false, false, true, true, false, true, false]) (T := [(30, [.inr (.inl 4)], [.inr (.inl 25)]), (30, [.inr (.inl 12)], [.inr (.inl 35)]), (0, [.inr (.inl 4), .inl (.int 1)], [])]) (P := [(6, .inr (.inl 4), .inl (.ref 403)), (0, .inr (.inl 69), .inl (.int 21)), (6, .inr (.inl 12), .inl (.ref 2)), (1, .inr (.inl 70), .inl (.int 4)), (0, .inr (.inl 6), .inl (.int 0)), (1, .inr (.inl 4), .inl (.int 400)), (0, .inr (.inl 6), .inl (.int 0))]) jm_ok154 (by decide +kernel) (by decide +kernel) hd F X1 X2 (fun F' hF hs => ?_)
  have b4 := hd_b (F := F) (F' := F') (k := 4) (hF 4 (by decide))
  have a25 := hd_ba (F := F) (F' := F') (k := 25) (hF 25 (by decide))
  have t69 : sy_dv F' (.inr (.inl 69)) = .int ((sy_ai F 25).getD (sy_i F 4).toNatClampNeg 0) := hd_rd (hs 0 _ rfl) b4 a25
  have b12 := hd_b (F := F) (F' := F') (k := 12) (hF 12 (by decide))
  have a35 := hd_ba (F := F) (F' := F') (k := 35) (hF 35 (by decide))
  have t70 : sy_dv F' (.inr (.inl 70)) = .int ((sy_ai F 35).getD (sy_i F 12).toNatClampNeg 0) := hd_rd (hs 1 _ rfl) b12 a35
  have b6 := hd_b (F := F) (F' := F') (k := 6) (hF 6 (by decide))
  have t71 : sy_dv F' (.inr (.inl 71)) = .int ((sy_i F 4) + ((1 : Int32))) := hd_o (hs 2 _ rfl) b4 rfl rfl
  have hB' : iv_in F' iv_B4 := iv_in_eq hB (fun j hj => hF j (Nat.lt_of_lt_of_le hj (by decide +kernel)))
  refine ⟨List.forall_mem_cons.mpr ⟨hd_pb b4 (by first | exact h0 | exact h0), List.forall_mem_cons.mpr ⟨hd_p0 t69 rfl (by have hc : ((21) : Int32).toInt = 21 := (by decide); omega), List.forall_mem_cons.mpr ⟨hd_pb b12 (by first | exact h2 | exact h2), List.forall_mem_cons.mpr ⟨hd_p1 t70 rfl (by have hc : ((4) : Int32).toInt = 4 := (by decide); omega), List.forall_mem_cons.mpr ⟨hd_p0 b6 rfl (by have hc : ((0) : Int32).toInt = 0 := (by decide); omega), List.forall_mem_cons.mpr ⟨hd_p1 b4 rfl (by have hc : ((400) : Int32).toInt = 400 := (by decide); omega), List.forall_mem_cons.mpr ⟨hd_p0 b6 rfl (by have hc : ((0) : Int32).toInt = 0 := (by decide); omega), fun _ h => absurd h List.not_mem_nil⟩⟩⟩⟩⟩⟩⟩, ?_⟩
  refine k _ ?_ ?_
  · exact fun j hj hn => (hd_keep hB' (Nat.lt_of_lt_of_le hj (by decide +kernel)) (by simp; omega)).trans (hF j (by omega))
  · exact hd_gi (x := .inr (.inl 71)) (by decide +kernel) t71
theorem to_0_p11 {Ls : Nat} {xs : Nat → Int32} {d : Nat} {Q : Option Value → jm_h → Prop} (hd : 5 ≤ d) (F : Nat → sy_d) (X1 X2 : List jm_c) (hB : iv_in F iv_B4)
    (h0 : 0 ≤ (sy_i F 4).toInt ∧ (sy_i F 4).toInt < 403)
    (h1 : ((sy_ai F 25).getD (sy_i F 4).toNatClampNeg 0).toInt = 21)
    (h2 : 0 ≤ (sy_i F 12).toInt ∧ (sy_i F 12).toInt < 2)
    (h3 : ((sy_ai F 35).getD (sy_i F 12).toNatClampNeg 0).toInt ≠ 4)
    (h4 : (sy_i F 6).toInt = 0)
    (h5 : (sy_i F 4).toInt = 400)
    (h6 : (sy_i F 6).toInt ≤ 0)
    (h7 : 0 ≤ (sy_i F 4).toInt ∧ (sy_i F 4).toInt < 403)
    (k : ∀ F1 : Nat → sy_d, (∀ j, j < 69 → j ≠ 6 ∧ j ≠ 7 → F1 j = F j) → F1 6 = .inl (.int ((2 : Int32))) → F1 7 = .inl (.int ((sy_ai F 26).getD (sy_i F 4).toNatClampNeg 0)) → Q (none) (sy_dh F1 X1 X2 (iv_H 4))) :
    hd_W Ls xs d jm_M154 Q (0, sy_dL F [some (.inl (.ref 1000)), none], sy_dS F [], sy_dh F X1 X2 (iv_H 4), 0, 0) := by
  refine hd_ret (s := 4) (nv := 69) (v := none) (uh := hd_ov (iv_id 0 iv_B4) [(6, .inl (.inl (.int 2))), (7, .inl (.inr (.inl 71)))]) (f := true) (sp := [91, 119, 137, 156, 176, 233]) (d0 := 4) (O := [false, false, true, true, false, false, true]) (T := [(30, [.inr (.inl 4)], [.inr (.inl 25)]), (30, [.inr (.inl 12)], [.inr (.inl 35)]), (30, [.inr (.inl 4)], [.inr (.inl 26)])]) (P := [(6, .inr (.inl 4), .inl (.ref 403)), (0, .inr (.inl 69), .inl (.int 21)), (6, .inr (.inl 12), .inl (.ref 2)), (1, .inr (.inl 70), .inl (.int 4)), (0, .inr (.inl 6), .inl (.int 0)), (0, .inr (.inl 4), .inl (.int 400)), (4, .inr (.inl 6), .inl (.int 0)), (6, .inr (.inl 4), .inl (.ref 403))]) jm_ok154 (by decide +kernel) (by decide +kernel) hd F X1 X2 (fun F' hF hs => ?_)
  have b4 := hd_b (F := F) (F' := F') (k := 4) (hF 4 (by decide))
  have a25 := hd_ba (F := F) (F' := F') (k := 25) (hF 25 (by decide))
  have t69 : sy_dv F' (.inr (.inl 69)) = .int ((sy_ai F 25).getD (sy_i F 4).toNatClampNeg 0) := hd_rd (hs 0 _ rfl) b4 a25
  have b12 := hd_b (F := F) (F' := F') (k := 12) (hF 12 (by decide))
  have a35 := hd_ba (F := F) (F' := F') (k := 35) (hF 35 (by decide))
  have t70 : sy_dv F' (.inr (.inl 70)) = .int ((sy_ai F 35).getD (sy_i F 12).toNatClampNeg 0) := hd_rd (hs 1 _ rfl) b12 a35
  have b6 := hd_b (F := F) (F' := F') (k := 6) (hF 6 (by decide))
  have a26 := hd_ba (F := F) (F' := F') (k := 26) (hF 26 (by decide))
  have t71 : sy_dv F' (.inr (.inl 71)) = .int ((sy_ai F 26).getD (sy_i F 4).toNatClampNeg 0) := hd_rd (hs 2 _ rfl) b4 a26
  have hB' : iv_in F' iv_B4 := iv_in_eq hB (fun j hj => hF j (Nat.lt_of_lt_of_le hj (by decide +kernel)))
  refine ⟨List.forall_mem_cons.mpr ⟨hd_pb b4 (by first | exact h0 | exact h0), List.forall_mem_cons.mpr ⟨hd_p0 t69 rfl (by have hc : ((21) : Int32).toInt = 21 := (by decide); omega), List.forall_mem_cons.mpr ⟨hd_pb b12 (by first | exact h2 | exact h2), List.forall_mem_cons.mpr ⟨hd_p1 t70 rfl (by have hc : ((4) : Int32).toInt = 4 := (by decide); omega), List.forall_mem_cons.mpr ⟨hd_p0 b6 rfl (by have hc : ((0) : Int32).toInt = 0 := (by decide); omega), List.forall_mem_cons.mpr ⟨hd_p0 b4 rfl (by have hc : ((400) : Int32).toInt = 400 := (by decide); omega), List.forall_mem_cons.mpr ⟨hd_p4 b6 rfl (by have hc : ((0) : Int32).toInt = 0 := (by decide); omega), List.forall_mem_cons.mpr ⟨hd_pb b4 (by first | exact h7 | exact h7), fun _ h => absurd h List.not_mem_nil⟩⟩⟩⟩⟩⟩⟩⟩, ?_⟩
  refine k _ ?_ ?_ ?_
  · exact fun j hj hn => (hd_keep hB' (Nat.lt_of_lt_of_le hj (by decide +kernel)) (by simp; omega)).trans (hF j (by omega))
  · exact hd_gi (x := .inl (.int 2)) (by decide +kernel) rfl
  · exact hd_gi (x := .inr (.inl 71)) (by decide +kernel) t71
theorem to_0_p12 {Ls : Nat} {xs : Nat → Int32} {d : Nat} {Q : Option Value → jm_h → Prop} (hd : 5 ≤ d) (F : Nat → sy_d) (X1 X2 : List jm_c) (hB : iv_in F iv_B4)
    (h0 : 0 ≤ (sy_i F 4).toInt ∧ (sy_i F 4).toInt < 403)
    (h1 : ((sy_ai F 25).getD (sy_i F 4).toNatClampNeg 0).toInt = 21)
    (h2 : 0 ≤ (sy_i F 12).toInt ∧ (sy_i F 12).toInt < 2)
    (h3 : ((sy_ai F 35).getD (sy_i F 12).toNatClampNeg 0).toInt = 4)
    (h4 : (sy_i F 6).toInt ≤ 0)
    (h5 : 0 ≤ (sy_i F 4).toInt ∧ (sy_i F 4).toInt < 403)
    (k : ∀ F1 : Nat → sy_d, (∀ j, j < 69 → j ≠ 6 ∧ j ≠ 7 → F1 j = F j) → F1 6 = .inl (.int ((2 : Int32))) → F1 7 = .inl (.int ((sy_ai F 26).getD (sy_i F 4).toNatClampNeg 0)) → Q (none) (sy_dh F1 X1 X2 (iv_H 4))) :
    hd_W Ls xs d jm_M154 Q (0, sy_dL F [some (.inl (.ref 1000)), none], sy_dS F [], sy_dh F X1 X2 (iv_H 4), 0, 0) := by
  refine hd_ret (s := 4) (nv := 69) (v := none) (uh := hd_ov (iv_id 0 iv_B4) [(6, .inl (.inl (.int 2))), (7, .inl (.inr (.inl 71)))]) (f := true) (sp := [91, 119, 137, 156, 176, 233]) (d0 := 4) (O := [false, false, true, false, true]) (T := [(30, [.inr (.inl 4)], [.inr (.inl 25)]), (30, [.inr (.inl 12)], [.inr (.inl 35)]), (30, [.inr (.inl 4)], [.inr (.inl 26)])]) (P := [(6, .inr (.inl 4), .inl (.ref 403)), (0, .inr (.inl 69), .inl (.int 21)), (6, .inr (.inl 12), .inl (.ref 2)), (0, .inr (.inl 70), .inl (.int 4)), (4, .inr (.inl 6), .inl (.int 0)), (6, .inr (.inl 4), .inl (.ref 403))]) jm_ok154 (by decide +kernel) (by decide +kernel) hd F X1 X2 (fun F' hF hs => ?_)
  have b4 := hd_b (F := F) (F' := F') (k := 4) (hF 4 (by decide))
  have a25 := hd_ba (F := F) (F' := F') (k := 25) (hF 25 (by decide))
  have t69 : sy_dv F' (.inr (.inl 69)) = .int ((sy_ai F 25).getD (sy_i F 4).toNatClampNeg 0) := hd_rd (hs 0 _ rfl) b4 a25
  have b12 := hd_b (F := F) (F' := F') (k := 12) (hF 12 (by decide))
  have a35 := hd_ba (F := F) (F' := F') (k := 35) (hF 35 (by decide))
  have t70 : sy_dv F' (.inr (.inl 70)) = .int ((sy_ai F 35).getD (sy_i F 12).toNatClampNeg 0) := hd_rd (hs 1 _ rfl) b12 a35
  have b6 := hd_b (F := F) (F' := F') (k := 6) (hF 6 (by decide))
  have a26 := hd_ba (F := F) (F' := F') (k := 26) (hF 26 (by decide))
  have t71 : sy_dv F' (.inr (.inl 71)) = .int ((sy_ai F 26).getD (sy_i F 4).toNatClampNeg 0) := hd_rd (hs 2 _ rfl) b4 a26
  have hB' : iv_in F' iv_B4 := iv_in_eq hB (fun j hj => hF j (Nat.lt_of_lt_of_le hj (by decide +kernel)))
  refine ⟨List.forall_mem_cons.mpr ⟨hd_pb b4 (by first | exact h0 | exact h0), List.forall_mem_cons.mpr ⟨hd_p0 t69 rfl (by have hc : ((21) : Int32).toInt = 21 := (by decide); omega), List.forall_mem_cons.mpr ⟨hd_pb b12 (by first | exact h2 | exact h2), List.forall_mem_cons.mpr ⟨hd_p0 t70 rfl (by have hc : ((4) : Int32).toInt = 4 := (by decide); omega), List.forall_mem_cons.mpr ⟨hd_p4 b6 rfl (by have hc : ((0) : Int32).toInt = 0 := (by decide); omega), List.forall_mem_cons.mpr ⟨hd_pb b4 (by first | exact h5 | exact h5), fun _ h => absurd h List.not_mem_nil⟩⟩⟩⟩⟩⟩, ?_⟩
  refine k _ ?_ ?_ ?_
  · exact fun j hj hn => (hd_keep hB' (Nat.lt_of_lt_of_le hj (by decide +kernel)) (by simp; omega)).trans (hF j (by omega))
  · exact hd_gi (x := .inl (.int 2)) (by decide +kernel) rfl
  · exact hd_gi (x := .inr (.inl 71)) (by decide +kernel) t71
theorem to_0_p13 {Ls : Nat} {xs : Nat → Int32} {d : Nat} {Q : Option Value → jm_h → Prop} (hd : 5 ≤ d) (F : Nat → sy_d) (X1 X2 : List jm_c) (hB : iv_in F iv_B4)
    (h0 : 0 ≤ (sy_i F 4).toInt ∧ (sy_i F 4).toInt < 403)
    (h1 : ((sy_ai F 25).getD (sy_i F 4).toNatClampNeg 0).toInt = 21)
    (h2 : 0 ≤ (sy_i F 12).toInt ∧ (sy_i F 12).toInt < 2)
    (h3 : ((sy_ai F 35).getD (sy_i F 12).toNatClampNeg 0).toInt = 4)
    (h4 : 0 < (sy_i F 6).toInt)
    (h5 : (sy_i F 6).toInt ≠ 0)
    (h6 : (sy_i F 6).toInt ≠ 0)
    (k : ∀ F1 : Nat → sy_d, (∀ j, j < 69 → True → F1 j = F j) → Q (none) (sy_dh F1 X1 X2 (iv_H 4))) :
    hd_W Ls xs d jm_M154 Q (0, sy_dL F [some (.inl (.ref 1000)), none], sy_dS F [], sy_dh F X1 X2 (iv_H 4), 0, 0) := by
  refine hd_ret (s := 4) (nv := 69) (v := none) (uh := hd_ov (iv_id 0 iv_B4) []) (f := true) (sp := [91, 119, 137, 156, 176, 233]) (d0 := 4) (O := [false, false, true, false, false, true, true]) (T := [(30, [.inr (.inl 4)], [.inr (.inl 25)]), (30, [.inr (.inl 12)], [.inr (.inl 35)])]) (P := [(6, .inr (.inl 4), .inl (.ref 403)), (0, .inr (.inl 69), .inl (.int 21)), (6, .inr (.inl 12), .inl (.ref 2)), (0, .inr (.inl 70), .inl (.int 4)), (5, .inr (.inl 6), .inl (.int 0)), (1, .inr (.inl 6), .inl (.int 0)), (1, .inr (.inl 6), .inl (.int 0))]) jm_ok154 (by decide +kernel) (by decide +kernel) hd F X1 X2 (fun F' hF hs => ?_)
  have b4 := hd_b (F := F) (F' := F') (k := 4) (hF 4 (by decide))
  have a25 := hd_ba (F := F) (F' := F') (k := 25) (hF 25 (by decide))
  have t69 : sy_dv F' (.inr (.inl 69)) = .int ((sy_ai F 25).getD (sy_i F 4).toNatClampNeg 0) := hd_rd (hs 0 _ rfl) b4 a25
  have b12 := hd_b (F := F) (F' := F') (k := 12) (hF 12 (by decide))
  have a35 := hd_ba (F := F) (F' := F') (k := 35) (hF 35 (by decide))
  have t70 : sy_dv F' (.inr (.inl 70)) = .int ((sy_ai F 35).getD (sy_i F 12).toNatClampNeg 0) := hd_rd (hs 1 _ rfl) b12 a35
  have b6 := hd_b (F := F) (F' := F') (k := 6) (hF 6 (by decide))
  have hB' : iv_in F' iv_B4 := iv_in_eq hB (fun j hj => hF j (Nat.lt_of_lt_of_le hj (by decide +kernel)))
  refine ⟨List.forall_mem_cons.mpr ⟨hd_pb b4 (by first | exact h0 | exact h0), List.forall_mem_cons.mpr ⟨hd_p0 t69 rfl (by have hc : ((21) : Int32).toInt = 21 := (by decide); omega), List.forall_mem_cons.mpr ⟨hd_pb b12 (by first | exact h2 | exact h2), List.forall_mem_cons.mpr ⟨hd_p0 t70 rfl (by have hc : ((4) : Int32).toInt = 4 := (by decide); omega), List.forall_mem_cons.mpr ⟨hd_p5 b6 rfl (by have hc : ((0) : Int32).toInt = 0 := (by decide); omega), List.forall_mem_cons.mpr ⟨hd_p1 b6 rfl (by have hc : ((0) : Int32).toInt = 0 := (by decide); omega), List.forall_mem_cons.mpr ⟨hd_p1 b6 rfl (by have hc : ((0) : Int32).toInt = 0 := (by decide); omega), fun _ h => absurd h List.not_mem_nil⟩⟩⟩⟩⟩⟩⟩, ?_⟩
  refine k _ ?_
  · exact fun j hj _ => (hd_keep hB' (Nat.lt_of_lt_of_le hj (by decide +kernel)) (by simp)).trans (hF j (by omega))
theorem to_0_p14 {Ls : Nat} {xs : Nat → Int32} {d : Nat} {Q : Option Value → jm_h → Prop} (hd : 5 ≤ d) (F : Nat → sy_d) (X1 X2 : List jm_c) (hB : iv_in F iv_B4)
    (h0 : 0 ≤ (sy_i F 4).toInt ∧ (sy_i F 4).toInt < 403)
    (h1 : ((sy_ai F 25).getD (sy_i F 4).toNatClampNeg 0).toInt = 22)
    (h2 : 0 ≤ (sy_i F 4).toInt ∧ (sy_i F 4).toInt < 403)
    (h3 : 0 ≤ (((sy_ai F 25).getD (sy_i F 4).toNatClampNeg 0) - ((22 : Int32))).toInt)
    (h4 : 0 ≤ (sy_i F 4).toInt ∧ (sy_i F 4).toInt < 403)
    (h5 : ((sy_ai F 25).getD (sy_i F 4).toNatClampNeg 0).toInt ≤ 27)
    (h6 : (sy_i F 6).toInt ≤ 0)
    (h7 : (sy_i F 4).toInt ≠ 400)
    (k : ∀ F1 : Nat → sy_d, (∀ j, j < 69 → j ≠ 4 → F1 j = F j) → F1 4 = .inl (.int ((sy_i F 4) + ((1 : Int32)))) → F1 69 = .inl (.int (((sy_ai F 25).getD (sy_i F 4).toNatClampNeg 0) - ((22 : Int32)))) → hd_W Ls xs d jm_M154 Q (233, sy_dL F1 [some (.inl (.ref 1000)), none], sy_dS F1 [.inr (.inl 69), .inl (.ref 1000)], sy_dh F1 X1 X2 (iv_H 4), 0, 0)) :
    hd_W Ls xs d jm_M154 Q (0, sy_dL F [some (.inl (.ref 1000)), none], sy_dS F [], sy_dh F X1 X2 (iv_H 4), 0, 0) := by
  refine hd_run (s := 4) (nv := 69) (pc := 233) (L := [some (.inl (.ref 1000)), none]) (S := [.inr (.inl 69), .inl (.ref 1000)]) (uh := hd_ov (iv_id 0 iv_B4) [(4, .inl (.inr (.inl 73)))]) (ul := [.inl (.inr (.inl 71))]) (f := true) (sp := [91, 119, 137, 156, 176, 233]) (d0 := 4) (O := [false, false, false, true, false, true, true, true]) (T := [(30, [.inr (.inl 4)], [.inr (.inl 25)]), (30, [.inr (.inl 4)], [.inr (.inl 25)]), (1, [.inr (.inl 70), .inl (.int 22)], []), (30, [.inr (.inl 4)], [.inr (.inl 25)]), (0, [.inr (.inl 4), .inl (.int 1)], [])]) (P := [(6, .inr (.inl 4), .inl (.ref 403)), (0, .inr (.inl 69), .inl (.int 22)), (6, .inr (.inl 4), .inl (.ref 403)), (3, .inr (.inl 71), .inl (.int 0)), (6, .inr (.inl 4), .inl (.ref 403)), (4, .inr (.inl 72), .inl (.int 27)), (4, .inr (.inl 6), .inl (.int 0)), (1, .inr (.inl 4), .inl (.int 400))]) jm_ok154 (by decide +kernel) (by decide +kernel) hd F X1 X2 (fun F' hF hs => ?_)
  have b4 := hd_b (F := F) (F' := F') (k := 4) (hF 4 (by decide))
  have a25 := hd_ba (F := F) (F' := F') (k := 25) (hF 25 (by decide))
  have t69 : sy_dv F' (.inr (.inl 69)) = .int ((sy_ai F 25).getD (sy_i F 4).toNatClampNeg 0) := hd_rd (hs 0 _ rfl) b4 a25
  have t70 : sy_dv F' (.inr (.inl 70)) = .int ((sy_ai F 25).getD (sy_i F 4).toNatClampNeg 0) := hd_rd (hs 1 _ rfl) b4 a25
  have t71 : sy_dv F' (.inr (.inl 71)) = .int (((sy_ai F 25).getD (sy_i F 4).toNatClampNeg 0) - ((22 : Int32))) := hd_o (hs 2 _ rfl) t70 rfl rfl
  have t72 : sy_dv F' (.inr (.inl 72)) = .int ((sy_ai F 25).getD (sy_i F 4).toNatClampNeg 0) := hd_rd (hs 3 _ rfl) b4 a25
  have b6 := hd_b (F := F) (F' := F') (k := 6) (hF 6 (by decide))
  have t73 : sy_dv F' (.inr (.inl 73)) = .int ((sy_i F 4) + ((1 : Int32))) := hd_o (hs 4 _ rfl) b4 rfl rfl
  have hB' : iv_in F' iv_B4 := iv_in_eq hB (fun j hj => hF j (Nat.lt_of_lt_of_le hj (by decide +kernel)))
  refine ⟨List.forall_mem_cons.mpr ⟨hd_pb b4 (by first | exact h0 | exact h0), List.forall_mem_cons.mpr ⟨hd_p0 t69 rfl (by have hc : ((22) : Int32).toInt = 22 := (by decide); omega), List.forall_mem_cons.mpr ⟨hd_pb b4 (by first | exact h2 | exact h2), List.forall_mem_cons.mpr ⟨hd_p3 t71 rfl (by have hc : ((0) : Int32).toInt = 0 := (by decide); omega), List.forall_mem_cons.mpr ⟨hd_pb b4 (by first | exact h4 | exact h4), List.forall_mem_cons.mpr ⟨hd_p4 t72 rfl (by have hc : ((27) : Int32).toInt = 27 := (by decide); omega), List.forall_mem_cons.mpr ⟨hd_p4 b6 rfl (by have hc : ((0) : Int32).toInt = 0 := (by decide); omega), List.forall_mem_cons.mpr ⟨hd_p1 b4 rfl (by have hc : ((400) : Int32).toInt = 400 := (by decide); omega), fun _ h => absurd h List.not_mem_nil⟩⟩⟩⟩⟩⟩⟩⟩, ?_⟩
  refine k _ ?_ ?_ ?_
  · exact fun j hj hn => (hd_keep hB' (Nat.lt_of_lt_of_le hj (by decide +kernel)) (by simp; omega)).trans (hF j (by omega))
  · exact hd_gi (x := .inr (.inl 73)) (by decide +kernel) t73
  · exact hd_gi (x := .inr (.inl 71)) (by decide +kernel) t71
theorem to_0_p15 {Ls : Nat} {xs : Nat → Int32} {d : Nat} {Q : Option Value → jm_h → Prop} (hd : 5 ≤ d) (F : Nat → sy_d) (X1 X2 : List jm_c) (hB : iv_in F iv_B4)
    (h0 : 0 ≤ (sy_i F 4).toInt ∧ (sy_i F 4).toInt < 403)
    (h1 : ((sy_ai F 25).getD (sy_i F 4).toNatClampNeg 0).toInt = 22)
    (h2 : 0 ≤ (sy_i F 4).toInt ∧ (sy_i F 4).toInt < 403)
    (h3 : 0 ≤ (((sy_ai F 25).getD (sy_i F 4).toNatClampNeg 0) - ((22 : Int32))).toInt)
    (h4 : 0 ≤ (sy_i F 4).toInt ∧ (sy_i F 4).toInt < 403)
    (h5 : ((sy_ai F 25).getD (sy_i F 4).toNatClampNeg 0).toInt ≤ 27)
    (h6 : (sy_i F 6).toInt ≤ 0)
    (h7 : (sy_i F 4).toInt = 400)
    (h8 : (sy_i F 6).toInt ≤ 0)
    (h9 : 0 ≤ (sy_i F 4).toInt ∧ (sy_i F 4).toInt < 403)
    (k : ∀ F1 : Nat → sy_d, (∀ j, j < 69 → j ≠ 6 ∧ j ≠ 7 → F1 j = F j) → F1 6 = .inl (.int ((2 : Int32))) → F1 7 = .inl (.int ((sy_ai F 26).getD (sy_i F 4).toNatClampNeg 0)) → F1 69 = .inl (.int (((sy_ai F 25).getD (sy_i F 4).toNatClampNeg 0) - ((22 : Int32)))) → hd_W Ls xs d jm_M154 Q (233, sy_dL F1 [some (.inl (.ref 1000)), none], sy_dS F1 [.inr (.inl 69), .inl (.ref 1000)], sy_dh F1 X1 X2 (iv_H 4), 0, 0)) :
    hd_W Ls xs d jm_M154 Q (0, sy_dL F [some (.inl (.ref 1000)), none], sy_dS F [], sy_dh F X1 X2 (iv_H 4), 0, 0) := by
  refine hd_run (s := 4) (nv := 69) (pc := 233) (L := [some (.inl (.ref 1000)), none]) (S := [.inr (.inl 69), .inl (.ref 1000)]) (uh := hd_ov (iv_id 0 iv_B4) [(6, .inl (.inl (.int 2))), (7, .inl (.inr (.inl 73)))]) (ul := [.inl (.inr (.inl 71))]) (f := true) (sp := [91, 119, 137, 156, 176, 233]) (d0 := 4) (O := [false, false, false, true, false, true, true, false, true]) (T := [(30, [.inr (.inl 4)], [.inr (.inl 25)]), (30, [.inr (.inl 4)], [.inr (.inl 25)]), (1, [.inr (.inl 70), .inl (.int 22)], []), (30, [.inr (.inl 4)], [.inr (.inl 25)]), (30, [.inr (.inl 4)], [.inr (.inl 26)])]) (P := [(6, .inr (.inl 4), .inl (.ref 403)), (0, .inr (.inl 69), .inl (.int 22)), (6, .inr (.inl 4), .inl (.ref 403)), (3, .inr (.inl 71), .inl (.int 0)), (6, .inr (.inl 4), .inl (.ref 403)), (4, .inr (.inl 72), .inl (.int 27)), (4, .inr (.inl 6), .inl (.int 0)), (0, .inr (.inl 4), .inl (.int 400)), (4, .inr (.inl 6), .inl (.int 0)), (6, .inr (.inl 4), .inl (.ref 403))]) jm_ok154 (by decide +kernel) (by decide +kernel) hd F X1 X2 (fun F' hF hs => ?_)
  have b4 := hd_b (F := F) (F' := F') (k := 4) (hF 4 (by decide))
  have a25 := hd_ba (F := F) (F' := F') (k := 25) (hF 25 (by decide))
  have t69 : sy_dv F' (.inr (.inl 69)) = .int ((sy_ai F 25).getD (sy_i F 4).toNatClampNeg 0) := hd_rd (hs 0 _ rfl) b4 a25
  have t70 : sy_dv F' (.inr (.inl 70)) = .int ((sy_ai F 25).getD (sy_i F 4).toNatClampNeg 0) := hd_rd (hs 1 _ rfl) b4 a25
  have t71 : sy_dv F' (.inr (.inl 71)) = .int (((sy_ai F 25).getD (sy_i F 4).toNatClampNeg 0) - ((22 : Int32))) := hd_o (hs 2 _ rfl) t70 rfl rfl
  have t72 : sy_dv F' (.inr (.inl 72)) = .int ((sy_ai F 25).getD (sy_i F 4).toNatClampNeg 0) := hd_rd (hs 3 _ rfl) b4 a25
  have b6 := hd_b (F := F) (F' := F') (k := 6) (hF 6 (by decide))
  have a26 := hd_ba (F := F) (F' := F') (k := 26) (hF 26 (by decide))
  have t73 : sy_dv F' (.inr (.inl 73)) = .int ((sy_ai F 26).getD (sy_i F 4).toNatClampNeg 0) := hd_rd (hs 4 _ rfl) b4 a26
  have hB' : iv_in F' iv_B4 := iv_in_eq hB (fun j hj => hF j (Nat.lt_of_lt_of_le hj (by decide +kernel)))
  refine ⟨List.forall_mem_cons.mpr ⟨hd_pb b4 (by first | exact h0 | exact h0), List.forall_mem_cons.mpr ⟨hd_p0 t69 rfl (by have hc : ((22) : Int32).toInt = 22 := (by decide); omega), List.forall_mem_cons.mpr ⟨hd_pb b4 (by first | exact h2 | exact h2), List.forall_mem_cons.mpr ⟨hd_p3 t71 rfl (by have hc : ((0) : Int32).toInt = 0 := (by decide); omega), List.forall_mem_cons.mpr ⟨hd_pb b4 (by first | exact h4 | exact h4), List.forall_mem_cons.mpr ⟨hd_p4 t72 rfl (by have hc : ((27) : Int32).toInt = 27 := (by decide); omega), List.forall_mem_cons.mpr ⟨hd_p4 b6 rfl (by have hc : ((0) : Int32).toInt = 0 := (by decide); omega), List.forall_mem_cons.mpr ⟨hd_p0 b4 rfl (by have hc : ((400) : Int32).toInt = 400 := (by decide); omega), List.forall_mem_cons.mpr ⟨hd_p4 b6 rfl (by have hc : ((0) : Int32).toInt = 0 := (by decide); omega), List.forall_mem_cons.mpr ⟨hd_pb b4 (by first | exact h9 | exact h9), fun _ h => absurd h List.not_mem_nil⟩⟩⟩⟩⟩⟩⟩⟩⟩⟩, ?_⟩
  refine k _ ?_ ?_ ?_ ?_
  · exact fun j hj hn => (hd_keep hB' (Nat.lt_of_lt_of_le hj (by decide +kernel)) (by simp; omega)).trans (hF j (by omega))
  · exact hd_gi (x := .inl (.int 2)) (by decide +kernel) rfl
  · exact hd_gi (x := .inr (.inl 73)) (by decide +kernel) t73
  · exact hd_gi (x := .inr (.inl 71)) (by decide +kernel) t71
theorem to_0_p16 {Ls : Nat} {xs : Nat → Int32} {d : Nat} {Q : Option Value → jm_h → Prop} (hd : 5 ≤ d) (F : Nat → sy_d) (X1 X2 : List jm_c) (hB : iv_in F iv_B4)
    (h0 : 0 ≤ (sy_i F 4).toInt ∧ (sy_i F 4).toInt < 403)
    (h1 : ((sy_ai F 25).getD (sy_i F 4).toNatClampNeg 0).toInt = 22)
    (h2 : 0 ≤ (sy_i F 4).toInt ∧ (sy_i F 4).toInt < 403)
    (h3 : 0 ≤ (((sy_ai F 25).getD (sy_i F 4).toNatClampNeg 0) - ((22 : Int32))).toInt)
    (h4 : 0 ≤ (sy_i F 4).toInt ∧ (sy_i F 4).toInt < 403)
    (h5 : ((sy_ai F 25).getD (sy_i F 4).toNatClampNeg 0).toInt ≤ 27)
    (h6 : 0 < (sy_i F 6).toInt)
    (k : ∀ F1 : Nat → sy_d, (∀ j, j < 69 → True → F1 j = F j) → Q (none) (sy_dh F1 X1 X2 (iv_H 4))) :
    hd_W Ls xs d jm_M154 Q (0, sy_dL F [some (.inl (.ref 1000)), none], sy_dS F [], sy_dh F X1 X2 (iv_H 4), 0, 0) := by
  refine hd_ret (s := 4) (nv := 69) (v := none) (uh := hd_ov (iv_id 0 iv_B4) []) (f := true) (sp := [91, 119, 137, 156, 176, 233]) (d0 := 4) (O := [false, false, false, true, false, true, false]) (T := [(30, [.inr (.inl 4)], [.inr (.inl 25)]), (30, [.inr (.inl 4)], [.inr (.inl 25)]), (1, [.inr (.inl 70), .inl (.int 22)], []), (30, [.inr (.inl 4)], [.inr (.inl 25)])]) (P := [(6, .inr (.inl 4), .inl (.ref 403)), (0, .inr (.inl 69), .inl (.int 22)), (6, .inr (.inl 4), .inl (.ref 403)), (3, .inr (.inl 71), .inl (.int 0)), (6, .inr (.inl 4), .inl (.ref 403)), (4, .inr (.inl 72), .inl (.int 27)), (5, .inr (.inl 6), .inl (.int 0))]) jm_ok154 (by decide +kernel) (by decide +kernel) hd F X1 X2 (fun F' hF hs => ?_)
  have b4 := hd_b (F := F) (F' := F') (k := 4) (hF 4 (by decide))
  have a25 := hd_ba (F := F) (F' := F') (k := 25) (hF 25 (by decide))
  have t69 : sy_dv F' (.inr (.inl 69)) = .int ((sy_ai F 25).getD (sy_i F 4).toNatClampNeg 0) := hd_rd (hs 0 _ rfl) b4 a25
  have t70 : sy_dv F' (.inr (.inl 70)) = .int ((sy_ai F 25).getD (sy_i F 4).toNatClampNeg 0) := hd_rd (hs 1 _ rfl) b4 a25
  have t71 : sy_dv F' (.inr (.inl 71)) = .int (((sy_ai F 25).getD (sy_i F 4).toNatClampNeg 0) - ((22 : Int32))) := hd_o (hs 2 _ rfl) t70 rfl rfl
  have t72 : sy_dv F' (.inr (.inl 72)) = .int ((sy_ai F 25).getD (sy_i F 4).toNatClampNeg 0) := hd_rd (hs 3 _ rfl) b4 a25
  have b6 := hd_b (F := F) (F' := F') (k := 6) (hF 6 (by decide))
  have hB' : iv_in F' iv_B4 := iv_in_eq hB (fun j hj => hF j (Nat.lt_of_lt_of_le hj (by decide +kernel)))
  refine ⟨List.forall_mem_cons.mpr ⟨hd_pb b4 (by first | exact h0 | exact h0), List.forall_mem_cons.mpr ⟨hd_p0 t69 rfl (by have hc : ((22) : Int32).toInt = 22 := (by decide); omega), List.forall_mem_cons.mpr ⟨hd_pb b4 (by first | exact h2 | exact h2), List.forall_mem_cons.mpr ⟨hd_p3 t71 rfl (by have hc : ((0) : Int32).toInt = 0 := (by decide); omega), List.forall_mem_cons.mpr ⟨hd_pb b4 (by first | exact h4 | exact h4), List.forall_mem_cons.mpr ⟨hd_p4 t72 rfl (by have hc : ((27) : Int32).toInt = 27 := (by decide); omega), List.forall_mem_cons.mpr ⟨hd_p5 b6 rfl (by have hc : ((0) : Int32).toInt = 0 := (by decide); omega), fun _ h => absurd h List.not_mem_nil⟩⟩⟩⟩⟩⟩⟩, ?_⟩
  refine k _ ?_
  · exact fun j hj _ => (hd_keep hB' (Nat.lt_of_lt_of_le hj (by decide +kernel)) (by simp)).trans (hF j (by omega))
theorem to_0_p17 {Ls : Nat} {xs : Nat → Int32} {d : Nat} {Q : Option Value → jm_h → Prop} (hd : 5 ≤ d) (F : Nat → sy_d) (X1 X2 : List jm_c) (hB : iv_in F iv_B4)
    (h0 : 0 ≤ (sy_i F 4).toInt ∧ (sy_i F 4).toInt < 403)
    (h1 : ((sy_ai F 25).getD (sy_i F 4).toNatClampNeg 0).toInt = 23)
    (h2 : 0 ≤ (sy_i F 4).toInt ∧ (sy_i F 4).toInt < 403)
    (h3 : 0 ≤ (((sy_ai F 25).getD (sy_i F 4).toNatClampNeg 0) - ((22 : Int32))).toInt)
    (h4 : 0 ≤ (sy_i F 4).toInt ∧ (sy_i F 4).toInt < 403)
    (h5 : ((sy_ai F 25).getD (sy_i F 4).toNatClampNeg 0).toInt ≤ 27)
    (h6 : (sy_i F 6).toInt ≤ 0)
    (h7 : (sy_i F 4).toInt ≠ 400)
    (k : ∀ F1 : Nat → sy_d, (∀ j, j < 69 → j ≠ 4 → F1 j = F j) → F1 4 = .inl (.int ((sy_i F 4) + ((1 : Int32)))) → F1 69 = .inl (.int (((sy_ai F 25).getD (sy_i F 4).toNatClampNeg 0) - ((22 : Int32)))) → hd_W Ls xs d jm_M154 Q (233, sy_dL F1 [some (.inl (.ref 1000)), none], sy_dS F1 [.inr (.inl 69), .inl (.ref 1000)], sy_dh F1 X1 X2 (iv_H 4), 0, 0)) :
    hd_W Ls xs d jm_M154 Q (0, sy_dL F [some (.inl (.ref 1000)), none], sy_dS F [], sy_dh F X1 X2 (iv_H 4), 0, 0) := by
  refine hd_run (s := 4) (nv := 69) (pc := 233) (L := [some (.inl (.ref 1000)), none]) (S := [.inr (.inl 69), .inl (.ref 1000)]) (uh := hd_ov (iv_id 0 iv_B4) [(4, .inl (.inr (.inl 73)))]) (ul := [.inl (.inr (.inl 71))]) (f := true) (sp := [91, 119, 137, 156, 176, 233]) (d0 := 4) (O := [false, false, false, false, true, false, true, true, true]) (T := [(30, [.inr (.inl 4)], [.inr (.inl 25)]), (30, [.inr (.inl 4)], [.inr (.inl 25)]), (1, [.inr (.inl 70), .inl (.int 22)], []), (30, [.inr (.inl 4)], [.inr (.inl 25)]), (0, [.inr (.inl 4), .inl (.int 1)], [])]) (P := [(6, .inr (.inl 4), .inl (.ref 403)), (0, .inr (.inl 69), .inl (.int 23)), (6, .inr (.inl 4), .inl (.ref 403)), (3, .inr (.inl 71), .inl (.int 0)), (6, .inr (.inl 4), .inl (.ref 403)), (4, .inr (.inl 72), .inl (.int 27)), (4, .inr (.inl 6), .inl (.int 0)), (1, .inr (.inl 4), .inl (.int 400))]) jm_ok154 (by decide +kernel) (by decide +kernel) hd F X1 X2 (fun F' hF hs => ?_)
  have b4 := hd_b (F := F) (F' := F') (k := 4) (hF 4 (by decide))
  have a25 := hd_ba (F := F) (F' := F') (k := 25) (hF 25 (by decide))
  have t69 : sy_dv F' (.inr (.inl 69)) = .int ((sy_ai F 25).getD (sy_i F 4).toNatClampNeg 0) := hd_rd (hs 0 _ rfl) b4 a25
  have t70 : sy_dv F' (.inr (.inl 70)) = .int ((sy_ai F 25).getD (sy_i F 4).toNatClampNeg 0) := hd_rd (hs 1 _ rfl) b4 a25
  have t71 : sy_dv F' (.inr (.inl 71)) = .int (((sy_ai F 25).getD (sy_i F 4).toNatClampNeg 0) - ((22 : Int32))) := hd_o (hs 2 _ rfl) t70 rfl rfl
  have t72 : sy_dv F' (.inr (.inl 72)) = .int ((sy_ai F 25).getD (sy_i F 4).toNatClampNeg 0) := hd_rd (hs 3 _ rfl) b4 a25
  have b6 := hd_b (F := F) (F' := F') (k := 6) (hF 6 (by decide))
  have t73 : sy_dv F' (.inr (.inl 73)) = .int ((sy_i F 4) + ((1 : Int32))) := hd_o (hs 4 _ rfl) b4 rfl rfl
  have hB' : iv_in F' iv_B4 := iv_in_eq hB (fun j hj => hF j (Nat.lt_of_lt_of_le hj (by decide +kernel)))
  refine ⟨List.forall_mem_cons.mpr ⟨hd_pb b4 (by first | exact h0 | exact h0), List.forall_mem_cons.mpr ⟨hd_p0 t69 rfl (by have hc : ((23) : Int32).toInt = 23 := (by decide); omega), List.forall_mem_cons.mpr ⟨hd_pb b4 (by first | exact h2 | exact h2), List.forall_mem_cons.mpr ⟨hd_p3 t71 rfl (by have hc : ((0) : Int32).toInt = 0 := (by decide); omega), List.forall_mem_cons.mpr ⟨hd_pb b4 (by first | exact h4 | exact h4), List.forall_mem_cons.mpr ⟨hd_p4 t72 rfl (by have hc : ((27) : Int32).toInt = 27 := (by decide); omega), List.forall_mem_cons.mpr ⟨hd_p4 b6 rfl (by have hc : ((0) : Int32).toInt = 0 := (by decide); omega), List.forall_mem_cons.mpr ⟨hd_p1 b4 rfl (by have hc : ((400) : Int32).toInt = 400 := (by decide); omega), fun _ h => absurd h List.not_mem_nil⟩⟩⟩⟩⟩⟩⟩⟩, ?_⟩
  refine k _ ?_ ?_ ?_
  · exact fun j hj hn => (hd_keep hB' (Nat.lt_of_lt_of_le hj (by decide +kernel)) (by simp; omega)).trans (hF j (by omega))
  · exact hd_gi (x := .inr (.inl 73)) (by decide +kernel) t73
  · exact hd_gi (x := .inr (.inl 71)) (by decide +kernel) t71
theorem to_0_p18 {Ls : Nat} {xs : Nat → Int32} {d : Nat} {Q : Option Value → jm_h → Prop} (hd : 5 ≤ d) (F : Nat → sy_d) (X1 X2 : List jm_c) (hB : iv_in F iv_B4)
    (h0 : 0 ≤ (sy_i F 4).toInt ∧ (sy_i F 4).toInt < 403)
    (h1 : ((sy_ai F 25).getD (sy_i F 4).toNatClampNeg 0).toInt = 23)
    (h2 : 0 ≤ (sy_i F 4).toInt ∧ (sy_i F 4).toInt < 403)
    (h3 : 0 ≤ (((sy_ai F 25).getD (sy_i F 4).toNatClampNeg 0) - ((22 : Int32))).toInt)
    (h4 : 0 ≤ (sy_i F 4).toInt ∧ (sy_i F 4).toInt < 403)
    (h5 : ((sy_ai F 25).getD (sy_i F 4).toNatClampNeg 0).toInt ≤ 27)
    (h6 : (sy_i F 6).toInt ≤ 0)
    (h7 : (sy_i F 4).toInt = 400)
    (h8 : (sy_i F 6).toInt ≤ 0)
    (h9 : 0 ≤ (sy_i F 4).toInt ∧ (sy_i F 4).toInt < 403)
    (k : ∀ F1 : Nat → sy_d, (∀ j, j < 69 → j ≠ 6 ∧ j ≠ 7 → F1 j = F j) → F1 6 = .inl (.int ((2 : Int32))) → F1 7 = .inl (.int ((sy_ai F 26).getD (sy_i F 4).toNatClampNeg 0)) → F1 69 = .inl (.int (((sy_ai F 25).getD (sy_i F 4).toNatClampNeg 0) - ((22 : Int32)))) → hd_W Ls xs d jm_M154 Q (233, sy_dL F1 [some (.inl (.ref 1000)), none], sy_dS F1 [.inr (.inl 69), .inl (.ref 1000)], sy_dh F1 X1 X2 (iv_H 4), 0, 0)) :
    hd_W Ls xs d jm_M154 Q (0, sy_dL F [some (.inl (.ref 1000)), none], sy_dS F [], sy_dh F X1 X2 (iv_H 4), 0, 0) := by
  refine hd_run (s := 4) (nv := 69) (pc := 233) (L := [some (.inl (.ref 1000)), none]) (S := [.inr (.inl 69), .inl (.ref 1000)]) (uh := hd_ov (iv_id 0 iv_B4) [(6, .inl (.inl (.int 2))), (7, .inl (.inr (.inl 73)))]) (ul := [.inl (.inr (.inl 71))]) (f := true) (sp := [91, 119, 137, 156, 176, 233]) (d0 := 4) (O := [false, false, false, false, true, false, true, true, false, true]) (T := [(30, [.inr (.inl 4)], [.inr (.inl 25)]), (30, [.inr (.inl 4)], [.inr (.inl 25)]), (1, [.inr (.inl 70), .inl (.int 22)], []), (30, [.inr (.inl 4)], [.inr (.inl 25)]), (30, [.inr (.inl 4)], [.inr (.inl 26)])]) (P := [(6, .inr (.inl 4), .inl (.ref 403)), (0, .inr (.inl 69), .inl (.int 23)), (6, .inr (.inl 4), .inl (.ref 403)), (3, .inr (.inl 71), .inl (.int 0)), (6, .inr (.inl 4), .inl (.ref 403)), (4, .inr (.inl 72), .inl (.int 27)), (4, .inr (.inl 6), .inl (.int 0)), (0, .inr (.inl 4), .inl (.int 400)), (4, .inr (.inl 6), .inl (.int 0)), (6, .inr (.inl 4), .inl (.ref 403))]) jm_ok154 (by decide +kernel) (by decide +kernel) hd F X1 X2 (fun F' hF hs => ?_)
  have b4 := hd_b (F := F) (F' := F') (k := 4) (hF 4 (by decide))
  have a25 := hd_ba (F := F) (F' := F') (k := 25) (hF 25 (by decide))
  have t69 : sy_dv F' (.inr (.inl 69)) = .int ((sy_ai F 25).getD (sy_i F 4).toNatClampNeg 0) := hd_rd (hs 0 _ rfl) b4 a25
  have t70 : sy_dv F' (.inr (.inl 70)) = .int ((sy_ai F 25).getD (sy_i F 4).toNatClampNeg 0) := hd_rd (hs 1 _ rfl) b4 a25
  have t71 : sy_dv F' (.inr (.inl 71)) = .int (((sy_ai F 25).getD (sy_i F 4).toNatClampNeg 0) - ((22 : Int32))) := hd_o (hs 2 _ rfl) t70 rfl rfl
  have t72 : sy_dv F' (.inr (.inl 72)) = .int ((sy_ai F 25).getD (sy_i F 4).toNatClampNeg 0) := hd_rd (hs 3 _ rfl) b4 a25
  have b6 := hd_b (F := F) (F' := F') (k := 6) (hF 6 (by decide))
  have a26 := hd_ba (F := F) (F' := F') (k := 26) (hF 26 (by decide))
  have t73 : sy_dv F' (.inr (.inl 73)) = .int ((sy_ai F 26).getD (sy_i F 4).toNatClampNeg 0) := hd_rd (hs 4 _ rfl) b4 a26
  have hB' : iv_in F' iv_B4 := iv_in_eq hB (fun j hj => hF j (Nat.lt_of_lt_of_le hj (by decide +kernel)))
  refine ⟨List.forall_mem_cons.mpr ⟨hd_pb b4 (by first | exact h0 | exact h0), List.forall_mem_cons.mpr ⟨hd_p0 t69 rfl (by have hc : ((23) : Int32).toInt = 23 := (by decide); omega), List.forall_mem_cons.mpr ⟨hd_pb b4 (by first | exact h2 | exact h2), List.forall_mem_cons.mpr ⟨hd_p3 t71 rfl (by have hc : ((0) : Int32).toInt = 0 := (by decide); omega), List.forall_mem_cons.mpr ⟨hd_pb b4 (by first | exact h4 | exact h4), List.forall_mem_cons.mpr ⟨hd_p4 t72 rfl (by have hc : ((27) : Int32).toInt = 27 := (by decide); omega), List.forall_mem_cons.mpr ⟨hd_p4 b6 rfl (by have hc : ((0) : Int32).toInt = 0 := (by decide); omega), List.forall_mem_cons.mpr ⟨hd_p0 b4 rfl (by have hc : ((400) : Int32).toInt = 400 := (by decide); omega), List.forall_mem_cons.mpr ⟨hd_p4 b6 rfl (by have hc : ((0) : Int32).toInt = 0 := (by decide); omega), List.forall_mem_cons.mpr ⟨hd_pb b4 (by first | exact h9 | exact h9), fun _ h => absurd h List.not_mem_nil⟩⟩⟩⟩⟩⟩⟩⟩⟩⟩, ?_⟩
  refine k _ ?_ ?_ ?_ ?_
  · exact fun j hj hn => (hd_keep hB' (Nat.lt_of_lt_of_le hj (by decide +kernel)) (by simp; omega)).trans (hF j (by omega))
  · exact hd_gi (x := .inl (.int 2)) (by decide +kernel) rfl
  · exact hd_gi (x := .inr (.inl 73)) (by decide +kernel) t73
  · exact hd_gi (x := .inr (.inl 71)) (by decide +kernel) t71
theorem to_0_p19 {Ls : Nat} {xs : Nat → Int32} {d : Nat} {Q : Option Value → jm_h → Prop} (hd : 5 ≤ d) (F : Nat → sy_d) (X1 X2 : List jm_c) (hB : iv_in F iv_B4)
    (h0 : 0 ≤ (sy_i F 4).toInt ∧ (sy_i F 4).toInt < 403)
    (h1 : ((sy_ai F 25).getD (sy_i F 4).toNatClampNeg 0).toInt = 23)
    (h2 : 0 ≤ (sy_i F 4).toInt ∧ (sy_i F 4).toInt < 403)
    (h3 : 0 ≤ (((sy_ai F 25).getD (sy_i F 4).toNatClampNeg 0) - ((22 : Int32))).toInt)
    (h4 : 0 ≤ (sy_i F 4).toInt ∧ (sy_i F 4).toInt < 403)
    (h5 : ((sy_ai F 25).getD (sy_i F 4).toNatClampNeg 0).toInt ≤ 27)
    (h6 : 0 < (sy_i F 6).toInt)
    (k : ∀ F1 : Nat → sy_d, (∀ j, j < 69 → True → F1 j = F j) → Q (none) (sy_dh F1 X1 X2 (iv_H 4))) :
    hd_W Ls xs d jm_M154 Q (0, sy_dL F [some (.inl (.ref 1000)), none], sy_dS F [], sy_dh F X1 X2 (iv_H 4), 0, 0) := by
  refine hd_ret (s := 4) (nv := 69) (v := none) (uh := hd_ov (iv_id 0 iv_B4) []) (f := true) (sp := [91, 119, 137, 156, 176, 233]) (d0 := 4) (O := [false, false, false, false, true, false, true, false]) (T := [(30, [.inr (.inl 4)], [.inr (.inl 25)]), (30, [.inr (.inl 4)], [.inr (.inl 25)]), (1, [.inr (.inl 70), .inl (.int 22)], []), (30, [.inr (.inl 4)], [.inr (.inl 25)])]) (P := [(6, .inr (.inl 4), .inl (.ref 403)), (0, .inr (.inl 69), .inl (.int 23)), (6, .inr (.inl 4), .inl (.ref 403)), (3, .inr (.inl 71), .inl (.int 0)), (6, .inr (.inl 4), .inl (.ref 403)), (4, .inr (.inl 72), .inl (.int 27)), (5, .inr (.inl 6), .inl (.int 0))]) jm_ok154 (by decide +kernel) (by decide +kernel) hd F X1 X2 (fun F' hF hs => ?_)
  have b4 := hd_b (F := F) (F' := F') (k := 4) (hF 4 (by decide))
  have a25 := hd_ba (F := F) (F' := F') (k := 25) (hF 25 (by decide))
  have t69 : sy_dv F' (.inr (.inl 69)) = .int ((sy_ai F 25).getD (sy_i F 4).toNatClampNeg 0) := hd_rd (hs 0 _ rfl) b4 a25
  have t70 : sy_dv F' (.inr (.inl 70)) = .int ((sy_ai F 25).getD (sy_i F 4).toNatClampNeg 0) := hd_rd (hs 1 _ rfl) b4 a25
  have t71 : sy_dv F' (.inr (.inl 71)) = .int (((sy_ai F 25).getD (sy_i F 4).toNatClampNeg 0) - ((22 : Int32))) := hd_o (hs 2 _ rfl) t70 rfl rfl
  have t72 : sy_dv F' (.inr (.inl 72)) = .int ((sy_ai F 25).getD (sy_i F 4).toNatClampNeg 0) := hd_rd (hs 3 _ rfl) b4 a25
  have b6 := hd_b (F := F) (F' := F') (k := 6) (hF 6 (by decide))
  have hB' : iv_in F' iv_B4 := iv_in_eq hB (fun j hj => hF j (Nat.lt_of_lt_of_le hj (by decide +kernel)))
  refine ⟨List.forall_mem_cons.mpr ⟨hd_pb b4 (by first | exact h0 | exact h0), List.forall_mem_cons.mpr ⟨hd_p0 t69 rfl (by have hc : ((23) : Int32).toInt = 23 := (by decide); omega), List.forall_mem_cons.mpr ⟨hd_pb b4 (by first | exact h2 | exact h2), List.forall_mem_cons.mpr ⟨hd_p3 t71 rfl (by have hc : ((0) : Int32).toInt = 0 := (by decide); omega), List.forall_mem_cons.mpr ⟨hd_pb b4 (by first | exact h4 | exact h4), List.forall_mem_cons.mpr ⟨hd_p4 t72 rfl (by have hc : ((27) : Int32).toInt = 27 := (by decide); omega), List.forall_mem_cons.mpr ⟨hd_p5 b6 rfl (by have hc : ((0) : Int32).toInt = 0 := (by decide); omega), fun _ h => absurd h List.not_mem_nil⟩⟩⟩⟩⟩⟩⟩, ?_⟩
  refine k _ ?_
  · exact fun j hj _ => (hd_keep hB' (Nat.lt_of_lt_of_le hj (by decide +kernel)) (by simp)).trans (hF j (by omega))
theorem to_0_p20 {Ls : Nat} {xs : Nat → Int32} {d : Nat} {Q : Option Value → jm_h → Prop} (hd : 5 ≤ d) (F : Nat → sy_d) (X1 X2 : List jm_c) (hB : iv_in F iv_B4)
    (h0 : 0 ≤ (sy_i F 4).toInt ∧ (sy_i F 4).toInt < 403)
    (h1 : ((sy_ai F 25).getD (sy_i F 4).toNatClampNeg 0).toInt = 24)
    (h2 : 0 ≤ (sy_i F 4).toInt ∧ (sy_i F 4).toInt < 403)
    (h3 : 0 ≤ (((sy_ai F 25).getD (sy_i F 4).toNatClampNeg 0) - ((22 : Int32))).toInt)
    (h4 : 0 ≤ (sy_i F 4).toInt ∧ (sy_i F 4).toInt < 403)
    (h5 : ((sy_ai F 25).getD (sy_i F 4).toNatClampNeg 0).toInt ≤ 27)
    (h6 : (sy_i F 6).toInt ≤ 0)
    (h7 : (sy_i F 4).toInt ≠ 400)
    (k : ∀ F1 : Nat → sy_d, (∀ j, j < 69 → j ≠ 4 → F1 j = F j) → F1 4 = .inl (.int ((sy_i F 4) + ((1 : Int32)))) → F1 69 = .inl (.int (((sy_ai F 25).getD (sy_i F 4).toNatClampNeg 0) - ((22 : Int32)))) → hd_W Ls xs d jm_M154 Q (233, sy_dL F1 [some (.inl (.ref 1000)), none], sy_dS F1 [.inr (.inl 69), .inl (.ref 1000)], sy_dh F1 X1 X2 (iv_H 4), 0, 0)) :
    hd_W Ls xs d jm_M154 Q (0, sy_dL F [some (.inl (.ref 1000)), none], sy_dS F [], sy_dh F X1 X2 (iv_H 4), 0, 0) := by
  refine hd_run (s := 4) (nv := 69) (pc := 233) (L := [some (.inl (.ref 1000)), none]) (S := [.inr (.inl 69), .inl (.ref 1000)]) (uh := hd_ov (iv_id 0 iv_B4) [(4, .inl (.inr (.inl 73)))]) (ul := [.inl (.inr (.inl 71))]) (f := true) (sp := [91, 119, 137, 156, 176, 233]) (d0 := 4) (O := [false, false, false, false, false, true, false, true, true, true]) (T := [(30, [.inr (.inl 4)], [.inr (.inl 25)]), (30, [.inr (.inl 4)], [.inr (.inl 25)]), (1, [.inr (.inl 70), .inl (.int 22)], []), (30, [.inr (.inl 4)], [.inr (.inl 25)]), (0, [.inr (.inl 4), .inl (.int 1)], [])]) (P := [(6, .inr (.inl 4), .inl (.ref 403)), (0, .inr (.inl 69), .inl (.int 24)), (6, .inr (.inl 4), .inl (.ref 403)), (3, .inr (.inl 71), .inl (.int 0)), (6, .inr (.inl 4), .inl (.ref 403)), (4, .inr (.inl 72), .inl (.int 27)), (4, .inr (.inl 6), .inl (.int 0)), (1, .inr (.inl 4), .inl (.int 400))]) jm_ok154 (by decide +kernel) (by decide +kernel) hd F X1 X2 (fun F' hF hs => ?_)
  have b4 := hd_b (F := F) (F' := F') (k := 4) (hF 4 (by decide))
  have a25 := hd_ba (F := F) (F' := F') (k := 25) (hF 25 (by decide))
  have t69 : sy_dv F' (.inr (.inl 69)) = .int ((sy_ai F 25).getD (sy_i F 4).toNatClampNeg 0) := hd_rd (hs 0 _ rfl) b4 a25
  have t70 : sy_dv F' (.inr (.inl 70)) = .int ((sy_ai F 25).getD (sy_i F 4).toNatClampNeg 0) := hd_rd (hs 1 _ rfl) b4 a25
  have t71 : sy_dv F' (.inr (.inl 71)) = .int (((sy_ai F 25).getD (sy_i F 4).toNatClampNeg 0) - ((22 : Int32))) := hd_o (hs 2 _ rfl) t70 rfl rfl
  have t72 : sy_dv F' (.inr (.inl 72)) = .int ((sy_ai F 25).getD (sy_i F 4).toNatClampNeg 0) := hd_rd (hs 3 _ rfl) b4 a25
  have b6 := hd_b (F := F) (F' := F') (k := 6) (hF 6 (by decide))
  have t73 : sy_dv F' (.inr (.inl 73)) = .int ((sy_i F 4) + ((1 : Int32))) := hd_o (hs 4 _ rfl) b4 rfl rfl
  have hB' : iv_in F' iv_B4 := iv_in_eq hB (fun j hj => hF j (Nat.lt_of_lt_of_le hj (by decide +kernel)))
  refine ⟨List.forall_mem_cons.mpr ⟨hd_pb b4 (by first | exact h0 | exact h0), List.forall_mem_cons.mpr ⟨hd_p0 t69 rfl (by have hc : ((24) : Int32).toInt = 24 := (by decide); omega), List.forall_mem_cons.mpr ⟨hd_pb b4 (by first | exact h2 | exact h2), List.forall_mem_cons.mpr ⟨hd_p3 t71 rfl (by have hc : ((0) : Int32).toInt = 0 := (by decide); omega), List.forall_mem_cons.mpr ⟨hd_pb b4 (by first | exact h4 | exact h4), List.forall_mem_cons.mpr ⟨hd_p4 t72 rfl (by have hc : ((27) : Int32).toInt = 27 := (by decide); omega), List.forall_mem_cons.mpr ⟨hd_p4 b6 rfl (by have hc : ((0) : Int32).toInt = 0 := (by decide); omega), List.forall_mem_cons.mpr ⟨hd_p1 b4 rfl (by have hc : ((400) : Int32).toInt = 400 := (by decide); omega), fun _ h => absurd h List.not_mem_nil⟩⟩⟩⟩⟩⟩⟩⟩, ?_⟩
  refine k _ ?_ ?_ ?_
  · exact fun j hj hn => (hd_keep hB' (Nat.lt_of_lt_of_le hj (by decide +kernel)) (by simp; omega)).trans (hF j (by omega))
  · exact hd_gi (x := .inr (.inl 73)) (by decide +kernel) t73
  · exact hd_gi (x := .inr (.inl 71)) (by decide +kernel) t71
theorem to_0_p21 {Ls : Nat} {xs : Nat → Int32} {d : Nat} {Q : Option Value → jm_h → Prop} (hd : 5 ≤ d) (F : Nat → sy_d) (X1 X2 : List jm_c) (hB : iv_in F iv_B4)
    (h0 : 0 ≤ (sy_i F 4).toInt ∧ (sy_i F 4).toInt < 403)
    (h1 : ((sy_ai F 25).getD (sy_i F 4).toNatClampNeg 0).toInt = 24)
    (h2 : 0 ≤ (sy_i F 4).toInt ∧ (sy_i F 4).toInt < 403)
    (h3 : 0 ≤ (((sy_ai F 25).getD (sy_i F 4).toNatClampNeg 0) - ((22 : Int32))).toInt)
    (h4 : 0 ≤ (sy_i F 4).toInt ∧ (sy_i F 4).toInt < 403)
    (h5 : ((sy_ai F 25).getD (sy_i F 4).toNatClampNeg 0).toInt ≤ 27)
    (h6 : (sy_i F 6).toInt ≤ 0)
    (h7 : (sy_i F 4).toInt = 400)
    (h8 : (sy_i F 6).toInt ≤ 0)
    (h9 : 0 ≤ (sy_i F 4).toInt ∧ (sy_i F 4).toInt < 403)
    (k : ∀ F1 : Nat → sy_d, (∀ j, j < 69 → j ≠ 6 ∧ j ≠ 7 → F1 j = F j) → F1 6 = .inl (.int ((2 : Int32))) → F1 7 = .inl (.int ((sy_ai F 26).getD (sy_i F 4).toNatClampNeg 0)) → F1 69 = .inl (.int (((sy_ai F 25).getD (sy_i F 4).toNatClampNeg 0) - ((22 : Int32)))) → hd_W Ls xs d jm_M154 Q (233, sy_dL F1 [some (.inl (.ref 1000)), none], sy_dS F1 [.inr (.inl 69), .inl (.ref 1000)], sy_dh F1 X1 X2 (iv_H 4), 0, 0)) :
    hd_W Ls xs d jm_M154 Q (0, sy_dL F [some (.inl (.ref 1000)), none], sy_dS F [], sy_dh F X1 X2 (iv_H 4), 0, 0) := by
  refine hd_run (s := 4) (nv := 69) (pc := 233) (L := [some (.inl (.ref 1000)), none]) (S := [.inr (.inl 69), .inl (.ref 1000)]) (uh := hd_ov (iv_id 0 iv_B4) [(6, .inl (.inl (.int 2))), (7, .inl (.inr (.inl 73)))]) (ul := [.inl (.inr (.inl 71))]) (f := true) (sp := [91, 119, 137, 156, 176, 233]) (d0 := 4) (O := [false, false, false, false, false, true, false, true, true, false, true]) (T := [(30, [.inr (.inl 4)], [.inr (.inl 25)]), (30, [.inr (.inl 4)], [.inr (.inl 25)]), (1, [.inr (.inl 70), .inl (.int 22)], []), (30, [.inr (.inl 4)], [.inr (.inl 25)]), (30, [.inr (.inl 4)], [.inr (.inl 26)])]) (P := [(6, .inr (.inl 4), .inl (.ref 403)), (0, .inr (.inl 69), .inl (.int 24)), (6, .inr (.inl 4), .inl (.ref 403)), (3, .inr (.inl 71), .inl (.int 0)), (6, .inr (.inl 4), .inl (.ref 403)), (4, .inr (.inl 72), .inl (.int 27)), (4, .inr (.inl 6), .inl (.int 0)), (0, .inr (.inl 4), .inl (.int 400)), (4, .inr (.inl 6), .inl (.int 0)), (6, .inr (.inl 4), .inl (.ref 403))]) jm_ok154 (by decide +kernel) (by decide +kernel) hd F X1 X2 (fun F' hF hs => ?_)
  have b4 := hd_b (F := F) (F' := F') (k := 4) (hF 4 (by decide))
  have a25 := hd_ba (F := F) (F' := F') (k := 25) (hF 25 (by decide))
  have t69 : sy_dv F' (.inr (.inl 69)) = .int ((sy_ai F 25).getD (sy_i F 4).toNatClampNeg 0) := hd_rd (hs 0 _ rfl) b4 a25
  have t70 : sy_dv F' (.inr (.inl 70)) = .int ((sy_ai F 25).getD (sy_i F 4).toNatClampNeg 0) := hd_rd (hs 1 _ rfl) b4 a25
  have t71 : sy_dv F' (.inr (.inl 71)) = .int (((sy_ai F 25).getD (sy_i F 4).toNatClampNeg 0) - ((22 : Int32))) := hd_o (hs 2 _ rfl) t70 rfl rfl
  have t72 : sy_dv F' (.inr (.inl 72)) = .int ((sy_ai F 25).getD (sy_i F 4).toNatClampNeg 0) := hd_rd (hs 3 _ rfl) b4 a25
  have b6 := hd_b (F := F) (F' := F') (k := 6) (hF 6 (by decide))
  have a26 := hd_ba (F := F) (F' := F') (k := 26) (hF 26 (by decide))
  have t73 : sy_dv F' (.inr (.inl 73)) = .int ((sy_ai F 26).getD (sy_i F 4).toNatClampNeg 0) := hd_rd (hs 4 _ rfl) b4 a26
  have hB' : iv_in F' iv_B4 := iv_in_eq hB (fun j hj => hF j (Nat.lt_of_lt_of_le hj (by decide +kernel)))
  refine ⟨List.forall_mem_cons.mpr ⟨hd_pb b4 (by first | exact h0 | exact h0), List.forall_mem_cons.mpr ⟨hd_p0 t69 rfl (by have hc : ((24) : Int32).toInt = 24 := (by decide); omega), List.forall_mem_cons.mpr ⟨hd_pb b4 (by first | exact h2 | exact h2), List.forall_mem_cons.mpr ⟨hd_p3 t71 rfl (by have hc : ((0) : Int32).toInt = 0 := (by decide); omega), List.forall_mem_cons.mpr ⟨hd_pb b4 (by first | exact h4 | exact h4), List.forall_mem_cons.mpr ⟨hd_p4 t72 rfl (by have hc : ((27) : Int32).toInt = 27 := (by decide); omega), List.forall_mem_cons.mpr ⟨hd_p4 b6 rfl (by have hc : ((0) : Int32).toInt = 0 := (by decide); omega), List.forall_mem_cons.mpr ⟨hd_p0 b4 rfl (by have hc : ((400) : Int32).toInt = 400 := (by decide); omega), List.forall_mem_cons.mpr ⟨hd_p4 b6 rfl (by have hc : ((0) : Int32).toInt = 0 := (by decide); omega), List.forall_mem_cons.mpr ⟨hd_pb b4 (by first | exact h9 | exact h9), fun _ h => absurd h List.not_mem_nil⟩⟩⟩⟩⟩⟩⟩⟩⟩⟩, ?_⟩
  refine k _ ?_ ?_ ?_ ?_
  · exact fun j hj hn => (hd_keep hB' (Nat.lt_of_lt_of_le hj (by decide +kernel)) (by simp; omega)).trans (hF j (by omega))
  · exact hd_gi (x := .inl (.int 2)) (by decide +kernel) rfl
  · exact hd_gi (x := .inr (.inl 73)) (by decide +kernel) t73
  · exact hd_gi (x := .inr (.inl 71)) (by decide +kernel) t71
theorem to_0_p22 {Ls : Nat} {xs : Nat → Int32} {d : Nat} {Q : Option Value → jm_h → Prop} (hd : 5 ≤ d) (F : Nat → sy_d) (X1 X2 : List jm_c) (hB : iv_in F iv_B4)
    (h0 : 0 ≤ (sy_i F 4).toInt ∧ (sy_i F 4).toInt < 403)
    (h1 : ((sy_ai F 25).getD (sy_i F 4).toNatClampNeg 0).toInt = 24)
    (h2 : 0 ≤ (sy_i F 4).toInt ∧ (sy_i F 4).toInt < 403)
    (h3 : 0 ≤ (((sy_ai F 25).getD (sy_i F 4).toNatClampNeg 0) - ((22 : Int32))).toInt)
    (h4 : 0 ≤ (sy_i F 4).toInt ∧ (sy_i F 4).toInt < 403)
    (h5 : ((sy_ai F 25).getD (sy_i F 4).toNatClampNeg 0).toInt ≤ 27)
    (h6 : 0 < (sy_i F 6).toInt)
    (k : ∀ F1 : Nat → sy_d, (∀ j, j < 69 → True → F1 j = F j) → Q (none) (sy_dh F1 X1 X2 (iv_H 4))) :
    hd_W Ls xs d jm_M154 Q (0, sy_dL F [some (.inl (.ref 1000)), none], sy_dS F [], sy_dh F X1 X2 (iv_H 4), 0, 0) := by
  refine hd_ret (s := 4) (nv := 69) (v := none) (uh := hd_ov (iv_id 0 iv_B4) []) (f := true) (sp := [91, 119, 137, 156, 176, 233]) (d0 := 4) (O := [false, false, false, false, false, true, false, true, false]) (T := [(30, [.inr (.inl 4)], [.inr (.inl 25)]), (30, [.inr (.inl 4)], [.inr (.inl 25)]), (1, [.inr (.inl 70), .inl (.int 22)], []), (30, [.inr (.inl 4)], [.inr (.inl 25)])]) (P := [(6, .inr (.inl 4), .inl (.ref 403)), (0, .inr (.inl 69), .inl (.int 24)), (6, .inr (.inl 4), .inl (.ref 403)), (3, .inr (.inl 71), .inl (.int 0)), (6, .inr (.inl 4), .inl (.ref 403)), (4, .inr (.inl 72), .inl (.int 27)), (5, .inr (.inl 6), .inl (.int 0))]) jm_ok154 (by decide +kernel) (by decide +kernel) hd F X1 X2 (fun F' hF hs => ?_)
  have b4 := hd_b (F := F) (F' := F') (k := 4) (hF 4 (by decide))
  have a25 := hd_ba (F := F) (F' := F') (k := 25) (hF 25 (by decide))
  have t69 : sy_dv F' (.inr (.inl 69)) = .int ((sy_ai F 25).getD (sy_i F 4).toNatClampNeg 0) := hd_rd (hs 0 _ rfl) b4 a25
  have t70 : sy_dv F' (.inr (.inl 70)) = .int ((sy_ai F 25).getD (sy_i F 4).toNatClampNeg 0) := hd_rd (hs 1 _ rfl) b4 a25
  have t71 : sy_dv F' (.inr (.inl 71)) = .int (((sy_ai F 25).getD (sy_i F 4).toNatClampNeg 0) - ((22 : Int32))) := hd_o (hs 2 _ rfl) t70 rfl rfl
  have t72 : sy_dv F' (.inr (.inl 72)) = .int ((sy_ai F 25).getD (sy_i F 4).toNatClampNeg 0) := hd_rd (hs 3 _ rfl) b4 a25
  have b6 := hd_b (F := F) (F' := F') (k := 6) (hF 6 (by decide))
  have hB' : iv_in F' iv_B4 := iv_in_eq hB (fun j hj => hF j (Nat.lt_of_lt_of_le hj (by decide +kernel)))
  refine ⟨List.forall_mem_cons.mpr ⟨hd_pb b4 (by first | exact h0 | exact h0), List.forall_mem_cons.mpr ⟨hd_p0 t69 rfl (by have hc : ((24) : Int32).toInt = 24 := (by decide); omega), List.forall_mem_cons.mpr ⟨hd_pb b4 (by first | exact h2 | exact h2), List.forall_mem_cons.mpr ⟨hd_p3 t71 rfl (by have hc : ((0) : Int32).toInt = 0 := (by decide); omega), List.forall_mem_cons.mpr ⟨hd_pb b4 (by first | exact h4 | exact h4), List.forall_mem_cons.mpr ⟨hd_p4 t72 rfl (by have hc : ((27) : Int32).toInt = 27 := (by decide); omega), List.forall_mem_cons.mpr ⟨hd_p5 b6 rfl (by have hc : ((0) : Int32).toInt = 0 := (by decide); omega), fun _ h => absurd h List.not_mem_nil⟩⟩⟩⟩⟩⟩⟩, ?_⟩
  refine k _ ?_
  · exact fun j hj _ => (hd_keep hB' (Nat.lt_of_lt_of_le hj (by decide +kernel)) (by simp)).trans (hF j (by omega))
theorem to_0_p23 {Ls : Nat} {xs : Nat → Int32} {d : Nat} {Q : Option Value → jm_h → Prop} (hd : 5 ≤ d) (F : Nat → sy_d) (X1 X2 : List jm_c) (hB : iv_in F iv_B4)
    (h0 : 0 ≤ (sy_i F 4).toInt ∧ (sy_i F 4).toInt < 403)
    (h1 : ((sy_ai F 25).getD (sy_i F 4).toNatClampNeg 0).toInt = 25)
    (h2 : 0 ≤ (sy_i F 4).toInt ∧ (sy_i F 4).toInt < 403)
    (h3 : 0 ≤ (((sy_ai F 25).getD (sy_i F 4).toNatClampNeg 0) - ((22 : Int32))).toInt)
    (h4 : 0 ≤ (sy_i F 4).toInt ∧ (sy_i F 4).toInt < 403)
    (h5 : ((sy_ai F 25).getD (sy_i F 4).toNatClampNeg 0).toInt ≤ 27)
    (h6 : (sy_i F 6).toInt ≤ 0)
    (h7 : (sy_i F 4).toInt ≠ 400)
    (k : ∀ F1 : Nat → sy_d, (∀ j, j < 69 → j ≠ 4 → F1 j = F j) → F1 4 = .inl (.int ((sy_i F 4) + ((1 : Int32)))) → F1 69 = .inl (.int (((sy_ai F 25).getD (sy_i F 4).toNatClampNeg 0) - ((22 : Int32)))) → hd_W Ls xs d jm_M154 Q (233, sy_dL F1 [some (.inl (.ref 1000)), none], sy_dS F1 [.inr (.inl 69), .inl (.ref 1000)], sy_dh F1 X1 X2 (iv_H 4), 0, 0)) :
    hd_W Ls xs d jm_M154 Q (0, sy_dL F [some (.inl (.ref 1000)), none], sy_dS F [], sy_dh F X1 X2 (iv_H 4), 0, 0) := by
  refine hd_run (s := 4) (nv := 69) (pc := 233) (L := [some (.inl (.ref 1000)), none]) (S := [.inr (.inl 69), .inl (.ref 1000)]) (uh := hd_ov (iv_id 0 iv_B4) [(4, .inl (.inr (.inl 73)))]) (ul := [.inl (.inr (.inl 71))]) (f := true) (sp := [91, 119, 137, 156, 176, 233]) (d0 := 4) (O := [false, false, false, false, false, false, true, false, true, true, true]) (T := [(30, [.inr (.inl 4)], [.inr (.inl 25)]), (30, [.inr (.inl 4)], [.inr (.inl 25)]), (1, [.inr (.inl 70), .inl (.int 22)], []), (30, [.inr (.inl 4)], [.inr (.inl 25)]), (0, [.inr (.inl 4), .inl (.int 1)], [])]) (P := [(6, .inr (.inl 4), .inl (.ref 403)), (0, .inr (.inl 69), .inl (.int 25)), (6, .inr (.inl 4), .inl (.ref 403)), (3, .inr (.inl 71), .inl (.int 0)), (6, .inr (.inl 4), .inl (.ref 403)), (4, .inr (.inl 72), .inl (.int 27)), (4, .inr (.inl 6), .inl (.int 0)), (1, .inr (.inl 4), .inl (.int 400))]) jm_ok154 (by decide +kernel) (by decide +kernel) hd F X1 X2 (fun F' hF hs => ?_)
  have b4 := hd_b (F := F) (F' := F') (k := 4) (hF 4 (by decide))
  have a25 := hd_ba (F := F) (F' := F') (k := 25) (hF 25 (by decide))
  have t69 : sy_dv F' (.inr (.inl 69)) = .int ((sy_ai F 25).getD (sy_i F 4).toNatClampNeg 0) := hd_rd (hs 0 _ rfl) b4 a25
  have t70 : sy_dv F' (.inr (.inl 70)) = .int ((sy_ai F 25).getD (sy_i F 4).toNatClampNeg 0) := hd_rd (hs 1 _ rfl) b4 a25
  have t71 : sy_dv F' (.inr (.inl 71)) = .int (((sy_ai F 25).getD (sy_i F 4).toNatClampNeg 0) - ((22 : Int32))) := hd_o (hs 2 _ rfl) t70 rfl rfl
  have t72 : sy_dv F' (.inr (.inl 72)) = .int ((sy_ai F 25).getD (sy_i F 4).toNatClampNeg 0) := hd_rd (hs 3 _ rfl) b4 a25
  have b6 := hd_b (F := F) (F' := F') (k := 6) (hF 6 (by decide))
  have t73 : sy_dv F' (.inr (.inl 73)) = .int ((sy_i F 4) + ((1 : Int32))) := hd_o (hs 4 _ rfl) b4 rfl rfl
  have hB' : iv_in F' iv_B4 := iv_in_eq hB (fun j hj => hF j (Nat.lt_of_lt_of_le hj (by decide +kernel)))
  refine ⟨List.forall_mem_cons.mpr ⟨hd_pb b4 (by first | exact h0 | exact h0), List.forall_mem_cons.mpr ⟨hd_p0 t69 rfl (by have hc : ((25) : Int32).toInt = 25 := (by decide); omega), List.forall_mem_cons.mpr ⟨hd_pb b4 (by first | exact h2 | exact h2), List.forall_mem_cons.mpr ⟨hd_p3 t71 rfl (by have hc : ((0) : Int32).toInt = 0 := (by decide); omega), List.forall_mem_cons.mpr ⟨hd_pb b4 (by first | exact h4 | exact h4), List.forall_mem_cons.mpr ⟨hd_p4 t72 rfl (by have hc : ((27) : Int32).toInt = 27 := (by decide); omega), List.forall_mem_cons.mpr ⟨hd_p4 b6 rfl (by have hc : ((0) : Int32).toInt = 0 := (by decide); omega), List.forall_mem_cons.mpr ⟨hd_p1 b4 rfl (by have hc : ((400) : Int32).toInt = 400 := (by decide); omega), fun _ h => absurd h List.not_mem_nil⟩⟩⟩⟩⟩⟩⟩⟩, ?_⟩
  refine k _ ?_ ?_ ?_
  · exact fun j hj hn => (hd_keep hB' (Nat.lt_of_lt_of_le hj (by decide +kernel)) (by simp; omega)).trans (hF j (by omega))
  · exact hd_gi (x := .inr (.inl 73)) (by decide +kernel) t73
  · exact hd_gi (x := .inr (.inl 71)) (by decide +kernel) t71
theorem to_0_p24 {Ls : Nat} {xs : Nat → Int32} {d : Nat} {Q : Option Value → jm_h → Prop} (hd : 5 ≤ d) (F : Nat → sy_d) (X1 X2 : List jm_c) (hB : iv_in F iv_B4)
    (h0 : 0 ≤ (sy_i F 4).toInt ∧ (sy_i F 4).toInt < 403)
    (h1 : ((sy_ai F 25).getD (sy_i F 4).toNatClampNeg 0).toInt = 25)
    (h2 : 0 ≤ (sy_i F 4).toInt ∧ (sy_i F 4).toInt < 403)
    (h3 : 0 ≤ (((sy_ai F 25).getD (sy_i F 4).toNatClampNeg 0) - ((22 : Int32))).toInt)
    (h4 : 0 ≤ (sy_i F 4).toInt ∧ (sy_i F 4).toInt < 403)
    (h5 : ((sy_ai F 25).getD (sy_i F 4).toNatClampNeg 0).toInt ≤ 27)
    (h6 : (sy_i F 6).toInt ≤ 0)
    (h7 : (sy_i F 4).toInt = 400)
    (h8 : (sy_i F 6).toInt ≤ 0)
    (h9 : 0 ≤ (sy_i F 4).toInt ∧ (sy_i F 4).toInt < 403)
    (k : ∀ F1 : Nat → sy_d, (∀ j, j < 69 → j ≠ 6 ∧ j ≠ 7 → F1 j = F j) → F1 6 = .inl (.int ((2 : Int32))) → F1 7 = .inl (.int ((sy_ai F 26).getD (sy_i F 4).toNatClampNeg 0)) → F1 69 = .inl (.int (((sy_ai F 25).getD (sy_i F 4).toNatClampNeg 0) - ((22 : Int32)))) → hd_W Ls xs d jm_M154 Q (233, sy_dL F1 [some (.inl (.ref 1000)), none], sy_dS F1 [.inr (.inl 69), .inl (.ref 1000)], sy_dh F1 X1 X2 (iv_H 4), 0, 0)) :
    hd_W Ls xs d jm_M154 Q (0, sy_dL F [some (.inl (.ref 1000)), none], sy_dS F [], sy_dh F X1 X2 (iv_H 4), 0, 0) := by
  refine hd_run (s := 4) (nv := 69) (pc := 233) (L := [some (.inl (.ref 1000)), none]) (S := [.inr (.inl 69), .inl (.ref 1000)]) (uh := hd_ov (iv_id 0 iv_B4) [(6, .inl (.inl (.int 2))), (7, .inl (.inr (.inl 73)))]) (ul := [.inl (.inr (.inl 71))]) (f := true) (sp := [91, 119, 137, 156, 176, 233]) (d0 := 4) (O := [false, false, false, false, false, false, true, false, true, true, false, true]) (T := [(30, [.inr (.inl 4)], [.inr (.inl 25)]), (30, [.inr (.inl 4)], [.inr (.inl 25)]), (1, [.inr (.inl 70), .inl (.int 22)], []), (30, [.inr (.inl 4)], [.inr (.inl 25)]), (30, [.inr (.inl 4)], [.inr (.inl 26)])]) (P := [(6, .inr (.inl 4), .inl (.ref 403)), (0, .inr (.inl 69), .inl (.int 25)), (6, .inr (.inl 4), .inl (.ref 403)), (3, .inr (.inl 71), .inl (.int 0)), (6, .inr (.inl 4), .inl (.ref 403)), (4, .inr (.inl 72), .inl (.int 27)), (4, .inr (.inl 6), .inl (.int 0)), (0, .inr (.inl 4), .inl (.int 400)), (4, .inr (.inl 6), .inl (.int 0)), (6, .inr (.inl 4), .inl (.ref 403))]) jm_ok154 (by decide +kernel) (by decide +kernel) hd F X1 X2 (fun F' hF hs => ?_)
  have b4 := hd_b (F := F) (F' := F') (k := 4) (hF 4 (by decide))
  have a25 := hd_ba (F := F) (F' := F') (k := 25) (hF 25 (by decide))
  have t69 : sy_dv F' (.inr (.inl 69)) = .int ((sy_ai F 25).getD (sy_i F 4).toNatClampNeg 0) := hd_rd (hs 0 _ rfl) b4 a25
  have t70 : sy_dv F' (.inr (.inl 70)) = .int ((sy_ai F 25).getD (sy_i F 4).toNatClampNeg 0) := hd_rd (hs 1 _ rfl) b4 a25
  have t71 : sy_dv F' (.inr (.inl 71)) = .int (((sy_ai F 25).getD (sy_i F 4).toNatClampNeg 0) - ((22 : Int32))) := hd_o (hs 2 _ rfl) t70 rfl rfl
  have t72 : sy_dv F' (.inr (.inl 72)) = .int ((sy_ai F 25).getD (sy_i F 4).toNatClampNeg 0) := hd_rd (hs 3 _ rfl) b4 a25
  have b6 := hd_b (F := F) (F' := F') (k := 6) (hF 6 (by decide))
  have a26 := hd_ba (F := F) (F' := F') (k := 26) (hF 26 (by decide))
  have t73 : sy_dv F' (.inr (.inl 73)) = .int ((sy_ai F 26).getD (sy_i F 4).toNatClampNeg 0) := hd_rd (hs 4 _ rfl) b4 a26
  have hB' : iv_in F' iv_B4 := iv_in_eq hB (fun j hj => hF j (Nat.lt_of_lt_of_le hj (by decide +kernel)))
  refine ⟨List.forall_mem_cons.mpr ⟨hd_pb b4 (by first | exact h0 | exact h0), List.forall_mem_cons.mpr ⟨hd_p0 t69 rfl (by have hc : ((25) : Int32).toInt = 25 := (by decide); omega), List.forall_mem_cons.mpr ⟨hd_pb b4 (by first | exact h2 | exact h2), List.forall_mem_cons.mpr ⟨hd_p3 t71 rfl (by have hc : ((0) : Int32).toInt = 0 := (by decide); omega), List.forall_mem_cons.mpr ⟨hd_pb b4 (by first | exact h4 | exact h4), List.forall_mem_cons.mpr ⟨hd_p4 t72 rfl (by have hc : ((27) : Int32).toInt = 27 := (by decide); omega), List.forall_mem_cons.mpr ⟨hd_p4 b6 rfl (by have hc : ((0) : Int32).toInt = 0 := (by decide); omega), List.forall_mem_cons.mpr ⟨hd_p0 b4 rfl (by have hc : ((400) : Int32).toInt = 400 := (by decide); omega), List.forall_mem_cons.mpr ⟨hd_p4 b6 rfl (by have hc : ((0) : Int32).toInt = 0 := (by decide); omega), List.forall_mem_cons.mpr ⟨hd_pb b4 (by first | exact h9 | exact h9), fun _ h => absurd h List.not_mem_nil⟩⟩⟩⟩⟩⟩⟩⟩⟩⟩, ?_⟩
  refine k _ ?_ ?_ ?_ ?_
  · exact fun j hj hn => (hd_keep hB' (Nat.lt_of_lt_of_le hj (by decide +kernel)) (by simp; omega)).trans (hF j (by omega))
  · exact hd_gi (x := .inl (.int 2)) (by decide +kernel) rfl
  · exact hd_gi (x := .inr (.inl 73)) (by decide +kernel) t73
  · exact hd_gi (x := .inr (.inl 71)) (by decide +kernel) t71
theorem to_0_p25 {Ls : Nat} {xs : Nat → Int32} {d : Nat} {Q : Option Value → jm_h → Prop} (hd : 5 ≤ d) (F : Nat → sy_d) (X1 X2 : List jm_c) (hB : iv_in F iv_B4)
    (h0 : 0 ≤ (sy_i F 4).toInt ∧ (sy_i F 4).toInt < 403)
    (h1 : ((sy_ai F 25).getD (sy_i F 4).toNatClampNeg 0).toInt = 25)
    (h2 : 0 ≤ (sy_i F 4).toInt ∧ (sy_i F 4).toInt < 403)
    (h3 : 0 ≤ (((sy_ai F 25).getD (sy_i F 4).toNatClampNeg 0) - ((22 : Int32))).toInt)
    (h4 : 0 ≤ (sy_i F 4).toInt ∧ (sy_i F 4).toInt < 403)
    (h5 : ((sy_ai F 25).getD (sy_i F 4).toNatClampNeg 0).toInt ≤ 27)
    (h6 : 0 < (sy_i F 6).toInt)
    (k : ∀ F1 : Nat → sy_d, (∀ j, j < 69 → True → F1 j = F j) → Q (none) (sy_dh F1 X1 X2 (iv_H 4))) :
    hd_W Ls xs d jm_M154 Q (0, sy_dL F [some (.inl (.ref 1000)), none], sy_dS F [], sy_dh F X1 X2 (iv_H 4), 0, 0) := by
  refine hd_ret (s := 4) (nv := 69) (v := none) (uh := hd_ov (iv_id 0 iv_B4) []) (f := true) (sp := [91, 119, 137, 156, 176, 233]) (d0 := 4) (O := [false, false, false, false, false, false, true, false, true, false]) (T := [(30, [.inr (.inl 4)], [.inr (.inl 25)]), (30, [.inr (.inl 4)], [.inr (.inl 25)]), (1, [.inr (.inl 70), .inl (.int 22)], []), (30, [.inr (.inl 4)], [.inr (.inl 25)])]) (P := [(6, .inr (.inl 4), .inl (.ref 403)), (0, .inr (.inl 69), .inl (.int 25)), (6, .inr (.inl 4), .inl (.ref 403)), (3, .inr (.inl 71), .inl (.int 0)), (6, .inr (.inl 4), .inl (.ref 403)), (4, .inr (.inl 72), .inl (.int 27)), (5, .inr (.inl 6), .inl (.int 0))]) jm_ok154 (by decide +kernel) (by decide +kernel) hd F X1 X2 (fun F' hF hs => ?_)
  have b4 := hd_b (F := F) (F' := F') (k := 4) (hF 4 (by decide))
  have a25 := hd_ba (F := F) (F' := F') (k := 25) (hF 25 (by decide))
  have t69 : sy_dv F' (.inr (.inl 69)) = .int ((sy_ai F 25).getD (sy_i F 4).toNatClampNeg 0) := hd_rd (hs 0 _ rfl) b4 a25
  have t70 : sy_dv F' (.inr (.inl 70)) = .int ((sy_ai F 25).getD (sy_i F 4).toNatClampNeg 0) := hd_rd (hs 1 _ rfl) b4 a25
  have t71 : sy_dv F' (.inr (.inl 71)) = .int (((sy_ai F 25).getD (sy_i F 4).toNatClampNeg 0) - ((22 : Int32))) := hd_o (hs 2 _ rfl) t70 rfl rfl
  have t72 : sy_dv F' (.inr (.inl 72)) = .int ((sy_ai F 25).getD (sy_i F 4).toNatClampNeg 0) := hd_rd (hs 3 _ rfl) b4 a25
  have b6 := hd_b (F := F) (F' := F') (k := 6) (hF 6 (by decide))
  have hB' : iv_in F' iv_B4 := iv_in_eq hB (fun j hj => hF j (Nat.lt_of_lt_of_le hj (by decide +kernel)))
  refine ⟨List.forall_mem_cons.mpr ⟨hd_pb b4 (by first | exact h0 | exact h0), List.forall_mem_cons.mpr ⟨hd_p0 t69 rfl (by have hc : ((25) : Int32).toInt = 25 := (by decide); omega), List.forall_mem_cons.mpr ⟨hd_pb b4 (by first | exact h2 | exact h2), List.forall_mem_cons.mpr ⟨hd_p3 t71 rfl (by have hc : ((0) : Int32).toInt = 0 := (by decide); omega), List.forall_mem_cons.mpr ⟨hd_pb b4 (by first | exact h4 | exact h4), List.forall_mem_cons.mpr ⟨hd_p4 t72 rfl (by have hc : ((27) : Int32).toInt = 27 := (by decide); omega), List.forall_mem_cons.mpr ⟨hd_p5 b6 rfl (by have hc : ((0) : Int32).toInt = 0 := (by decide); omega), fun _ h => absurd h List.not_mem_nil⟩⟩⟩⟩⟩⟩⟩, ?_⟩
  refine k _ ?_
  · exact fun j hj _ => (hd_keep hB' (Nat.lt_of_lt_of_le hj (by decide +kernel)) (by simp)).trans (hF j (by omega))
theorem to_0_p26 {Ls : Nat} {xs : Nat → Int32} {d : Nat} {Q : Option Value → jm_h → Prop} (hd : 5 ≤ d) (F : Nat → sy_d) (X1 X2 : List jm_c) (hB : iv_in F iv_B4)
    (h0 : 0 ≤ (sy_i F 4).toInt ∧ (sy_i F 4).toInt < 403)
    (h1 : ((sy_ai F 25).getD (sy_i F 4).toNatClampNeg 0).toInt = 26)
    (h2 : 0 ≤ (sy_i F 4).toInt ∧ (sy_i F 4).toInt < 403)
    (h3 : 0 ≤ (((sy_ai F 25).getD (sy_i F 4).toNatClampNeg 0) - ((22 : Int32))).toInt)
    (h4 : 0 ≤ (sy_i F 4).toInt ∧ (sy_i F 4).toInt < 403)
    (h5 : ((sy_ai F 25).getD (sy_i F 4).toNatClampNeg 0).toInt ≤ 27)
    (h6 : (sy_i F 6).toInt ≤ 0)
    (h7 : (sy_i F 4).toInt ≠ 400)
    (k : ∀ F1 : Nat → sy_d, (∀ j, j < 69 → j ≠ 4 → F1 j = F j) → F1 4 = .inl (.int ((sy_i F 4) + ((1 : Int32)))) → F1 69 = .inl (.int (((sy_ai F 25).getD (sy_i F 4).toNatClampNeg 0) - ((22 : Int32)))) → hd_W Ls xs d jm_M154 Q (233, sy_dL F1 [some (.inl (.ref 1000)), none], sy_dS F1 [.inr (.inl 69), .inl (.ref 1000)], sy_dh F1 X1 X2 (iv_H 4), 0, 0)) :
    hd_W Ls xs d jm_M154 Q (0, sy_dL F [some (.inl (.ref 1000)), none], sy_dS F [], sy_dh F X1 X2 (iv_H 4), 0, 0) := by
  refine hd_run (s := 4) (nv := 69) (pc := 233) (L := [some (.inl (.ref 1000)), none]) (S := [.inr (.inl 69), .inl (.ref 1000)]) (uh := hd_ov (iv_id 0 iv_B4) [(4, .inl (.inr (.inl 73)))]) (ul := [.inl (.inr (.inl 71))]) (f := true) (sp := [91, 119, 137, 156, 176, 233]) (d0 := 4) (O := [false, false, false, false, false, false, false, true, false, true, true, true]) (T := [(30, [.inr (.inl 4)], [.inr (.inl 25)]), (30, [.inr (.inl 4)], [.inr (.inl 25)]), (1, [.inr (.inl 70), .inl (.int 22)], []), (30, [.inr (.inl 4)], [.inr (.inl 25)]), (0, [.inr (.inl 4), .inl (.int 1)], [])]) (P := [(6, .inr (.inl 4), .inl (.ref 403)), (0, .inr (.inl 69), .inl (.int 26)), (6, .inr (.inl 4), .inl (.ref 403)), (3, .inr (.inl 71), .inl (.int 0)), (6, .inr (.inl 4), .inl (.ref 403)), (4, .inr (.inl 72), .inl (.int 27)), (4, .inr (.inl 6), .inl (.int 0)), (1, .inr (.inl 4), .inl (.int 400))]) jm_ok154 (by decide +kernel) (by decide +kernel) hd F X1 X2 (fun F' hF hs => ?_)
  have b4 := hd_b (F := F) (F' := F') (k := 4) (hF 4 (by decide))
  have a25 := hd_ba (F := F) (F' := F') (k := 25) (hF 25 (by decide))
  have t69 : sy_dv F' (.inr (.inl 69)) = .int ((sy_ai F 25).getD (sy_i F 4).toNatClampNeg 0) := hd_rd (hs 0 _ rfl) b4 a25
  have t70 : sy_dv F' (.inr (.inl 70)) = .int ((sy_ai F 25).getD (sy_i F 4).toNatClampNeg 0) := hd_rd (hs 1 _ rfl) b4 a25
  have t71 : sy_dv F' (.inr (.inl 71)) = .int (((sy_ai F 25).getD (sy_i F 4).toNatClampNeg 0) - ((22 : Int32))) := hd_o (hs 2 _ rfl) t70 rfl rfl
  have t72 : sy_dv F' (.inr (.inl 72)) = .int ((sy_ai F 25).getD (sy_i F 4).toNatClampNeg 0) := hd_rd (hs 3 _ rfl) b4 a25
  have b6 := hd_b (F := F) (F' := F') (k := 6) (hF 6 (by decide))
  have t73 : sy_dv F' (.inr (.inl 73)) = .int ((sy_i F 4) + ((1 : Int32))) := hd_o (hs 4 _ rfl) b4 rfl rfl
  have hB' : iv_in F' iv_B4 := iv_in_eq hB (fun j hj => hF j (Nat.lt_of_lt_of_le hj (by decide +kernel)))
  refine ⟨List.forall_mem_cons.mpr ⟨hd_pb b4 (by first | exact h0 | exact h0), List.forall_mem_cons.mpr ⟨hd_p0 t69 rfl (by have hc : ((26) : Int32).toInt = 26 := (by decide); omega), List.forall_mem_cons.mpr ⟨hd_pb b4 (by first | exact h2 | exact h2), List.forall_mem_cons.mpr ⟨hd_p3 t71 rfl (by have hc : ((0) : Int32).toInt = 0 := (by decide); omega), List.forall_mem_cons.mpr ⟨hd_pb b4 (by first | exact h4 | exact h4), List.forall_mem_cons.mpr ⟨hd_p4 t72 rfl (by have hc : ((27) : Int32).toInt = 27 := (by decide); omega), List.forall_mem_cons.mpr ⟨hd_p4 b6 rfl (by have hc : ((0) : Int32).toInt = 0 := (by decide); omega), List.forall_mem_cons.mpr ⟨hd_p1 b4 rfl (by have hc : ((400) : Int32).toInt = 400 := (by decide); omega), fun _ h => absurd h List.not_mem_nil⟩⟩⟩⟩⟩⟩⟩⟩, ?_⟩
  refine k _ ?_ ?_ ?_
  · exact fun j hj hn => (hd_keep hB' (Nat.lt_of_lt_of_le hj (by decide +kernel)) (by simp; omega)).trans (hF j (by omega))
  · exact hd_gi (x := .inr (.inl 73)) (by decide +kernel) t73
  · exact hd_gi (x := .inr (.inl 71)) (by decide +kernel) t71
theorem to_0_p27 {Ls : Nat} {xs : Nat → Int32} {d : Nat} {Q : Option Value → jm_h → Prop} (hd : 5 ≤ d) (F : Nat → sy_d) (X1 X2 : List jm_c) (hB : iv_in F iv_B4)
    (h0 : 0 ≤ (sy_i F 4).toInt ∧ (sy_i F 4).toInt < 403)
    (h1 : ((sy_ai F 25).getD (sy_i F 4).toNatClampNeg 0).toInt = 26)
    (h2 : 0 ≤ (sy_i F 4).toInt ∧ (sy_i F 4).toInt < 403)
    (h3 : 0 ≤ (((sy_ai F 25).getD (sy_i F 4).toNatClampNeg 0) - ((22 : Int32))).toInt)
    (h4 : 0 ≤ (sy_i F 4).toInt ∧ (sy_i F 4).toInt < 403)
    (h5 : ((sy_ai F 25).getD (sy_i F 4).toNatClampNeg 0).toInt ≤ 27)
    (h6 : (sy_i F 6).toInt ≤ 0)
    (h7 : (sy_i F 4).toInt = 400)
    (h8 : (sy_i F 6).toInt ≤ 0)
    (h9 : 0 ≤ (sy_i F 4).toInt ∧ (sy_i F 4).toInt < 403)
    (k : ∀ F1 : Nat → sy_d, (∀ j, j < 69 → j ≠ 6 ∧ j ≠ 7 → F1 j = F j) → F1 6 = .inl (.int ((2 : Int32))) → F1 7 = .inl (.int ((sy_ai F 26).getD (sy_i F 4).toNatClampNeg 0)) → F1 69 = .inl (.int (((sy_ai F 25).getD (sy_i F 4).toNatClampNeg 0) - ((22 : Int32)))) → hd_W Ls xs d jm_M154 Q (233, sy_dL F1 [some (.inl (.ref 1000)), none], sy_dS F1 [.inr (.inl 69), .inl (.ref 1000)], sy_dh F1 X1 X2 (iv_H 4), 0, 0)) :
    hd_W Ls xs d jm_M154 Q (0, sy_dL F [some (.inl (.ref 1000)), none], sy_dS F [], sy_dh F X1 X2 (iv_H 4), 0, 0) := by
  refine hd_run (s := 4) (nv := 69) (pc := 233) (L := [some (.inl (.ref 1000)), none]) (S := [.inr (.inl 69), .inl (.ref 1000)]) (uh := hd_ov (iv_id 0 iv_B4) [(6, .inl (.inl (.int 2))), (7, .inl (.inr (.inl 73)))]) (ul := [.inl (.inr (.inl 71))]) (f := true) (sp := [91, 119, 137, 156, 176, 233]) (d0 := 4) (O := [false, false, false, false, false, false, false, true, false, true, true, false, true]) (T := [(30, [.inr (.inl 4)], [.inr (.inl 25)]), (30, [.inr (.inl 4)], [.inr (.inl 25)]), (1, [.inr (.inl 70), .inl (.int 22)], []), (30, [.inr (.inl 4)], [.inr (.inl 25)]), (30, [.inr (.inl 4)], [.inr (.inl 26)])]) (P := [(6, .inr (.inl 4), .inl (.ref 403)), (0, .inr (.inl 69), .inl (.int 26)), (6, .inr (.inl 4), .inl (.ref 403)), (3, .inr (.inl 71), .inl (.int 0)), (6, .inr (.inl 4), .inl (.ref 403)), (4, .inr (.inl 72), .inl (.int 27)), (4, .inr (.inl 6), .inl (.int 0)), (0, .inr (.inl 4), .inl (.int 400)), (4, .inr (.inl 6), .inl (.int 0)), (6, .inr (.inl 4), .inl (.ref 403))]) jm_ok154 (by decide +kernel) (by decide +kernel) hd F X1 X2 (fun F' hF hs => ?_)
  have b4 := hd_b (F := F) (F' := F') (k := 4) (hF 4 (by decide))
  have a25 := hd_ba (F := F) (F' := F') (k := 25) (hF 25 (by decide))
  have t69 : sy_dv F' (.inr (.inl 69)) = .int ((sy_ai F 25).getD (sy_i F 4).toNatClampNeg 0) := hd_rd (hs 0 _ rfl) b4 a25
  have t70 : sy_dv F' (.inr (.inl 70)) = .int ((sy_ai F 25).getD (sy_i F 4).toNatClampNeg 0) := hd_rd (hs 1 _ rfl) b4 a25
  have t71 : sy_dv F' (.inr (.inl 71)) = .int (((sy_ai F 25).getD (sy_i F 4).toNatClampNeg 0) - ((22 : Int32))) := hd_o (hs 2 _ rfl) t70 rfl rfl
  have t72 : sy_dv F' (.inr (.inl 72)) = .int ((sy_ai F 25).getD (sy_i F 4).toNatClampNeg 0) := hd_rd (hs 3 _ rfl) b4 a25
  have b6 := hd_b (F := F) (F' := F') (k := 6) (hF 6 (by decide))
  have a26 := hd_ba (F := F) (F' := F') (k := 26) (hF 26 (by decide))
  have t73 : sy_dv F' (.inr (.inl 73)) = .int ((sy_ai F 26).getD (sy_i F 4).toNatClampNeg 0) := hd_rd (hs 4 _ rfl) b4 a26
  have hB' : iv_in F' iv_B4 := iv_in_eq hB (fun j hj => hF j (Nat.lt_of_lt_of_le hj (by decide +kernel)))
  refine ⟨List.forall_mem_cons.mpr ⟨hd_pb b4 (by first | exact h0 | exact h0), List.forall_mem_cons.mpr ⟨hd_p0 t69 rfl (by have hc : ((26) : Int32).toInt = 26 := (by decide); omega), List.forall_mem_cons.mpr ⟨hd_pb b4 (by first | exact h2 | exact h2), List.forall_mem_cons.mpr ⟨hd_p3 t71 rfl (by have hc : ((0) : Int32).toInt = 0 := (by decide); omega), List.forall_mem_cons.mpr ⟨hd_pb b4 (by first | exact h4 | exact h4), List.forall_mem_cons.mpr ⟨hd_p4 t72 rfl (by have hc : ((27) : Int32).toInt = 27 := (by decide); omega), List.forall_mem_cons.mpr ⟨hd_p4 b6 rfl (by have hc : ((0) : Int32).toInt = 0 := (by decide); omega), List.forall_mem_cons.mpr ⟨hd_p0 b4 rfl (by have hc : ((400) : Int32).toInt = 400 := (by decide); omega), List.forall_mem_cons.mpr ⟨hd_p4 b6 rfl (by have hc : ((0) : Int32).toInt = 0 := (by decide); omega), List.forall_mem_cons.mpr ⟨hd_pb b4 (by first | exact h9 | exact h9), fun _ h => absurd h List.not_mem_nil⟩⟩⟩⟩⟩⟩⟩⟩⟩⟩, ?_⟩
  refine k _ ?_ ?_ ?_ ?_
  · exact fun j hj hn => (hd_keep hB' (Nat.lt_of_lt_of_le hj (by decide +kernel)) (by simp; omega)).trans (hF j (by omega))
  · exact hd_gi (x := .inl (.int 2)) (by decide +kernel) rfl
  · exact hd_gi (x := .inr (.inl 73)) (by decide +kernel) t73
  · exact hd_gi (x := .inr (.inl 71)) (by decide +kernel) t71
theorem to_0_p28 {Ls : Nat} {xs : Nat → Int32} {d : Nat} {Q : Option Value → jm_h → Prop} (hd : 5 ≤ d) (F : Nat → sy_d) (X1 X2 : List jm_c) (hB : iv_in F iv_B4)
    (h0 : 0 ≤ (sy_i F 4).toInt ∧ (sy_i F 4).toInt < 403)
    (h1 : ((sy_ai F 25).getD (sy_i F 4).toNatClampNeg 0).toInt = 26)
    (h2 : 0 ≤ (sy_i F 4).toInt ∧ (sy_i F 4).toInt < 403)
    (h3 : 0 ≤ (((sy_ai F 25).getD (sy_i F 4).toNatClampNeg 0) - ((22 : Int32))).toInt)
    (h4 : 0 ≤ (sy_i F 4).toInt ∧ (sy_i F 4).toInt < 403)
    (h5 : ((sy_ai F 25).getD (sy_i F 4).toNatClampNeg 0).toInt ≤ 27)
    (h6 : 0 < (sy_i F 6).toInt)
    (k : ∀ F1 : Nat → sy_d, (∀ j, j < 69 → True → F1 j = F j) → Q (none) (sy_dh F1 X1 X2 (iv_H 4))) :
    hd_W Ls xs d jm_M154 Q (0, sy_dL F [some (.inl (.ref 1000)), none], sy_dS F [], sy_dh F X1 X2 (iv_H 4), 0, 0) := by
  refine hd_ret (s := 4) (nv := 69) (v := none) (uh := hd_ov (iv_id 0 iv_B4) []) (f := true) (sp := [91, 119, 137, 156, 176, 233]) (d0 := 4) (O := [false, false, false, false, false, false, false, true, false, true, false]) (T := [(30, [.inr (.inl 4)], [.inr (.inl 25)]), (30, [.inr (.inl 4)], [.inr (.inl 25)]), (1, [.inr (.inl 70), .inl (.int 22)], []), (30, [.inr (.inl 4)], [.inr (.inl 25)])]) (P := [(6, .inr (.inl 4), .inl (.ref 403)), (0, .inr (.inl 69), .inl (.int 26)), (6, .inr (.inl 4), .inl (.ref 403)), (3, .inr (.inl 71), .inl (.int 0)), (6, .inr (.inl 4), .inl (.ref 403)), (4, .inr (.inl 72), .inl (.int 27)), (5, .inr (.inl 6), .inl (.int 0))]) jm_ok154 (by decide +kernel) (by decide +kernel) hd F X1 X2 (fun F' hF hs => ?_)
  have b4 := hd_b (F := F) (F' := F') (k := 4) (hF 4 (by decide))
  have a25 := hd_ba (F := F) (F' := F') (k := 25) (hF 25 (by decide))
  have t69 : sy_dv F' (.inr (.inl 69)) = .int ((sy_ai F 25).getD (sy_i F 4).toNatClampNeg 0) := hd_rd (hs 0 _ rfl) b4 a25
  have t70 : sy_dv F' (.inr (.inl 70)) = .int ((sy_ai F 25).getD (sy_i F 4).toNatClampNeg 0) := hd_rd (hs 1 _ rfl) b4 a25
  have t71 : sy_dv F' (.inr (.inl 71)) = .int (((sy_ai F 25).getD (sy_i F 4).toNatClampNeg 0) - ((22 : Int32))) := hd_o (hs 2 _ rfl) t70 rfl rfl
  have t72 : sy_dv F' (.inr (.inl 72)) = .int ((sy_ai F 25).getD (sy_i F 4).toNatClampNeg 0) := hd_rd (hs 3 _ rfl) b4 a25
  have b6 := hd_b (F := F) (F' := F') (k := 6) (hF 6 (by decide))
  have hB' : iv_in F' iv_B4 := iv_in_eq hB (fun j hj => hF j (Nat.lt_of_lt_of_le hj (by decide +kernel)))
  refine ⟨List.forall_mem_cons.mpr ⟨hd_pb b4 (by first | exact h0 | exact h0), List.forall_mem_cons.mpr ⟨hd_p0 t69 rfl (by have hc : ((26) : Int32).toInt = 26 := (by decide); omega), List.forall_mem_cons.mpr ⟨hd_pb b4 (by first | exact h2 | exact h2), List.forall_mem_cons.mpr ⟨hd_p3 t71 rfl (by have hc : ((0) : Int32).toInt = 0 := (by decide); omega), List.forall_mem_cons.mpr ⟨hd_pb b4 (by first | exact h4 | exact h4), List.forall_mem_cons.mpr ⟨hd_p4 t72 rfl (by have hc : ((27) : Int32).toInt = 27 := (by decide); omega), List.forall_mem_cons.mpr ⟨hd_p5 b6 rfl (by have hc : ((0) : Int32).toInt = 0 := (by decide); omega), fun _ h => absurd h List.not_mem_nil⟩⟩⟩⟩⟩⟩⟩, ?_⟩
  refine k _ ?_
  · exact fun j hj _ => (hd_keep hB' (Nat.lt_of_lt_of_le hj (by decide +kernel)) (by simp)).trans (hF j (by omega))
theorem to_0_p29 {Ls : Nat} {xs : Nat → Int32} {d : Nat} {Q : Option Value → jm_h → Prop} (hd : 5 ≤ d) (F : Nat → sy_d) (X1 X2 : List jm_c) (hB : iv_in F iv_B4)
    (h0 : 0 ≤ (sy_i F 4).toInt ∧ (sy_i F 4).toInt < 403)
    (h1 : ((sy_ai F 25).getD (sy_i F 4).toNatClampNeg 0).toInt = 27)
    (h2 : 0 ≤ (sy_i F 4).toInt ∧ (sy_i F 4).toInt < 403)
    (h3 : 0 ≤ (((sy_ai F 25).getD (sy_i F 4).toNatClampNeg 0) - ((22 : Int32))).toInt)
    (h4 : 0 ≤ (sy_i F 4).toInt ∧ (sy_i F 4).toInt < 403)
    (h5 : ((sy_ai F 25).getD (sy_i F 4).toNatClampNeg 0).toInt ≤ 27)
    (h6 : (sy_i F 6).toInt ≤ 0)
    (h7 : (sy_i F 4).toInt ≠ 400)
    (k : ∀ F1 : Nat → sy_d, (∀ j, j < 69 → j ≠ 4 → F1 j = F j) → F1 4 = .inl (.int ((sy_i F 4) + ((1 : Int32)))) → F1 69 = .inl (.int (((sy_ai F 25).getD (sy_i F 4).toNatClampNeg 0) - ((22 : Int32)))) → hd_W Ls xs d jm_M154 Q (233, sy_dL F1 [some (.inl (.ref 1000)), none], sy_dS F1 [.inr (.inl 69), .inl (.ref 1000)], sy_dh F1 X1 X2 (iv_H 4), 0, 0)) :
    hd_W Ls xs d jm_M154 Q (0, sy_dL F [some (.inl (.ref 1000)), none], sy_dS F [], sy_dh F X1 X2 (iv_H 4), 0, 0) := by
  refine hd_run (s := 4) (nv := 69) (pc := 233) (L := [some (.inl (.ref 1000)), none]) (S := [.inr (.inl 69), .inl (.ref 1000)]) (uh := hd_ov (iv_id 0 iv_B4) [(4, .inl (.inr (.inl 73)))]) (ul := [.inl (.inr (.inl 71))]) (f := true) (sp := [91, 119, 137, 156, 176, 233]) (d0 := 4) (O := [false, false, false, false, false, false, false, false, true, false, true, true, true]) (T := [(30, [.inr (.inl 4)], [.inr (.inl 25)]), (30, [.inr (.inl 4)], [.inr (.inl 25)]), (1, [.inr (.inl 70), .inl (.int 22)], []), (30, [.inr (.inl 4)], [.inr (.inl 25)]), (0, [.inr (.inl 4), .inl (.int 1)], [])]) (P := [(6, .inr (.inl 4), .inl (.ref 403)), (0, .inr (.inl 69), .inl (.int 27)), (6, .inr (.inl 4), .inl (.ref 403)), (3, .inr (.inl 71), .inl (.int 0)), (6, .inr (.inl 4), .inl (.ref 403)), (4, .inr (.inl 72), .inl (.int 27)), (4, .inr (.inl 6), .inl (.int 0)), (1, .inr (.inl 4), .inl (.int 400))]) jm_ok154 (by decide +kernel) (by decide +kernel) hd F X1 X2 (fun F' hF hs => ?_)
  have b4 := hd_b (F := F) (F' := F') (k := 4) (hF 4 (by decide))
  have a25 := hd_ba (F := F) (F' := F') (k := 25) (hF 25 (by decide))
  have t69 : sy_dv F' (.inr (.inl 69)) = .int ((sy_ai F 25).getD (sy_i F 4).toNatClampNeg 0) := hd_rd (hs 0 _ rfl) b4 a25
  have t70 : sy_dv F' (.inr (.inl 70)) = .int ((sy_ai F 25).getD (sy_i F 4).toNatClampNeg 0) := hd_rd (hs 1 _ rfl) b4 a25
  have t71 : sy_dv F' (.inr (.inl 71)) = .int (((sy_ai F 25).getD (sy_i F 4).toNatClampNeg 0) - ((22 : Int32))) := hd_o (hs 2 _ rfl) t70 rfl rfl
  have t72 : sy_dv F' (.inr (.inl 72)) = .int ((sy_ai F 25).getD (sy_i F 4).toNatClampNeg 0) := hd_rd (hs 3 _ rfl) b4 a25
  have b6 := hd_b (F := F) (F' := F') (k := 6) (hF 6 (by decide))
  have t73 : sy_dv F' (.inr (.inl 73)) = .int ((sy_i F 4) + ((1 : Int32))) := hd_o (hs 4 _ rfl) b4 rfl rfl
  have hB' : iv_in F' iv_B4 := iv_in_eq hB (fun j hj => hF j (Nat.lt_of_lt_of_le hj (by decide +kernel)))
  refine ⟨List.forall_mem_cons.mpr ⟨hd_pb b4 (by first | exact h0 | exact h0), List.forall_mem_cons.mpr ⟨hd_p0 t69 rfl (by have hc : ((27) : Int32).toInt = 27 := (by decide); omega), List.forall_mem_cons.mpr ⟨hd_pb b4 (by first | exact h2 | exact h2), List.forall_mem_cons.mpr ⟨hd_p3 t71 rfl (by have hc : ((0) : Int32).toInt = 0 := (by decide); omega), List.forall_mem_cons.mpr ⟨hd_pb b4 (by first | exact h4 | exact h4), List.forall_mem_cons.mpr ⟨hd_p4 t72 rfl (by have hc : ((27) : Int32).toInt = 27 := (by decide); omega), List.forall_mem_cons.mpr ⟨hd_p4 b6 rfl (by have hc : ((0) : Int32).toInt = 0 := (by decide); omega), List.forall_mem_cons.mpr ⟨hd_p1 b4 rfl (by have hc : ((400) : Int32).toInt = 400 := (by decide); omega), fun _ h => absurd h List.not_mem_nil⟩⟩⟩⟩⟩⟩⟩⟩, ?_⟩
  refine k _ ?_ ?_ ?_
  · exact fun j hj hn => (hd_keep hB' (Nat.lt_of_lt_of_le hj (by decide +kernel)) (by simp; omega)).trans (hF j (by omega))
  · exact hd_gi (x := .inr (.inl 73)) (by decide +kernel) t73
  · exact hd_gi (x := .inr (.inl 71)) (by decide +kernel) t71
theorem to_0_p30 {Ls : Nat} {xs : Nat → Int32} {d : Nat} {Q : Option Value → jm_h → Prop} (hd : 5 ≤ d) (F : Nat → sy_d) (X1 X2 : List jm_c) (hB : iv_in F iv_B4)
    (h0 : 0 ≤ (sy_i F 4).toInt ∧ (sy_i F 4).toInt < 403)
    (h1 : ((sy_ai F 25).getD (sy_i F 4).toNatClampNeg 0).toInt = 27)
    (h2 : 0 ≤ (sy_i F 4).toInt ∧ (sy_i F 4).toInt < 403)
    (h3 : 0 ≤ (((sy_ai F 25).getD (sy_i F 4).toNatClampNeg 0) - ((22 : Int32))).toInt)
    (h4 : 0 ≤ (sy_i F 4).toInt ∧ (sy_i F 4).toInt < 403)
    (h5 : ((sy_ai F 25).getD (sy_i F 4).toNatClampNeg 0).toInt ≤ 27)
    (h6 : (sy_i F 6).toInt ≤ 0)
    (h7 : (sy_i F 4).toInt = 400)
    (h8 : (sy_i F 6).toInt ≤ 0)
    (h9 : 0 ≤ (sy_i F 4).toInt ∧ (sy_i F 4).toInt < 403)
    (k : ∀ F1 : Nat → sy_d, (∀ j, j < 69 → j ≠ 6 ∧ j ≠ 7 → F1 j = F j) → F1 6 = .inl (.int ((2 : Int32))) → F1 7 = .inl (.int ((sy_ai F 26).getD (sy_i F 4).toNatClampNeg 0)) → F1 69 = .inl (.int (((sy_ai F 25).getD (sy_i F 4).toNatClampNeg 0) - ((22 : Int32)))) → hd_W Ls xs d jm_M154 Q (233, sy_dL F1 [some (.inl (.ref 1000)), none], sy_dS F1 [.inr (.inl 69), .inl (.ref 1000)], sy_dh F1 X1 X2 (iv_H 4), 0, 0)) :
    hd_W Ls xs d jm_M154 Q (0, sy_dL F [some (.inl (.ref 1000)), none], sy_dS F [], sy_dh F X1 X2 (iv_H 4), 0, 0) := by
  refine hd_run (s := 4) (nv := 69) (pc := 233) (L := [some (.inl (.ref 1000)), none]) (S := [.inr (.inl 69), .inl (.ref 1000)]) (uh := hd_ov (iv_id 0 iv_B4) [(6, .inl (.inl (.int 2))), (7, .inl (.inr (.inl 73)))]) (ul := [.inl (.inr (.inl 71))]) (f := true) (sp := [91, 119, 137, 156, 176, 233]) (d0 := 4) (O := [false, false, false, false, false, false, false, false, true, false, true, true, false, true]) (T := [(30, [.inr (.inl 4)], [.inr (.inl 25)]), (30, [.inr (.inl 4)], [.inr (.inl 25)]), (1, [.inr (.inl 70), .inl (.int 22)], []), (30, [.inr (.inl 4)], [.inr (.inl 25)]), (30, [.inr (.inl 4)], [.inr (.inl 26)])]) (P := [(6, .inr (.inl 4), .inl (.ref 403)), (0, .inr (.inl 69), .inl (.int 27)), (6, .inr (.inl 4), .inl (.ref 403)), (3, .inr (.inl 71), .inl (.int 0)), (6, .inr (.inl 4), .inl (.ref 403)), (4, .inr (.inl 72), .inl (.int 27)), (4, .inr (.inl 6), .inl (.int 0)), (0, .inr (.inl 4), .inl (.int 400)), (4, .inr (.inl 6), .inl (.int 0)), (6, .inr (.inl 4), .inl (.ref 403))]) jm_ok154 (by decide +kernel) (by decide +kernel) hd F X1 X2 (fun F' hF hs => ?_)
  have b4 := hd_b (F := F) (F' := F') (k := 4) (hF 4 (by decide))
  have a25 := hd_ba (F := F) (F' := F') (k := 25) (hF 25 (by decide))
  have t69 : sy_dv F' (.inr (.inl 69)) = .int ((sy_ai F 25).getD (sy_i F 4).toNatClampNeg 0) := hd_rd (hs 0 _ rfl) b4 a25
  have t70 : sy_dv F' (.inr (.inl 70)) = .int ((sy_ai F 25).getD (sy_i F 4).toNatClampNeg 0) := hd_rd (hs 1 _ rfl) b4 a25
  have t71 : sy_dv F' (.inr (.inl 71)) = .int (((sy_ai F 25).getD (sy_i F 4).toNatClampNeg 0) - ((22 : Int32))) := hd_o (hs 2 _ rfl) t70 rfl rfl
  have t72 : sy_dv F' (.inr (.inl 72)) = .int ((sy_ai F 25).getD (sy_i F 4).toNatClampNeg 0) := hd_rd (hs 3 _ rfl) b4 a25
  have b6 := hd_b (F := F) (F' := F') (k := 6) (hF 6 (by decide))
  have a26 := hd_ba (F := F) (F' := F') (k := 26) (hF 26 (by decide))
  have t73 : sy_dv F' (.inr (.inl 73)) = .int ((sy_ai F 26).getD (sy_i F 4).toNatClampNeg 0) := hd_rd (hs 4 _ rfl) b4 a26
  have hB' : iv_in F' iv_B4 := iv_in_eq hB (fun j hj => hF j (Nat.lt_of_lt_of_le hj (by decide +kernel)))
  refine ⟨List.forall_mem_cons.mpr ⟨hd_pb b4 (by first | exact h0 | exact h0), List.forall_mem_cons.mpr ⟨hd_p0 t69 rfl (by have hc : ((27) : Int32).toInt = 27 := (by decide); omega), List.forall_mem_cons.mpr ⟨hd_pb b4 (by first | exact h2 | exact h2), List.forall_mem_cons.mpr ⟨hd_p3 t71 rfl (by have hc : ((0) : Int32).toInt = 0 := (by decide); omega), List.forall_mem_cons.mpr ⟨hd_pb b4 (by first | exact h4 | exact h4), List.forall_mem_cons.mpr ⟨hd_p4 t72 rfl (by have hc : ((27) : Int32).toInt = 27 := (by decide); omega), List.forall_mem_cons.mpr ⟨hd_p4 b6 rfl (by have hc : ((0) : Int32).toInt = 0 := (by decide); omega), List.forall_mem_cons.mpr ⟨hd_p0 b4 rfl (by have hc : ((400) : Int32).toInt = 400 := (by decide); omega), List.forall_mem_cons.mpr ⟨hd_p4 b6 rfl (by have hc : ((0) : Int32).toInt = 0 := (by decide); omega), List.forall_mem_cons.mpr ⟨hd_pb b4 (by first | exact h9 | exact h9), fun _ h => absurd h List.not_mem_nil⟩⟩⟩⟩⟩⟩⟩⟩⟩⟩, ?_⟩
  refine k _ ?_ ?_ ?_ ?_
  · exact fun j hj hn => (hd_keep hB' (Nat.lt_of_lt_of_le hj (by decide +kernel)) (by simp; omega)).trans (hF j (by omega))
  · exact hd_gi (x := .inl (.int 2)) (by decide +kernel) rfl
  · exact hd_gi (x := .inr (.inl 73)) (by decide +kernel) t73
  · exact hd_gi (x := .inr (.inl 71)) (by decide +kernel) t71
theorem to_0_p31 {Ls : Nat} {xs : Nat → Int32} {d : Nat} {Q : Option Value → jm_h → Prop} (hd : 5 ≤ d) (F : Nat → sy_d) (X1 X2 : List jm_c) (hB : iv_in F iv_B4)
    (h0 : 0 ≤ (sy_i F 4).toInt ∧ (sy_i F 4).toInt < 403)
    (h1 : ((sy_ai F 25).getD (sy_i F 4).toNatClampNeg 0).toInt = 27)
    (h2 : 0 ≤ (sy_i F 4).toInt ∧ (sy_i F 4).toInt < 403)
    (h3 : 0 ≤ (((sy_ai F 25).getD (sy_i F 4).toNatClampNeg 0) - ((22 : Int32))).toInt)
    (h4 : 0 ≤ (sy_i F 4).toInt ∧ (sy_i F 4).toInt < 403)
    (h5 : ((sy_ai F 25).getD (sy_i F 4).toNatClampNeg 0).toInt ≤ 27)
    (h6 : 0 < (sy_i F 6).toInt)
    (k : ∀ F1 : Nat → sy_d, (∀ j, j < 69 → True → F1 j = F j) → Q (none) (sy_dh F1 X1 X2 (iv_H 4))) :
    hd_W Ls xs d jm_M154 Q (0, sy_dL F [some (.inl (.ref 1000)), none], sy_dS F [], sy_dh F X1 X2 (iv_H 4), 0, 0) := by
  refine hd_ret (s := 4) (nv := 69) (v := none) (uh := hd_ov (iv_id 0 iv_B4) []) (f := true) (sp := [91, 119, 137, 156, 176, 233]) (d0 := 4) (O := [false, false, false, false, false, false, false, false, true, false, true, false]) (T := [(30, [.inr (.inl 4)], [.inr (.inl 25)]), (30, [.inr (.inl 4)], [.inr (.inl 25)]), (1, [.inr (.inl 70), .inl (.int 22)], []), (30, [.inr (.inl 4)], [.inr (.inl 25)])]) (P := [(6, .inr (.inl 4), .inl (.ref 403)), (0, .inr (.inl 69), .inl (.int 27)), (6, .inr (.inl 4), .inl (.ref 403)), (3, .inr (.inl 71), .inl (.int 0)), (6, .inr (.inl 4), .inl (.ref 403)), (4, .inr (.inl 72), .inl (.int 27)), (5, .inr (.inl 6), .inl (.int 0))]) jm_ok154 (by decide +kernel) (by decide +kernel) hd F X1 X2 (fun F' hF hs => ?_)
  have b4 := hd_b (F := F) (F' := F') (k := 4) (hF 4 (by decide))
  have a25 := hd_ba (F := F) (F' := F') (k := 25) (hF 25 (by decide))
  have t69 : sy_dv F' (.inr (.inl 69)) = .int ((sy_ai F 25).getD (sy_i F 4).toNatClampNeg 0) := hd_rd (hs 0 _ rfl) b4 a25
  have t70 : sy_dv F' (.inr (.inl 70)) = .int ((sy_ai F 25).getD (sy_i F 4).toNatClampNeg 0) := hd_rd (hs 1 _ rfl) b4 a25
  have t71 : sy_dv F' (.inr (.inl 71)) = .int (((sy_ai F 25).getD (sy_i F 4).toNatClampNeg 0) - ((22 : Int32))) := hd_o (hs 2 _ rfl) t70 rfl rfl
  have t72 : sy_dv F' (.inr (.inl 72)) = .int ((sy_ai F 25).getD (sy_i F 4).toNatClampNeg 0) := hd_rd (hs 3 _ rfl) b4 a25
  have b6 := hd_b (F := F) (F' := F') (k := 6) (hF 6 (by decide))
  have hB' : iv_in F' iv_B4 := iv_in_eq hB (fun j hj => hF j (Nat.lt_of_lt_of_le hj (by decide +kernel)))
  refine ⟨List.forall_mem_cons.mpr ⟨hd_pb b4 (by first | exact h0 | exact h0), List.forall_mem_cons.mpr ⟨hd_p0 t69 rfl (by have hc : ((27) : Int32).toInt = 27 := (by decide); omega), List.forall_mem_cons.mpr ⟨hd_pb b4 (by first | exact h2 | exact h2), List.forall_mem_cons.mpr ⟨hd_p3 t71 rfl (by have hc : ((0) : Int32).toInt = 0 := (by decide); omega), List.forall_mem_cons.mpr ⟨hd_pb b4 (by first | exact h4 | exact h4), List.forall_mem_cons.mpr ⟨hd_p4 t72 rfl (by have hc : ((27) : Int32).toInt = 27 := (by decide); omega), List.forall_mem_cons.mpr ⟨hd_p5 b6 rfl (by have hc : ((0) : Int32).toInt = 0 := (by decide); omega), fun _ h => absurd h List.not_mem_nil⟩⟩⟩⟩⟩⟩⟩, ?_⟩
  refine k _ ?_
  · exact fun j hj _ => (hd_keep hB' (Nat.lt_of_lt_of_le hj (by decide +kernel)) (by simp)).trans (hF j (by omega))
theorem to_0_p32 {Ls : Nat} {xs : Nat → Int32} {d : Nat} {Q : Option Value → jm_h → Prop} (hd : 5 ≤ d) (F : Nat → sy_d) (X1 X2 : List jm_c) (hB : iv_in F iv_B4)
    (h0 : 0 ≤ (sy_i F 4).toInt ∧ (sy_i F 4).toInt < 403)
    (h1 : ((sy_ai F 25).getD (sy_i F 4).toNatClampNeg 0).toInt = 28)
    (k : ∀ F1 : Nat → sy_d, (∀ j, j < 69 → True → F1 j = F j) → F1 69 = .inl (.int (sy_i F 12)) → hd_W Ls xs d jm_M154 Q (137, sy_dL F1 [some (.inl (.ref 1000)), none], sy_dS F1 [.inl (.int 99), .inl (.int 0), .inl (.ref 1000), .inr (.inl 69), .inl (.ref 1017)], sy_dh F1 X1 X2 (iv_H 4), 0, 0)) :
    hd_W Ls xs d jm_M154 Q (0, sy_dL F [some (.inl (.ref 1000)), none], sy_dS F [], sy_dh F X1 X2 (iv_H 4), 0, 0) := by
  refine hd_run (s := 4) (nv := 69) (pc := 137) (L := [some (.inl (.ref 1000)), none]) (S := [.inl (.int 99), .inl (.int 0), .inl (.ref 1000), .inr (.inl 69), .inl (.ref 1017)]) (uh := hd_ov (iv_id 0 iv_B4) []) (ul := [.inl (.inr (.inl 12))]) (f := true) (sp := [91, 119, 137, 156, 176, 233]) (d0 := 4) (O := [false, false, false, false, false, false, false, false, false, true]) (T := [(30, [.inr (.inl 4)], [.inr (.inl 25)])]) (P := [(6, .inr (.inl 4), .inl (.ref 403)), (0, .inr (.inl 69), .inl (.int 28))]) jm_ok154 (by decide +kernel) (by decide +kernel) hd F X1 X2 (fun F' hF hs => ?_)
  have b4 := hd_b (F := F) (F' := F') (k := 4) (hF 4 (by decide))
  have a25 := hd_ba (F := F) (F' := F') (k := 25) (hF 25 (by decide))
  have t69 : sy_dv F' (.inr (.inl 69)) = .int ((sy_ai F 25).getD (sy_i F 4).toNatClampNeg 0) := hd_rd (hs 0 _ rfl) b4 a25
  have b12 := hd_b (F := F) (F' := F') (k := 12) (hF 12 (by decide))
  have hB' : iv_in F' iv_B4 := iv_in_eq hB (fun j hj => hF j (Nat.lt_of_lt_of_le hj (by decide +kernel)))
  refine ⟨List.forall_mem_cons.mpr ⟨hd_pb b4 (by first | exact h0 | exact h0), List.forall_mem_cons.mpr ⟨hd_p0 t69 rfl (by have hc : ((28) : Int32).toInt = 28 := (by decide); omega), fun _ h => absurd h List.not_mem_nil⟩⟩, ?_⟩
  refine k _ ?_ ?_
  · exact fun j hj _ => (hd_keep hB' (Nat.lt_of_lt_of_le hj (by decide +kernel)) (by simp)).trans (hF j (by omega))
  · exact hd_gi (x := .inr (.inl 12)) (by decide +kernel) b12
theorem to_0_p33 {Ls : Nat} {xs : Nat → Int32} {d : Nat} {Q : Option Value → jm_h → Prop} (hd : 5 ≤ d) (F : Nat → sy_d) (X1 X2 : List jm_c) (hB : iv_in F iv_B4)
    (h0 : 0 ≤ (sy_i F 4).toInt ∧ (sy_i F 4).toInt < 403)
    (h1 : ((sy_ai F 25).getD (sy_i F 4).toNatClampNeg 0).toInt = 29)
    (k : ∀ F1 : Nat → sy_d, (∀ j, j < 69 → True → F1 j = F j) → F1 69 = .inl (.int (sy_i F 12)) → hd_W Ls xs d jm_M154 Q (156, sy_dL F1 [some (.inl (.ref 1000)), none], sy_dS F1 [.inl (.int 99), .inl (.int 0), .inl (.ref 1000), .inr (.inl 69), .inl (.ref 1018)], sy_dh F1 X1 X2 (iv_H 4), 0, 0)) :
    hd_W Ls xs d jm_M154 Q (0, sy_dL F [some (.inl (.ref 1000)), none], sy_dS F [], sy_dh F X1 X2 (iv_H 4), 0, 0) := by
  refine hd_run (s := 4) (nv := 69) (pc := 156) (L := [some (.inl (.ref 1000)), none]) (S := [.inl (.int 99), .inl (.int 0), .inl (.ref 1000), .inr (.inl 69), .inl (.ref 1018)]) (uh := hd_ov (iv_id 0 iv_B4) []) (ul := [.inl (.inr (.inl 12))]) (f := true) (sp := [91, 119, 137, 156, 176, 233]) (d0 := 4) (O := [false, false, false, false, false, false, false, false, false, false, true]) (T := [(30, [.inr (.inl 4)], [.inr (.inl 25)])]) (P := [(6, .inr (.inl 4), .inl (.ref 403)), (0, .inr (.inl 69), .inl (.int 29))]) jm_ok154 (by decide +kernel) (by decide +kernel) hd F X1 X2 (fun F' hF hs => ?_)
  have b4 := hd_b (F := F) (F' := F') (k := 4) (hF 4 (by decide))
  have a25 := hd_ba (F := F) (F' := F') (k := 25) (hF 25 (by decide))
  have t69 : sy_dv F' (.inr (.inl 69)) = .int ((sy_ai F 25).getD (sy_i F 4).toNatClampNeg 0) := hd_rd (hs 0 _ rfl) b4 a25
  have b12 := hd_b (F := F) (F' := F') (k := 12) (hF 12 (by decide))
  have hB' : iv_in F' iv_B4 := iv_in_eq hB (fun j hj => hF j (Nat.lt_of_lt_of_le hj (by decide +kernel)))
  refine ⟨List.forall_mem_cons.mpr ⟨hd_pb b4 (by first | exact h0 | exact h0), List.forall_mem_cons.mpr ⟨hd_p0 t69 rfl (by have hc : ((29) : Int32).toInt = 29 := (by decide); omega), fun _ h => absurd h List.not_mem_nil⟩⟩, ?_⟩
  refine k _ ?_ ?_
  · exact fun j hj _ => (hd_keep hB' (Nat.lt_of_lt_of_le hj (by decide +kernel)) (by simp)).trans (hF j (by omega))
  · exact hd_gi (x := .inr (.inl 12)) (by decide +kernel) b12
theorem to_0_p34 {Ls : Nat} {xs : Nat → Int32} {d : Nat} {Q : Option Value → jm_h → Prop} (hd : 5 ≤ d) (F : Nat → sy_d) (X1 X2 : List jm_c) (hB : iv_in F iv_B4)
    (h0 : 0 ≤ (sy_i F 4).toInt ∧ (sy_i F 4).toInt < 403)
    (h1 : ((sy_ai F 25).getD (sy_i F 4).toNatClampNeg 0).toInt = 30)
    (k : ∀ F1 : Nat → sy_d, (∀ j, j < 69 → True → F1 j = F j) → F1 69 = .inl (.int (sy_i F 12)) → hd_W Ls xs d jm_M154 Q (176, sy_dL F1 [some (.inl (.ref 1000)), none], sy_dS F1 [.inl (.int 9999), .inl (.int 0), .inl (.ref 1000), .inr (.inl 69), .inl (.ref 1019)], sy_dh F1 X1 X2 (iv_H 4), 0, 0)) :
    hd_W Ls xs d jm_M154 Q (0, sy_dL F [some (.inl (.ref 1000)), none], sy_dS F [], sy_dh F X1 X2 (iv_H 4), 0, 0) := by
  refine hd_run (s := 4) (nv := 69) (pc := 176) (L := [some (.inl (.ref 1000)), none]) (S := [.inl (.int 9999), .inl (.int 0), .inl (.ref 1000), .inr (.inl 69), .inl (.ref 1019)]) (uh := hd_ov (iv_id 0 iv_B4) []) (ul := [.inl (.inr (.inl 12))]) (f := true) (sp := [91, 119, 137, 156, 176, 233]) (d0 := 4) (O := [false, false, false, false, false, false, false, false, false, false, false, true]) (T := [(30, [.inr (.inl 4)], [.inr (.inl 25)])]) (P := [(6, .inr (.inl 4), .inl (.ref 403)), (0, .inr (.inl 69), .inl (.int 30))]) jm_ok154 (by decide +kernel) (by decide +kernel) hd F X1 X2 (fun F' hF hs => ?_)
  have b4 := hd_b (F := F) (F' := F') (k := 4) (hF 4 (by decide))
  have a25 := hd_ba (F := F) (F' := F') (k := 25) (hF 25 (by decide))
  have t69 : sy_dv F' (.inr (.inl 69)) = .int ((sy_ai F 25).getD (sy_i F 4).toNatClampNeg 0) := hd_rd (hs 0 _ rfl) b4 a25
  have b12 := hd_b (F := F) (F' := F') (k := 12) (hF 12 (by decide))
  have hB' : iv_in F' iv_B4 := iv_in_eq hB (fun j hj => hF j (Nat.lt_of_lt_of_le hj (by decide +kernel)))
  refine ⟨List.forall_mem_cons.mpr ⟨hd_pb b4 (by first | exact h0 | exact h0), List.forall_mem_cons.mpr ⟨hd_p0 t69 rfl (by have hc : ((30) : Int32).toInt = 30 := (by decide); omega), fun _ h => absurd h List.not_mem_nil⟩⟩, ?_⟩
  refine k _ ?_ ?_
  · exact fun j hj _ => (hd_keep hB' (Nat.lt_of_lt_of_le hj (by decide +kernel)) (by simp)).trans (hF j (by omega))
  · exact hd_gi (x := .inr (.inl 12)) (by decide +kernel) b12
theorem to_0 {Ls : Nat} {xs : Nat → Int32} {d : Nat} {Q : Option Value → jm_h → Prop} (hd : 5 ≤ d) (F : Nat → sy_d) (X1 X2 : List jm_c) (hB : iv_in F iv_B4)
    (k0 : ((sy_ai F 25).getD ((sy_i F 4).toInt).toNat 0).toInt < 20 → (((sy_ai F 25).getD ((sy_i F 4).toInt).toNat 0).toInt - 22) < 0 → (sy_i F 6).toInt ≤ 0 → ∀ F1 : Nat → sy_d, iv_in F1 iv_B4 → (∀ j, j < 69 → j ∉ ([6, 7] : List Nat) → F1 j = F j) → (sy_i F1 4).toInt = (sy_i F 4).toInt → (sy_i F1 5).toInt = (sy_i F 5).toInt → (sy_i F1 6).toInt = 1 → (sy_i F1 11).toInt = (sy_i F 11).toInt → (sy_i F1 12).toInt = (sy_i F 12).toInt → (sy_i F1 13).toInt = (sy_i F 13).toInt → (sy_i F1 14).toInt = (sy_i F 14).toInt → (sy_i F1 15).toInt = (sy_i F 15).toInt → sy_ai F1 31 = sy_ai F 31 → sy_ai F1 35 = sy_ai F 35 → sy_ai F1 39 = sy_ai F 39 → sy_ai F1 40 = sy_ai F 40 → sy_ai F1 41 = sy_ai F 41 → Q (none) (sy_dh F1 X1 X2 (iv_H 4)))
    (k1 : ((sy_ai F 25).getD ((sy_i F 4).toInt).toNat 0).toInt < 20 → (((sy_ai F 25).getD ((sy_i F 4).toInt).toNat 0).toInt - 22) < 0 → 0 < (sy_i F 6).toInt → 0 < (sy_i F 6).toInt → ∀ F1 : Nat → sy_d, iv_in F1 iv_B4 → (∀ j, j < 69 → j ∉ ([] : List Nat) → F1 j = F j) → (sy_i F1 4).toInt = (sy_i F 4).toInt → (sy_i F1 5).toInt = (sy_i F 5).toInt → (sy_i F1 6).toInt = (sy_i F 6).toInt → (sy_i F1 11).toInt = (sy_i F 11).toInt → (sy_i F1 12).toInt = (sy_i F 12).toInt → (sy_i F1 13).toInt = (sy_i F 13).toInt → (sy_i F1 14).toInt = (sy_i F 14).toInt → (sy_i F1 15).toInt = (sy_i F 15).toInt → sy_ai F1 31 = sy_ai F 31 → sy_ai F1 35 = sy_ai F 35 → sy_ai F1 39 = sy_ai F 39 → sy_ai F1 40 = sy_ai F 40 → sy_ai F1 41 = sy_ai F 41 → Q (none) (sy_dh F1 X1 X2 (iv_H 4)))
    (k2 : 30 < ((sy_ai F 25).getD ((sy_i F 4).toInt).toNat 0).toInt → 0 ≤ (((sy_ai F 25).getD ((sy_i F 4).toInt).toNat 0).toInt - 22) → 27 < ((sy_ai F 25).getD ((sy_i F 4).toInt).toNat 0).toInt → (sy_i F 6).toInt ≤ 0 → ∀ F1 : Nat → sy_d, iv_in F1 iv_B4 → (∀ j, j < 69 → j ∉ ([6, 7] : List Nat) → F1 j = F j) → (sy_i F1 4).toInt = (sy_i F 4).toInt → (sy_i F1 5).toInt = (sy_i F 5).toInt → (sy_i F1 6).toInt = 1 → (sy_i F1 11).toInt = (sy_i F 11).toInt → (sy_i F1 12).toInt = (sy_i F 12).toInt → (sy_i F1 13).toInt = (sy_i F 13).toInt → (sy_i F1 14).toInt = (sy_i F 14).toInt → (sy_i F1 15).toInt = (sy_i F 15).toInt → sy_ai F1 31 = sy_ai F 31 → sy_ai F1 35 = sy_ai F 35 → sy_ai F1 39 = sy_ai F 39 → sy_ai F1 40 = sy_ai F 40 → sy_ai F1 41 = sy_ai F 41 → Q (none) (sy_dh F1 X1 X2 (iv_H 4)))
    (k3 : 30 < ((sy_ai F 25).getD ((sy_i F 4).toInt).toNat 0).toInt → 0 ≤ (((sy_ai F 25).getD ((sy_i F 4).toInt).toNat 0).toInt - 22) → 27 < ((sy_ai F 25).getD ((sy_i F 4).toInt).toNat 0).toInt → 0 < (sy_i F 6).toInt → 0 < (sy_i F 6).toInt → ∀ F1 : Nat → sy_d, iv_in F1 iv_B4 → (∀ j, j < 69 → j ∉ ([] : List Nat) → F1 j = F j) → (sy_i F1 4).toInt = (sy_i F 4).toInt → (sy_i F1 5).toInt = (sy_i F 5).toInt → (sy_i F1 6).toInt = (sy_i F 6).toInt → (sy_i F1 11).toInt = (sy_i F 11).toInt → (sy_i F1 12).toInt = (sy_i F 12).toInt → (sy_i F1 13).toInt = (sy_i F 13).toInt → (sy_i F1 14).toInt = (sy_i F 14).toInt → (sy_i F1 15).toInt = (sy_i F 15).toInt → sy_ai F1 31 = sy_ai F 31 → sy_ai F1 35 = sy_ai F 35 → sy_ai F1 39 = sy_ai F 39 → sy_ai F1 40 = sy_ai F 40 → sy_ai F1 41 = sy_ai F 41 → Q (none) (sy_dh F1 X1 X2 (iv_H 4)))
    (k4 : ((sy_ai F 25).getD ((sy_i F 4).toInt).toNat 0).toInt = 20 → ((sy_ai F 31).getD ((sy_i F 12).toInt).toNat 0).toInt ≠ 7 → (sy_i F 6).toInt ≠ 0 → (sy_i F 6).toInt ≠ 0 → ∀ F1 : Nat → sy_d, iv_in F1 iv_B4 → (∀ j, j < 69 → j ∉ ([] : List Nat) → F1 j = F j) → (sy_i F1 4).toInt = (sy_i F 4).toInt → (sy_i F1 5).toInt = (sy_i F 5).toInt → (sy_i F1 6).toInt = (sy_i F 6).toInt → (sy_i F1 11).toInt = (sy_i F 11).toInt → (sy_i F1 12).toInt = (sy_i F 12).toInt → (sy_i F1 13).toInt = (sy_i F 13).toInt → (sy_i F1 14).toInt = (sy_i F 14).toInt → (sy_i F1 15).toInt = (sy_i F 15).toInt → sy_ai F1 31 = sy_ai F 31 → sy_ai F1 35 = sy_ai F 35 → sy_ai F1 39 = sy_ai F 39 → sy_ai F1 40 = sy_ai F 40 → sy_ai F1 41 = sy_ai F 41 → Q (none) (sy_dh F1 X1 X2 (iv_H 4)))
    (k5 : ((sy_ai F 25).getD ((sy_i F 4).toInt).toNat 0).toInt = 20 → ((sy_ai F 31).getD ((sy_i F 12).toInt).toNat 0).toInt ≠ 7 → (sy_i F 6).toInt = 0 → (sy_i F 4).toInt ≠ 400 → (sy_i F 6).toInt = 0 → ∀ F1 : Nat → sy_d, iv_in F1 iv_B4 → (∀ j, j < 69 → j ∉ ([4] : List Nat) → F1 j = F j) → (sy_i F1 4).toInt = ((sy_i F 4).toInt + 1) → (sy_i F1 5).toInt = (sy_i F 5).toInt → (sy_i F1 6).toInt = (sy_i F 6).toInt → (sy_i F1 11).toInt = (sy_i F 11).toInt → (sy_i F1 12).toInt = (sy_i F 12).toInt → (sy_i F1 13).toInt = (sy_i F 13).toInt → (sy_i F1 14).toInt = (sy_i F 14).toInt → (sy_i F1 15).toInt = (sy_i F 15).toInt → sy_ai F1 31 = sy_ai F 31 → sy_ai F1 35 = sy_ai F 35 → sy_ai F1 39 = sy_ai F 39 → sy_ai F1 40 = sy_ai F 40 → sy_ai F1 41 = sy_ai F 41 → hd_W Ls xs d jm_M154 Q (91, sy_dL F1 [some (.inl (.ref 1000)), none], sy_dS F1 [.inl (.ref 1000)], sy_dh F1 X1 X2 (iv_H 4), 0, 0))
    (k6 : ((sy_ai F 25).getD ((sy_i F 4).toInt).toNat 0).toInt = 20 → ((sy_ai F 31).getD ((sy_i F 12).toInt).toNat 0).toInt ≠ 7 → (sy_i F 6).toInt = 0 → (sy_i F 4).toInt = 400 → (sy_i F 6).toInt ≤ 0 → ∀ F1 : Nat → sy_d, iv_in F1 iv_B4 → (∀ j, j < 69 → j ∉ ([6, 7] : List Nat) → F1 j = F j) → (sy_i F1 4).toInt = (sy_i F 4).toInt → (sy_i F1 5).toInt = (sy_i F 5).toInt → (sy_i F1 6).toInt = 2 → (sy_i F1 11).toInt = (sy_i F 11).toInt → (sy_i F1 12).toInt = (sy_i F 12).toInt → (sy_i F1 13).toInt = (sy_i F 13).toInt → (sy_i F1 14).toInt = (sy_i F 14).toInt → (sy_i F1 15).toInt = (sy_i F 15).toInt → sy_ai F1 31 = sy_ai F 31 → sy_ai F1 35 = sy_ai F 35 → sy_ai F1 39 = sy_ai F 39 → sy_ai F1 40 = sy_ai F 40 → sy_ai F1 41 = sy_ai F 41 → Q (none) (sy_dh F1 X1 X2 (iv_H 4)))
    (k7 : ((sy_ai F 25).getD ((sy_i F 4).toInt).toNat 0).toInt = 20 → ((sy_ai F 31).getD ((sy_i F 12).toInt).toNat 0).toInt = 7 → (sy_i F 6).toInt ≤ 0 → ∀ F1 : Nat → sy_d, iv_in F1 iv_B4 → (∀ j, j < 69 → j ∉ ([6, 7] : List Nat) → F1 j = F j) → (sy_i F1 4).toInt = (sy_i F 4).toInt → (sy_i F1 5).toInt = (sy_i F 5).toInt → (sy_i F1 6).toInt = 2 → (sy_i F1 11).toInt = (sy_i F 11).toInt → (sy_i F1 12).toInt = (sy_i F 12).toInt → (sy_i F1 13).toInt = (sy_i F 13).toInt → (sy_i F1 14).toInt = (sy_i F 14).toInt → (sy_i F1 15).toInt = (sy_i F 15).toInt → sy_ai F1 31 = sy_ai F 31 → sy_ai F1 35 = sy_ai F 35 → sy_ai F1 39 = sy_ai F 39 → sy_ai F1 40 = sy_ai F 40 → sy_ai F1 41 = sy_ai F 41 → Q (none) (sy_dh F1 X1 X2 (iv_H 4)))
    (k8 : ((sy_ai F 25).getD ((sy_i F 4).toInt).toNat 0).toInt = 20 → ((sy_ai F 31).getD ((sy_i F 12).toInt).toNat 0).toInt = 7 → 0 < (sy_i F 6).toInt → (sy_i F 6).toInt ≠ 0 → (sy_i F 6).toInt ≠ 0 → ∀ F1 : Nat → sy_d, iv_in F1 iv_B4 → (∀ j, j < 69 → j ∉ ([] : List Nat) → F1 j = F j) → (sy_i F1 4).toInt = (sy_i F 4).toInt → (sy_i F1 5).toInt = (sy_i F 5).toInt → (sy_i F1 6).toInt = (sy_i F 6).toInt → (sy_i F1 11).toInt = (sy_i F 11).toInt → (sy_i F1 12).toInt = (sy_i F 12).toInt → (sy_i F1 13).toInt = (sy_i F 13).toInt → (sy_i F1 14).toInt = (sy_i F 14).toInt → (sy_i F1 15).toInt = (sy_i F 15).toInt → sy_ai F1 31 = sy_ai F 31 → sy_ai F1 35 = sy_ai F 35 → sy_ai F1 39 = sy_ai F 39 → sy_ai F1 40 = sy_ai F 40 → sy_ai F1 41 = sy_ai F 41 → Q (none) (sy_dh F1 X1 X2 (iv_H 4)))
    (k9 : ((sy_ai F 25).getD ((sy_i F 4).toInt).toNat 0).toInt = 21 → ((sy_ai F 35).getD ((sy_i F 12).toInt).toNat 0).toInt ≠ 4 → (sy_i F 6).toInt ≠ 0 → (sy_i F 6).toInt ≠ 0 → ∀ F1 : Nat → sy_d, iv_in F1 iv_B4 → (∀ j, j < 69 → j ∉ ([] : List Nat) → F1 j = F j) → (sy_i F1 4).toInt = (sy_i F 4).toInt → (sy_i F1 5).toInt = (sy_i F 5).toInt → (sy_i F1 6).toInt = (sy_i F 6).toInt → (sy_i F1 11).toInt = (sy_i F 11).toInt → (sy_i F1 12).toInt = (sy_i F 12).toInt → (sy_i F1 13).toInt = (sy_i F 13).toInt → (sy_i F1 14).toInt = (sy_i F 14).toInt → (sy_i F1 15).toInt = (sy_i F 15).toInt → sy_ai F1 31 = sy_ai F 31 → sy_ai F1 35 = sy_ai F 35 → sy_ai F1 39 = sy_ai F 39 → sy_ai F1 40 = sy_ai F 40 → sy_ai F1 41 = sy_ai F 41 → Q (none) (sy_dh F1 X1 X2 (iv_H 4)))
    (k10 : ((sy_ai F 25).getD ((sy_i F 4).toInt).toNat 0).toInt = 21 → ((sy_ai F 35).getD ((sy_i F 12).toInt).toNat 0).toInt ≠ 4 → (sy_i F 6).toInt = 0 → (sy_i F 4).toInt ≠ 400 → (sy_i F 6).toInt = 0 → ∀ F1 : Nat → sy_d, iv_in F1 iv_B4 → (∀ j, j < 69 → j ∉ ([4] : List Nat) → F1 j = F j) → (sy_i F1 4).toInt = ((sy_i F 4).toInt + 1) → (sy_i F1 5).toInt = (sy_i F 5).toInt → (sy_i F1 6).toInt = (sy_i F 6).toInt → (sy_i F1 11).toInt = (sy_i F 11).toInt → (sy_i F1 12).toInt = (sy_i F 12).toInt → (sy_i F1 13).toInt = (sy_i F 13).toInt → (sy_i F1 14).toInt = (sy_i F 14).toInt → (sy_i F1 15).toInt = (sy_i F 15).toInt → sy_ai F1 31 = sy_ai F 31 → sy_ai F1 35 = sy_ai F 35 → sy_ai F1 39 = sy_ai F 39 → sy_ai F1 40 = sy_ai F 40 → sy_ai F1 41 = sy_ai F 41 → hd_W Ls xs d jm_M154 Q (119, sy_dL F1 [some (.inl (.ref 1000)), none], sy_dS F1 [.inl (.ref 1000)], sy_dh F1 X1 X2 (iv_H 4), 0, 0))
    (k11 : ((sy_ai F 25).getD ((sy_i F 4).toInt).toNat 0).toInt = 21 → ((sy_ai F 35).getD ((sy_i F 12).toInt).toNat 0).toInt ≠ 4 → (sy_i F 6).toInt = 0 → (sy_i F 4).toInt = 400 → (sy_i F 6).toInt ≤ 0 → ∀ F1 : Nat → sy_d, iv_in F1 iv_B4 → (∀ j, j < 69 → j ∉ ([6, 7] : List Nat) → F1 j = F j) → (sy_i F1 4).toInt = (sy_i F 4).toInt → (sy_i F1 5).toInt = (sy_i F 5).toInt → (sy_i F1 6).toInt = 2 → (sy_i F1 11).toInt = (sy_i F 11).toInt → (sy_i F1 12).toInt = (sy_i F 12).toInt → (sy_i F1 13).toInt = (sy_i F 13).toInt → (sy_i F1 14).toInt = (sy_i F 14).toInt → (sy_i F1 15).toInt = (sy_i F 15).toInt → sy_ai F1 31 = sy_ai F 31 → sy_ai F1 35 = sy_ai F 35 → sy_ai F1 39 = sy_ai F 39 → sy_ai F1 40 = sy_ai F 40 → sy_ai F1 41 = sy_ai F 41 → Q (none) (sy_dh F1 X1 X2 (iv_H 4)))
    (k12 : ((sy_ai F 25).getD ((sy_i F 4).toInt).toNat 0).toInt = 21 → ((sy_ai F 35).getD ((sy_i F 12).toInt).toNat 0).toInt = 4 → (sy_i F 6).toInt ≤ 0 → ∀ F1 : Nat → sy_d, iv_in F1 iv_B4 → (∀ j, j < 69 → j ∉ ([6, 7] : List Nat) → F1 j = F j) → (sy_i F1 4).toInt = (sy_i F 4).toInt → (sy_i F1 5).toInt = (sy_i F 5).toInt → (sy_i F1 6).toInt = 2 → (sy_i F1 11).toInt = (sy_i F 11).toInt → (sy_i F1 12).toInt = (sy_i F 12).toInt → (sy_i F1 13).toInt = (sy_i F 13).toInt → (sy_i F1 14).toInt = (sy_i F 14).toInt → (sy_i F1 15).toInt = (sy_i F 15).toInt → sy_ai F1 31 = sy_ai F 31 → sy_ai F1 35 = sy_ai F 35 → sy_ai F1 39 = sy_ai F 39 → sy_ai F1 40 = sy_ai F 40 → sy_ai F1 41 = sy_ai F 41 → Q (none) (sy_dh F1 X1 X2 (iv_H 4)))
    (k13 : ((sy_ai F 25).getD ((sy_i F 4).toInt).toNat 0).toInt = 21 → ((sy_ai F 35).getD ((sy_i F 12).toInt).toNat 0).toInt = 4 → 0 < (sy_i F 6).toInt → (sy_i F 6).toInt ≠ 0 → (sy_i F 6).toInt ≠ 0 → ∀ F1 : Nat → sy_d, iv_in F1 iv_B4 → (∀ j, j < 69 → j ∉ ([] : List Nat) → F1 j = F j) → (sy_i F1 4).toInt = (sy_i F 4).toInt → (sy_i F1 5).toInt = (sy_i F 5).toInt → (sy_i F1 6).toInt = (sy_i F 6).toInt → (sy_i F1 11).toInt = (sy_i F 11).toInt → (sy_i F1 12).toInt = (sy_i F 12).toInt → (sy_i F1 13).toInt = (sy_i F 13).toInt → (sy_i F1 14).toInt = (sy_i F 14).toInt → (sy_i F1 15).toInt = (sy_i F 15).toInt → sy_ai F1 31 = sy_ai F 31 → sy_ai F1 35 = sy_ai F 35 → sy_ai F1 39 = sy_ai F 39 → sy_ai F1 40 = sy_ai F 40 → sy_ai F1 41 = sy_ai F 41 → Q (none) (sy_dh F1 X1 X2 (iv_H 4)))
    (k14 : ((sy_ai F 25).getD ((sy_i F 4).toInt).toNat 0).toInt = 22 → 0 ≤ (((sy_ai F 25).getD ((sy_i F 4).toInt).toNat 0).toInt - 22) → ((sy_ai F 25).getD ((sy_i F 4).toInt).toNat 0).toInt ≤ 27 → (sy_i F 6).toInt ≤ 0 → (sy_i F 4).toInt ≠ 400 → ∀ F1 : Nat → sy_d, iv_in F1 iv_B4 → (∀ j, j < 69 → j ∉ ([4] : List Nat) → F1 j = F j) → (sy_i F1 4).toInt = ((sy_i F 4).toInt + 1) → (sy_i F1 5).toInt = (sy_i F 5).toInt → (sy_i F1 6).toInt = (sy_i F 6).toInt → (sy_i F1 11).toInt = (sy_i F 11).toInt → (sy_i F1 12).toInt = (sy_i F 12).toInt → (sy_i F1 13).toInt = (sy_i F 13).toInt → (sy_i F1 14).toInt = (sy_i F 14).toInt → (sy_i F1 15).toInt = (sy_i F 15).toInt → sy_ai F1 31 = sy_ai F 31 → sy_ai F1 35 = sy_ai F 35 → sy_ai F1 39 = sy_ai F 39 → sy_ai F1 40 = sy_ai F 40 → sy_ai F1 41 = sy_ai F 41 → (sy_i F1 69).toInt = (((sy_ai F 25).getD ((sy_i F 4).toInt).toNat 0).toInt - 22) → hd_W Ls xs d jm_M154 Q (233, sy_dL F1 [some (.inl (.ref 1000)), none], sy_dS F1 [.inr (.inl 69), .inl (.ref 1000)], sy_dh F1 X1 X2 (iv_H 4), 0, 0))
    (k15 : ((sy_ai F 25).getD ((sy_i F 4).toInt).toNat 0).toInt = 22 → 0 ≤ (((sy_ai F 25).getD ((sy_i F 4).toInt).toNat 0).toInt - 22) → ((sy_ai F 25).getD ((sy_i F 4).toInt).toNat 0).toInt ≤ 27 → (sy_i F 6).toInt ≤ 0 → (sy_i F 4).toInt = 400 → (sy_i F 6).toInt ≤ 0 → ∀ F1 : Nat → sy_d, iv_in F1 iv_B4 → (∀ j, j < 69 → j ∉ ([6, 7] : List Nat) → F1 j = F j) → (sy_i F1 4).toInt = (sy_i F 4).toInt → (sy_i F1 5).toInt = (sy_i F 5).toInt → (sy_i F1 6).toInt = 2 → (sy_i F1 11).toInt = (sy_i F 11).toInt → (sy_i F1 12).toInt = (sy_i F 12).toInt → (sy_i F1 13).toInt = (sy_i F 13).toInt → (sy_i F1 14).toInt = (sy_i F 14).toInt → (sy_i F1 15).toInt = (sy_i F 15).toInt → sy_ai F1 31 = sy_ai F 31 → sy_ai F1 35 = sy_ai F 35 → sy_ai F1 39 = sy_ai F 39 → sy_ai F1 40 = sy_ai F 40 → sy_ai F1 41 = sy_ai F 41 → (sy_i F1 69).toInt = (((sy_ai F 25).getD ((sy_i F 4).toInt).toNat 0).toInt - 22) → hd_W Ls xs d jm_M154 Q (233, sy_dL F1 [some (.inl (.ref 1000)), none], sy_dS F1 [.inr (.inl 69), .inl (.ref 1000)], sy_dh F1 X1 X2 (iv_H 4), 0, 0))
    (k16 : ((sy_ai F 25).getD ((sy_i F 4).toInt).toNat 0).toInt = 22 → 0 ≤ (((sy_ai F 25).getD ((sy_i F 4).toInt).toNat 0).toInt - 22) → ((sy_ai F 25).getD ((sy_i F 4).toInt).toNat 0).toInt ≤ 27 → 0 < (sy_i F 6).toInt → ∀ F1 : Nat → sy_d, iv_in F1 iv_B4 → (∀ j, j < 69 → j ∉ ([] : List Nat) → F1 j = F j) → (sy_i F1 4).toInt = (sy_i F 4).toInt → (sy_i F1 5).toInt = (sy_i F 5).toInt → (sy_i F1 6).toInt = (sy_i F 6).toInt → (sy_i F1 11).toInt = (sy_i F 11).toInt → (sy_i F1 12).toInt = (sy_i F 12).toInt → (sy_i F1 13).toInt = (sy_i F 13).toInt → (sy_i F1 14).toInt = (sy_i F 14).toInt → (sy_i F1 15).toInt = (sy_i F 15).toInt → sy_ai F1 31 = sy_ai F 31 → sy_ai F1 35 = sy_ai F 35 → sy_ai F1 39 = sy_ai F 39 → sy_ai F1 40 = sy_ai F 40 → sy_ai F1 41 = sy_ai F 41 → Q (none) (sy_dh F1 X1 X2 (iv_H 4)))
    (k17 : ((sy_ai F 25).getD ((sy_i F 4).toInt).toNat 0).toInt = 23 → 0 ≤ (((sy_ai F 25).getD ((sy_i F 4).toInt).toNat 0).toInt - 22) → ((sy_ai F 25).getD ((sy_i F 4).toInt).toNat 0).toInt ≤ 27 → (sy_i F 6).toInt ≤ 0 → (sy_i F 4).toInt ≠ 400 → ∀ F1 : Nat → sy_d, iv_in F1 iv_B4 → (∀ j, j < 69 → j ∉ ([4] : List Nat) → F1 j = F j) → (sy_i F1 4).toInt = ((sy_i F 4).toInt + 1) → (sy_i F1 5).toInt = (sy_i F 5).toInt → (sy_i F1 6).toInt = (sy_i F 6).toInt → (sy_i F1 11).toInt = (sy_i F 11).toInt → (sy_i F1 12).toInt = (sy_i F 12).toInt → (sy_i F1 13).toInt = (sy_i F 13).toInt → (sy_i F1 14).toInt = (sy_i F 14).toInt → (sy_i F1 15).toInt = (sy_i F 15).toInt → sy_ai F1 31 = sy_ai F 31 → sy_ai F1 35 = sy_ai F 35 → sy_ai F1 39 = sy_ai F 39 → sy_ai F1 40 = sy_ai F 40 → sy_ai F1 41 = sy_ai F 41 → (sy_i F1 69).toInt = (((sy_ai F 25).getD ((sy_i F 4).toInt).toNat 0).toInt - 22) → hd_W Ls xs d jm_M154 Q (233, sy_dL F1 [some (.inl (.ref 1000)), none], sy_dS F1 [.inr (.inl 69), .inl (.ref 1000)], sy_dh F1 X1 X2 (iv_H 4), 0, 0))
    (k18 : ((sy_ai F 25).getD ((sy_i F 4).toInt).toNat 0).toInt = 23 → 0 ≤ (((sy_ai F 25).getD ((sy_i F 4).toInt).toNat 0).toInt - 22) → ((sy_ai F 25).getD ((sy_i F 4).toInt).toNat 0).toInt ≤ 27 → (sy_i F 6).toInt ≤ 0 → (sy_i F 4).toInt = 400 → (sy_i F 6).toInt ≤ 0 → ∀ F1 : Nat → sy_d, iv_in F1 iv_B4 → (∀ j, j < 69 → j ∉ ([6, 7] : List Nat) → F1 j = F j) → (sy_i F1 4).toInt = (sy_i F 4).toInt → (sy_i F1 5).toInt = (sy_i F 5).toInt → (sy_i F1 6).toInt = 2 → (sy_i F1 11).toInt = (sy_i F 11).toInt → (sy_i F1 12).toInt = (sy_i F 12).toInt → (sy_i F1 13).toInt = (sy_i F 13).toInt → (sy_i F1 14).toInt = (sy_i F 14).toInt → (sy_i F1 15).toInt = (sy_i F 15).toInt → sy_ai F1 31 = sy_ai F 31 → sy_ai F1 35 = sy_ai F 35 → sy_ai F1 39 = sy_ai F 39 → sy_ai F1 40 = sy_ai F 40 → sy_ai F1 41 = sy_ai F 41 → (sy_i F1 69).toInt = (((sy_ai F 25).getD ((sy_i F 4).toInt).toNat 0).toInt - 22) → hd_W Ls xs d jm_M154 Q (233, sy_dL F1 [some (.inl (.ref 1000)), none], sy_dS F1 [.inr (.inl 69), .inl (.ref 1000)], sy_dh F1 X1 X2 (iv_H 4), 0, 0))
    (k19 : ((sy_ai F 25).getD ((sy_i F 4).toInt).toNat 0).toInt = 23 → 0 ≤ (((sy_ai F 25).getD ((sy_i F 4).toInt).toNat 0).toInt - 22) → ((sy_ai F 25).getD ((sy_i F 4).toInt).toNat 0).toInt ≤ 27 → 0 < (sy_i F 6).toInt → ∀ F1 : Nat → sy_d, iv_in F1 iv_B4 → (∀ j, j < 69 → j ∉ ([] : List Nat) → F1 j = F j) → (sy_i F1 4).toInt = (sy_i F 4).toInt → (sy_i F1 5).toInt = (sy_i F 5).toInt → (sy_i F1 6).toInt = (sy_i F 6).toInt → (sy_i F1 11).toInt = (sy_i F 11).toInt → (sy_i F1 12).toInt = (sy_i F 12).toInt → (sy_i F1 13).toInt = (sy_i F 13).toInt → (sy_i F1 14).toInt = (sy_i F 14).toInt → (sy_i F1 15).toInt = (sy_i F 15).toInt → sy_ai F1 31 = sy_ai F 31 → sy_ai F1 35 = sy_ai F 35 → sy_ai F1 39 = sy_ai F 39 → sy_ai F1 40 = sy_ai F 40 → sy_ai F1 41 = sy_ai F 41 → Q (none) (sy_dh F1 X1 X2 (iv_H 4)))
    (k20 : ((sy_ai F 25).getD ((sy_i F 4).toInt).toNat 0).toInt = 24 → 0 ≤ (((sy_ai F 25).getD ((sy_i F 4).toInt).toNat 0).toInt - 22) → ((sy_ai F 25).getD ((sy_i F 4).toInt).toNat 0).toInt ≤ 27 → (sy_i F 6).toInt ≤ 0 → (sy_i F 4).toInt ≠ 400 → ∀ F1 : Nat → sy_d, iv_in F1 iv_B4 → (∀ j, j < 69 → j ∉ ([4] : List Nat) → F1 j = F j) → (sy_i F1 4).toInt = ((sy_i F 4).toInt + 1) → (sy_i F1 5).toInt = (sy_i F 5).toInt → (sy_i F1 6).toInt = (sy_i F 6).toInt → (sy_i F1 11).toInt = (sy_i F 11).toInt → (sy_i F1 12).toInt = (sy_i F 12).toInt → (sy_i F1 13).toInt = (sy_i F 13).toInt → (sy_i F1 14).toInt = (sy_i F 14).toInt → (sy_i F1 15).toInt = (sy_i F 15).toInt → sy_ai F1 31 = sy_ai F 31 → sy_ai F1 35 = sy_ai F 35 → sy_ai F1 39 = sy_ai F 39 → sy_ai F1 40 = sy_ai F 40 → sy_ai F1 41 = sy_ai F 41 → (sy_i F1 69).toInt = (((sy_ai F 25).getD ((sy_i F 4).toInt).toNat 0).toInt - 22) → hd_W Ls xs d jm_M154 Q (233, sy_dL F1 [some (.inl (.ref 1000)), none], sy_dS F1 [.inr (.inl 69), .inl (.ref 1000)], sy_dh F1 X1 X2 (iv_H 4), 0, 0))
    (k21 : ((sy_ai F 25).getD ((sy_i F 4).toInt).toNat 0).toInt = 24 → 0 ≤ (((sy_ai F 25).getD ((sy_i F 4).toInt).toNat 0).toInt - 22) → ((sy_ai F 25).getD ((sy_i F 4).toInt).toNat 0).toInt ≤ 27 → (sy_i F 6).toInt ≤ 0 → (sy_i F 4).toInt = 400 → (sy_i F 6).toInt ≤ 0 → ∀ F1 : Nat → sy_d, iv_in F1 iv_B4 → (∀ j, j < 69 → j ∉ ([6, 7] : List Nat) → F1 j = F j) → (sy_i F1 4).toInt = (sy_i F 4).toInt → (sy_i F1 5).toInt = (sy_i F 5).toInt → (sy_i F1 6).toInt = 2 → (sy_i F1 11).toInt = (sy_i F 11).toInt → (sy_i F1 12).toInt = (sy_i F 12).toInt → (sy_i F1 13).toInt = (sy_i F 13).toInt → (sy_i F1 14).toInt = (sy_i F 14).toInt → (sy_i F1 15).toInt = (sy_i F 15).toInt → sy_ai F1 31 = sy_ai F 31 → sy_ai F1 35 = sy_ai F 35 → sy_ai F1 39 = sy_ai F 39 → sy_ai F1 40 = sy_ai F 40 → sy_ai F1 41 = sy_ai F 41 → (sy_i F1 69).toInt = (((sy_ai F 25).getD ((sy_i F 4).toInt).toNat 0).toInt - 22) → hd_W Ls xs d jm_M154 Q (233, sy_dL F1 [some (.inl (.ref 1000)), none], sy_dS F1 [.inr (.inl 69), .inl (.ref 1000)], sy_dh F1 X1 X2 (iv_H 4), 0, 0))
    (k22 : ((sy_ai F 25).getD ((sy_i F 4).toInt).toNat 0).toInt = 24 → 0 ≤ (((sy_ai F 25).getD ((sy_i F 4).toInt).toNat 0).toInt - 22) → ((sy_ai F 25).getD ((sy_i F 4).toInt).toNat 0).toInt ≤ 27 → 0 < (sy_i F 6).toInt → ∀ F1 : Nat → sy_d, iv_in F1 iv_B4 → (∀ j, j < 69 → j ∉ ([] : List Nat) → F1 j = F j) → (sy_i F1 4).toInt = (sy_i F 4).toInt → (sy_i F1 5).toInt = (sy_i F 5).toInt → (sy_i F1 6).toInt = (sy_i F 6).toInt → (sy_i F1 11).toInt = (sy_i F 11).toInt → (sy_i F1 12).toInt = (sy_i F 12).toInt → (sy_i F1 13).toInt = (sy_i F 13).toInt → (sy_i F1 14).toInt = (sy_i F 14).toInt → (sy_i F1 15).toInt = (sy_i F 15).toInt → sy_ai F1 31 = sy_ai F 31 → sy_ai F1 35 = sy_ai F 35 → sy_ai F1 39 = sy_ai F 39 → sy_ai F1 40 = sy_ai F 40 → sy_ai F1 41 = sy_ai F 41 → Q (none) (sy_dh F1 X1 X2 (iv_H 4)))
    (k23 : ((sy_ai F 25).getD ((sy_i F 4).toInt).toNat 0).toInt = 25 → 0 ≤ (((sy_ai F 25).getD ((sy_i F 4).toInt).toNat 0).toInt - 22) → ((sy_ai F 25).getD ((sy_i F 4).toInt).toNat 0).toInt ≤ 27 → (sy_i F 6).toInt ≤ 0 → (sy_i F 4).toInt ≠ 400 → ∀ F1 : Nat → sy_d, iv_in F1 iv_B4 → (∀ j, j < 69 → j ∉ ([4] : List Nat) → F1 j = F j) → (sy_i F1 4).toInt = ((sy_i F 4).toInt + 1) → (sy_i F1 5).toInt = (sy_i F 5).toInt → (sy_i F1 6).toInt = (sy_i F 6).toInt → (sy_i F1 11).toInt = (sy_i F 11).toInt → (sy_i F1 12).toInt = (sy_i F 12).toInt → (sy_i F1 13).toInt = (sy_i F 13).toInt → (sy_i F1 14).toInt = (sy_i F 14).toInt → (sy_i F1 15).toInt = (sy_i F 15).toInt → sy_ai F1 31 = sy_ai F 31 → sy_ai F1 35 = sy_ai F 35 → sy_ai F1 39 = sy_ai F 39 → sy_ai F1 40 = sy_ai F 40 → sy_ai F1 41 = sy_ai F 41 → (sy_i F1 69).toInt = (((sy_ai F 25).getD ((sy_i F 4).toInt).toNat 0).toInt - 22) → hd_W Ls xs d jm_M154 Q (233, sy_dL F1 [some (.inl (.ref 1000)), none], sy_dS F1 [.inr (.inl 69), .inl (.ref 1000)], sy_dh F1 X1 X2 (iv_H 4), 0, 0))
    (k24 : ((sy_ai F 25).getD ((sy_i F 4).toInt).toNat 0).toInt = 25 → 0 ≤ (((sy_ai F 25).getD ((sy_i F 4).toInt).toNat 0).toInt - 22) → ((sy_ai F 25).getD ((sy_i F 4).toInt).toNat 0).toInt ≤ 27 → (sy_i F 6).toInt ≤ 0 → (sy_i F 4).toInt = 400 → (sy_i F 6).toInt ≤ 0 → ∀ F1 : Nat → sy_d, iv_in F1 iv_B4 → (∀ j, j < 69 → j ∉ ([6, 7] : List Nat) → F1 j = F j) → (sy_i F1 4).toInt = (sy_i F 4).toInt → (sy_i F1 5).toInt = (sy_i F 5).toInt → (sy_i F1 6).toInt = 2 → (sy_i F1 11).toInt = (sy_i F 11).toInt → (sy_i F1 12).toInt = (sy_i F 12).toInt → (sy_i F1 13).toInt = (sy_i F 13).toInt → (sy_i F1 14).toInt = (sy_i F 14).toInt → (sy_i F1 15).toInt = (sy_i F 15).toInt → sy_ai F1 31 = sy_ai F 31 → sy_ai F1 35 = sy_ai F 35 → sy_ai F1 39 = sy_ai F 39 → sy_ai F1 40 = sy_ai F 40 → sy_ai F1 41 = sy_ai F 41 → (sy_i F1 69).toInt = (((sy_ai F 25).getD ((sy_i F 4).toInt).toNat 0).toInt - 22) → hd_W Ls xs d jm_M154 Q (233, sy_dL F1 [some (.inl (.ref 1000)), none], sy_dS F1 [.inr (.inl 69), .inl (.ref 1000)], sy_dh F1 X1 X2 (iv_H 4), 0, 0))
    (k25 : ((sy_ai F 25).getD ((sy_i F 4).toInt).toNat 0).toInt = 25 → 0 ≤ (((sy_ai F 25).getD ((sy_i F 4).toInt).toNat 0).toInt - 22) → ((sy_ai F 25).getD ((sy_i F 4).toInt).toNat 0).toInt ≤ 27 → 0 < (sy_i F 6).toInt → ∀ F1 : Nat → sy_d, iv_in F1 iv_B4 → (∀ j, j < 69 → j ∉ ([] : List Nat) → F1 j = F j) → (sy_i F1 4).toInt = (sy_i F 4).toInt → (sy_i F1 5).toInt = (sy_i F 5).toInt → (sy_i F1 6).toInt = (sy_i F 6).toInt → (sy_i F1 11).toInt = (sy_i F 11).toInt → (sy_i F1 12).toInt = (sy_i F 12).toInt → (sy_i F1 13).toInt = (sy_i F 13).toInt → (sy_i F1 14).toInt = (sy_i F 14).toInt → (sy_i F1 15).toInt = (sy_i F 15).toInt → sy_ai F1 31 = sy_ai F 31 → sy_ai F1 35 = sy_ai F 35 → sy_ai F1 39 = sy_ai F 39 → sy_ai F1 40 = sy_ai F 40 → sy_ai F1 41 = sy_ai F 41 → Q (none) (sy_dh F1 X1 X2 (iv_H 4)))
    (k26 : ((sy_ai F 25).getD ((sy_i F 4).toInt).toNat 0).toInt = 26 → 0 ≤ (((sy_ai F 25).getD ((sy_i F 4).toInt).toNat 0).toInt - 22) → ((sy_ai F 25).getD ((sy_i F 4).toInt).toNat 0).toInt ≤ 27 → (sy_i F 6).toInt ≤ 0 → (sy_i F 4).toInt ≠ 400 → ∀ F1 : Nat → sy_d, iv_in F1 iv_B4 → (∀ j, j < 69 → j ∉ ([4] : List Nat) → F1 j = F j) → (sy_i F1 4).toInt = ((sy_i F 4).toInt + 1) → (sy_i F1 5).toInt = (sy_i F 5).toInt → (sy_i F1 6).toInt = (sy_i F 6).toInt → (sy_i F1 11).toInt = (sy_i F 11).toInt → (sy_i F1 12).toInt = (sy_i F 12).toInt → (sy_i F1 13).toInt = (sy_i F 13).toInt → (sy_i F1 14).toInt = (sy_i F 14).toInt → (sy_i F1 15).toInt = (sy_i F 15).toInt → sy_ai F1 31 = sy_ai F 31 → sy_ai F1 35 = sy_ai F 35 → sy_ai F1 39 = sy_ai F 39 → sy_ai F1 40 = sy_ai F 40 → sy_ai F1 41 = sy_ai F 41 → (sy_i F1 69).toInt = (((sy_ai F 25).getD ((sy_i F 4).toInt).toNat 0).toInt - 22) → hd_W Ls xs d jm_M154 Q (233, sy_dL F1 [some (.inl (.ref 1000)), none], sy_dS F1 [.inr (.inl 69), .inl (.ref 1000)], sy_dh F1 X1 X2 (iv_H 4), 0, 0))
    (k27 : ((sy_ai F 25).getD ((sy_i F 4).toInt).toNat 0).toInt = 26 → 0 ≤ (((sy_ai F 25).getD ((sy_i F 4).toInt).toNat 0).toInt - 22) → ((sy_ai F 25).getD ((sy_i F 4).toInt).toNat 0).toInt ≤ 27 → (sy_i F 6).toInt ≤ 0 → (sy_i F 4).toInt = 400 → (sy_i F 6).toInt ≤ 0 → ∀ F1 : Nat → sy_d, iv_in F1 iv_B4 → (∀ j, j < 69 → j ∉ ([6, 7] : List Nat) → F1 j = F j) → (sy_i F1 4).toInt = (sy_i F 4).toInt → (sy_i F1 5).toInt = (sy_i F 5).toInt → (sy_i F1 6).toInt = 2 → (sy_i F1 11).toInt = (sy_i F 11).toInt → (sy_i F1 12).toInt = (sy_i F 12).toInt → (sy_i F1 13).toInt = (sy_i F 13).toInt → (sy_i F1 14).toInt = (sy_i F 14).toInt → (sy_i F1 15).toInt = (sy_i F 15).toInt → sy_ai F1 31 = sy_ai F 31 → sy_ai F1 35 = sy_ai F 35 → sy_ai F1 39 = sy_ai F 39 → sy_ai F1 40 = sy_ai F 40 → sy_ai F1 41 = sy_ai F 41 → (sy_i F1 69).toInt = (((sy_ai F 25).getD ((sy_i F 4).toInt).toNat 0).toInt - 22) → hd_W Ls xs d jm_M154 Q (233, sy_dL F1 [some (.inl (.ref 1000)), none], sy_dS F1 [.inr (.inl 69), .inl (.ref 1000)], sy_dh F1 X1 X2 (iv_H 4), 0, 0))
    (k28 : ((sy_ai F 25).getD ((sy_i F 4).toInt).toNat 0).toInt = 26 → 0 ≤ (((sy_ai F 25).getD ((sy_i F 4).toInt).toNat 0).toInt - 22) → ((sy_ai F 25).getD ((sy_i F 4).toInt).toNat 0).toInt ≤ 27 → 0 < (sy_i F 6).toInt → ∀ F1 : Nat → sy_d, iv_in F1 iv_B4 → (∀ j, j < 69 → j ∉ ([] : List Nat) → F1 j = F j) → (sy_i F1 4).toInt = (sy_i F 4).toInt → (sy_i F1 5).toInt = (sy_i F 5).toInt → (sy_i F1 6).toInt = (sy_i F 6).toInt → (sy_i F1 11).toInt = (sy_i F 11).toInt → (sy_i F1 12).toInt = (sy_i F 12).toInt → (sy_i F1 13).toInt = (sy_i F 13).toInt → (sy_i F1 14).toInt = (sy_i F 14).toInt → (sy_i F1 15).toInt = (sy_i F 15).toInt → sy_ai F1 31 = sy_ai F 31 → sy_ai F1 35 = sy_ai F 35 → sy_ai F1 39 = sy_ai F 39 → sy_ai F1 40 = sy_ai F 40 → sy_ai F1 41 = sy_ai F 41 → Q (none) (sy_dh F1 X1 X2 (iv_H 4)))
    (k29 : ((sy_ai F 25).getD ((sy_i F 4).toInt).toNat 0).toInt = 27 → 0 ≤ (((sy_ai F 25).getD ((sy_i F 4).toInt).toNat 0).toInt - 22) → ((sy_ai F 25).getD ((sy_i F 4).toInt).toNat 0).toInt ≤ 27 → (sy_i F 6).toInt ≤ 0 → (sy_i F 4).toInt ≠ 400 → ∀ F1 : Nat → sy_d, iv_in F1 iv_B4 → (∀ j, j < 69 → j ∉ ([4] : List Nat) → F1 j = F j) → (sy_i F1 4).toInt = ((sy_i F 4).toInt + 1) → (sy_i F1 5).toInt = (sy_i F 5).toInt → (sy_i F1 6).toInt = (sy_i F 6).toInt → (sy_i F1 11).toInt = (sy_i F 11).toInt → (sy_i F1 12).toInt = (sy_i F 12).toInt → (sy_i F1 13).toInt = (sy_i F 13).toInt → (sy_i F1 14).toInt = (sy_i F 14).toInt → (sy_i F1 15).toInt = (sy_i F 15).toInt → sy_ai F1 31 = sy_ai F 31 → sy_ai F1 35 = sy_ai F 35 → sy_ai F1 39 = sy_ai F 39 → sy_ai F1 40 = sy_ai F 40 → sy_ai F1 41 = sy_ai F 41 → (sy_i F1 69).toInt = (((sy_ai F 25).getD ((sy_i F 4).toInt).toNat 0).toInt - 22) → hd_W Ls xs d jm_M154 Q (233, sy_dL F1 [some (.inl (.ref 1000)), none], sy_dS F1 [.inr (.inl 69), .inl (.ref 1000)], sy_dh F1 X1 X2 (iv_H 4), 0, 0))
    (k30 : ((sy_ai F 25).getD ((sy_i F 4).toInt).toNat 0).toInt = 27 → 0 ≤ (((sy_ai F 25).getD ((sy_i F 4).toInt).toNat 0).toInt - 22) → ((sy_ai F 25).getD ((sy_i F 4).toInt).toNat 0).toInt ≤ 27 → (sy_i F 6).toInt ≤ 0 → (sy_i F 4).toInt = 400 → (sy_i F 6).toInt ≤ 0 → ∀ F1 : Nat → sy_d, iv_in F1 iv_B4 → (∀ j, j < 69 → j ∉ ([6, 7] : List Nat) → F1 j = F j) → (sy_i F1 4).toInt = (sy_i F 4).toInt → (sy_i F1 5).toInt = (sy_i F 5).toInt → (sy_i F1 6).toInt = 2 → (sy_i F1 11).toInt = (sy_i F 11).toInt → (sy_i F1 12).toInt = (sy_i F 12).toInt → (sy_i F1 13).toInt = (sy_i F 13).toInt → (sy_i F1 14).toInt = (sy_i F 14).toInt → (sy_i F1 15).toInt = (sy_i F 15).toInt → sy_ai F1 31 = sy_ai F 31 → sy_ai F1 35 = sy_ai F 35 → sy_ai F1 39 = sy_ai F 39 → sy_ai F1 40 = sy_ai F 40 → sy_ai F1 41 = sy_ai F 41 → (sy_i F1 69).toInt = (((sy_ai F 25).getD ((sy_i F 4).toInt).toNat 0).toInt - 22) → hd_W Ls xs d jm_M154 Q (233, sy_dL F1 [some (.inl (.ref 1000)), none], sy_dS F1 [.inr (.inl 69), .inl (.ref 1000)], sy_dh F1 X1 X2 (iv_H 4), 0, 0))
    (k31 : ((sy_ai F 25).getD ((sy_i F 4).toInt).toNat 0).toInt = 27 → 0 ≤ (((sy_ai F 25).getD ((sy_i F 4).toInt).toNat 0).toInt - 22) → ((sy_ai F 25).getD ((sy_i F 4).toInt).toNat 0).toInt ≤ 27 → 0 < (sy_i F 6).toInt → ∀ F1 : Nat → sy_d, iv_in F1 iv_B4 → (∀ j, j < 69 → j ∉ ([] : List Nat) → F1 j = F j) → (sy_i F1 4).toInt = (sy_i F 4).toInt → (sy_i F1 5).toInt = (sy_i F 5).toInt → (sy_i F1 6).toInt = (sy_i F 6).toInt → (sy_i F1 11).toInt = (sy_i F 11).toInt → (sy_i F1 12).toInt = (sy_i F 12).toInt → (sy_i F1 13).toInt = (sy_i F 13).toInt → (sy_i F1 14).toInt = (sy_i F 14).toInt → (sy_i F1 15).toInt = (sy_i F 15).toInt → sy_ai F1 31 = sy_ai F 31 → sy_ai F1 35 = sy_ai F 35 → sy_ai F1 39 = sy_ai F 39 → sy_ai F1 40 = sy_ai F 40 → sy_ai F1 41 = sy_ai F 41 → Q (none) (sy_dh F1 X1 X2 (iv_H 4)))
    (k32 : ((sy_ai F 25).getD ((sy_i F 4).toInt).toNat 0).toInt = 28 → ∀ F1 : Nat → sy_d, iv_in F1 iv_B4 → (∀ j, j < 69 → j ∉ ([] : List Nat) → F1 j = F j) → (sy_i F1 4).toInt = (sy_i F 4).toInt → (sy_i F1 5).toInt = (sy_i F 5).toInt → (sy_i F1 6).toInt = (sy_i F 6).toInt → (sy_i F1 11).toInt = (sy_i F 11).toInt → (sy_i F1 12).toInt = (sy_i F 12).toInt → (sy_i F1 13).toInt = (sy_i F 13).toInt → (sy_i F1 14).toInt = (sy_i F 14).toInt → (sy_i F1 15).toInt = (sy_i F 15).toInt → sy_ai F1 31 = sy_ai F 31 → sy_ai F1 35 = sy_ai F 35 → sy_ai F1 39 = sy_ai F 39 → sy_ai F1 40 = sy_ai F 40 → sy_ai F1 41 = sy_ai F 41 → (sy_i F1 69).toInt = (sy_i F 12).toInt → hd_W Ls xs d jm_M154 Q (137, sy_dL F1 [some (.inl (.ref 1000)), none], sy_dS F1 [.inl (.int 99), .inl (.int 0), .inl (.ref 1000), .inr (.inl 69), .inl (.ref 1017)], sy_dh F1 X1 X2 (iv_H 4), 0, 0))
    (k33 : ((sy_ai F 25).getD ((sy_i F 4).toInt).toNat 0).toInt = 29 → ∀ F1 : Nat → sy_d, iv_in F1 iv_B4 → (∀ j, j < 69 → j ∉ ([] : List Nat) → F1 j = F j) → (sy_i F1 4).toInt = (sy_i F 4).toInt → (sy_i F1 5).toInt = (sy_i F 5).toInt → (sy_i F1 6).toInt = (sy_i F 6).toInt → (sy_i F1 11).toInt = (sy_i F 11).toInt → (sy_i F1 12).toInt = (sy_i F 12).toInt → (sy_i F1 13).toInt = (sy_i F 13).toInt → (sy_i F1 14).toInt = (sy_i F 14).toInt → (sy_i F1 15).toInt = (sy_i F 15).toInt → sy_ai F1 31 = sy_ai F 31 → sy_ai F1 35 = sy_ai F 35 → sy_ai F1 39 = sy_ai F 39 → sy_ai F1 40 = sy_ai F 40 → sy_ai F1 41 = sy_ai F 41 → (sy_i F1 69).toInt = (sy_i F 12).toInt → hd_W Ls xs d jm_M154 Q (156, sy_dL F1 [some (.inl (.ref 1000)), none], sy_dS F1 [.inl (.int 99), .inl (.int 0), .inl (.ref 1000), .inr (.inl 69), .inl (.ref 1018)], sy_dh F1 X1 X2 (iv_H 4), 0, 0))
    (k34 : ((sy_ai F 25).getD ((sy_i F 4).toInt).toNat 0).toInt = 30 → ∀ F1 : Nat → sy_d, iv_in F1 iv_B4 → (∀ j, j < 69 → j ∉ ([] : List Nat) → F1 j = F j) → (sy_i F1 4).toInt = (sy_i F 4).toInt → (sy_i F1 5).toInt = (sy_i F 5).toInt → (sy_i F1 6).toInt = (sy_i F 6).toInt → (sy_i F1 11).toInt = (sy_i F 11).toInt → (sy_i F1 12).toInt = (sy_i F 12).toInt → (sy_i F1 13).toInt = (sy_i F 13).toInt → (sy_i F1 14).toInt = (sy_i F 14).toInt → (sy_i F1 15).toInt = (sy_i F 15).toInt → sy_ai F1 31 = sy_ai F 31 → sy_ai F1 35 = sy_ai F 35 → sy_ai F1 39 = sy_ai F 39 → sy_ai F1 40 = sy_ai F 40 → sy_ai F1 41 = sy_ai F 41 → (sy_i F1 69).toInt = (sy_i F 12).toInt → hd_W Ls xs d jm_M154 Q (176, sy_dL F1 [some (.inl (.ref 1000)), none], sy_dS F1 [.inl (.int 9999), .inl (.int 0), .inl (.ref 1000), .inr (.inl 69), .inl (.ref 1019)], sy_dh F1 X1 X2 (iv_H 4), 0, 0)) :
    hd_W Ls xs d jm_M154 Q (0, sy_dL F [some (.inl (.ref 1000)), none], sy_dS F [], sy_dh F X1 X2 (iv_H 4), 0, 0) := by
  by_cases g0 : ((sy_ai F 25).getD ((sy_i F 4).toInt).toNat 0).toInt < 20
  · by_cases g1 : (((sy_ai F 25).getD ((sy_i F 4).toInt).toNat 0).toInt - 22) < 0
    · by_cases g2 : (sy_i F 6).toInt ≤ 0
      · have c4 := nz_bx hB (k := 4) (lo := 0) (hi := 400) rfl
        have q69 : (sy_ai F 25).getD (sy_i F 4).toNatClampNeg 0 = (sy_ai F 25).getD ((sy_i F 4).toInt).toNat 0 := by simp only [nz_c]
        have n69 : ((sy_ai F 25).getD (sy_i F 4).toNatClampNeg 0).toInt = ((sy_ai F 25).getD ((sy_i F 4).toInt).toNat 0).toInt := congrArg Int32.toInt q69
        have r69 := nz_ba hB (k := 25) (lo := 0) (hi := 42) rfl ((sy_i F 4).toInt).toNat
        have q70 : (sy_ai F 25).getD (sy_i F 4).toNatClampNeg 0 = (sy_ai F 25).getD ((sy_i F 4).toInt).toNat 0 := by simp only [nz_c]
        have n70 : ((sy_ai F 25).getD (sy_i F 4).toNatClampNeg 0).toInt = ((sy_ai F 25).getD ((sy_i F 4).toInt).toNat 0).toInt := congrArg Int32.toInt q70
        have r70 := nz_ba hB (k := 25) (lo := 0) (hi := 42) rfl ((sy_i F 4).toInt).toNat
        have n71 : (((sy_ai F 25).getD (sy_i F 4).toNatClampNeg 0) - ((22 : Int32))).toInt = (((sy_ai F 25).getD ((sy_i F 4).toInt).toNat 0).toInt - 22) := nz_sub n70 (by decide : ((22 : Int32)).toInt = 22) (by omega) (by omega)
        have c6 := nz_bx hB (k := 6) (lo := 0) (hi := 2) rfl
        have q72 : (sy_ai F 26).getD (sy_i F 4).toNatClampNeg 0 = (sy_ai F 26).getD ((sy_i F 4).toInt).toNat 0 := by simp only [nz_c]
        have n72 : ((sy_ai F 26).getD (sy_i F 4).toNatClampNeg 0).toInt = ((sy_ai F 26).getD ((sy_i F 4).toInt).toNat 0).toInt := congrArg Int32.toInt q72
        exact to_0_p0 hd F X1 X2 hB (by first | exact ⟨by omega, by omega⟩ | (simp only [nz_c]; exact ⟨by omega, by omega⟩)) (by first | exact g0 | (simp only [nz_c]; exact g0) | (rw [n69]; exact g0)) (by first | exact ⟨by omega, by omega⟩ | (simp only [nz_c]; exact ⟨by omega, by omega⟩)) (by first | exact g1 | (simp only [nz_c, n71]; exact g1) | (rw [n71]; exact g1)) (by first | exact g2 | (simp only [nz_c]; exact g2)) (by first | exact ⟨by omega, by omega⟩ | (simp only [nz_c]; exact ⟨by omega, by omega⟩)) (fun F1 g e6 e7 => k0 g0 g1 g2 F1 (nz_in hB [6, 7] (fun j hj hn => g j hj (by simp only [List.mem_cons, List.not_mem_nil, or_false, not_or] at hn; omega)) (List.forall_mem_cons.mpr ⟨fun t ht => (Option.some.inj ht) ▸ (nz_hi e6 (by decide : ((1 : Int32)).toInt = 1) (by omega) (by omega)), List.forall_mem_cons.mpr ⟨fun t ht => (Option.some.inj ht) ▸ (nz_hz e7), List.forall_mem_nil _⟩⟩)) (fun j hj hn => g j hj (by simp only [List.mem_cons, List.not_mem_nil, or_false, not_or] at hn; omega)) (nz_fi (g 4 (by decide) (by decide))) (nz_fi (g 5 (by decide) (by decide))) ((congrArg Int32.toInt (zz_i e6)).trans (by decide : ((1 : Int32)).toInt = 1)) (nz_fi (g 11 (by decide) (by decide))) (nz_fi (g 12 (by decide) (by decide))) (nz_fi (g 13 (by decide) (by decide))) (nz_fi (g 14 (by decide) (by decide))) (nz_fi (g 15 (by decide) (by decide))) (nz_fa (g 31 (by decide) (by decide))) (nz_fa (g 35 (by decide) (by decide))) (nz_fa (g 39 (by decide) (by decide))) (nz_fa (g 40 (by decide) (by decide))) (nz_fa (g 41 (by decide) (by decide))))
      replace g2 : 0 < (sy_i F 6).toInt := by omega
      by_cases g3 : (sy_i F 6).toInt ≤ 0
      · have c4 := nz_bx hB (k := 4) (lo := 0) (hi := 400) rfl
        have q69 : (sy_ai F 25).getD (sy_i F 4).toNatClampNeg 0 = (sy_ai F 25).getD ((sy_i F 4).toInt).toNat 0 := by simp only [nz_c]
        have n69 : ((sy_ai F 25).getD (sy_i F 4).toNatClampNeg 0).toInt = ((sy_ai F 25).getD ((sy_i F 4).toInt).toNat 0).toInt := congrArg Int32.toInt q69
        have r69 := nz_ba hB (k := 25) (lo := 0) (hi := 42) rfl ((sy_i F 4).toInt).toNat
        have q70 : (sy_ai F 25).getD (sy_i F 4).toNatClampNeg 0 = (sy_ai F 25).getD ((sy_i F 4).toInt).toNat 0 := by simp only [nz_c]
        have n70 : ((sy_ai F 25).getD (sy_i F 4).toNatClampNeg 0).toInt = ((sy_ai F 25).getD ((sy_i F 4).toInt).toNat 0).toInt := congrArg Int32.toInt q70
        have r70 := nz_ba hB (k := 25) (lo := 0) (hi := 42) rfl ((sy_i F 4).toInt).toNat
        have n71 : (((sy_ai F 25).getD (sy_i F 4).toNatClampNeg 0) - ((22 : Int32))).toInt = (((sy_ai F 25).getD ((sy_i F 4).toInt).toNat 0).toInt - 22) := nz_sub n70 (by decide : ((22 : Int32)).toInt = 22) (by omega) (by omega)
        have c6 := nz_bx hB (k := 6) (lo := 0) (hi := 2) rfl
        exfalso
        omega
      replace g3 : 0 < (sy_i F 6).toInt := by omega
      have c4 := nz_bx hB (k := 4) (lo := 0) (hi := 400) rfl
      have q69 : (sy_ai F 25).getD (sy_i F 4).toNatClampNeg 0 = (sy_ai F 25).getD ((sy_i F 4).toInt).toNat 0 := by simp only [nz_c]
      have n69 : ((sy_ai F 25).getD (sy_i F 4).toNatClampNeg 0).toInt = ((sy_ai F 25).getD ((sy_i F 4).toInt).toNat 0).toInt := congrArg Int32.toInt q69
      have r69 := nz_ba hB (k := 25) (lo := 0) (hi := 42) rfl ((sy_i F 4).toInt).toNat
      have q70 : (sy_ai F 25).getD (sy_i F 4).toNatClampNeg 0 = (sy_ai F 25).getD ((sy_i F 4).toInt).toNat 0 := by simp only [nz_c]
      have n70 : ((sy_ai F 25).getD (sy_i F 4).toNatClampNeg 0).toInt = ((sy_ai F 25).getD ((sy_i F 4).toInt).toNat 0).toInt := congrArg Int32.toInt q70
      have r70 := nz_ba hB (k := 25) (lo := 0) (hi := 42) rfl ((sy_i F 4).toInt).toNat
      have n71 : (((sy_ai F 25).getD (sy_i F 4).toNatClampNeg 0) - ((22 : Int32))).toInt = (((sy_ai F 25).getD ((sy_i F 4).toInt).toNat 0).toInt - 22) := nz_sub n70 (by decide : ((22 : Int32)).toInt = 22) (by omega) (by omega)
      have c6 := nz_bx hB (k := 6) (lo := 0) (hi := 2) rfl
      exact to_0_p1 hd F X1 X2 hB (by first | exact ⟨by omega, by omega⟩ | (simp only [nz_c]; exact ⟨by omega, by omega⟩)) (by first | exact g0 | (simp only [nz_c]; exact g0) | (rw [n69]; exact g0)) (by first | exact ⟨by omega, by omega⟩ | (simp only [nz_c]; exact ⟨by omega, by omega⟩)) (by first | exact g1 | (simp only [nz_c, n71]; exact g1) | (rw [n71]; exact g1)) (by first | exact g2 | (simp only [nz_c]; exact g2)) (by first | exact g3 | (simp only [nz_c]; exact g3)) (fun F1 g  => k1 g0 g1 g2 g3 F1 (nz_in hB [] (fun j hj hn => g j hj (by simp only [List.mem_cons, List.not_mem_nil, or_false, not_or] at hn; exact trivial)) (List.forall_mem_nil _)) (fun j hj hn => g j hj (by simp only [List.mem_cons, List.not_mem_nil, or_false, not_or] at hn; exact trivial)) (nz_fi (g 4 (by decide) (by decide))) (nz_fi (g 5 (by decide) (by decide))) (nz_fi (g 6 (by decide) (by decide))) (nz_fi (g 11 (by decide) (by decide))) (nz_fi (g 12 (by decide) (by decide))) (nz_fi (g 13 (by decide) (by decide))) (nz_fi (g 14 (by decide) (by decide))) (nz_fi (g 15 (by decide) (by decide))) (nz_fa (g 31 (by decide) (by decide))) (nz_fa (g 35 (by decide) (by decide))) (nz_fa (g 39 (by decide) (by decide))) (nz_fa (g 40 (by decide) (by decide))) (nz_fa (g 41 (by decide) (by decide))))
    replace g1 : 0 ≤ (((sy_ai F 25).getD ((sy_i F 4).toInt).toNat 0).toInt - 22) := by omega
    have c4 := nz_bx hB (k := 4) (lo := 0) (hi := 400) rfl
    have q69 : (sy_ai F 25).getD (sy_i F 4).toNatClampNeg 0 = (sy_ai F 25).getD ((sy_i F 4).toInt).toNat 0 := by simp only [nz_c]
    have n69 : ((sy_ai F 25).getD (sy_i F 4).toNatClampNeg 0).toInt = ((sy_ai F 25).getD ((sy_i F 4).toInt).toNat 0).toInt := congrArg Int32.toInt q69
    have r69 := nz_ba hB (k := 25) (lo := 0) (hi := 42) rfl ((sy_i F 4).toInt).toNat
    have q70 : (sy_ai F 25).getD (sy_i F 4).toNatClampNeg 0 = (sy_ai F 25).getD ((sy_i F 4).toInt).toNat 0 := by simp only [nz_c]
    have n70 : ((sy_ai F 25).getD (sy_i F 4).toNatClampNeg 0).toInt = ((sy_ai F 25).getD ((sy_i F 4).toInt).toNat 0).toInt := congrArg Int32.toInt q70
    have r70 := nz_ba hB (k := 25) (lo := 0) (hi := 42) rfl ((sy_i F 4).toInt).toNat
    have n71 : (((sy_ai F 25).getD (sy_i F 4).toNatClampNeg 0) - ((22 : Int32))).toInt = (((sy_ai F 25).getD ((sy_i F 4).toInt).toNat 0).toInt - 22) := nz_sub n70 (by decide : ((22 : Int32)).toInt = 22) (by omega) (by omega)
    exfalso
    omega
  have y0_0 := g0
  clear g0
  by_cases g0 : 30 < ((sy_ai F 25).getD ((sy_i F 4).toInt).toNat 0).toInt
  · by_cases g1 : (((sy_ai F 25).getD ((sy_i F 4).toInt).toNat 0).toInt - 22) < 0
    · have c4 := nz_bx hB (k := 4) (lo := 0) (hi := 400) rfl
      have q69 : (sy_ai F 25).getD (sy_i F 4).toNatClampNeg 0 = (sy_ai F 25).getD ((sy_i F 4).toInt).toNat 0 := by simp only [nz_c]
      have n69 : ((sy_ai F 25).getD (sy_i F 4).toNatClampNeg 0).toInt = ((sy_ai F 25).getD ((sy_i F 4).toInt).toNat 0).toInt := congrArg Int32.toInt q69
      have r69 := nz_ba hB (k := 25) (lo := 0) (hi := 42) rfl ((sy_i F 4).toInt).toNat
      have q70 : (sy_ai F 25).getD (sy_i F 4).toNatClampNeg 0 = (sy_ai F 25).getD ((sy_i F 4).toInt).toNat 0 := by simp only [nz_c]
      have n70 : ((sy_ai F 25).getD (sy_i F 4).toNatClampNeg 0).toInt = ((sy_ai F 25).getD ((sy_i F 4).toInt).toNat 0).toInt := congrArg Int32.toInt q70
      have r70 := nz_ba hB (k := 25) (lo := 0) (hi := 42) rfl ((sy_i F 4).toInt).toNat
      have n71 : (((sy_ai F 25).getD (sy_i F 4).toNatClampNeg 0) - ((22 : Int32))).toInt = (((sy_ai F 25).getD ((sy_i F 4).toInt).toNat 0).toInt - 22) := nz_sub n70 (by decide : ((22 : Int32)).toInt = 22) (by omega) (by omega)
      exfalso
      omega
    replace g1 : 0 ≤ (((sy_ai F 25).getD ((sy_i F 4).toInt).toNat 0).toInt - 22) := by omega
    by_cases g2 : ((sy_ai F 25).getD ((sy_i F 4).toInt).toNat 0).toInt ≤ 27
    · have c4 := nz_bx hB (k := 4) (lo := 0) (hi := 400) rfl
      have q69 : (sy_ai F 25).getD (sy_i F 4).toNatClampNeg 0 = (sy_ai F 25).getD ((sy_i F 4).toInt).toNat 0 := by simp only [nz_c]
      have n69 : ((sy_ai F 25).getD (sy_i F 4).toNatClampNeg 0).toInt = ((sy_ai F 25).getD ((sy_i F 4).toInt).toNat 0).toInt := congrArg Int32.toInt q69
      have r69 := nz_ba hB (k := 25) (lo := 0) (hi := 42) rfl ((sy_i F 4).toInt).toNat
      have q70 : (sy_ai F 25).getD (sy_i F 4).toNatClampNeg 0 = (sy_ai F 25).getD ((sy_i F 4).toInt).toNat 0 := by simp only [nz_c]
      have n70 : ((sy_ai F 25).getD (sy_i F 4).toNatClampNeg 0).toInt = ((sy_ai F 25).getD ((sy_i F 4).toInt).toNat 0).toInt := congrArg Int32.toInt q70
      have r70 := nz_ba hB (k := 25) (lo := 0) (hi := 42) rfl ((sy_i F 4).toInt).toNat
      have n71 : (((sy_ai F 25).getD (sy_i F 4).toNatClampNeg 0) - ((22 : Int32))).toInt = (((sy_ai F 25).getD ((sy_i F 4).toInt).toNat 0).toInt - 22) := nz_sub n70 (by decide : ((22 : Int32)).toInt = 22) (by omega) (by omega)
      have q72 : (sy_ai F 25).getD (sy_i F 4).toNatClampNeg 0 = (sy_ai F 25).getD ((sy_i F 4).toInt).toNat 0 := by simp only [nz_c]
      have n72 : ((sy_ai F 25).getD (sy_i F 4).toNatClampNeg 0).toInt = ((sy_ai F 25).getD ((sy_i F 4).toInt).toNat 0).toInt := congrArg Int32.toInt q72
      have r72 := nz_ba hB (k := 25) (lo := 0) (hi := 42) rfl ((sy_i F 4).toInt).toNat
      exfalso
      omega
    replace g2 : 27 < ((sy_ai F 25).getD ((sy_i F 4).toInt).toNat 0).toInt := by omega
    by_cases g3 : (sy_i F 6).toInt ≤ 0
    · have c4 := nz_bx hB (k := 4) (lo := 0) (hi := 400) rfl
      have q69 : (sy_ai F 25).getD (sy_i F 4).toNatClampNeg 0 = (sy_ai F 25).getD ((sy_i F 4).toInt).toNat 0 := by simp only [nz_c]
      have n69 : ((sy_ai F 25).getD (sy_i F 4).toNatClampNeg 0).toInt = ((sy_ai F 25).getD ((sy_i F 4).toInt).toNat 0).toInt := congrArg Int32.toInt q69
      have r69 := nz_ba hB (k := 25) (lo := 0) (hi := 42) rfl ((sy_i F 4).toInt).toNat
      have q70 : (sy_ai F 25).getD (sy_i F 4).toNatClampNeg 0 = (sy_ai F 25).getD ((sy_i F 4).toInt).toNat 0 := by simp only [nz_c]
      have n70 : ((sy_ai F 25).getD (sy_i F 4).toNatClampNeg 0).toInt = ((sy_ai F 25).getD ((sy_i F 4).toInt).toNat 0).toInt := congrArg Int32.toInt q70
      have r70 := nz_ba hB (k := 25) (lo := 0) (hi := 42) rfl ((sy_i F 4).toInt).toNat
      have n71 : (((sy_ai F 25).getD (sy_i F 4).toNatClampNeg 0) - ((22 : Int32))).toInt = (((sy_ai F 25).getD ((sy_i F 4).toInt).toNat 0).toInt - 22) := nz_sub n70 (by decide : ((22 : Int32)).toInt = 22) (by omega) (by omega)
      have q72 : (sy_ai F 25).getD (sy_i F 4).toNatClampNeg 0 = (sy_ai F 25).getD ((sy_i F 4).toInt).toNat 0 := by simp only [nz_c]
      have n72 : ((sy_ai F 25).getD (sy_i F 4).toNatClampNeg 0).toInt = ((sy_ai F 25).getD ((sy_i F 4).toInt).toNat 0).toInt := congrArg Int32.toInt q72
      have r72 := nz_ba hB (k := 25) (lo := 0) (hi := 42) rfl ((sy_i F 4).toInt).toNat
      have c6 := nz_bx hB (k := 6) (lo := 0) (hi := 2) rfl
      have q73 : (sy_ai F 26).getD (sy_i F 4).toNatClampNeg 0 = (sy_ai F 26).getD ((sy_i F 4).toInt).toNat 0 := by simp only [nz_c]
      have n73 : ((sy_ai F 26).getD (sy_i F 4).toNatClampNeg 0).toInt = ((sy_ai F 26).getD ((sy_i F 4).toInt).toNat 0).toInt := congrArg Int32.toInt q73
      exact to_0_p2 hd F X1 X2 hB (by first | exact ⟨by omega, by omega⟩ | (simp only [nz_c]; exact ⟨by omega, by omega⟩)) (by first | exact g0 | (simp only [nz_c]; exact g0) | (rw [n69]; exact g0)) (by first | exact ⟨by omega, by omega⟩ | (simp only [nz_c]; exact ⟨by omega, by omega⟩)) (by first | exact g1 | (simp only [nz_c, n71]; exact g1) | (rw [n71]; exact g1)) (by first | exact ⟨by omega, by omega⟩ | (simp only [nz_c]; exact ⟨by omega, by omega⟩)) (by first | exact g2 | (simp only [nz_c]; exact g2) | (rw [n72]; exact g2)) (by first | exact g3 | (simp only [nz_c]; exact g3)) (by first | exact ⟨by omega, by omega⟩ | (simp only [nz_c]; exact ⟨by omega, by omega⟩)) (fun F1 g e6 e7 => k2 g0 g1 g2 g3 F1 (nz_in hB [6, 7] (fun j hj hn => g j hj (by simp only [List.mem_cons, List.not_mem_nil, or_false, not_or] at hn; omega)) (List.forall_mem_cons.mpr ⟨fun t ht => (Option.some.inj ht) ▸ (nz_hi e6 (by decide : ((1 : Int32)).toInt = 1) (by omega) (by omega)), List.forall_mem_cons.mpr ⟨fun t ht => (Option.some.inj ht) ▸ (nz_hz e7), List.forall_mem_nil _⟩⟩)) (fun j hj hn => g j hj (by simp only [List.mem_cons, List.not_mem_nil, or_false, not_or] at hn; omega)) (nz_fi (g 4 (by decide) (by decide))) (nz_fi (g 5 (by decide) (by decide))) ((congrArg Int32.toInt (zz_i e6)).trans (by decide : ((1 : Int32)).toInt = 1)) (nz_fi (g 11 (by decide) (by decide))) (nz_fi (g 12 (by decide) (by decide))) (nz_fi (g 13 (by decide) (by decide))) (nz_fi (g 14 (by decide) (by decide))) (nz_fi (g 15 (by decide) (by decide))) (nz_fa (g 31 (by decide) (by decide))) (nz_fa (g 35 (by decide) (by decide))) (nz_fa (g 39 (by decide) (by decide))) (nz_fa (g 40 (by decide) (by decide))) (nz_fa (g 41 (by decide) (by decide))))
    replace g3 : 0 < (sy_i F 6).toInt := by omega
    by_cases g4 : (sy_i F 6).toInt ≤ 0
    · have c4 := nz_bx hB (k := 4) (lo := 0) (hi := 400) rfl
      have q69 : (sy_ai F 25).getD (sy_i F 4).toNatClampNeg 0 = (sy_ai F 25).getD ((sy_i F 4).toInt).toNat 0 := by simp only [nz_c]
      have n69 : ((sy_ai F 25).getD (sy_i F 4).toNatClampNeg 0).toInt = ((sy_ai F 25).getD ((sy_i F 4).toInt).toNat 0).toInt := congrArg Int32.toInt q69
      have r69 := nz_ba hB (k := 25) (lo := 0) (hi := 42) rfl ((sy_i F 4).toInt).toNat
      have q70 : (sy_ai F 25).getD (sy_i F 4).toNatClampNeg 0 = (sy_ai F 25).getD ((sy_i F 4).toInt).toNat 0 := by simp only [nz_c]
      have n70 : ((sy_ai F 25).getD (sy_i F 4).toNatClampNeg 0).toInt = ((sy_ai F 25).getD ((sy_i F 4).toInt).toNat 0).toInt := congrArg Int32.toInt q70
      have r70 := nz_ba hB (k := 25) (lo := 0) (hi := 42) rfl ((sy_i F 4).toInt).toNat
      have n71 : (((sy_ai F 25).getD (sy_i F 4).toNatClampNeg 0) - ((22 : Int32))).toInt = (((sy_ai F 25).getD ((sy_i F 4).toInt).toNat 0).toInt - 22) := nz_sub n70 (by decide : ((22 : Int32)).toInt = 22) (by omega) (by omega)
      have q72 : (sy_ai F 25).getD (sy_i F 4).toNatClampNeg 0 = (sy_ai F 25).getD ((sy_i F 4).toInt).toNat 0 := by simp only [nz_c]
      have n72 : ((sy_ai F 25).getD (sy_i F 4).toNatClampNeg 0).toInt = ((sy_ai F 25).getD ((sy_i F 4).toInt).toNat 0).toInt := congrArg Int32.toInt q72
      have r72 := nz_ba hB (k := 25) (lo := 0) (hi := 42) rfl ((sy_i F 4).toInt).toNat
      have c6 := nz_bx hB (k := 6) (lo := 0) (hi := 2) rfl
      exfalso
      omega
    replace g4 : 0 < (sy_i F 6).toInt := by omega
    have c4 := nz_bx hB (k := 4) (lo := 0) (hi := 400) rfl
    have q69 : (sy_ai F 25).getD (sy_i F 4).toNatClampNeg 0 = (sy_ai F 25).getD ((sy_i F 4).toInt).toNat 0 := by simp only [nz_c]
    have n69 : ((sy_ai F 25).getD (sy_i F 4).toNatClampNeg 0).toInt = ((sy_ai F 25).getD ((sy_i F 4).toInt).toNat 0).toInt := congrArg Int32.toInt q69
    have r69 := nz_ba hB (k := 25) (lo := 0) (hi := 42) rfl ((sy_i F 4).toInt).toNat
    have q70 : (sy_ai F 25).getD (sy_i F 4).toNatClampNeg 0 = (sy_ai F 25).getD ((sy_i F 4).toInt).toNat 0 := by simp only [nz_c]
    have n70 : ((sy_ai F 25).getD (sy_i F 4).toNatClampNeg 0).toInt = ((sy_ai F 25).getD ((sy_i F 4).toInt).toNat 0).toInt := congrArg Int32.toInt q70
    have r70 := nz_ba hB (k := 25) (lo := 0) (hi := 42) rfl ((sy_i F 4).toInt).toNat
    have n71 : (((sy_ai F 25).getD (sy_i F 4).toNatClampNeg 0) - ((22 : Int32))).toInt = (((sy_ai F 25).getD ((sy_i F 4).toInt).toNat 0).toInt - 22) := nz_sub n70 (by decide : ((22 : Int32)).toInt = 22) (by omega) (by omega)
    have q72 : (sy_ai F 25).getD (sy_i F 4).toNatClampNeg 0 = (sy_ai F 25).getD ((sy_i F 4).toInt).toNat 0 := by simp only [nz_c]
    have n72 : ((sy_ai F 25).getD (sy_i F 4).toNatClampNeg 0).toInt = ((sy_ai F 25).getD ((sy_i F 4).toInt).toNat 0).toInt := congrArg Int32.toInt q72
    have r72 := nz_ba hB (k := 25) (lo := 0) (hi := 42) rfl ((sy_i F 4).toInt).toNat
    have c6 := nz_bx hB (k := 6) (lo := 0) (hi := 2) rfl
    exact to_0_p3 hd F X1 X2 hB (by first | exact ⟨by omega, by omega⟩ | (simp only [nz_c]; exact ⟨by omega, by omega⟩)) (by first | exact g0 | (simp only [nz_c]; exact g0) | (rw [n69]; exact g0)) (by first | exact ⟨by omega, by omega⟩ | (simp only [nz_c]; exact ⟨by omega, by omega⟩)) (by first | exact g1 | (simp only [nz_c, n71]; exact g1) | (rw [n71]; exact g1)) (by first | exact ⟨by omega, by omega⟩ | (simp only [nz_c]; exact ⟨by omega, by omega⟩)) (by first | exact g2 | (simp only [nz_c]; exact g2) | (rw [n72]; exact g2)) (by first | exact g3 | (simp only [nz_c]; exact g3)) (by first | exact g4 | (simp only [nz_c]; exact g4)) (fun F1 g  => k3 g0 g1 g2 g3 g4 F1 (nz_in hB [] (fun j hj hn => g j hj (by simp only [List.mem_cons, List.not_mem_nil, or_false, not_or] at hn; exact trivial)) (List.forall_mem_nil _)) (fun j hj hn => g j hj (by simp only [List.mem_cons, List.not_mem_nil, or_false, not_or] at hn; exact trivial)) (nz_fi (g 4 (by decide) (by decide))) (nz_fi (g 5 (by decide) (by decide))) (nz_fi (g 6 (by decide) (by decide))) (nz_fi (g 11 (by decide) (by decide))) (nz_fi (g 12 (by decide) (by decide))) (nz_fi (g 13 (by decide) (by decide))) (nz_fi (g 14 (by decide) (by decide))) (nz_fi (g 15 (by decide) (by decide))) (nz_fa (g 31 (by decide) (by decide))) (nz_fa (g 35 (by decide) (by decide))) (nz_fa (g 39 (by decide) (by decide))) (nz_fa (g 40 (by decide) (by decide))) (nz_fa (g 41 (by decide) (by decide))))
  have y0_1 := g0
  clear g0
  by_cases g0 : ((sy_ai F 25).getD ((sy_i F 4).toInt).toNat 0).toInt = 20
  · by_cases g1 : ((sy_ai F 31).getD ((sy_i F 12).toInt).toNat 0).toInt ≠ 7
    · by_cases g2 : (sy_i F 6).toInt ≠ 0
      · by_cases g3 : (sy_i F 6).toInt ≠ 0
        · have c4 := nz_bx hB (k := 4) (lo := 0) (hi := 400) rfl
          have q69 : (sy_ai F 25).getD (sy_i F 4).toNatClampNeg 0 = (sy_ai F 25).getD ((sy_i F 4).toInt).toNat 0 := by simp only [nz_c]
          have n69 : ((sy_ai F 25).getD (sy_i F 4).toNatClampNeg 0).toInt = ((sy_ai F 25).getD ((sy_i F 4).toInt).toNat 0).toInt := congrArg Int32.toInt q69
          have r69 := nz_ba hB (k := 25) (lo := 0) (hi := 42) rfl ((sy_i F 4).toInt).toNat
          have c12 := nz_bx hB (k := 12) (lo := 0) (hi := 1) rfl
          have q70 : (sy_ai F 31).getD (sy_i F 12).toNatClampNeg 0 = (sy_ai F 31).getD ((sy_i F 12).toInt).toNat 0 := by simp only [nz_c]
          have n70 : ((sy_ai F 31).getD (sy_i F 12).toNatClampNeg 0).toInt = ((sy_ai F 31).getD ((sy_i F 12).toInt).toNat 0).toInt := congrArg Int32.toInt q70
          have r70 := nz_ba hB (k := 31) (lo := 0) (hi := 7) rfl ((sy_i F 12).toInt).toNat
          have c6 := nz_bx hB (k := 6) (lo := 0) (hi := 2) rfl
          exact to_0_p4 hd F X1 X2 hB (by first | exact ⟨by omega, by omega⟩ | (simp only [nz_c]; exact ⟨by omega, by omega⟩)) (by first | exact g0 | (simp only [nz_c]; exact g0) | (rw [n69]; exact g0)) (by first | exact ⟨by omega, by omega⟩ | (simp only [nz_c]; exact ⟨by omega, by omega⟩)) (by first | exact g1 | (simp only [nz_c]; exact g1) | (rw [n70]; exact g1)) (by first | exact g2 | (simp only [nz_c]; exact g2)) (by first | exact g3 | (simp only [nz_c]; exact g3)) (fun F1 g  => k4 g0 g1 g2 g3 F1 (nz_in hB [] (fun j hj hn => g j hj (by simp only [List.mem_cons, List.not_mem_nil, or_false, not_or] at hn; exact trivial)) (List.forall_mem_nil _)) (fun j hj hn => g j hj (by simp only [List.mem_cons, List.not_mem_nil, or_false, not_or] at hn; exact trivial)) (nz_fi (g 4 (by decide) (by decide))) (nz_fi (g 5 (by decide) (by decide))) (nz_fi (g 6 (by decide) (by decide))) (nz_fi (g 11 (by decide) (by decide))) (nz_fi (g 12 (by decide) (by decide))) (nz_fi (g 13 (by decide) (by decide))) (nz_fi (g 14 (by decide) (by decide))) (nz_fi (g 15 (by decide) (by decide))) (nz_fa (g 31 (by decide) (by decide))) (nz_fa (g 35 (by decide) (by decide))) (nz_fa (g 39 (by decide) (by decide))) (nz_fa (g 40 (by decide) (by decide))) (nz_fa (g 41 (by decide) (by decide))))
        replace g3 : (sy_i F 6).toInt = 0 := by omega
        have c4 := nz_bx hB (k := 4) (lo := 0) (hi := 400) rfl
        have q69 : (sy_ai F 25).getD (sy_i F 4).toNatClampNeg 0 = (sy_ai F 25).getD ((sy_i F 4).toInt).toNat 0 := by simp only [nz_c]
        have n69 : ((sy_ai F 25).getD (sy_i F 4).toNatClampNeg 0).toInt = ((sy_ai F 25).getD ((sy_i F 4).toInt).toNat 0).toInt := congrArg Int32.toInt q69
        have r69 := nz_ba hB (k := 25) (lo := 0) (hi := 42) rfl ((sy_i F 4).toInt).toNat
        have c12 := nz_bx hB (k := 12) (lo := 0) (hi := 1) rfl
        have q70 : (sy_ai F 31).getD (sy_i F 12).toNatClampNeg 0 = (sy_ai F 31).getD ((sy_i F 12).toInt).toNat 0 := by simp only [nz_c]
        have n70 : ((sy_ai F 31).getD (sy_i F 12).toNatClampNeg 0).toInt = ((sy_ai F 31).getD ((sy_i F 12).toInt).toNat 0).toInt := congrArg Int32.toInt q70
        have r70 := nz_ba hB (k := 31) (lo := 0) (hi := 7) rfl ((sy_i F 12).toInt).toNat
        have c6 := nz_bx hB (k := 6) (lo := 0) (hi := 2) rfl
        exfalso
        omega
      replace g2 : (sy_i F 6).toInt = 0 := by omega
      by_cases g3 : (sy_i F 4).toInt ≠ 400
      · by_cases g4 : (sy_i F 6).toInt ≠ 0
        · have c4 := nz_bx hB (k := 4) (lo := 0) (hi := 400) rfl
          have q69 : (sy_ai F 25).getD (sy_i F 4).toNatClampNeg 0 = (sy_ai F 25).getD ((sy_i F 4).toInt).toNat 0 := by simp only [nz_c]
          have n69 : ((sy_ai F 25).getD (sy_i F 4).toNatClampNeg 0).toInt = ((sy_ai F 25).getD ((sy_i F 4).toInt).toNat 0).toInt := congrArg Int32.toInt q69
          have r69 := nz_ba hB (k := 25) (lo := 0) (hi := 42) rfl ((sy_i F 4).toInt).toNat
          have c12 := nz_bx hB (k := 12) (lo := 0) (hi := 1) rfl
          have q70 : (sy_ai F 31).getD (sy_i F 12).toNatClampNeg 0 = (sy_ai F 31).getD ((sy_i F 12).toInt).toNat 0 := by simp only [nz_c]
          have n70 : ((sy_ai F 31).getD (sy_i F 12).toNatClampNeg 0).toInt = ((sy_ai F 31).getD ((sy_i F 12).toInt).toNat 0).toInt := congrArg Int32.toInt q70
          have r70 := nz_ba hB (k := 31) (lo := 0) (hi := 7) rfl ((sy_i F 12).toInt).toNat
          have c6 := nz_bx hB (k := 6) (lo := 0) (hi := 2) rfl
          exfalso
          omega
        replace g4 : (sy_i F 6).toInt = 0 := by omega
        have c4 := nz_bx hB (k := 4) (lo := 0) (hi := 400) rfl
        have q69 : (sy_ai F 25).getD (sy_i F 4).toNatClampNeg 0 = (sy_ai F 25).getD ((sy_i F 4).toInt).toNat 0 := by simp only [nz_c]
        have n69 : ((sy_ai F 25).getD (sy_i F 4).toNatClampNeg 0).toInt = ((sy_ai F 25).getD ((sy_i F 4).toInt).toNat 0).toInt := congrArg Int32.toInt q69
        have r69 := nz_ba hB (k := 25) (lo := 0) (hi := 42) rfl ((sy_i F 4).toInt).toNat
        have c12 := nz_bx hB (k := 12) (lo := 0) (hi := 1) rfl
        have q70 : (sy_ai F 31).getD (sy_i F 12).toNatClampNeg 0 = (sy_ai F 31).getD ((sy_i F 12).toInt).toNat 0 := by simp only [nz_c]
        have n70 : ((sy_ai F 31).getD (sy_i F 12).toNatClampNeg 0).toInt = ((sy_ai F 31).getD ((sy_i F 12).toInt).toNat 0).toInt := congrArg Int32.toInt q70
        have r70 := nz_ba hB (k := 31) (lo := 0) (hi := 7) rfl ((sy_i F 12).toInt).toNat
        have c6 := nz_bx hB (k := 6) (lo := 0) (hi := 2) rfl
        have n71 : ((sy_i F 4) + ((1 : Int32))).toInt = ((sy_i F 4).toInt + 1) := nz_add (rfl : (sy_i F 4).toInt = (sy_i F 4).toInt) (by decide : ((1 : Int32)).toInt = 1) (by omega) (by omega)
        exact to_0_p5 hd F X1 X2 hB (by first | exact ⟨by omega, by omega⟩ | (simp only [nz_c]; exact ⟨by omega, by omega⟩)) (by first | exact g0 | (simp only [nz_c]; exact g0) | (rw [n69]; exact g0)) (by first | exact ⟨by omega, by omega⟩ | (simp only [nz_c]; exact ⟨by omega, by omega⟩)) (by first | exact g1 | (simp only [nz_c]; exact g1) | (rw [n70]; exact g1)) (by first | exact g2 | (simp only [nz_c]; exact g2)) (by first | exact g3 | (simp only [nz_c]; exact g3)) (by first | exact g4 | (simp only [nz_c]; exact g4)) (fun F1 g e4 => k5 g0 g1 g2 g3 g4 F1 (nz_in hB [4] (fun j hj hn => g j hj (by simp only [List.mem_cons, List.not_mem_nil, or_false, not_or] at hn; omega)) (List.forall_mem_cons.mpr ⟨fun t ht => (Option.some.inj ht) ▸ (nz_hi e4 n71 (by omega) (by omega)), List.forall_mem_nil _⟩)) (fun j hj hn => g j hj (by simp only [List.mem_cons, List.not_mem_nil, or_false, not_or] at hn; omega)) ((congrArg Int32.toInt (zz_i e4)).trans n71) (nz_fi (g 5 (by decide) (by decide))) (nz_fi (g 6 (by decide) (by decide))) (nz_fi (g 11 (by decide) (by decide))) (nz_fi (g 12 (by decide) (by decide))) (nz_fi (g 13 (by decide) (by decide))) (nz_fi (g 14 (by decide) (by decide))) (nz_fi (g 15 (by decide) (by decide))) (nz_fa (g 31 (by decide) (by decide))) (nz_fa (g 35 (by decide) (by decide))) (nz_fa (g 39 (by decide) (by decide))) (nz_fa (g 40 (by decide) (by decide))) (nz_fa (g 41 (by decide) (by decide))))
      replace g3 : (sy_i F 4).toInt = 400 := by omega
      by_cases g4 : (sy_i F 6).toInt ≤ 0
      · have c4 := nz_bx hB (k := 4) (lo := 0) (hi := 400) rfl
        have q69 : (sy_ai F 25).getD (sy_i F 4).toNatClampNeg 0 = (sy_ai F 25).getD ((sy_i F 4).toInt).toNat 0 := by simp only [nz_c]
        have n69 : ((sy_ai F 25).getD (sy_i F 4).toNatClampNeg 0).toInt = ((sy_ai F 25).getD ((sy_i F 4).toInt).toNat 0).toInt := congrArg Int32.toInt q69
        have r69 := nz_ba hB (k := 25) (lo := 0) (hi := 42) rfl ((sy_i F 4).toInt).toNat
        have c12 := nz_bx hB (k := 12) (lo := 0) (hi := 1) rfl
        have q70 : (sy_ai F 31).getD (sy_i F 12).toNatClampNeg 0 = (sy_ai F 31).getD ((sy_i F 12).toInt).toNat 0 := by simp only [nz_c]
        have n70 : ((sy_ai F 31).getD (sy_i F 12).toNatClampNeg 0).toInt = ((sy_ai F 31).getD ((sy_i F 12).toInt).toNat 0).toInt := congrArg Int32.toInt q70
        have r70 := nz_ba hB (k := 31) (lo := 0) (hi := 7) rfl ((sy_i F 12).toInt).toNat
        have c6 := nz_bx hB (k := 6) (lo := 0) (hi := 2) rfl
        have q71 : (sy_ai F 26).getD (sy_i F 4).toNatClampNeg 0 = (sy_ai F 26).getD ((sy_i F 4).toInt).toNat 0 := by simp only [nz_c]
        have n71 : ((sy_ai F 26).getD (sy_i F 4).toNatClampNeg 0).toInt = ((sy_ai F 26).getD ((sy_i F 4).toInt).toNat 0).toInt := congrArg Int32.toInt q71
        exact to_0_p6 hd F X1 X2 hB (by first | exact ⟨by omega, by omega⟩ | (simp only [nz_c]; exact ⟨by omega, by omega⟩)) (by first | exact g0 | (simp only [nz_c]; exact g0) | (rw [n69]; exact g0)) (by first | exact ⟨by omega, by omega⟩ | (simp only [nz_c]; exact ⟨by omega, by omega⟩)) (by first | exact g1 | (simp only [nz_c]; exact g1) | (rw [n70]; exact g1)) (by first | exact g2 | (simp only [nz_c]; exact g2)) (by first | exact g3 | (simp only [nz_c]; exact g3)) (by first | exact g4 | (simp only [nz_c]; exact g4)) (by first | exact ⟨by omega, by omega⟩ | (simp only [nz_c]; exact ⟨by omega, by omega⟩)) (fun F1 g e6 e7 => k6 g0 g1 g2 g3 g4 F1 (nz_in hB [6, 7] (fun j hj hn => g j hj (by simp only [List.mem_cons, List.not_mem_nil, or_false, not_or] at hn; omega)) (List.forall_mem_cons.mpr ⟨fun t ht => (Option.some.inj ht) ▸ (nz_hi e6 (by decide : ((2 : Int32)).toInt = 2) (by omega) (by omega)), List.forall_mem_cons.mpr ⟨fun t ht => (Option.some.inj ht) ▸ (nz_hz e7), List.forall_mem_nil _⟩⟩)) (fun j hj hn => g j hj (by simp only [List.mem_cons, List.not_mem_nil, or_false, not_or] at hn; omega)) (nz_fi (g 4 (by decide) (by decide))) (nz_fi (g 5 (by decide) (by decide))) ((congrArg Int32.toInt (zz_i e6)).trans (by decide : ((2 : Int32)).toInt = 2)) (nz_fi (g 11 (by decide) (by decide))) (nz_fi (g 12 (by decide) (by decide))) (nz_fi (g 13 (by decide) (by decide))) (nz_fi (g 14 (by decide) (by decide))) (nz_fi (g 15 (by decide) (by decide))) (nz_fa (g 31 (by decide) (by decide))) (nz_fa (g 35 (by decide) (by decide))) (nz_fa (g 39 (by decide) (by decide))) (nz_fa (g 40 (by decide) (by decide))) (nz_fa (g 41 (by decide) (by decide))))
      replace g4 : 0 < (sy_i F 6).toInt := by omega
      have c4 := nz_bx hB (k := 4) (lo := 0) (hi := 400) rfl
      have q69 : (sy_ai F 25).getD (sy_i F 4).toNatClampNeg 0 = (sy_ai F 25).getD ((sy_i F 4).toInt).toNat 0 := by simp only [nz_c]
      have n69 : ((sy_ai F 25).getD (sy_i F 4).toNatClampNeg 0).toInt = ((sy_ai F 25).getD ((sy_i F 4).toInt).toNat 0).toInt := congrArg Int32.toInt q69
      have r69 := nz_ba hB (k := 25) (lo := 0) (hi := 42) rfl ((sy_i F 4).toInt).toNat
      have c12 := nz_bx hB (k := 12) (lo := 0) (hi := 1) rfl
      have q70 : (sy_ai F 31).getD (sy_i F 12).toNatClampNeg 0 = (sy_ai F 31).getD ((sy_i F 12).toInt).toNat 0 := by simp only [nz_c]
      have n70 : ((sy_ai F 31).getD (sy_i F 12).toNatClampNeg 0).toInt = ((sy_ai F 31).getD ((sy_i F 12).toInt).toNat 0).toInt := congrArg Int32.toInt q70
      have r70 := nz_ba hB (k := 31) (lo := 0) (hi := 7) rfl ((sy_i F 12).toInt).toNat
      have c6 := nz_bx hB (k := 6) (lo := 0) (hi := 2) rfl
      exfalso
      omega
    replace g1 : ((sy_ai F 31).getD ((sy_i F 12).toInt).toNat 0).toInt = 7 := by omega
    by_cases g2 : (sy_i F 6).toInt ≤ 0
    · have c4 := nz_bx hB (k := 4) (lo := 0) (hi := 400) rfl
      have q69 : (sy_ai F 25).getD (sy_i F 4).toNatClampNeg 0 = (sy_ai F 25).getD ((sy_i F 4).toInt).toNat 0 := by simp only [nz_c]
      have n69 : ((sy_ai F 25).getD (sy_i F 4).toNatClampNeg 0).toInt = ((sy_ai F 25).getD ((sy_i F 4).toInt).toNat 0).toInt := congrArg Int32.toInt q69
      have r69 := nz_ba hB (k := 25) (lo := 0) (hi := 42) rfl ((sy_i F 4).toInt).toNat
      have c12 := nz_bx hB (k := 12) (lo := 0) (hi := 1) rfl
      have q70 : (sy_ai F 31).getD (sy_i F 12).toNatClampNeg 0 = (sy_ai F 31).getD ((sy_i F 12).toInt).toNat 0 := by simp only [nz_c]
      have n70 : ((sy_ai F 31).getD (sy_i F 12).toNatClampNeg 0).toInt = ((sy_ai F 31).getD ((sy_i F 12).toInt).toNat 0).toInt := congrArg Int32.toInt q70
      have r70 := nz_ba hB (k := 31) (lo := 0) (hi := 7) rfl ((sy_i F 12).toInt).toNat
      have c6 := nz_bx hB (k := 6) (lo := 0) (hi := 2) rfl
      have q71 : (sy_ai F 26).getD (sy_i F 4).toNatClampNeg 0 = (sy_ai F 26).getD ((sy_i F 4).toInt).toNat 0 := by simp only [nz_c]
      have n71 : ((sy_ai F 26).getD (sy_i F 4).toNatClampNeg 0).toInt = ((sy_ai F 26).getD ((sy_i F 4).toInt).toNat 0).toInt := congrArg Int32.toInt q71
      exact to_0_p7 hd F X1 X2 hB (by first | exact ⟨by omega, by omega⟩ | (simp only [nz_c]; exact ⟨by omega, by omega⟩)) (by first | exact g0 | (simp only [nz_c]; exact g0) | (rw [n69]; exact g0)) (by first | exact ⟨by omega, by omega⟩ | (simp only [nz_c]; exact ⟨by omega, by omega⟩)) (by first | exact g1 | (simp only [nz_c]; exact g1) | (rw [n70]; exact g1)) (by first | exact g2 | (simp only [nz_c]; exact g2)) (by first | exact ⟨by omega, by omega⟩ | (simp only [nz_c]; exact ⟨by omega, by omega⟩)) (fun F1 g e6 e7 => k7 g0 g1 g2 F1 (nz_in hB [6, 7] (fun j hj hn => g j hj (by simp only [List.mem_cons, List.not_mem_nil, or_false, not_or] at hn; omega)) (List.forall_mem_cons.mpr ⟨fun t ht => (Option.some.inj ht) ▸ (nz_hi e6 (by decide : ((2 : Int32)).toInt = 2) (by omega) (by omega)), List.forall_mem_cons.mpr ⟨fun t ht => (Option.some.inj ht) ▸ (nz_hz e7), List.forall_mem_nil _⟩⟩)) (fun j hj hn => g j hj (by simp only [List.mem_cons, List.not_mem_nil, or_false, not_or] at hn; omega)) (nz_fi (g 4 (by decide) (by decide))) (nz_fi (g 5 (by decide) (by decide))) ((congrArg Int32.toInt (zz_i e6)).trans (by decide : ((2 : Int32)).toInt = 2)) (nz_fi (g 11 (by decide) (by decide))) (nz_fi (g 12 (by decide) (by decide))) (nz_fi (g 13 (by decide) (by decide))) (nz_fi (g 14 (by decide) (by decide))) (nz_fi (g 15 (by decide) (by decide))) (nz_fa (g 31 (by decide) (by decide))) (nz_fa (g 35 (by decide) (by decide))) (nz_fa (g 39 (by decide) (by decide))) (nz_fa (g 40 (by decide) (by decide))) (nz_fa (g 41 (by decide) (by decide))))
    replace g2 : 0 < (sy_i F 6).toInt := by omega
    by_cases g3 : (sy_i F 6).toInt ≠ 0
    · by_cases g4 : (sy_i F 6).toInt ≠ 0
      · have c4 := nz_bx hB (k := 4) (lo := 0) (hi := 400) rfl
        have q69 : (sy_ai F 25).getD (sy_i F 4).toNatClampNeg 0 = (sy_ai F 25).getD ((sy_i F 4).toInt).toNat 0 := by simp only [nz_c]
        have n69 : ((sy_ai F 25).getD (sy_i F 4).toNatClampNeg 0).toInt = ((sy_ai F 25).getD ((sy_i F 4).toInt).toNat 0).toInt := congrArg Int32.toInt q69
        have r69 := nz_ba hB (k := 25) (lo := 0) (hi := 42) rfl ((sy_i F 4).toInt).toNat
        have c12 := nz_bx hB (k := 12) (lo := 0) (hi := 1) rfl
        have q70 : (sy_ai F 31).getD (sy_i F 12).toNatClampNeg 0 = (sy_ai F 31).getD ((sy_i F 12).toInt).toNat 0 := by simp only [nz_c]
        have n70 : ((sy_ai F 31).getD (sy_i F 12).toNatClampNeg 0).toInt = ((sy_ai F 31).getD ((sy_i F 12).toInt).toNat 0).toInt := congrArg Int32.toInt q70
        have r70 := nz_ba hB (k := 31) (lo := 0) (hi := 7) rfl ((sy_i F 12).toInt).toNat
        have c6 := nz_bx hB (k := 6) (lo := 0) (hi := 2) rfl
        exact to_0_p8 hd F X1 X2 hB (by first | exact ⟨by omega, by omega⟩ | (simp only [nz_c]; exact ⟨by omega, by omega⟩)) (by first | exact g0 | (simp only [nz_c]; exact g0) | (rw [n69]; exact g0)) (by first | exact ⟨by omega, by omega⟩ | (simp only [nz_c]; exact ⟨by omega, by omega⟩)) (by first | exact g1 | (simp only [nz_c]; exact g1) | (rw [n70]; exact g1)) (by first | exact g2 | (simp only [nz_c]; exact g2)) (by first | exact g3 | (simp only [nz_c]; exact g3)) (by first | exact g4 | (simp only [nz_c]; exact g4)) (fun F1 g  => k8 g0 g1 g2 g3 g4 F1 (nz_in hB [] (fun j hj hn => g j hj (by simp only [List.mem_cons, List.not_mem_nil, or_false, not_or] at hn; exact trivial)) (List.forall_mem_nil _)) (fun j hj hn => g j hj (by simp only [List.mem_cons, List.not_mem_nil, or_false, not_or] at hn; exact trivial)) (nz_fi (g 4 (by decide) (by decide))) (nz_fi (g 5 (by decide) (by decide))) (nz_fi (g 6 (by decide) (by decide))) (nz_fi (g 11 (by decide) (by decide))) (nz_fi (g 12 (by decide) (by decide))) (nz_fi (g 13 (by decide) (by decide))) (nz_fi (g 14 (by decide) (by decide))) (nz_fi (g 15 (by decide) (by decide))) (nz_fa (g 31 (by decide) (by decide))) (nz_fa (g 35 (by decide) (by decide))) (nz_fa (g 39 (by decide) (by decide))) (nz_fa (g 40 (by decide) (by decide))) (nz_fa (g 41 (by decide) (by decide))))
      replace g4 : (sy_i F 6).toInt = 0 := by omega
      have c4 := nz_bx hB (k := 4) (lo := 0) (hi := 400) rfl
      have q69 : (sy_ai F 25).getD (sy_i F 4).toNatClampNeg 0 = (sy_ai F 25).getD ((sy_i F 4).toInt).toNat 0 := by simp only [nz_c]
      have n69 : ((sy_ai F 25).getD (sy_i F 4).toNatClampNeg 0).toInt = ((sy_ai F 25).getD ((sy_i F 4).toInt).toNat 0).toInt := congrArg Int32.toInt q69
      have r69 := nz_ba hB (k := 25) (lo := 0) (hi := 42) rfl ((sy_i F 4).toInt).toNat
      have c12 := nz_bx hB (k := 12) (lo := 0) (hi := 1) rfl
      have q70 : (sy_ai F 31).getD (sy_i F 12).toNatClampNeg 0 = (sy_ai F 31).getD ((sy_i F 12).toInt).toNat 0 := by simp only [nz_c]
      have n70 : ((sy_ai F 31).getD (sy_i F 12).toNatClampNeg 0).toInt = ((sy_ai F 31).getD ((sy_i F 12).toInt).toNat 0).toInt := congrArg Int32.toInt q70
      have r70 := nz_ba hB (k := 31) (lo := 0) (hi := 7) rfl ((sy_i F 12).toInt).toNat
      have c6 := nz_bx hB (k := 6) (lo := 0) (hi := 2) rfl
      exfalso
      omega
    replace g3 : (sy_i F 6).toInt = 0 := by omega
    have c4 := nz_bx hB (k := 4) (lo := 0) (hi := 400) rfl
    have q69 : (sy_ai F 25).getD (sy_i F 4).toNatClampNeg 0 = (sy_ai F 25).getD ((sy_i F 4).toInt).toNat 0 := by simp only [nz_c]
    have n69 : ((sy_ai F 25).getD (sy_i F 4).toNatClampNeg 0).toInt = ((sy_ai F 25).getD ((sy_i F 4).toInt).toNat 0).toInt := congrArg Int32.toInt q69
    have r69 := nz_ba hB (k := 25) (lo := 0) (hi := 42) rfl ((sy_i F 4).toInt).toNat
    have c12 := nz_bx hB (k := 12) (lo := 0) (hi := 1) rfl
    have q70 : (sy_ai F 31).getD (sy_i F 12).toNatClampNeg 0 = (sy_ai F 31).getD ((sy_i F 12).toInt).toNat 0 := by simp only [nz_c]
    have n70 : ((sy_ai F 31).getD (sy_i F 12).toNatClampNeg 0).toInt = ((sy_ai F 31).getD ((sy_i F 12).toInt).toNat 0).toInt := congrArg Int32.toInt q70
    have r70 := nz_ba hB (k := 31) (lo := 0) (hi := 7) rfl ((sy_i F 12).toInt).toNat
    have c6 := nz_bx hB (k := 6) (lo := 0) (hi := 2) rfl
    exfalso
    omega
  have y0_2 := g0
  clear g0
  by_cases g0 : ((sy_ai F 25).getD ((sy_i F 4).toInt).toNat 0).toInt = 21
  · by_cases g1 : ((sy_ai F 35).getD ((sy_i F 12).toInt).toNat 0).toInt ≠ 4
    · by_cases g2 : (sy_i F 6).toInt ≠ 0
      · by_cases g3 : (sy_i F 6).toInt ≠ 0
        · have c4 := nz_bx hB (k := 4) (lo := 0) (hi := 400) rfl
          have q69 : (sy_ai F 25).getD (sy_i F 4).toNatClampNeg 0 = (sy_ai F 25).getD ((sy_i F 4).toInt).toNat 0 := by simp only [nz_c]
          have n69 : ((sy_ai F 25).getD (sy_i F 4).toNatClampNeg 0).toInt = ((sy_ai F 25).getD ((sy_i F 4).toInt).toNat 0).toInt := congrArg Int32.toInt q69
          have r69 := nz_ba hB (k := 25) (lo := 0) (hi := 42) rfl ((sy_i F 4).toInt).toNat
          have c12 := nz_bx hB (k := 12) (lo := 0) (hi := 1) rfl
          have q70 : (sy_ai F 35).getD (sy_i F 12).toNatClampNeg 0 = (sy_ai F 35).getD ((sy_i F 12).toInt).toNat 0 := by simp only [nz_c]
          have n70 : ((sy_ai F 35).getD (sy_i F 12).toNatClampNeg 0).toInt = ((sy_ai F 35).getD ((sy_i F 12).toInt).toNat 0).toInt := congrArg Int32.toInt q70
          have r70 := nz_ba hB (k := 35) (lo := 0) (hi := 4) rfl ((sy_i F 12).toInt).toNat
          have c6 := nz_bx hB (k := 6) (lo := 0) (hi := 2) rfl
          exact to_0_p9 hd F X1 X2 hB (by first | exact ⟨by omega, by omega⟩ | (simp only [nz_c]; exact ⟨by omega, by omega⟩)) (by first | exact g0 | (simp only [nz_c]; exact g0) | (rw [n69]; exact g0)) (by first | exact ⟨by omega, by omega⟩ | (simp only [nz_c]; exact ⟨by omega, by omega⟩)) (by first | exact g1 | (simp only [nz_c]; exact g1) | (rw [n70]; exact g1)) (by first | exact g2 | (simp only [nz_c]; exact g2)) (by first | exact g3 | (simp only [nz_c]; exact g3)) (fun F1 g  => k9 g0 g1 g2 g3 F1 (nz_in hB [] (fun j hj hn => g j hj (by simp only [List.mem_cons, List.not_mem_nil, or_false, not_or] at hn; exact trivial)) (List.forall_mem_nil _)) (fun j hj hn => g j hj (by simp only [List.mem_cons, List.not_mem_nil, or_false, not_or] at hn; exact trivial)) (nz_fi (g 4 (by decide) (by decide))) (nz_fi (g 5 (by decide) (by decide))) (nz_fi (g 6 (by decide) (by decide))) (nz_fi (g 11 (by decide) (by decide))) (nz_fi (g 12 (by decide) (by decide))) (nz_fi (g 13 (by decide) (by decide))) (nz_fi (g 14 (by decide) (by decide))) (nz_fi (g 15 (by decide) (by decide))) (nz_fa (g 31 (by decide) (by decide))) (nz_fa (g 35 (by decide) (by decide))) (nz_fa (g 39 (by decide) (by decide))) (nz_fa (g 40 (by decide) (by decide))) (nz_fa (g 41 (by decide) (by decide))))
        replace g3 : (sy_i F 6).toInt = 0 := by omega
        have c4 := nz_bx hB (k := 4) (lo := 0) (hi := 400) rfl
        have q69 : (sy_ai F 25).getD (sy_i F 4).toNatClampNeg 0 = (sy_ai F 25).getD ((sy_i F 4).toInt).toNat 0 := by simp only [nz_c]
        have n69 : ((sy_ai F 25).getD (sy_i F 4).toNatClampNeg 0).toInt = ((sy_ai F 25).getD ((sy_i F 4).toInt).toNat 0).toInt := congrArg Int32.toInt q69
        have r69 := nz_ba hB (k := 25) (lo := 0) (hi := 42) rfl ((sy_i F 4).toInt).toNat
        have c12 := nz_bx hB (k := 12) (lo := 0) (hi := 1) rfl
        have q70 : (sy_ai F 35).getD (sy_i F 12).toNatClampNeg 0 = (sy_ai F 35).getD ((sy_i F 12).toInt).toNat 0 := by simp only [nz_c]
        have n70 : ((sy_ai F 35).getD (sy_i F 12).toNatClampNeg 0).toInt = ((sy_ai F 35).getD ((sy_i F 12).toInt).toNat 0).toInt := congrArg Int32.toInt q70
        have r70 := nz_ba hB (k := 35) (lo := 0) (hi := 4) rfl ((sy_i F 12).toInt).toNat
        have c6 := nz_bx hB (k := 6) (lo := 0) (hi := 2) rfl
        exfalso
        omega
      replace g2 : (sy_i F 6).toInt = 0 := by omega
      by_cases g3 : (sy_i F 4).toInt ≠ 400
      · by_cases g4 : (sy_i F 6).toInt ≠ 0
        · have c4 := nz_bx hB (k := 4) (lo := 0) (hi := 400) rfl
          have q69 : (sy_ai F 25).getD (sy_i F 4).toNatClampNeg 0 = (sy_ai F 25).getD ((sy_i F 4).toInt).toNat 0 := by simp only [nz_c]
          have n69 : ((sy_ai F 25).getD (sy_i F 4).toNatClampNeg 0).toInt = ((sy_ai F 25).getD ((sy_i F 4).toInt).toNat 0).toInt := congrArg Int32.toInt q69
          have r69 := nz_ba hB (k := 25) (lo := 0) (hi := 42) rfl ((sy_i F 4).toInt).toNat
          have c12 := nz_bx hB (k := 12) (lo := 0) (hi := 1) rfl
          have q70 : (sy_ai F 35).getD (sy_i F 12).toNatClampNeg 0 = (sy_ai F 35).getD ((sy_i F 12).toInt).toNat 0 := by simp only [nz_c]
          have n70 : ((sy_ai F 35).getD (sy_i F 12).toNatClampNeg 0).toInt = ((sy_ai F 35).getD ((sy_i F 12).toInt).toNat 0).toInt := congrArg Int32.toInt q70
          have r70 := nz_ba hB (k := 35) (lo := 0) (hi := 4) rfl ((sy_i F 12).toInt).toNat
          have c6 := nz_bx hB (k := 6) (lo := 0) (hi := 2) rfl
          exfalso
          omega
        replace g4 : (sy_i F 6).toInt = 0 := by omega
        have c4 := nz_bx hB (k := 4) (lo := 0) (hi := 400) rfl
        have q69 : (sy_ai F 25).getD (sy_i F 4).toNatClampNeg 0 = (sy_ai F 25).getD ((sy_i F 4).toInt).toNat 0 := by simp only [nz_c]
        have n69 : ((sy_ai F 25).getD (sy_i F 4).toNatClampNeg 0).toInt = ((sy_ai F 25).getD ((sy_i F 4).toInt).toNat 0).toInt := congrArg Int32.toInt q69
        have r69 := nz_ba hB (k := 25) (lo := 0) (hi := 42) rfl ((sy_i F 4).toInt).toNat
        have c12 := nz_bx hB (k := 12) (lo := 0) (hi := 1) rfl
        have q70 : (sy_ai F 35).getD (sy_i F 12).toNatClampNeg 0 = (sy_ai F 35).getD ((sy_i F 12).toInt).toNat 0 := by simp only [nz_c]
        have n70 : ((sy_ai F 35).getD (sy_i F 12).toNatClampNeg 0).toInt = ((sy_ai F 35).getD ((sy_i F 12).toInt).toNat 0).toInt := congrArg Int32.toInt q70
        have r70 := nz_ba hB (k := 35) (lo := 0) (hi := 4) rfl ((sy_i F 12).toInt).toNat
        have c6 := nz_bx hB (k := 6) (lo := 0) (hi := 2) rfl
        have n71 : ((sy_i F 4) + ((1 : Int32))).toInt = ((sy_i F 4).toInt + 1) := nz_add (rfl : (sy_i F 4).toInt = (sy_i F 4).toInt) (by decide : ((1 : Int32)).toInt = 1) (by omega) (by omega)
        exact to_0_p10 hd F X1 X2 hB (by first | exact ⟨by omega, by omega⟩ | (simp only [nz_c]; exact ⟨by omega, by omega⟩)) (by first | exact g0 | (simp only [nz_c]; exact g0) | (rw [n69]; exact g0)) (by first | exact ⟨by omega, by omega⟩ | (simp only [nz_c]; exact ⟨by omega, by omega⟩)) (by first | exact g1 | (simp only [nz_c]; exact g1) | (rw [n70]; exact g1)) (by first | exact g2 | (simp only [nz_c]; exact g2)) (by first | exact g3 | (simp only [nz_c]; exact g3)) (by first | exact g4 | (simp only [nz_c]; exact g4)) (fun F1 g e4 => k10 g0 g1 g2 g3 g4 F1 (nz_in hB [4] (fun j hj hn => g j hj (by simp only [List.mem_cons, List.not_mem_nil, or_false, not_or] at hn; omega)) (List.forall_mem_cons.mpr ⟨fun t ht => (Option.some.inj ht) ▸ (nz_hi e4 n71 (by omega) (by omega)), List.forall_mem_nil _⟩)) (fun j hj hn => g j hj (by simp only [List.mem_cons, List.not_mem_nil, or_false, not_or] at hn; omega)) ((congrArg Int32.toInt (zz_i e4)).trans n71) (nz_fi (g 5 (by decide) (by decide))) (nz_fi (g 6 (by decide) (by decide))) (nz_fi (g 11 (by decide) (by decide))) (nz_fi (g 12 (by decide) (by decide))) (nz_fi (g 13 (by decide) (by decide))) (nz_fi (g 14 (by decide) (by decide))) (nz_fi (g 15 (by decide) (by decide))) (nz_fa (g 31 (by decide) (by decide))) (nz_fa (g 35 (by decide) (by decide))) (nz_fa (g 39 (by decide) (by decide))) (nz_fa (g 40 (by decide) (by decide))) (nz_fa (g 41 (by decide) (by decide))))
      replace g3 : (sy_i F 4).toInt = 400 := by omega
      by_cases g4 : (sy_i F 6).toInt ≤ 0
      · have c4 := nz_bx hB (k := 4) (lo := 0) (hi := 400) rfl
        have q69 : (sy_ai F 25).getD (sy_i F 4).toNatClampNeg 0 = (sy_ai F 25).getD ((sy_i F 4).toInt).toNat 0 := by simp only [nz_c]
        have n69 : ((sy_ai F 25).getD (sy_i F 4).toNatClampNeg 0).toInt = ((sy_ai F 25).getD ((sy_i F 4).toInt).toNat 0).toInt := congrArg Int32.toInt q69
        have r69 := nz_ba hB (k := 25) (lo := 0) (hi := 42) rfl ((sy_i F 4).toInt).toNat
        have c12 := nz_bx hB (k := 12) (lo := 0) (hi := 1) rfl
        have q70 : (sy_ai F 35).getD (sy_i F 12).toNatClampNeg 0 = (sy_ai F 35).getD ((sy_i F 12).toInt).toNat 0 := by simp only [nz_c]
        have n70 : ((sy_ai F 35).getD (sy_i F 12).toNatClampNeg 0).toInt = ((sy_ai F 35).getD ((sy_i F 12).toInt).toNat 0).toInt := congrArg Int32.toInt q70
        have r70 := nz_ba hB (k := 35) (lo := 0) (hi := 4) rfl ((sy_i F 12).toInt).toNat
        have c6 := nz_bx hB (k := 6) (lo := 0) (hi := 2) rfl
        have q71 : (sy_ai F 26).getD (sy_i F 4).toNatClampNeg 0 = (sy_ai F 26).getD ((sy_i F 4).toInt).toNat 0 := by simp only [nz_c]
        have n71 : ((sy_ai F 26).getD (sy_i F 4).toNatClampNeg 0).toInt = ((sy_ai F 26).getD ((sy_i F 4).toInt).toNat 0).toInt := congrArg Int32.toInt q71
        exact to_0_p11 hd F X1 X2 hB (by first | exact ⟨by omega, by omega⟩ | (simp only [nz_c]; exact ⟨by omega, by omega⟩)) (by first | exact g0 | (simp only [nz_c]; exact g0) | (rw [n69]; exact g0)) (by first | exact ⟨by omega, by omega⟩ | (simp only [nz_c]; exact ⟨by omega, by omega⟩)) (by first | exact g1 | (simp only [nz_c]; exact g1) | (rw [n70]; exact g1)) (by first | exact g2 | (simp only [nz_c]; exact g2)) (by first | exact g3 | (simp only [nz_c]; exact g3)) (by first | exact g4 | (simp only [nz_c]; exact g4)) (by first | exact ⟨by omega, by omega⟩ | (simp only [nz_c]; exact ⟨by omega, by omega⟩)) (fun F1 g e6 e7 => k11 g0 g1 g2 g3 g4 F1 (nz_in hB [6, 7] (fun j hj hn => g j hj (by simp only [List.mem_cons, List.not_mem_nil, or_false, not_or] at hn; omega)) (List.forall_mem_cons.mpr ⟨fun t ht => (Option.some.inj ht) ▸ (nz_hi e6 (by decide : ((2 : Int32)).toInt = 2) (by omega) (by omega)), List.forall_mem_cons.mpr ⟨fun t ht => (Option.some.inj ht) ▸ (nz_hz e7), List.forall_mem_nil _⟩⟩)) (fun j hj hn => g j hj (by simp only [List.mem_cons, List.not_mem_nil, or_false, not_or] at hn; omega)) (nz_fi (g 4 (by decide) (by decide))) (nz_fi (g 5 (by decide) (by decide))) ((congrArg Int32.toInt (zz_i e6)).trans (by decide : ((2 : Int32)).toInt = 2)) (nz_fi (g 11 (by decide) (by decide))) (nz_fi (g 12 (by decide) (by decide))) (nz_fi (g 13 (by decide) (by decide))) (nz_fi (g 14 (by decide) (by decide))) (nz_fi (g 15 (by decide) (by decide))) (nz_fa (g 31 (by decide) (by decide))) (nz_fa (g 35 (by decide) (by decide))) (nz_fa (g 39 (by decide) (by decide))) (nz_fa (g 40 (by decide) (by decide))) (nz_fa (g 41 (by decide) (by decide))))
      replace g4 : 0 < (sy_i F 6).toInt := by omega
      have c4 := nz_bx hB (k := 4) (lo := 0) (hi := 400) rfl
      have q69 : (sy_ai F 25).getD (sy_i F 4).toNatClampNeg 0 = (sy_ai F 25).getD ((sy_i F 4).toInt).toNat 0 := by simp only [nz_c]
      have n69 : ((sy_ai F 25).getD (sy_i F 4).toNatClampNeg 0).toInt = ((sy_ai F 25).getD ((sy_i F 4).toInt).toNat 0).toInt := congrArg Int32.toInt q69
      have r69 := nz_ba hB (k := 25) (lo := 0) (hi := 42) rfl ((sy_i F 4).toInt).toNat
      have c12 := nz_bx hB (k := 12) (lo := 0) (hi := 1) rfl
      have q70 : (sy_ai F 35).getD (sy_i F 12).toNatClampNeg 0 = (sy_ai F 35).getD ((sy_i F 12).toInt).toNat 0 := by simp only [nz_c]
      have n70 : ((sy_ai F 35).getD (sy_i F 12).toNatClampNeg 0).toInt = ((sy_ai F 35).getD ((sy_i F 12).toInt).toNat 0).toInt := congrArg Int32.toInt q70
      have r70 := nz_ba hB (k := 35) (lo := 0) (hi := 4) rfl ((sy_i F 12).toInt).toNat
      have c6 := nz_bx hB (k := 6) (lo := 0) (hi := 2) rfl
      exfalso
      omega
    replace g1 : ((sy_ai F 35).getD ((sy_i F 12).toInt).toNat 0).toInt = 4 := by omega
    by_cases g2 : (sy_i F 6).toInt ≤ 0
    · have c4 := nz_bx hB (k := 4) (lo := 0) (hi := 400) rfl
      have q69 : (sy_ai F 25).getD (sy_i F 4).toNatClampNeg 0 = (sy_ai F 25).getD ((sy_i F 4).toInt).toNat 0 := by simp only [nz_c]
      have n69 : ((sy_ai F 25).getD (sy_i F 4).toNatClampNeg 0).toInt = ((sy_ai F 25).getD ((sy_i F 4).toInt).toNat 0).toInt := congrArg Int32.toInt q69
      have r69 := nz_ba hB (k := 25) (lo := 0) (hi := 42) rfl ((sy_i F 4).toInt).toNat
      have c12 := nz_bx hB (k := 12) (lo := 0) (hi := 1) rfl
      have q70 : (sy_ai F 35).getD (sy_i F 12).toNatClampNeg 0 = (sy_ai F 35).getD ((sy_i F 12).toInt).toNat 0 := by simp only [nz_c]
      have n70 : ((sy_ai F 35).getD (sy_i F 12).toNatClampNeg 0).toInt = ((sy_ai F 35).getD ((sy_i F 12).toInt).toNat 0).toInt := congrArg Int32.toInt q70
      have r70 := nz_ba hB (k := 35) (lo := 0) (hi := 4) rfl ((sy_i F 12).toInt).toNat
      have c6 := nz_bx hB (k := 6) (lo := 0) (hi := 2) rfl
      have q71 : (sy_ai F 26).getD (sy_i F 4).toNatClampNeg 0 = (sy_ai F 26).getD ((sy_i F 4).toInt).toNat 0 := by simp only [nz_c]
      have n71 : ((sy_ai F 26).getD (sy_i F 4).toNatClampNeg 0).toInt = ((sy_ai F 26).getD ((sy_i F 4).toInt).toNat 0).toInt := congrArg Int32.toInt q71
      exact to_0_p12 hd F X1 X2 hB (by first | exact ⟨by omega, by omega⟩ | (simp only [nz_c]; exact ⟨by omega, by omega⟩)) (by first | exact g0 | (simp only [nz_c]; exact g0) | (rw [n69]; exact g0)) (by first | exact ⟨by omega, by omega⟩ | (simp only [nz_c]; exact ⟨by omega, by omega⟩)) (by first | exact g1 | (simp only [nz_c]; exact g1) | (rw [n70]; exact g1)) (by first | exact g2 | (simp only [nz_c]; exact g2)) (by first | exact ⟨by omega, by omega⟩ | (simp only [nz_c]; exact ⟨by omega, by omega⟩)) (fun F1 g e6 e7 => k12 g0 g1 g2 F1 (nz_in hB [6, 7] (fun j hj hn => g j hj (by simp only [List.mem_cons, List.not_mem_nil, or_false, not_or] at hn; omega)) (List.forall_mem_cons.mpr ⟨fun t ht => (Option.some.inj ht) ▸ (nz_hi e6 (by decide : ((2 : Int32)).toInt = 2) (by omega) (by omega)), List.forall_mem_cons.mpr ⟨fun t ht => (Option.some.inj ht) ▸ (nz_hz e7), List.forall_mem_nil _⟩⟩)) (fun j hj hn => g j hj (by simp only [List.mem_cons, List.not_mem_nil, or_false, not_or] at hn; omega)) (nz_fi (g 4 (by decide) (by decide))) (nz_fi (g 5 (by decide) (by decide))) ((congrArg Int32.toInt (zz_i e6)).trans (by decide : ((2 : Int32)).toInt = 2)) (nz_fi (g 11 (by decide) (by decide))) (nz_fi (g 12 (by decide) (by decide))) (nz_fi (g 13 (by decide) (by decide))) (nz_fi (g 14 (by decide) (by decide))) (nz_fi (g 15 (by decide) (by decide))) (nz_fa (g 31 (by decide) (by decide))) (nz_fa (g 35 (by decide) (by decide))) (nz_fa (g 39 (by decide) (by decide))) (nz_fa (g 40 (by decide) (by decide))) (nz_fa (g 41 (by decide) (by decide))))
    replace g2 : 0 < (sy_i F 6).toInt := by omega
    by_cases g3 : (sy_i F 6).toInt ≠ 0
    · by_cases g4 : (sy_i F 6).toInt ≠ 0
      · have c4 := nz_bx hB (k := 4) (lo := 0) (hi := 400) rfl
        have q69 : (sy_ai F 25).getD (sy_i F 4).toNatClampNeg 0 = (sy_ai F 25).getD ((sy_i F 4).toInt).toNat 0 := by simp only [nz_c]
        have n69 : ((sy_ai F 25).getD (sy_i F 4).toNatClampNeg 0).toInt = ((sy_ai F 25).getD ((sy_i F 4).toInt).toNat 0).toInt := congrArg Int32.toInt q69
        have r69 := nz_ba hB (k := 25) (lo := 0) (hi := 42) rfl ((sy_i F 4).toInt).toNat
        have c12 := nz_bx hB (k := 12) (lo := 0) (hi := 1) rfl
        have q70 : (sy_ai F 35).getD (sy_i F 12).toNatClampNeg 0 = (sy_ai F 35).getD ((sy_i F 12).toInt).toNat 0 := by simp only [nz_c]
        have n70 : ((sy_ai F 35).getD (sy_i F 12).toNatClampNeg 0).toInt = ((sy_ai F 35).getD ((sy_i F 12).toInt).toNat 0).toInt := congrArg Int32.toInt q70
        have r70 := nz_ba hB (k := 35) (lo := 0) (hi := 4) rfl ((sy_i F 12).toInt).toNat
        have c6 := nz_bx hB (k := 6) (lo := 0) (hi := 2) rfl
        exact to_0_p13 hd F X1 X2 hB (by first | exact ⟨by omega, by omega⟩ | (simp only [nz_c]; exact ⟨by omega, by omega⟩)) (by first | exact g0 | (simp only [nz_c]; exact g0) | (rw [n69]; exact g0)) (by first | exact ⟨by omega, by omega⟩ | (simp only [nz_c]; exact ⟨by omega, by omega⟩)) (by first | exact g1 | (simp only [nz_c]; exact g1) | (rw [n70]; exact g1)) (by first | exact g2 | (simp only [nz_c]; exact g2)) (by first | exact g3 | (simp only [nz_c]; exact g3)) (by first | exact g4 | (simp only [nz_c]; exact g4)) (fun F1 g  => k13 g0 g1 g2 g3 g4 F1 (nz_in hB [] (fun j hj hn => g j hj (by simp only [List.mem_cons, List.not_mem_nil, or_false, not_or] at hn; exact trivial)) (List.forall_mem_nil _)) (fun j hj hn => g j hj (by simp only [List.mem_cons, List.not_mem_nil, or_false, not_or] at hn; exact trivial)) (nz_fi (g 4 (by decide) (by decide))) (nz_fi (g 5 (by decide) (by decide))) (nz_fi (g 6 (by decide) (by decide))) (nz_fi (g 11 (by decide) (by decide))) (nz_fi (g 12 (by decide) (by decide))) (nz_fi (g 13 (by decide) (by decide))) (nz_fi (g 14 (by decide) (by decide))) (nz_fi (g 15 (by decide) (by decide))) (nz_fa (g 31 (by decide) (by decide))) (nz_fa (g 35 (by decide) (by decide))) (nz_fa (g 39 (by decide) (by decide))) (nz_fa (g 40 (by decide) (by decide))) (nz_fa (g 41 (by decide) (by decide))))
      replace g4 : (sy_i F 6).toInt = 0 := by omega
      have c4 := nz_bx hB (k := 4) (lo := 0) (hi := 400) rfl
      have q69 : (sy_ai F 25).getD (sy_i F 4).toNatClampNeg 0 = (sy_ai F 25).getD ((sy_i F 4).toInt).toNat 0 := by simp only [nz_c]
      have n69 : ((sy_ai F 25).getD (sy_i F 4).toNatClampNeg 0).toInt = ((sy_ai F 25).getD ((sy_i F 4).toInt).toNat 0).toInt := congrArg Int32.toInt q69
      have r69 := nz_ba hB (k := 25) (lo := 0) (hi := 42) rfl ((sy_i F 4).toInt).toNat
      have c12 := nz_bx hB (k := 12) (lo := 0) (hi := 1) rfl
      have q70 : (sy_ai F 35).getD (sy_i F 12).toNatClampNeg 0 = (sy_ai F 35).getD ((sy_i F 12).toInt).toNat 0 := by simp only [nz_c]
      have n70 : ((sy_ai F 35).getD (sy_i F 12).toNatClampNeg 0).toInt = ((sy_ai F 35).getD ((sy_i F 12).toInt).toNat 0).toInt := congrArg Int32.toInt q70
      have r70 := nz_ba hB (k := 35) (lo := 0) (hi := 4) rfl ((sy_i F 12).toInt).toNat
      have c6 := nz_bx hB (k := 6) (lo := 0) (hi := 2) rfl
      exfalso
      omega
    replace g3 : (sy_i F 6).toInt = 0 := by omega
    have c4 := nz_bx hB (k := 4) (lo := 0) (hi := 400) rfl
    have q69 : (sy_ai F 25).getD (sy_i F 4).toNatClampNeg 0 = (sy_ai F 25).getD ((sy_i F 4).toInt).toNat 0 := by simp only [nz_c]
    have n69 : ((sy_ai F 25).getD (sy_i F 4).toNatClampNeg 0).toInt = ((sy_ai F 25).getD ((sy_i F 4).toInt).toNat 0).toInt := congrArg Int32.toInt q69
    have r69 := nz_ba hB (k := 25) (lo := 0) (hi := 42) rfl ((sy_i F 4).toInt).toNat
    have c12 := nz_bx hB (k := 12) (lo := 0) (hi := 1) rfl
    have q70 : (sy_ai F 35).getD (sy_i F 12).toNatClampNeg 0 = (sy_ai F 35).getD ((sy_i F 12).toInt).toNat 0 := by simp only [nz_c]
    have n70 : ((sy_ai F 35).getD (sy_i F 12).toNatClampNeg 0).toInt = ((sy_ai F 35).getD ((sy_i F 12).toInt).toNat 0).toInt := congrArg Int32.toInt q70
    have r70 := nz_ba hB (k := 35) (lo := 0) (hi := 4) rfl ((sy_i F 12).toInt).toNat
    have c6 := nz_bx hB (k := 6) (lo := 0) (hi := 2) rfl
    exfalso
    omega
  have y0_3 := g0
  clear g0
  by_cases g0 : ((sy_ai F 25).getD ((sy_i F 4).toInt).toNat 0).toInt = 22
  · by_cases g1 : (((sy_ai F 25).getD ((sy_i F 4).toInt).toNat 0).toInt - 22) < 0
    · have c4 := nz_bx hB (k := 4) (lo := 0) (hi := 400) rfl
      have q69 : (sy_ai F 25).getD (sy_i F 4).toNatClampNeg 0 = (sy_ai F 25).getD ((sy_i F 4).toInt).toNat 0 := by simp only [nz_c]
      have n69 : ((sy_ai F 25).getD (sy_i F 4).toNatClampNeg 0).toInt = ((sy_ai F 25).getD ((sy_i F 4).toInt).toNat 0).toInt := congrArg Int32.toInt q69
      have r69 := nz_ba hB (k := 25) (lo := 0) (hi := 42) rfl ((sy_i F 4).toInt).toNat
      have q70 : (sy_ai F 25).getD (sy_i F 4).toNatClampNeg 0 = (sy_ai F 25).getD ((sy_i F 4).toInt).toNat 0 := by simp only [nz_c]
      have n70 : ((sy_ai F 25).getD (sy_i F 4).toNatClampNeg 0).toInt = ((sy_ai F 25).getD ((sy_i F 4).toInt).toNat 0).toInt := congrArg Int32.toInt q70
      have r70 := nz_ba hB (k := 25) (lo := 0) (hi := 42) rfl ((sy_i F 4).toInt).toNat
      have n71 : (((sy_ai F 25).getD (sy_i F 4).toNatClampNeg 0) - ((22 : Int32))).toInt = (((sy_ai F 25).getD ((sy_i F 4).toInt).toNat 0).toInt - 22) := nz_sub n70 (by decide : ((22 : Int32)).toInt = 22) (by omega) (by omega)
      exfalso
      omega
    replace g1 : 0 ≤ (((sy_ai F 25).getD ((sy_i F 4).toInt).toNat 0).toInt - 22) := by omega
    by_cases g2 : ((sy_ai F 25).getD ((sy_i F 4).toInt).toNat 0).toInt ≤ 27
    · by_cases g3 : (sy_i F 6).toInt ≤ 0
      · by_cases g4 : (sy_i F 4).toInt ≠ 400
        · have c4 := nz_bx hB (k := 4) (lo := 0) (hi := 400) rfl
          have q69 : (sy_ai F 25).getD (sy_i F 4).toNatClampNeg 0 = (sy_ai F 25).getD ((sy_i F 4).toInt).toNat 0 := by simp only [nz_c]
          have n69 : ((sy_ai F 25).getD (sy_i F 4).toNatClampNeg 0).toInt = ((sy_ai F 25).getD ((sy_i F 4).toInt).toNat 0).toInt := congrArg Int32.toInt q69
          have r69 := nz_ba hB (k := 25) (lo := 0) (hi := 42) rfl ((sy_i F 4).toInt).toNat
          have q70 : (sy_ai F 25).getD (sy_i F 4).toNatClampNeg 0 = (sy_ai F 25).getD ((sy_i F 4).toInt).toNat 0 := by simp only [nz_c]
          have n70 : ((sy_ai F 25).getD (sy_i F 4).toNatClampNeg 0).toInt = ((sy_ai F 25).getD ((sy_i F 4).toInt).toNat 0).toInt := congrArg Int32.toInt q70
          have r70 := nz_ba hB (k := 25) (lo := 0) (hi := 42) rfl ((sy_i F 4).toInt).toNat
          have n71 : (((sy_ai F 25).getD (sy_i F 4).toNatClampNeg 0) - ((22 : Int32))).toInt = (((sy_ai F 25).getD ((sy_i F 4).toInt).toNat 0).toInt - 22) := nz_sub n70 (by decide : ((22 : Int32)).toInt = 22) (by omega) (by omega)
          have q72 : (sy_ai F 25).getD (sy_i F 4).toNatClampNeg 0 = (sy_ai F 25).getD ((sy_i F 4).toInt).toNat 0 := by simp only [nz_c]
          have n72 : ((sy_ai F 25).getD (sy_i F 4).toNatClampNeg 0).toInt = ((sy_ai F 25).getD ((sy_i F 4).toInt).toNat 0).toInt := congrArg Int32.toInt q72
          have r72 := nz_ba hB (k := 25) (lo := 0) (hi := 42) rfl ((sy_i F 4).toInt).toNat
          have c6 := nz_bx hB (k := 6) (lo := 0) (hi := 2) rfl
          have n73 : ((sy_i F 4) + ((1 : Int32))).toInt = ((sy_i F 4).toInt + 1) := nz_add (rfl : (sy_i F 4).toInt = (sy_i F 4).toInt) (by decide : ((1 : Int32)).toInt = 1) (by omega) (by omega)
          exact to_0_p14 hd F X1 X2 hB (by first | exact ⟨by omega, by omega⟩ | (simp only [nz_c]; exact ⟨by omega, by omega⟩)) (by first | exact g0 | (simp only [nz_c]; exact g0) | (rw [n69]; exact g0)) (by first | exact ⟨by omega, by omega⟩ | (simp only [nz_c]; exact ⟨by omega, by omega⟩)) (by first | exact g1 | (simp only [nz_c, n71]; exact g1) | (rw [n71]; exact g1)) (by first | exact ⟨by omega, by omega⟩ | (simp only [nz_c]; exact ⟨by omega, by omega⟩)) (by first | exact g2 | (simp only [nz_c]; exact g2) | (rw [n72]; exact g2)) (by first | exact g3 | (simp only [nz_c]; exact g3)) (by first | exact g4 | (simp only [nz_c]; exact g4)) (fun F1 g e4 e69 => k14 g0 g1 g2 g3 g4 F1 (nz_in hB [4] (fun j hj hn => g j hj (by simp only [List.mem_cons, List.not_mem_nil, or_false, not_or] at hn; omega)) (List.forall_mem_cons.mpr ⟨fun t ht => (Option.some.inj ht) ▸ (nz_hi e4 n73 (by omega) (by omega)), List.forall_mem_nil _⟩)) (fun j hj hn => g j hj (by simp only [List.mem_cons, List.not_mem_nil, or_false, not_or] at hn; omega)) ((congrArg Int32.toInt (zz_i e4)).trans n73) (nz_fi (g 5 (by decide) (by decide))) (nz_fi (g 6 (by decide) (by decide))) (nz_fi (g 11 (by decide) (by decide))) (nz_fi (g 12 (by decide) (by decide))) (nz_fi (g 13 (by decide) (by decide))) (nz_fi (g 14 (by decide) (by decide))) (nz_fi (g 15 (by decide) (by decide))) (nz_fa (g 31 (by decide) (by decide))) (nz_fa (g 35 (by decide) (by decide))) (nz_fa (g 39 (by decide) (by decide))) (nz_fa (g 40 (by decide) (by decide))) (nz_fa (g 41 (by decide) (by decide))) ((congrArg Int32.toInt (zz_i e69)).trans n71))
        replace g4 : (sy_i F 4).toInt = 400 := by omega
        by_cases g5 : (sy_i F 6).toInt ≤ 0
        · have c4 := nz_bx hB (k := 4) (lo := 0) (hi := 400) rfl
          have q69 : (sy_ai F 25).getD (sy_i F 4).toNatClampNeg 0 = (sy_ai F 25).getD ((sy_i F 4).toInt).toNat 0 := by simp only [nz_c]
          have n69 : ((sy_ai F 25).getD (sy_i F 4).toNatClampNeg 0).toInt = ((sy_ai F 25).getD ((sy_i F 4).toInt).toNat 0).toInt := congrArg Int32.toInt q69
          have r69 := nz_ba hB (k := 25) (lo := 0) (hi := 42) rfl ((sy_i F 4).toInt).toNat
          have q70 : (sy_ai F 25).getD (sy_i F 4).toNatClampNeg 0 = (sy_ai F 25).getD ((sy_i F 4).toInt).toNat 0 := by simp only [nz_c]
          have n70 : ((sy_ai F 25).getD (sy_i F 4).toNatClampNeg 0).toInt = ((sy_ai F 25).getD ((sy_i F 4).toInt).toNat 0).toInt := congrArg Int32.toInt q70
          have r70 := nz_ba hB (k := 25) (lo := 0) (hi := 42) rfl ((sy_i F 4).toInt).toNat
          have n71 : (((sy_ai F 25).getD (sy_i F 4).toNatClampNeg 0) - ((22 : Int32))).toInt = (((sy_ai F 25).getD ((sy_i F 4).toInt).toNat 0).toInt - 22) := nz_sub n70 (by decide : ((22 : Int32)).toInt = 22) (by omega) (by omega)
          have q72 : (sy_ai F 25).getD (sy_i F 4).toNatClampNeg 0 = (sy_ai F 25).getD ((sy_i F 4).toInt).toNat 0 := by simp only [nz_c]
          have n72 : ((sy_ai F 25).getD (sy_i F 4).toNatClampNeg 0).toInt = ((sy_ai F 25).getD ((sy_i F 4).toInt).toNat 0).toInt := congrArg Int32.toInt q72
          have r72 := nz_ba hB (k := 25) (lo := 0) (hi := 42) rfl ((sy_i F 4).toInt).toNat
          have c6 := nz_bx hB (k := 6) (lo := 0) (hi := 2) rfl
          have q73 : (sy_ai F 26).getD (sy_i F 4).toNatClampNeg 0 = (sy_ai F 26).getD ((sy_i F 4).toInt).toNat 0 := by simp only [nz_c]
          have n73 : ((sy_ai F 26).getD (sy_i F 4).toNatClampNeg 0).toInt = ((sy_ai F 26).getD ((sy_i F 4).toInt).toNat 0).toInt := congrArg Int32.toInt q73
          exact to_0_p15 hd F X1 X2 hB (by first | exact ⟨by omega, by omega⟩ | (simp only [nz_c]; exact ⟨by omega, by omega⟩)) (by first | exact g0 | (simp only [nz_c]; exact g0) | (rw [n69]; exact g0)) (by first | exact ⟨by omega, by omega⟩ | (simp only [nz_c]; exact ⟨by omega, by omega⟩)) (by first | exact g1 | (simp only [nz_c, n71]; exact g1) | (rw [n71]; exact g1)) (by first | exact ⟨by omega, by omega⟩ | (simp only [nz_c]; exact ⟨by omega, by omega⟩)) (by first | exact g2 | (simp only [nz_c]; exact g2) | (rw [n72]; exact g2)) (by first | exact g3 | (simp only [nz_c]; exact g3)) (by first | exact g4 | (simp only [nz_c]; exact g4)) (by first | exact g5 | (simp only [nz_c]; exact g5)) (by first | exact ⟨by omega, by omega⟩ | (simp only [nz_c]; exact ⟨by omega, by omega⟩)) (fun F1 g e6 e7 e69 => k15 g0 g1 g2 g3 g4 g5 F1 (nz_in hB [6, 7] (fun j hj hn => g j hj (by simp only [List.mem_cons, List.not_mem_nil, or_false, not_or] at hn; omega)) (List.forall_mem_cons.mpr ⟨fun t ht => (Option.some.inj ht) ▸ (nz_hi e6 (by decide : ((2 : Int32)).toInt = 2) (by omega) (by omega)), List.forall_mem_cons.mpr ⟨fun t ht => (Option.some.inj ht) ▸ (nz_hz e7), List.forall_mem_nil _⟩⟩)) (fun j hj hn => g j hj (by simp only [List.mem_cons, List.not_mem_nil, or_false, not_or] at hn; omega)) (nz_fi (g 4 (by decide) (by decide))) (nz_fi (g 5 (by decide) (by decide))) ((congrArg Int32.toInt (zz_i e6)).trans (by decide : ((2 : Int32)).toInt = 2)) (nz_fi (g 11 (by decide) (by decide))) (nz_fi (g 12 (by decide) (by decide))) (nz_fi (g 13 (by decide) (by decide))) (nz_fi (g 14 (by decide) (by decide))) (nz_fi (g 15 (by decide) (by decide))) (nz_fa (g 31 (by decide) (by decide))) (nz_fa (g 35 (by decide) (by decide))) (nz_fa (g 39 (by decide) (by decide))) (nz_fa (g 40 (by decide) (by decide))) (nz_fa (g 41 (by decide) (by decide))) ((congrArg Int32.toInt (zz_i e69)).trans n71))
        replace g5 : 0 < (sy_i F 6).toInt := by omega
        have c4 := nz_bx hB (k := 4) (lo := 0) (hi := 400) rfl
        have q69 : (sy_ai F 25).getD (sy_i F 4).toNatClampNeg 0 = (sy_ai F 25).getD ((sy_i F 4).toInt).toNat 0 := by simp only [nz_c]
        have n69 : ((sy_ai F 25).getD (sy_i F 4).toNatClampNeg 0).toInt = ((sy_ai F 25).getD ((sy_i F 4).toInt).toNat 0).toInt := congrArg Int32.toInt q69
        have r69 := nz_ba hB (k := 25) (lo := 0) (hi := 42) rfl ((sy_i F 4).toInt).toNat
        have q70 : (sy_ai F 25).getD (sy_i F 4).toNatClampNeg 0 = (sy_ai F 25).getD ((sy_i F 4).toInt).toNat 0 := by simp only [nz_c]
        have n70 : ((sy_ai F 25).getD (sy_i F 4).toNatClampNeg 0).toInt = ((sy_ai F 25).getD ((sy_i F 4).toInt).toNat 0).toInt := congrArg Int32.toInt q70
        have r70 := nz_ba hB (k := 25) (lo := 0) (hi := 42) rfl ((sy_i F 4).toInt).toNat
        have n71 : (((sy_ai F 25).getD (sy_i F 4).toNatClampNeg 0) - ((22 : Int32))).toInt = (((sy_ai F 25).getD ((sy_i F 4).toInt).toNat 0).toInt - 22) := nz_sub n70 (by decide : ((22 : Int32)).toInt = 22) (by omega) (by omega)
        have q72 : (sy_ai F 25).getD (sy_i F 4).toNatClampNeg 0 = (sy_ai F 25).getD ((sy_i F 4).toInt).toNat 0 := by simp only [nz_c]
        have n72 : ((sy_ai F 25).getD (sy_i F 4).toNatClampNeg 0).toInt = ((sy_ai F 25).getD ((sy_i F 4).toInt).toNat 0).toInt := congrArg Int32.toInt q72
        have r72 := nz_ba hB (k := 25) (lo := 0) (hi := 42) rfl ((sy_i F 4).toInt).toNat
        have c6 := nz_bx hB (k := 6) (lo := 0) (hi := 2) rfl
        exfalso
        omega
      replace g3 : 0 < (sy_i F 6).toInt := by omega
      have c4 := nz_bx hB (k := 4) (lo := 0) (hi := 400) rfl
      have q69 : (sy_ai F 25).getD (sy_i F 4).toNatClampNeg 0 = (sy_ai F 25).getD ((sy_i F 4).toInt).toNat 0 := by simp only [nz_c]
      have n69 : ((sy_ai F 25).getD (sy_i F 4).toNatClampNeg 0).toInt = ((sy_ai F 25).getD ((sy_i F 4).toInt).toNat 0).toInt := congrArg Int32.toInt q69
      have r69 := nz_ba hB (k := 25) (lo := 0) (hi := 42) rfl ((sy_i F 4).toInt).toNat
      have q70 : (sy_ai F 25).getD (sy_i F 4).toNatClampNeg 0 = (sy_ai F 25).getD ((sy_i F 4).toInt).toNat 0 := by simp only [nz_c]
      have n70 : ((sy_ai F 25).getD (sy_i F 4).toNatClampNeg 0).toInt = ((sy_ai F 25).getD ((sy_i F 4).toInt).toNat 0).toInt := congrArg Int32.toInt q70
      have r70 := nz_ba hB (k := 25) (lo := 0) (hi := 42) rfl ((sy_i F 4).toInt).toNat
      have n71 : (((sy_ai F 25).getD (sy_i F 4).toNatClampNeg 0) - ((22 : Int32))).toInt = (((sy_ai F 25).getD ((sy_i F 4).toInt).toNat 0).toInt - 22) := nz_sub n70 (by decide : ((22 : Int32)).toInt = 22) (by omega) (by omega)
      have q72 : (sy_ai F 25).getD (sy_i F 4).toNatClampNeg 0 = (sy_ai F 25).getD ((sy_i F 4).toInt).toNat 0 := by simp only [nz_c]
      have n72 : ((sy_ai F 25).getD (sy_i F 4).toNatClampNeg 0).toInt = ((sy_ai F 25).getD ((sy_i F 4).toInt).toNat 0).toInt := congrArg Int32.toInt q72
      have r72 := nz_ba hB (k := 25) (lo := 0) (hi := 42) rfl ((sy_i F 4).toInt).toNat
      have c6 := nz_bx hB (k := 6) (lo := 0) (hi := 2) rfl
      exact to_0_p16 hd F X1 X2 hB (by first | exact ⟨by omega, by omega⟩ | (simp only [nz_c]; exact ⟨by omega, by omega⟩)) (by first | exact g0 | (simp only [nz_c]; exact g0) | (rw [n69]; exact g0)) (by first | exact ⟨by omega, by omega⟩ | (simp only [nz_c]; exact ⟨by omega, by omega⟩)) (by first | exact g1 | (simp only [nz_c, n71]; exact g1) | (rw [n71]; exact g1)) (by first | exact ⟨by omega, by omega⟩ | (simp only [nz_c]; exact ⟨by omega, by omega⟩)) (by first | exact g2 | (simp only [nz_c]; exact g2) | (rw [n72]; exact g2)) (by first | exact g3 | (simp only [nz_c]; exact g3)) (fun F1 g  => k16 g0 g1 g2 g3 F1 (nz_in hB [] (fun j hj hn => g j hj (by simp only [List.mem_cons, List.not_mem_nil, or_false, not_or] at hn; exact trivial)) (List.forall_mem_nil _)) (fun j hj hn => g j hj (by simp only [List.mem_cons, List.not_mem_nil, or_false, not_or] at hn; exact trivial)) (nz_fi (g 4 (by decide) (by decide))) (nz_fi (g 5 (by decide) (by decide))) (nz_fi (g 6 (by decide) (by decide))) (nz_fi (g 11 (by decide) (by decide))) (nz_fi (g 12 (by decide) (by decide))) (nz_fi (g 13 (by decide) (by decide))) (nz_fi (g 14 (by decide) (by decide))) (nz_fi (g 15 (by decide) (by decide))) (nz_fa (g 31 (by decide) (by decide))) (nz_fa (g 35 (by decide) (by decide))) (nz_fa (g 39 (by decide) (by decide))) (nz_fa (g 40 (by decide) (by decide))) (nz_fa (g 41 (by decide) (by decide))))
    replace g2 : 27 < ((sy_ai F 25).getD ((sy_i F 4).toInt).toNat 0).toInt := by omega
    have c4 := nz_bx hB (k := 4) (lo := 0) (hi := 400) rfl
    have q69 : (sy_ai F 25).getD (sy_i F 4).toNatClampNeg 0 = (sy_ai F 25).getD ((sy_i F 4).toInt).toNat 0 := by simp only [nz_c]
    have n69 : ((sy_ai F 25).getD (sy_i F 4).toNatClampNeg 0).toInt = ((sy_ai F 25).getD ((sy_i F 4).toInt).toNat 0).toInt := congrArg Int32.toInt q69
    have r69 := nz_ba hB (k := 25) (lo := 0) (hi := 42) rfl ((sy_i F 4).toInt).toNat
    have q70 : (sy_ai F 25).getD (sy_i F 4).toNatClampNeg 0 = (sy_ai F 25).getD ((sy_i F 4).toInt).toNat 0 := by simp only [nz_c]
    have n70 : ((sy_ai F 25).getD (sy_i F 4).toNatClampNeg 0).toInt = ((sy_ai F 25).getD ((sy_i F 4).toInt).toNat 0).toInt := congrArg Int32.toInt q70
    have r70 := nz_ba hB (k := 25) (lo := 0) (hi := 42) rfl ((sy_i F 4).toInt).toNat
    have n71 : (((sy_ai F 25).getD (sy_i F 4).toNatClampNeg 0) - ((22 : Int32))).toInt = (((sy_ai F 25).getD ((sy_i F 4).toInt).toNat 0).toInt - 22) := nz_sub n70 (by decide : ((22 : Int32)).toInt = 22) (by omega) (by omega)
    have q72 : (sy_ai F 25).getD (sy_i F 4).toNatClampNeg 0 = (sy_ai F 25).getD ((sy_i F 4).toInt).toNat 0 := by simp only [nz_c]
    have n72 : ((sy_ai F 25).getD (sy_i F 4).toNatClampNeg 0).toInt = ((sy_ai F 25).getD ((sy_i F 4).toInt).toNat 0).toInt := congrArg Int32.toInt q72
    have r72 := nz_ba hB (k := 25) (lo := 0) (hi := 42) rfl ((sy_i F 4).toInt).toNat
    exfalso
    omega
  have y0_4 := g0
  clear g0
  by_cases g0 : ((sy_ai F 25).getD ((sy_i F 4).toInt).toNat 0).toInt = 23
  · by_cases g1 : (((sy_ai F 25).getD ((sy_i F 4).toInt).toNat 0).toInt - 22) < 0
    · have c4 := nz_bx hB (k := 4) (lo := 0) (hi := 400) rfl
      have q69 : (sy_ai F 25).getD (sy_i F 4).toNatClampNeg 0 = (sy_ai F 25).getD ((sy_i F 4).toInt).toNat 0 := by simp only [nz_c]
      have n69 : ((sy_ai F 25).getD (sy_i F 4).toNatClampNeg 0).toInt = ((sy_ai F 25).getD ((sy_i F 4).toInt).toNat 0).toInt := congrArg Int32.toInt q69
      have r69 := nz_ba hB (k := 25) (lo := 0) (hi := 42) rfl ((sy_i F 4).toInt).toNat
      have q70 : (sy_ai F 25).getD (sy_i F 4).toNatClampNeg 0 = (sy_ai F 25).getD ((sy_i F 4).toInt).toNat 0 := by simp only [nz_c]
      have n70 : ((sy_ai F 25).getD (sy_i F 4).toNatClampNeg 0).toInt = ((sy_ai F 25).getD ((sy_i F 4).toInt).toNat 0).toInt := congrArg Int32.toInt q70
      have r70 := nz_ba hB (k := 25) (lo := 0) (hi := 42) rfl ((sy_i F 4).toInt).toNat
      have n71 : (((sy_ai F 25).getD (sy_i F 4).toNatClampNeg 0) - ((22 : Int32))).toInt = (((sy_ai F 25).getD ((sy_i F 4).toInt).toNat 0).toInt - 22) := nz_sub n70 (by decide : ((22 : Int32)).toInt = 22) (by omega) (by omega)
      exfalso
      omega
    replace g1 : 0 ≤ (((sy_ai F 25).getD ((sy_i F 4).toInt).toNat 0).toInt - 22) := by omega
    by_cases g2 : ((sy_ai F 25).getD ((sy_i F 4).toInt).toNat 0).toInt ≤ 27
    · by_cases g3 : (sy_i F 6).toInt ≤ 0
      · by_cases g4 : (sy_i F 4).toInt ≠ 400
        · have c4 := nz_bx hB (k := 4) (lo := 0) (hi := 400) rfl
          have q69 : (sy_ai F 25).getD (sy_i F 4).toNatClampNeg 0 = (sy_ai F 25).getD ((sy_i F 4).toInt).toNat 0 := by simp only [nz_c]
          have n69 : ((sy_ai F 25).getD (sy_i F 4).toNatClampNeg 0).toInt = ((sy_ai F 25).getD ((sy_i F 4).toInt).toNat 0).toInt := congrArg Int32.toInt q69
          have r69 := nz_ba hB (k := 25) (lo := 0) (hi := 42) rfl ((sy_i F 4).toInt).toNat
          have q70 : (sy_ai F 25).getD (sy_i F 4).toNatClampNeg 0 = (sy_ai F 25).getD ((sy_i F 4).toInt).toNat 0 := by simp only [nz_c]
          have n70 : ((sy_ai F 25).getD (sy_i F 4).toNatClampNeg 0).toInt = ((sy_ai F 25).getD ((sy_i F 4).toInt).toNat 0).toInt := congrArg Int32.toInt q70
          have r70 := nz_ba hB (k := 25) (lo := 0) (hi := 42) rfl ((sy_i F 4).toInt).toNat
          have n71 : (((sy_ai F 25).getD (sy_i F 4).toNatClampNeg 0) - ((22 : Int32))).toInt = (((sy_ai F 25).getD ((sy_i F 4).toInt).toNat 0).toInt - 22) := nz_sub n70 (by decide : ((22 : Int32)).toInt = 22) (by omega) (by omega)
          have q72 : (sy_ai F 25).getD (sy_i F 4).toNatClampNeg 0 = (sy_ai F 25).getD ((sy_i F 4).toInt).toNat 0 := by simp only [nz_c]
          have n72 : ((sy_ai F 25).getD (sy_i F 4).toNatClampNeg 0).toInt = ((sy_ai F 25).getD ((sy_i F 4).toInt).toNat 0).toInt := congrArg Int32.toInt q72
          have r72 := nz_ba hB (k := 25) (lo := 0) (hi := 42) rfl ((sy_i F 4).toInt).toNat
          have c6 := nz_bx hB (k := 6) (lo := 0) (hi := 2) rfl
          have n73 : ((sy_i F 4) + ((1 : Int32))).toInt = ((sy_i F 4).toInt + 1) := nz_add (rfl : (sy_i F 4).toInt = (sy_i F 4).toInt) (by decide : ((1 : Int32)).toInt = 1) (by omega) (by omega)
          exact to_0_p17 hd F X1 X2 hB (by first | exact ⟨by omega, by omega⟩ | (simp only [nz_c]; exact ⟨by omega, by omega⟩)) (by first | exact g0 | (simp only [nz_c]; exact g0) | (rw [n69]; exact g0)) (by first | exact ⟨by omega, by omega⟩ | (simp only [nz_c]; exact ⟨by omega, by omega⟩)) (by first | exact g1 | (simp only [nz_c, n71]; exact g1) | (rw [n71]; exact g1)) (by first | exact ⟨by omega, by omega⟩ | (simp only [nz_c]; exact ⟨by omega, by omega⟩)) (by first | exact g2 | (simp only [nz_c]; exact g2) | (rw [n72]; exact g2)) (by first | exact g3 | (simp only [nz_c]; exact g3)) (by first | exact g4 | (simp only [nz_c]; exact g4)) (fun F1 g e4 e69 => k17 g0 g1 g2 g3 g4 F1 (nz_in hB [4] (fun j hj hn => g j hj (by simp only [List.mem_cons, List.not_mem_nil, or_false, not_or] at hn; omega)) (List.forall_mem_cons.mpr ⟨fun t ht => (Option.some.inj ht) ▸ (nz_hi e4 n73 (by omega) (by omega)), List.forall_mem_nil _⟩)) (fun j hj hn => g j hj (by simp only [List.mem_cons, List.not_mem_nil, or_false, not_or] at hn; omega)) ((congrArg Int32.toInt (zz_i e4)).trans n73) (nz_fi (g 5 (by decide) (by decide))) (nz_fi (g 6 (by decide) (by decide))) (nz_fi (g 11 (by decide) (by decide))) (nz_fi (g 12 (by decide) (by decide))) (nz_fi (g 13 (by decide) (by decide))) (nz_fi (g 14 (by decide) (by decide))) (nz_fi (g 15 (by decide) (by decide))) (nz_fa (g 31 (by decide) (by decide))) (nz_fa (g 35 (by decide) (by decide))) (nz_fa (g 39 (by decide) (by decide))) (nz_fa (g 40 (by decide) (by decide))) (nz_fa (g 41 (by decide) (by decide))) ((congrArg Int32.toInt (zz_i e69)).trans n71))
        replace g4 : (sy_i F 4).toInt = 400 := by omega
        by_cases g5 : (sy_i F 6).toInt ≤ 0
        · have c4 := nz_bx hB (k := 4) (lo := 0) (hi := 400) rfl
          have q69 : (sy_ai F 25).getD (sy_i F 4).toNatClampNeg 0 = (sy_ai F 25).getD ((sy_i F 4).toInt).toNat 0 := by simp only [nz_c]
          have n69 : ((sy_ai F 25).getD (sy_i F 4).toNatClampNeg 0).toInt = ((sy_ai F 25).getD ((sy_i F 4).toInt).toNat 0).toInt := congrArg Int32.toInt q69
          have r69 := nz_ba hB (k := 25) (lo := 0) (hi := 42) rfl ((sy_i F 4).toInt).toNat
          have q70 : (sy_ai F 25).getD (sy_i F 4).toNatClampNeg 0 = (sy_ai F 25).getD ((sy_i F 4).toInt).toNat 0 := by simp only [nz_c]
          have n70 : ((sy_ai F 25).getD (sy_i F 4).toNatClampNeg 0).toInt = ((sy_ai F 25).getD ((sy_i F 4).toInt).toNat 0).toInt := congrArg Int32.toInt q70
          have r70 := nz_ba hB (k := 25) (lo := 0) (hi := 42) rfl ((sy_i F 4).toInt).toNat
          have n71 : (((sy_ai F 25).getD (sy_i F 4).toNatClampNeg 0) - ((22 : Int32))).toInt = (((sy_ai F 25).getD ((sy_i F 4).toInt).toNat 0).toInt - 22) := nz_sub n70 (by decide : ((22 : Int32)).toInt = 22) (by omega) (by omega)
          have q72 : (sy_ai F 25).getD (sy_i F 4).toNatClampNeg 0 = (sy_ai F 25).getD ((sy_i F 4).toInt).toNat 0 := by simp only [nz_c]
          have n72 : ((sy_ai F 25).getD (sy_i F 4).toNatClampNeg 0).toInt = ((sy_ai F 25).getD ((sy_i F 4).toInt).toNat 0).toInt := congrArg Int32.toInt q72
          have r72 := nz_ba hB (k := 25) (lo := 0) (hi := 42) rfl ((sy_i F 4).toInt).toNat
          have c6 := nz_bx hB (k := 6) (lo := 0) (hi := 2) rfl
          have q73 : (sy_ai F 26).getD (sy_i F 4).toNatClampNeg 0 = (sy_ai F 26).getD ((sy_i F 4).toInt).toNat 0 := by simp only [nz_c]
          have n73 : ((sy_ai F 26).getD (sy_i F 4).toNatClampNeg 0).toInt = ((sy_ai F 26).getD ((sy_i F 4).toInt).toNat 0).toInt := congrArg Int32.toInt q73
          exact to_0_p18 hd F X1 X2 hB (by first | exact ⟨by omega, by omega⟩ | (simp only [nz_c]; exact ⟨by omega, by omega⟩)) (by first | exact g0 | (simp only [nz_c]; exact g0) | (rw [n69]; exact g0)) (by first | exact ⟨by omega, by omega⟩ | (simp only [nz_c]; exact ⟨by omega, by omega⟩)) (by first | exact g1 | (simp only [nz_c, n71]; exact g1) | (rw [n71]; exact g1)) (by first | exact ⟨by omega, by omega⟩ | (simp only [nz_c]; exact ⟨by omega, by omega⟩)) (by first | exact g2 | (simp only [nz_c]; exact g2) | (rw [n72]; exact g2)) (by first | exact g3 | (simp only [nz_c]; exact g3)) (by first | exact g4 | (simp only [nz_c]; exact g4)) (by first | exact g5 | (simp only [nz_c]; exact g5)) (by first | exact ⟨by omega, by omega⟩ | (simp only [nz_c]; exact ⟨by omega, by omega⟩)) (fun F1 g e6 e7 e69 => k18 g0 g1 g2 g3 g4 g5 F1 (nz_in hB [6, 7] (fun j hj hn => g j hj (by simp only [List.mem_cons, List.not_mem_nil, or_false, not_or] at hn; omega)) (List.forall_mem_cons.mpr ⟨fun t ht => (Option.some.inj ht) ▸ (nz_hi e6 (by decide : ((2 : Int32)).toInt = 2) (by omega) (by omega)), List.forall_mem_cons.mpr ⟨fun t ht => (Option.some.inj ht) ▸ (nz_hz e7), List.forall_mem_nil _⟩⟩)) (fun j hj hn => g j hj (by simp only [List.mem_cons, List.not_mem_nil, or_false, not_or] at hn; omega)) (nz_fi (g 4 (by decide) (by decide))) (nz_fi (g 5 (by decide) (by decide))) ((congrArg Int32.toInt (zz_i e6)).trans (by decide : ((2 : Int32)).toInt = 2)) (nz_fi (g 11 (by decide) (by decide))) (nz_fi (g 12 (by decide) (by decide))) (nz_fi (g 13 (by decide) (by decide))) (nz_fi (g 14 (by decide) (by decide))) (nz_fi (g 15 (by decide) (by decide))) (nz_fa (g 31 (by decide) (by decide))) (nz_fa (g 35 (by decide) (by decide))) (nz_fa (g 39 (by decide) (by decide))) (nz_fa (g 40 (by decide) (by decide))) (nz_fa (g 41 (by decide) (by decide))) ((congrArg Int32.toInt (zz_i e69)).trans n71))
        replace g5 : 0 < (sy_i F 6).toInt := by omega
        have c4 := nz_bx hB (k := 4) (lo := 0) (hi := 400) rfl
        have q69 : (sy_ai F 25).getD (sy_i F 4).toNatClampNeg 0 = (sy_ai F 25).getD ((sy_i F 4).toInt).toNat 0 := by simp only [nz_c]
        have n69 : ((sy_ai F 25).getD (sy_i F 4).toNatClampNeg 0).toInt = ((sy_ai F 25).getD ((sy_i F 4).toInt).toNat 0).toInt := congrArg Int32.toInt q69
        have r69 := nz_ba hB (k := 25) (lo := 0) (hi := 42) rfl ((sy_i F 4).toInt).toNat
        have q70 : (sy_ai F 25).getD (sy_i F 4).toNatClampNeg 0 = (sy_ai F 25).getD ((sy_i F 4).toInt).toNat 0 := by simp only [nz_c]
        have n70 : ((sy_ai F 25).getD (sy_i F 4).toNatClampNeg 0).toInt = ((sy_ai F 25).getD ((sy_i F 4).toInt).toNat 0).toInt := congrArg Int32.toInt q70
        have r70 := nz_ba hB (k := 25) (lo := 0) (hi := 42) rfl ((sy_i F 4).toInt).toNat
        have n71 : (((sy_ai F 25).getD (sy_i F 4).toNatClampNeg 0) - ((22 : Int32))).toInt = (((sy_ai F 25).getD ((sy_i F 4).toInt).toNat 0).toInt - 22) := nz_sub n70 (by decide : ((22 : Int32)).toInt = 22) (by omega) (by omega)
        have q72 : (sy_ai F 25).getD (sy_i F 4).toNatClampNeg 0 = (sy_ai F 25).getD ((sy_i F 4).toInt).toNat 0 := by simp only [nz_c]
        have n72 : ((sy_ai F 25).getD (sy_i F 4).toNatClampNeg 0).toInt = ((sy_ai F 25).getD ((sy_i F 4).toInt).toNat 0).toInt := congrArg Int32.toInt q72
        have r72 := nz_ba hB (k := 25) (lo := 0) (hi := 42) rfl ((sy_i F 4).toInt).toNat
        have c6 := nz_bx hB (k := 6) (lo := 0) (hi := 2) rfl
        exfalso
        omega
      replace g3 : 0 < (sy_i F 6).toInt := by omega
      have c4 := nz_bx hB (k := 4) (lo := 0) (hi := 400) rfl
      have q69 : (sy_ai F 25).getD (sy_i F 4).toNatClampNeg 0 = (sy_ai F 25).getD ((sy_i F 4).toInt).toNat 0 := by simp only [nz_c]
      have n69 : ((sy_ai F 25).getD (sy_i F 4).toNatClampNeg 0).toInt = ((sy_ai F 25).getD ((sy_i F 4).toInt).toNat 0).toInt := congrArg Int32.toInt q69
      have r69 := nz_ba hB (k := 25) (lo := 0) (hi := 42) rfl ((sy_i F 4).toInt).toNat
      have q70 : (sy_ai F 25).getD (sy_i F 4).toNatClampNeg 0 = (sy_ai F 25).getD ((sy_i F 4).toInt).toNat 0 := by simp only [nz_c]
      have n70 : ((sy_ai F 25).getD (sy_i F 4).toNatClampNeg 0).toInt = ((sy_ai F 25).getD ((sy_i F 4).toInt).toNat 0).toInt := congrArg Int32.toInt q70
      have r70 := nz_ba hB (k := 25) (lo := 0) (hi := 42) rfl ((sy_i F 4).toInt).toNat
      have n71 : (((sy_ai F 25).getD (sy_i F 4).toNatClampNeg 0) - ((22 : Int32))).toInt = (((sy_ai F 25).getD ((sy_i F 4).toInt).toNat 0).toInt - 22) := nz_sub n70 (by decide : ((22 : Int32)).toInt = 22) (by omega) (by omega)
      have q72 : (sy_ai F 25).getD (sy_i F 4).toNatClampNeg 0 = (sy_ai F 25).getD ((sy_i F 4).toInt).toNat 0 := by simp only [nz_c]
      have n72 : ((sy_ai F 25).getD (sy_i F 4).toNatClampNeg 0).toInt = ((sy_ai F 25).getD ((sy_i F 4).toInt).toNat 0).toInt := congrArg Int32.toInt q72
      have r72 := nz_ba hB (k := 25) (lo := 0) (hi := 42) rfl ((sy_i F 4).toInt).toNat
      have c6 := nz_bx hB (k := 6) (lo := 0) (hi := 2) rfl
      exact to_0_p19 hd F X1 X2 hB (by first | exact ⟨by omega, by omega⟩ | (simp only [nz_c]; exact ⟨by omega, by omega⟩)) (by first | exact g0 | (simp only [nz_c]; exact g0) | (rw [n69]; exact g0)) (by first | exact ⟨by omega, by omega⟩ | (simp only [nz_c]; exact ⟨by omega, by omega⟩)) (by first | exact g1 | (simp only [nz_c, n71]; exact g1) | (rw [n71]; exact g1)) (by first | exact ⟨by omega, by omega⟩ | (simp only [nz_c]; exact ⟨by omega, by omega⟩)) (by first | exact g2 | (simp only [nz_c]; exact g2) | (rw [n72]; exact g2)) (by first | exact g3 | (simp only [nz_c]; exact g3)) (fun F1 g  => k19 g0 g1 g2 g3 F1 (nz_in hB [] (fun j hj hn => g j hj (by simp only [List.mem_cons, List.not_mem_nil, or_false, not_or] at hn; exact trivial)) (List.forall_mem_nil _)) (fun j hj hn => g j hj (by simp only [List.mem_cons, List.not_mem_nil, or_false, not_or] at hn; exact trivial)) (nz_fi (g 4 (by decide) (by decide))) (nz_fi (g 5 (by decide) (by decide))) (nz_fi (g 6 (by decide) (by decide))) (nz_fi (g 11 (by decide) (by decide))) (nz_fi (g 12 (by decide) (by decide))) (nz_fi (g 13 (by decide) (by decide))) (nz_fi (g 14 (by decide) (by decide))) (nz_fi (g 15 (by decide) (by decide))) (nz_fa (g 31 (by decide) (by decide))) (nz_fa (g 35 (by decide) (by decide))) (nz_fa (g 39 (by decide) (by decide))) (nz_fa (g 40 (by decide) (by decide))) (nz_fa (g 41 (by decide) (by decide))))
    replace g2 : 27 < ((sy_ai F 25).getD ((sy_i F 4).toInt).toNat 0).toInt := by omega
    have c4 := nz_bx hB (k := 4) (lo := 0) (hi := 400) rfl
    have q69 : (sy_ai F 25).getD (sy_i F 4).toNatClampNeg 0 = (sy_ai F 25).getD ((sy_i F 4).toInt).toNat 0 := by simp only [nz_c]
    have n69 : ((sy_ai F 25).getD (sy_i F 4).toNatClampNeg 0).toInt = ((sy_ai F 25).getD ((sy_i F 4).toInt).toNat 0).toInt := congrArg Int32.toInt q69
    have r69 := nz_ba hB (k := 25) (lo := 0) (hi := 42) rfl ((sy_i F 4).toInt).toNat
    have q70 : (sy_ai F 25).getD (sy_i F 4).toNatClampNeg 0 = (sy_ai F 25).getD ((sy_i F 4).toInt).toNat 0 := by simp only [nz_c]
    have n70 : ((sy_ai F 25).getD (sy_i F 4).toNatClampNeg 0).toInt = ((sy_ai F 25).getD ((sy_i F 4).toInt).toNat 0).toInt := congrArg Int32.toInt q70
    have r70 := nz_ba hB (k := 25) (lo := 0) (hi := 42) rfl ((sy_i F 4).toInt).toNat
    have n71 : (((sy_ai F 25).getD (sy_i F 4).toNatClampNeg 0) - ((22 : Int32))).toInt = (((sy_ai F 25).getD ((sy_i F 4).toInt).toNat 0).toInt - 22) := nz_sub n70 (by decide : ((22 : Int32)).toInt = 22) (by omega) (by omega)
    have q72 : (sy_ai F 25).getD (sy_i F 4).toNatClampNeg 0 = (sy_ai F 25).getD ((sy_i F 4).toInt).toNat 0 := by simp only [nz_c]
    have n72 : ((sy_ai F 25).getD (sy_i F 4).toNatClampNeg 0).toInt = ((sy_ai F 25).getD ((sy_i F 4).toInt).toNat 0).toInt := congrArg Int32.toInt q72
    have r72 := nz_ba hB (k := 25) (lo := 0) (hi := 42) rfl ((sy_i F 4).toInt).toNat
    exfalso
    omega
  have y0_5 := g0
  clear g0
  by_cases g0 : ((sy_ai F 25).getD ((sy_i F 4).toInt).toNat 0).toInt = 24
  · by_cases g1 : (((sy_ai F 25).getD ((sy_i F 4).toInt).toNat 0).toInt - 22) < 0
    · have c4 := nz_bx hB (k := 4) (lo := 0) (hi := 400) rfl
      have q69 : (sy_ai F 25).getD (sy_i F 4).toNatClampNeg 0 = (sy_ai F 25).getD ((sy_i F 4).toInt).toNat 0 := by simp only [nz_c]
      have n69 : ((sy_ai F 25).getD (sy_i F 4).toNatClampNeg 0).toInt = ((sy_ai F 25).getD ((sy_i F 4).toInt).toNat 0).toInt := congrArg Int32.toInt q69
      have r69 := nz_ba hB (k := 25) (lo := 0) (hi := 42) rfl ((sy_i F 4).toInt).toNat
      have q70 : (sy_ai F 25).getD (sy_i F 4).toNatClampNeg 0 = (sy_ai F 25).getD ((sy_i F 4).toInt).toNat 0 := by simp only [nz_c]
      have n70 : ((sy_ai F 25).getD (sy_i F 4).toNatClampNeg 0).toInt = ((sy_ai F 25).getD ((sy_i F 4).toInt).toNat 0).toInt := congrArg Int32.toInt q70
      have r70 := nz_ba hB (k := 25) (lo := 0) (hi := 42) rfl ((sy_i F 4).toInt).toNat
      have n71 : (((sy_ai F 25).getD (sy_i F 4).toNatClampNeg 0) - ((22 : Int32))).toInt = (((sy_ai F 25).getD ((sy_i F 4).toInt).toNat 0).toInt - 22) := nz_sub n70 (by decide : ((22 : Int32)).toInt = 22) (by omega) (by omega)
      exfalso
      omega
    replace g1 : 0 ≤ (((sy_ai F 25).getD ((sy_i F 4).toInt).toNat 0).toInt - 22) := by omega
    by_cases g2 : ((sy_ai F 25).getD ((sy_i F 4).toInt).toNat 0).toInt ≤ 27
    · by_cases g3 : (sy_i F 6).toInt ≤ 0
      · by_cases g4 : (sy_i F 4).toInt ≠ 400
        · have c4 := nz_bx hB (k := 4) (lo := 0) (hi := 400) rfl
          have q69 : (sy_ai F 25).getD (sy_i F 4).toNatClampNeg 0 = (sy_ai F 25).getD ((sy_i F 4).toInt).toNat 0 := by simp only [nz_c]
          have n69 : ((sy_ai F 25).getD (sy_i F 4).toNatClampNeg 0).toInt = ((sy_ai F 25).getD ((sy_i F 4).toInt).toNat 0).toInt := congrArg Int32.toInt q69
          have r69 := nz_ba hB (k := 25) (lo := 0) (hi := 42) rfl ((sy_i F 4).toInt).toNat
          have q70 : (sy_ai F 25).getD (sy_i F 4).toNatClampNeg 0 = (sy_ai F 25).getD ((sy_i F 4).toInt).toNat 0 := by simp only [nz_c]
          have n70 : ((sy_ai F 25).getD (sy_i F 4).toNatClampNeg 0).toInt = ((sy_ai F 25).getD ((sy_i F 4).toInt).toNat 0).toInt := congrArg Int32.toInt q70
          have r70 := nz_ba hB (k := 25) (lo := 0) (hi := 42) rfl ((sy_i F 4).toInt).toNat
          have n71 : (((sy_ai F 25).getD (sy_i F 4).toNatClampNeg 0) - ((22 : Int32))).toInt = (((sy_ai F 25).getD ((sy_i F 4).toInt).toNat 0).toInt - 22) := nz_sub n70 (by decide : ((22 : Int32)).toInt = 22) (by omega) (by omega)
          have q72 : (sy_ai F 25).getD (sy_i F 4).toNatClampNeg 0 = (sy_ai F 25).getD ((sy_i F 4).toInt).toNat 0 := by simp only [nz_c]
          have n72 : ((sy_ai F 25).getD (sy_i F 4).toNatClampNeg 0).toInt = ((sy_ai F 25).getD ((sy_i F 4).toInt).toNat 0).toInt := congrArg Int32.toInt q72
          have r72 := nz_ba hB (k := 25) (lo := 0) (hi := 42) rfl ((sy_i F 4).toInt).toNat
          have c6 := nz_bx hB (k := 6) (lo := 0) (hi := 2) rfl
          have n73 : ((sy_i F 4) + ((1 : Int32))).toInt = ((sy_i F 4).toInt + 1) := nz_add (rfl : (sy_i F 4).toInt = (sy_i F 4).toInt) (by decide : ((1 : Int32)).toInt = 1) (by omega) (by omega)
          exact to_0_p20 hd F X1 X2 hB (by first | exact ⟨by omega, by omega⟩ | (simp only [nz_c]; exact ⟨by omega, by omega⟩)) (by first | exact g0 | (simp only [nz_c]; exact g0) | (rw [n69]; exact g0)) (by first | exact ⟨by omega, by omega⟩ | (simp only [nz_c]; exact ⟨by omega, by omega⟩)) (by first | exact g1 | (simp only [nz_c, n71]; exact g1) | (rw [n71]; exact g1)) (by first | exact ⟨by omega, by omega⟩ | (simp only [nz_c]; exact ⟨by omega, by omega⟩)) (by first | exact g2 | (simp only [nz_c]; exact g2) | (rw [n72]; exact g2)) (by first | exact g3 | (simp only [nz_c]; exact g3)) (by first | exact g4 | (simp only [nz_c]; exact g4)) (fun F1 g e4 e69 => k20 g0 g1 g2 g3 g4 F1 (nz_in hB [4] (fun j hj hn => g j hj (by simp only [List.mem_cons, List.not_mem_nil, or_false, not_or] at hn; omega)) (List.forall_mem_cons.mpr ⟨fun t ht => (Option.some.inj ht) ▸ (nz_hi e4 n73 (by omega) (by omega)), List.forall_mem_nil _⟩)) (fun j hj hn => g j hj (by simp only [List.mem_cons, List.not_mem_nil, or_false, not_or] at hn; omega)) ((congrArg Int32.toInt (zz_i e4)).trans n73) (nz_fi (g 5 (by decide) (by decide))) (nz_fi (g 6 (by decide) (by decide))) (nz_fi (g 11 (by decide) (by decide))) (nz_fi (g 12 (by decide) (by decide))) (nz_fi (g 13 (by decide) (by decide))) (nz_fi (g 14 (by decide) (by decide))) (nz_fi (g 15 (by decide) (by decide))) (nz_fa (g 31 (by decide) (by decide))) (nz_fa (g 35 (by decide) (by decide))) (nz_fa (g 39 (by decide) (by decide))) (nz_fa (g 40 (by decide) (by decide))) (nz_fa (g 41 (by decide) (by decide))) ((congrArg Int32.toInt (zz_i e69)).trans n71))
        replace g4 : (sy_i F 4).toInt = 400 := by omega
        by_cases g5 : (sy_i F 6).toInt ≤ 0
        · have c4 := nz_bx hB (k := 4) (lo := 0) (hi := 400) rfl
          have q69 : (sy_ai F 25).getD (sy_i F 4).toNatClampNeg 0 = (sy_ai F 25).getD ((sy_i F 4).toInt).toNat 0 := by simp only [nz_c]
          have n69 : ((sy_ai F 25).getD (sy_i F 4).toNatClampNeg 0).toInt = ((sy_ai F 25).getD ((sy_i F 4).toInt).toNat 0).toInt := congrArg Int32.toInt q69
          have r69 := nz_ba hB (k := 25) (lo := 0) (hi := 42) rfl ((sy_i F 4).toInt).toNat
          have q70 : (sy_ai F 25).getD (sy_i F 4).toNatClampNeg 0 = (sy_ai F 25).getD ((sy_i F 4).toInt).toNat 0 := by simp only [nz_c]
          have n70 : ((sy_ai F 25).getD (sy_i F 4).toNatClampNeg 0).toInt = ((sy_ai F 25).getD ((sy_i F 4).toInt).toNat 0).toInt := congrArg Int32.toInt q70
          have r70 := nz_ba hB (k := 25) (lo := 0) (hi := 42) rfl ((sy_i F 4).toInt).toNat
          have n71 : (((sy_ai F 25).getD (sy_i F 4).toNatClampNeg 0) - ((22 : Int32))).toInt = (((sy_ai F 25).getD ((sy_i F 4).toInt).toNat 0).toInt - 22) := nz_sub n70 (by decide : ((22 : Int32)).toInt = 22) (by omega) (by omega)
          have q72 : (sy_ai F 25).getD (sy_i F 4).toNatClampNeg 0 = (sy_ai F 25).getD ((sy_i F 4).toInt).toNat 0 := by simp only [nz_c]
          have n72 : ((sy_ai F 25).getD (sy_i F 4).toNatClampNeg 0).toInt = ((sy_ai F 25).getD ((sy_i F 4).toInt).toNat 0).toInt := congrArg Int32.toInt q72
          have r72 := nz_ba hB (k := 25) (lo := 0) (hi := 42) rfl ((sy_i F 4).toInt).toNat
          have c6 := nz_bx hB (k := 6) (lo := 0) (hi := 2) rfl
          have q73 : (sy_ai F 26).getD (sy_i F 4).toNatClampNeg 0 = (sy_ai F 26).getD ((sy_i F 4).toInt).toNat 0 := by simp only [nz_c]
          have n73 : ((sy_ai F 26).getD (sy_i F 4).toNatClampNeg 0).toInt = ((sy_ai F 26).getD ((sy_i F 4).toInt).toNat 0).toInt := congrArg Int32.toInt q73
          exact to_0_p21 hd F X1 X2 hB (by first | exact ⟨by omega, by omega⟩ | (simp only [nz_c]; exact ⟨by omega, by omega⟩)) (by first | exact g0 | (simp only [nz_c]; exact g0) | (rw [n69]; exact g0)) (by first | exact ⟨by omega, by omega⟩ | (simp only [nz_c]; exact ⟨by omega, by omega⟩)) (by first | exact g1 | (simp only [nz_c, n71]; exact g1) | (rw [n71]; exact g1)) (by first | exact ⟨by omega, by omega⟩ | (simp only [nz_c]; exact ⟨by omega, by omega⟩)) (by first | exact g2 | (simp only [nz_c]; exact g2) | (rw [n72]; exact g2)) (by first | exact g3 | (simp only [nz_c]; exact g3)) (by first | exact g4 | (simp only [nz_c]; exact g4)) (by first | exact g5 | (simp only [nz_c]; exact g5)) (by first | exact ⟨by omega, by omega⟩ | (simp only [nz_c]; exact ⟨by omega, by omega⟩)) (fun F1 g e6 e7 e69 => k21 g0 g1 g2 g3 g4 g5 F1 (nz_in hB [6, 7] (fun j hj hn => g j hj (by simp only [List.mem_cons, List.not_mem_nil, or_false, not_or] at hn; omega)) (List.forall_mem_cons.mpr ⟨fun t ht => (Option.some.inj ht) ▸ (nz_hi e6 (by decide : ((2 : Int32)).toInt = 2) (by omega) (by omega)), List.forall_mem_cons.mpr ⟨fun t ht => (Option.some.inj ht) ▸ (nz_hz e7), List.forall_mem_nil _⟩⟩)) (fun j hj hn => g j hj (by simp only [List.mem_cons, List.not_mem_nil, or_false, not_or] at hn; omega)) (nz_fi (g 4 (by decide) (by decide))) (nz_fi (g 5 (by decide) (by decide))) ((congrArg Int32.toInt (zz_i e6)).trans (by decide : ((2 : Int32)).toInt = 2)) (nz_fi (g 11 (by decide) (by decide))) (nz_fi (g 12 (by decide) (by decide))) (nz_fi (g 13 (by decide) (by decide))) (nz_fi (g 14 (by decide) (by decide))) (nz_fi (g 15 (by decide) (by decide))) (nz_fa (g 31 (by decide) (by decide))) (nz_fa (g 35 (by decide) (by decide))) (nz_fa (g 39 (by decide) (by decide))) (nz_fa (g 40 (by decide) (by decide))) (nz_fa (g 41 (by decide) (by decide))) ((congrArg Int32.toInt (zz_i e69)).trans n71))
        replace g5 : 0 < (sy_i F 6).toInt := by omega
        have c4 := nz_bx hB (k := 4) (lo := 0) (hi := 400) rfl
        have q69 : (sy_ai F 25).getD (sy_i F 4).toNatClampNeg 0 = (sy_ai F 25).getD ((sy_i F 4).toInt).toNat 0 := by simp only [nz_c]
        have n69 : ((sy_ai F 25).getD (sy_i F 4).toNatClampNeg 0).toInt = ((sy_ai F 25).getD ((sy_i F 4).toInt).toNat 0).toInt := congrArg Int32.toInt q69
        have r69 := nz_ba hB (k := 25) (lo := 0) (hi := 42) rfl ((sy_i F 4).toInt).toNat
        have q70 : (sy_ai F 25).getD (sy_i F 4).toNatClampNeg 0 = (sy_ai F 25).getD ((sy_i F 4).toInt).toNat 0 := by simp only [nz_c]
        have n70 : ((sy_ai F 25).getD (sy_i F 4).toNatClampNeg 0).toInt = ((sy_ai F 25).getD ((sy_i F 4).toInt).toNat 0).toInt := congrArg Int32.toInt q70
        have r70 := nz_ba hB (k := 25) (lo := 0) (hi := 42) rfl ((sy_i F 4).toInt).toNat
        have n71 : (((sy_ai F 25).getD (sy_i F 4).toNatClampNeg 0) - ((22 : Int32))).toInt = (((sy_ai F 25).getD ((sy_i F 4).toInt).toNat 0).toInt - 22) := nz_sub n70 (by decide : ((22 : Int32)).toInt = 22) (by omega) (by omega)
        have q72 : (sy_ai F 25).getD (sy_i F 4).toNatClampNeg 0 = (sy_ai F 25).getD ((sy_i F 4).toInt).toNat 0 := by simp only [nz_c]
        have n72 : ((sy_ai F 25).getD (sy_i F 4).toNatClampNeg 0).toInt = ((sy_ai F 25).getD ((sy_i F 4).toInt).toNat 0).toInt := congrArg Int32.toInt q72
        have r72 := nz_ba hB (k := 25) (lo := 0) (hi := 42) rfl ((sy_i F 4).toInt).toNat
        have c6 := nz_bx hB (k := 6) (lo := 0) (hi := 2) rfl
        exfalso
        omega
      replace g3 : 0 < (sy_i F 6).toInt := by omega
      have c4 := nz_bx hB (k := 4) (lo := 0) (hi := 400) rfl
      have q69 : (sy_ai F 25).getD (sy_i F 4).toNatClampNeg 0 = (sy_ai F 25).getD ((sy_i F 4).toInt).toNat 0 := by simp only [nz_c]
      have n69 : ((sy_ai F 25).getD (sy_i F 4).toNatClampNeg 0).toInt = ((sy_ai F 25).getD ((sy_i F 4).toInt).toNat 0).toInt := congrArg Int32.toInt q69
      have r69 := nz_ba hB (k := 25) (lo := 0) (hi := 42) rfl ((sy_i F 4).toInt).toNat
      have q70 : (sy_ai F 25).getD (sy_i F 4).toNatClampNeg 0 = (sy_ai F 25).getD ((sy_i F 4).toInt).toNat 0 := by simp only [nz_c]
      have n70 : ((sy_ai F 25).getD (sy_i F 4).toNatClampNeg 0).toInt = ((sy_ai F 25).getD ((sy_i F 4).toInt).toNat 0).toInt := congrArg Int32.toInt q70
      have r70 := nz_ba hB (k := 25) (lo := 0) (hi := 42) rfl ((sy_i F 4).toInt).toNat
      have n71 : (((sy_ai F 25).getD (sy_i F 4).toNatClampNeg 0) - ((22 : Int32))).toInt = (((sy_ai F 25).getD ((sy_i F 4).toInt).toNat 0).toInt - 22) := nz_sub n70 (by decide : ((22 : Int32)).toInt = 22) (by omega) (by omega)
      have q72 : (sy_ai F 25).getD (sy_i F 4).toNatClampNeg 0 = (sy_ai F 25).getD ((sy_i F 4).toInt).toNat 0 := by simp only [nz_c]
      have n72 : ((sy_ai F 25).getD (sy_i F 4).toNatClampNeg 0).toInt = ((sy_ai F 25).getD ((sy_i F 4).toInt).toNat 0).toInt := congrArg Int32.toInt q72
      have r72 := nz_ba hB (k := 25) (lo := 0) (hi := 42) rfl ((sy_i F 4).toInt).toNat
      have c6 := nz_bx hB (k := 6) (lo := 0) (hi := 2) rfl
      exact to_0_p22 hd F X1 X2 hB (by first | exact ⟨by omega, by omega⟩ | (simp only [nz_c]; exact ⟨by omega, by omega⟩)) (by first | exact g0 | (simp only [nz_c]; exact g0) | (rw [n69]; exact g0)) (by first | exact ⟨by omega, by omega⟩ | (simp only [nz_c]; exact ⟨by omega, by omega⟩)) (by first | exact g1 | (simp only [nz_c, n71]; exact g1) | (rw [n71]; exact g1)) (by first | exact ⟨by omega, by omega⟩ | (simp only [nz_c]; exact ⟨by omega, by omega⟩)) (by first | exact g2 | (simp only [nz_c]; exact g2) | (rw [n72]; exact g2)) (by first | exact g3 | (simp only [nz_c]; exact g3)) (fun F1 g  => k22 g0 g1 g2 g3 F1 (nz_in hB [] (fun j hj hn => g j hj (by simp only [List.mem_cons, List.not_mem_nil, or_false, not_or] at hn; exact trivial)) (List.forall_mem_nil _)) (fun j hj hn => g j hj (by simp only [List.mem_cons, List.not_mem_nil, or_false, not_or] at hn; exact trivial)) (nz_fi (g 4 (by decide) (by decide))) (nz_fi (g 5 (by decide) (by decide))) (nz_fi (g 6 (by decide) (by decide))) (nz_fi (g 11 (by decide) (by decide))) (nz_fi (g 12 (by decide) (by decide))) (nz_fi (g 13 (by decide) (by decide))) (nz_fi (g 14 (by decide) (by decide))) (nz_fi (g 15 (by decide) (by decide))) (nz_fa (g 31 (by decide) (by decide))) (nz_fa (g 35 (by decide) (by decide))) (nz_fa (g 39 (by decide) (by decide))) (nz_fa (g 40 (by decide) (by decide))) (nz_fa (g 41 (by decide) (by decide))))
    replace g2 : 27 < ((sy_ai F 25).getD ((sy_i F 4).toInt).toNat 0).toInt := by omega
    have c4 := nz_bx hB (k := 4) (lo := 0) (hi := 400) rfl
    have q69 : (sy_ai F 25).getD (sy_i F 4).toNatClampNeg 0 = (sy_ai F 25).getD ((sy_i F 4).toInt).toNat 0 := by simp only [nz_c]
    have n69 : ((sy_ai F 25).getD (sy_i F 4).toNatClampNeg 0).toInt = ((sy_ai F 25).getD ((sy_i F 4).toInt).toNat 0).toInt := congrArg Int32.toInt q69
    have r69 := nz_ba hB (k := 25) (lo := 0) (hi := 42) rfl ((sy_i F 4).toInt).toNat
    have q70 : (sy_ai F 25).getD (sy_i F 4).toNatClampNeg 0 = (sy_ai F 25).getD ((sy_i F 4).toInt).toNat 0 := by simp only [nz_c]
    have n70 : ((sy_ai F 25).getD (sy_i F 4).toNatClampNeg 0).toInt = ((sy_ai F 25).getD ((sy_i F 4).toInt).toNat 0).toInt := congrArg Int32.toInt q70
    have r70 := nz_ba hB (k := 25) (lo := 0) (hi := 42) rfl ((sy_i F 4).toInt).toNat
    have n71 : (((sy_ai F 25).getD (sy_i F 4).toNatClampNeg 0) - ((22 : Int32))).toInt = (((sy_ai F 25).getD ((sy_i F 4).toInt).toNat 0).toInt - 22) := nz_sub n70 (by decide : ((22 : Int32)).toInt = 22) (by omega) (by omega)
    have q72 : (sy_ai F 25).getD (sy_i F 4).toNatClampNeg 0 = (sy_ai F 25).getD ((sy_i F 4).toInt).toNat 0 := by simp only [nz_c]
    have n72 : ((sy_ai F 25).getD (sy_i F 4).toNatClampNeg 0).toInt = ((sy_ai F 25).getD ((sy_i F 4).toInt).toNat 0).toInt := congrArg Int32.toInt q72
    have r72 := nz_ba hB (k := 25) (lo := 0) (hi := 42) rfl ((sy_i F 4).toInt).toNat
    exfalso
    omega
  have y0_6 := g0
  clear g0
  by_cases g0 : ((sy_ai F 25).getD ((sy_i F 4).toInt).toNat 0).toInt = 25
  · by_cases g1 : (((sy_ai F 25).getD ((sy_i F 4).toInt).toNat 0).toInt - 22) < 0
    · have c4 := nz_bx hB (k := 4) (lo := 0) (hi := 400) rfl
      have q69 : (sy_ai F 25).getD (sy_i F 4).toNatClampNeg 0 = (sy_ai F 25).getD ((sy_i F 4).toInt).toNat 0 := by simp only [nz_c]
      have n69 : ((sy_ai F 25).getD (sy_i F 4).toNatClampNeg 0).toInt = ((sy_ai F 25).getD ((sy_i F 4).toInt).toNat 0).toInt := congrArg Int32.toInt q69
      have r69 := nz_ba hB (k := 25) (lo := 0) (hi := 42) rfl ((sy_i F 4).toInt).toNat
      have q70 : (sy_ai F 25).getD (sy_i F 4).toNatClampNeg 0 = (sy_ai F 25).getD ((sy_i F 4).toInt).toNat 0 := by simp only [nz_c]
      have n70 : ((sy_ai F 25).getD (sy_i F 4).toNatClampNeg 0).toInt = ((sy_ai F 25).getD ((sy_i F 4).toInt).toNat 0).toInt := congrArg Int32.toInt q70
      have r70 := nz_ba hB (k := 25) (lo := 0) (hi := 42) rfl ((sy_i F 4).toInt).toNat
      have n71 : (((sy_ai F 25).getD (sy_i F 4).toNatClampNeg 0) - ((22 : Int32))).toInt = (((sy_ai F 25).getD ((sy_i F 4).toInt).toNat 0).toInt - 22) := nz_sub n70 (by decide : ((22 : Int32)).toInt = 22) (by omega) (by omega)
      exfalso
      omega
    replace g1 : 0 ≤ (((sy_ai F 25).getD ((sy_i F 4).toInt).toNat 0).toInt - 22) := by omega
    by_cases g2 : ((sy_ai F 25).getD ((sy_i F 4).toInt).toNat 0).toInt ≤ 27
    · by_cases g3 : (sy_i F 6).toInt ≤ 0
      · by_cases g4 : (sy_i F 4).toInt ≠ 400
        · have c4 := nz_bx hB (k := 4) (lo := 0) (hi := 400) rfl
          have q69 : (sy_ai F 25).getD (sy_i F 4).toNatClampNeg 0 = (sy_ai F 25).getD ((sy_i F 4).toInt).toNat 0 := by simp only [nz_c]
          have n69 : ((sy_ai F 25).getD (sy_i F 4).toNatClampNeg 0).toInt = ((sy_ai F 25).getD ((sy_i F 4).toInt).toNat 0).toInt := congrArg Int32.toInt q69
          have r69 := nz_ba hB (k := 25) (lo := 0) (hi := 42) rfl ((sy_i F 4).toInt).toNat
          have q70 : (sy_ai F 25).getD (sy_i F 4).toNatClampNeg 0 = (sy_ai F 25).getD ((sy_i F 4).toInt).toNat 0 := by simp only [nz_c]
          have n70 : ((sy_ai F 25).getD (sy_i F 4).toNatClampNeg 0).toInt = ((sy_ai F 25).getD ((sy_i F 4).toInt).toNat 0).toInt := congrArg Int32.toInt q70
          have r70 := nz_ba hB (k := 25) (lo := 0) (hi := 42) rfl ((sy_i F 4).toInt).toNat
          have n71 : (((sy_ai F 25).getD (sy_i F 4).toNatClampNeg 0) - ((22 : Int32))).toInt = (((sy_ai F 25).getD ((sy_i F 4).toInt).toNat 0).toInt - 22) := nz_sub n70 (by decide : ((22 : Int32)).toInt = 22) (by omega) (by omega)
          have q72 : (sy_ai F 25).getD (sy_i F 4).toNatClampNeg 0 = (sy_ai F 25).getD ((sy_i F 4).toInt).toNat 0 := by simp only [nz_c]
          have n72 : ((sy_ai F 25).getD (sy_i F 4).toNatClampNeg 0).toInt = ((sy_ai F 25).getD ((sy_i F 4).toInt).toNat 0).toInt := congrArg Int32.toInt q72
          have r72 := nz_ba hB (k := 25) (lo := 0) (hi := 42) rfl ((sy_i F 4).toInt).toNat
          have c6 := nz_bx hB (k := 6) (lo := 0) (hi := 2) rfl
          have n73 : ((sy_i F 4) + ((1 : Int32))).toInt = ((sy_i F 4).toInt + 1) := nz_add (rfl : (sy_i F 4).toInt = (sy_i F 4).toInt) (by decide : ((1 : Int32)).toInt = 1) (by omega) (by omega)
          exact to_0_p23 hd F X1 X2 hB (by first | exact ⟨by omega, by omega⟩ | (simp only [nz_c]; exact ⟨by omega, by omega⟩)) (by first | exact g0 | (simp only [nz_c]; exact g0) | (rw [n69]; exact g0)) (by first | exact ⟨by omega, by omega⟩ | (simp only [nz_c]; exact ⟨by omega, by omega⟩)) (by first | exact g1 | (simp only [nz_c, n71]; exact g1) | (rw [n71]; exact g1)) (by first | exact ⟨by omega, by omega⟩ | (simp only [nz_c]; exact ⟨by omega, by omega⟩)) (by first | exact g2 | (simp only [nz_c]; exact g2) | (rw [n72]; exact g2)) (by first | exact g3 | (simp only [nz_c]; exact g3)) (by first | exact g4 | (simp only [nz_c]; exact g4)) (fun F1 g e4 e69 => k23 g0 g1 g2 g3 g4 F1 (nz_in hB [4] (fun j hj hn => g j hj (by simp only [List.mem_cons, List.not_mem_nil, or_false, not_or] at hn; omega)) (List.forall_mem_cons.mpr ⟨fun t ht => (Option.some.inj ht) ▸ (nz_hi e4 n73 (by omega) (by omega)), List.forall_mem_nil _⟩)) (fun j hj hn => g j hj (by simp only [List.mem_cons, List.not_mem_nil, or_false, not_or] at hn; omega)) ((congrArg Int32.toInt (zz_i e4)).trans n73) (nz_fi (g 5 (by decide) (by decide))) (nz_fi (g 6 (by decide) (by decide))) (nz_fi (g 11 (by decide) (by decide))) (nz_fi (g 12 (by decide) (by decide))) (nz_fi (g 13 (by decide) (by decide))) (nz_fi (g 14 (by decide) (by decide))) (nz_fi (g 15 (by decide) (by decide))) (nz_fa (g 31 (by decide) (by decide))) (nz_fa (g 35 (by decide) (by decide))) (nz_fa (g 39 (by decide) (by decide))) (nz_fa (g 40 (by decide) (by decide))) (nz_fa (g 41 (by decide) (by decide))) ((congrArg Int32.toInt (zz_i e69)).trans n71))
        replace g4 : (sy_i F 4).toInt = 400 := by omega
        by_cases g5 : (sy_i F 6).toInt ≤ 0
        · have c4 := nz_bx hB (k := 4) (lo := 0) (hi := 400) rfl
          have q69 : (sy_ai F 25).getD (sy_i F 4).toNatClampNeg 0 = (sy_ai F 25).getD ((sy_i F 4).toInt).toNat 0 := by simp only [nz_c]
          have n69 : ((sy_ai F 25).getD (sy_i F 4).toNatClampNeg 0).toInt = ((sy_ai F 25).getD ((sy_i F 4).toInt).toNat 0).toInt := congrArg Int32.toInt q69
          have r69 := nz_ba hB (k := 25) (lo := 0) (hi := 42) rfl ((sy_i F 4).toInt).toNat
          have q70 : (sy_ai F 25).getD (sy_i F 4).toNatClampNeg 0 = (sy_ai F 25).getD ((sy_i F 4).toInt).toNat 0 := by simp only [nz_c]
          have n70 : ((sy_ai F 25).getD (sy_i F 4).toNatClampNeg 0).toInt = ((sy_ai F 25).getD ((sy_i F 4).toInt).toNat 0).toInt := congrArg Int32.toInt q70
          have r70 := nz_ba hB (k := 25) (lo := 0) (hi := 42) rfl ((sy_i F 4).toInt).toNat
          have n71 : (((sy_ai F 25).getD (sy_i F 4).toNatClampNeg 0) - ((22 : Int32))).toInt = (((sy_ai F 25).getD ((sy_i F 4).toInt).toNat 0).toInt - 22) := nz_sub n70 (by decide : ((22 : Int32)).toInt = 22) (by omega) (by omega)
          have q72 : (sy_ai F 25).getD (sy_i F 4).toNatClampNeg 0 = (sy_ai F 25).getD ((sy_i F 4).toInt).toNat 0 := by simp only [nz_c]
          have n72 : ((sy_ai F 25).getD (sy_i F 4).toNatClampNeg 0).toInt = ((sy_ai F 25).getD ((sy_i F 4).toInt).toNat 0).toInt := congrArg Int32.toInt q72
          have r72 := nz_ba hB (k := 25) (lo := 0) (hi := 42) rfl ((sy_i F 4).toInt).toNat
          have c6 := nz_bx hB (k := 6) (lo := 0) (hi := 2) rfl
          have q73 : (sy_ai F 26).getD (sy_i F 4).toNatClampNeg 0 = (sy_ai F 26).getD ((sy_i F 4).toInt).toNat 0 := by simp only [nz_c]
          have n73 : ((sy_ai F 26).getD (sy_i F 4).toNatClampNeg 0).toInt = ((sy_ai F 26).getD ((sy_i F 4).toInt).toNat 0).toInt := congrArg Int32.toInt q73
          exact to_0_p24 hd F X1 X2 hB (by first | exact ⟨by omega, by omega⟩ | (simp only [nz_c]; exact ⟨by omega, by omega⟩)) (by first | exact g0 | (simp only [nz_c]; exact g0) | (rw [n69]; exact g0)) (by first | exact ⟨by omega, by omega⟩ | (simp only [nz_c]; exact ⟨by omega, by omega⟩)) (by first | exact g1 | (simp only [nz_c, n71]; exact g1) | (rw [n71]; exact g1)) (by first | exact ⟨by omega, by omega⟩ | (simp only [nz_c]; exact ⟨by omega, by omega⟩)) (by first | exact g2 | (simp only [nz_c]; exact g2) | (rw [n72]; exact g2)) (by first | exact g3 | (simp only [nz_c]; exact g3)) (by first | exact g4 | (simp only [nz_c]; exact g4)) (by first | exact g5 | (simp only [nz_c]; exact g5)) (by first | exact ⟨by omega, by omega⟩ | (simp only [nz_c]; exact ⟨by omega, by omega⟩)) (fun F1 g e6 e7 e69 => k24 g0 g1 g2 g3 g4 g5 F1 (nz_in hB [6, 7] (fun j hj hn => g j hj (by simp only [List.mem_cons, List.not_mem_nil, or_false, not_or] at hn; omega)) (List.forall_mem_cons.mpr ⟨fun t ht => (Option.some.inj ht) ▸ (nz_hi e6 (by decide : ((2 : Int32)).toInt = 2) (by omega) (by omega)), List.forall_mem_cons.mpr ⟨fun t ht => (Option.some.inj ht) ▸ (nz_hz e7), List.forall_mem_nil _⟩⟩)) (fun j hj hn => g j hj (by simp only [List.mem_cons, List.not_mem_nil, or_false, not_or] at hn; omega)) (nz_fi (g 4 (by decide) (by decide))) (nz_fi (g 5 (by decide) (by decide))) ((congrArg Int32.toInt (zz_i e6)).trans (by decide : ((2 : Int32)).toInt = 2)) (nz_fi (g 11 (by decide) (by decide))) (nz_fi (g 12 (by decide) (by decide))) (nz_fi (g 13 (by decide) (by decide))) (nz_fi (g 14 (by decide) (by decide))) (nz_fi (g 15 (by decide) (by decide))) (nz_fa (g 31 (by decide) (by decide))) (nz_fa (g 35 (by decide) (by decide))) (nz_fa (g 39 (by decide) (by decide))) (nz_fa (g 40 (by decide) (by decide))) (nz_fa (g 41 (by decide) (by decide))) ((congrArg Int32.toInt (zz_i e69)).trans n71))
        replace g5 : 0 < (sy_i F 6).toInt := by omega
        have c4 := nz_bx hB (k := 4) (lo := 0) (hi := 400) rfl
        have q69 : (sy_ai F 25).getD (sy_i F 4).toNatClampNeg 0 = (sy_ai F 25).getD ((sy_i F 4).toInt).toNat 0 := by simp only [nz_c]
        have n69 : ((sy_ai F 25).getD (sy_i F 4).toNatClampNeg 0).toInt = ((sy_ai F 25).getD ((sy_i F 4).toInt).toNat 0).toInt := congrArg Int32.toInt q69
        have r69 := nz_ba hB (k := 25) (lo := 0) (hi := 42) rfl ((sy_i F 4).toInt).toNat
        have q70 : (sy_ai F 25).getD (sy_i F 4).toNatClampNeg 0 = (sy_ai F 25).getD ((sy_i F 4).toInt).toNat 0 := by simp only [nz_c]
        have n70 : ((sy_ai F 25).getD (sy_i F 4).toNatClampNeg 0).toInt = ((sy_ai F 25).getD ((sy_i F 4).toInt).toNat 0).toInt := congrArg Int32.toInt q70
        have r70 := nz_ba hB (k := 25) (lo := 0) (hi := 42) rfl ((sy_i F 4).toInt).toNat
        have n71 : (((sy_ai F 25).getD (sy_i F 4).toNatClampNeg 0) - ((22 : Int32))).toInt = (((sy_ai F 25).getD ((sy_i F 4).toInt).toNat 0).toInt - 22) := nz_sub n70 (by decide : ((22 : Int32)).toInt = 22) (by omega) (by omega)
        have q72 : (sy_ai F 25).getD (sy_i F 4).toNatClampNeg 0 = (sy_ai F 25).getD ((sy_i F 4).toInt).toNat 0 := by simp only [nz_c]
        have n72 : ((sy_ai F 25).getD (sy_i F 4).toNatClampNeg 0).toInt = ((sy_ai F 25).getD ((sy_i F 4).toInt).toNat 0).toInt := congrArg Int32.toInt q72
        have r72 := nz_ba hB (k := 25) (lo := 0) (hi := 42) rfl ((sy_i F 4).toInt).toNat
        have c6 := nz_bx hB (k := 6) (lo := 0) (hi := 2) rfl
        exfalso
        omega
      replace g3 : 0 < (sy_i F 6).toInt := by omega
      have c4 := nz_bx hB (k := 4) (lo := 0) (hi := 400) rfl
      have q69 : (sy_ai F 25).getD (sy_i F 4).toNatClampNeg 0 = (sy_ai F 25).getD ((sy_i F 4).toInt).toNat 0 := by simp only [nz_c]
      have n69 : ((sy_ai F 25).getD (sy_i F 4).toNatClampNeg 0).toInt = ((sy_ai F 25).getD ((sy_i F 4).toInt).toNat 0).toInt := congrArg Int32.toInt q69
      have r69 := nz_ba hB (k := 25) (lo := 0) (hi := 42) rfl ((sy_i F 4).toInt).toNat
      have q70 : (sy_ai F 25).getD (sy_i F 4).toNatClampNeg 0 = (sy_ai F 25).getD ((sy_i F 4).toInt).toNat 0 := by simp only [nz_c]
      have n70 : ((sy_ai F 25).getD (sy_i F 4).toNatClampNeg 0).toInt = ((sy_ai F 25).getD ((sy_i F 4).toInt).toNat 0).toInt := congrArg Int32.toInt q70
      have r70 := nz_ba hB (k := 25) (lo := 0) (hi := 42) rfl ((sy_i F 4).toInt).toNat
      have n71 : (((sy_ai F 25).getD (sy_i F 4).toNatClampNeg 0) - ((22 : Int32))).toInt = (((sy_ai F 25).getD ((sy_i F 4).toInt).toNat 0).toInt - 22) := nz_sub n70 (by decide : ((22 : Int32)).toInt = 22) (by omega) (by omega)
      have q72 : (sy_ai F 25).getD (sy_i F 4).toNatClampNeg 0 = (sy_ai F 25).getD ((sy_i F 4).toInt).toNat 0 := by simp only [nz_c]
      have n72 : ((sy_ai F 25).getD (sy_i F 4).toNatClampNeg 0).toInt = ((sy_ai F 25).getD ((sy_i F 4).toInt).toNat 0).toInt := congrArg Int32.toInt q72
      have r72 := nz_ba hB (k := 25) (lo := 0) (hi := 42) rfl ((sy_i F 4).toInt).toNat
      have c6 := nz_bx hB (k := 6) (lo := 0) (hi := 2) rfl
      exact to_0_p25 hd F X1 X2 hB (by first | exact ⟨by omega, by omega⟩ | (simp only [nz_c]; exact ⟨by omega, by omega⟩)) (by first | exact g0 | (simp only [nz_c]; exact g0) | (rw [n69]; exact g0)) (by first | exact ⟨by omega, by omega⟩ | (simp only [nz_c]; exact ⟨by omega, by omega⟩)) (by first | exact g1 | (simp only [nz_c, n71]; exact g1) | (rw [n71]; exact g1)) (by first | exact ⟨by omega, by omega⟩ | (simp only [nz_c]; exact ⟨by omega, by omega⟩)) (by first | exact g2 | (simp only [nz_c]; exact g2) | (rw [n72]; exact g2)) (by first | exact g3 | (simp only [nz_c]; exact g3)) (fun F1 g  => k25 g0 g1 g2 g3 F1 (nz_in hB [] (fun j hj hn => g j hj (by simp only [List.mem_cons, List.not_mem_nil, or_false, not_or] at hn; exact trivial)) (List.forall_mem_nil _)) (fun j hj hn => g j hj (by simp only [List.mem_cons, List.not_mem_nil, or_false, not_or] at hn; exact trivial)) (nz_fi (g 4 (by decide) (by decide))) (nz_fi (g 5 (by decide) (by decide))) (nz_fi (g 6 (by decide) (by decide))) (nz_fi (g 11 (by decide) (by decide))) (nz_fi (g 12 (by decide) (by decide))) (nz_fi (g 13 (by decide) (by decide))) (nz_fi (g 14 (by decide) (by decide))) (nz_fi (g 15 (by decide) (by decide))) (nz_fa (g 31 (by decide) (by decide))) (nz_fa (g 35 (by decide) (by decide))) (nz_fa (g 39 (by decide) (by decide))) (nz_fa (g 40 (by decide) (by decide))) (nz_fa (g 41 (by decide) (by decide))))
    replace g2 : 27 < ((sy_ai F 25).getD ((sy_i F 4).toInt).toNat 0).toInt := by omega
    have c4 := nz_bx hB (k := 4) (lo := 0) (hi := 400) rfl
    have q69 : (sy_ai F 25).getD (sy_i F 4).toNatClampNeg 0 = (sy_ai F 25).getD ((sy_i F 4).toInt).toNat 0 := by simp only [nz_c]
    have n69 : ((sy_ai F 25).getD (sy_i F 4).toNatClampNeg 0).toInt = ((sy_ai F 25).getD ((sy_i F 4).toInt).toNat 0).toInt := congrArg Int32.toInt q69
    have r69 := nz_ba hB (k := 25) (lo := 0) (hi := 42) rfl ((sy_i F 4).toInt).toNat
    have q70 : (sy_ai F 25).getD (sy_i F 4).toNatClampNeg 0 = (sy_ai F 25).getD ((sy_i F 4).toInt).toNat 0 := by simp only [nz_c]
    have n70 : ((sy_ai F 25).getD (sy_i F 4).toNatClampNeg 0).toInt = ((sy_ai F 25).getD ((sy_i F 4).toInt).toNat 0).toInt := congrArg Int32.toInt q70
    have r70 := nz_ba hB (k := 25) (lo := 0) (hi := 42) rfl ((sy_i F 4).toInt).toNat
    have n71 : (((sy_ai F 25).getD (sy_i F 4).toNatClampNeg 0) - ((22 : Int32))).toInt = (((sy_ai F 25).getD ((sy_i F 4).toInt).toNat 0).toInt - 22) := nz_sub n70 (by decide : ((22 : Int32)).toInt = 22) (by omega) (by omega)
    have q72 : (sy_ai F 25).getD (sy_i F 4).toNatClampNeg 0 = (sy_ai F 25).getD ((sy_i F 4).toInt).toNat 0 := by simp only [nz_c]
    have n72 : ((sy_ai F 25).getD (sy_i F 4).toNatClampNeg 0).toInt = ((sy_ai F 25).getD ((sy_i F 4).toInt).toNat 0).toInt := congrArg Int32.toInt q72
    have r72 := nz_ba hB (k := 25) (lo := 0) (hi := 42) rfl ((sy_i F 4).toInt).toNat
    exfalso
    omega
  have y0_7 := g0
  clear g0
  by_cases g0 : ((sy_ai F 25).getD ((sy_i F 4).toInt).toNat 0).toInt = 26
  · by_cases g1 : (((sy_ai F 25).getD ((sy_i F 4).toInt).toNat 0).toInt - 22) < 0
    · have c4 := nz_bx hB (k := 4) (lo := 0) (hi := 400) rfl
      have q69 : (sy_ai F 25).getD (sy_i F 4).toNatClampNeg 0 = (sy_ai F 25).getD ((sy_i F 4).toInt).toNat 0 := by simp only [nz_c]
      have n69 : ((sy_ai F 25).getD (sy_i F 4).toNatClampNeg 0).toInt = ((sy_ai F 25).getD ((sy_i F 4).toInt).toNat 0).toInt := congrArg Int32.toInt q69
      have r69 := nz_ba hB (k := 25) (lo := 0) (hi := 42) rfl ((sy_i F 4).toInt).toNat
      have q70 : (sy_ai F 25).getD (sy_i F 4).toNatClampNeg 0 = (sy_ai F 25).getD ((sy_i F 4).toInt).toNat 0 := by simp only [nz_c]
      have n70 : ((sy_ai F 25).getD (sy_i F 4).toNatClampNeg 0).toInt = ((sy_ai F 25).getD ((sy_i F 4).toInt).toNat 0).toInt := congrArg Int32.toInt q70
      have r70 := nz_ba hB (k := 25) (lo := 0) (hi := 42) rfl ((sy_i F 4).toInt).toNat
      have n71 : (((sy_ai F 25).getD (sy_i F 4).toNatClampNeg 0) - ((22 : Int32))).toInt = (((sy_ai F 25).getD ((sy_i F 4).toInt).toNat 0).toInt - 22) := nz_sub n70 (by decide : ((22 : Int32)).toInt = 22) (by omega) (by omega)
      exfalso
      omega
    replace g1 : 0 ≤ (((sy_ai F 25).getD ((sy_i F 4).toInt).toNat 0).toInt - 22) := by omega
    by_cases g2 : ((sy_ai F 25).getD ((sy_i F 4).toInt).toNat 0).toInt ≤ 27
    · by_cases g3 : (sy_i F 6).toInt ≤ 0
      · by_cases g4 : (sy_i F 4).toInt ≠ 400
        · have c4 := nz_bx hB (k := 4) (lo := 0) (hi := 400) rfl
          have q69 : (sy_ai F 25).getD (sy_i F 4).toNatClampNeg 0 = (sy_ai F 25).getD ((sy_i F 4).toInt).toNat 0 := by simp only [nz_c]
          have n69 : ((sy_ai F 25).getD (sy_i F 4).toNatClampNeg 0).toInt = ((sy_ai F 25).getD ((sy_i F 4).toInt).toNat 0).toInt := congrArg Int32.toInt q69
          have r69 := nz_ba hB (k := 25) (lo := 0) (hi := 42) rfl ((sy_i F 4).toInt).toNat
          have q70 : (sy_ai F 25).getD (sy_i F 4).toNatClampNeg 0 = (sy_ai F 25).getD ((sy_i F 4).toInt).toNat 0 := by simp only [nz_c]
          have n70 : ((sy_ai F 25).getD (sy_i F 4).toNatClampNeg 0).toInt = ((sy_ai F 25).getD ((sy_i F 4).toInt).toNat 0).toInt := congrArg Int32.toInt q70
          have r70 := nz_ba hB (k := 25) (lo := 0) (hi := 42) rfl ((sy_i F 4).toInt).toNat
          have n71 : (((sy_ai F 25).getD (sy_i F 4).toNatClampNeg 0) - ((22 : Int32))).toInt = (((sy_ai F 25).getD ((sy_i F 4).toInt).toNat 0).toInt - 22) := nz_sub n70 (by decide : ((22 : Int32)).toInt = 22) (by omega) (by omega)
          have q72 : (sy_ai F 25).getD (sy_i F 4).toNatClampNeg 0 = (sy_ai F 25).getD ((sy_i F 4).toInt).toNat 0 := by simp only [nz_c]
          have n72 : ((sy_ai F 25).getD (sy_i F 4).toNatClampNeg 0).toInt = ((sy_ai F 25).getD ((sy_i F 4).toInt).toNat 0).toInt := congrArg Int32.toInt q72
          have r72 := nz_ba hB (k := 25) (lo := 0) (hi := 42) rfl ((sy_i F 4).toInt).toNat
          have c6 := nz_bx hB (k := 6) (lo := 0) (hi := 2) rfl
          have n73 : ((sy_i F 4) + ((1 : Int32))).toInt = ((sy_i F 4).toInt + 1) := nz_add (rfl : (sy_i F 4).toInt = (sy_i F 4).toInt) (by decide : ((1 : Int32)).toInt = 1) (by omega) (by omega)
          exact to_0_p26 hd F X1 X2 hB (by first | exact ⟨by omega, by omega⟩ | (simp only [nz_c]; exact ⟨by omega, by omega⟩)) (by first | exact g0 | (simp only [nz_c]; exact g0) | (rw [n69]; exact g0)) (by first | exact ⟨by omega, by omega⟩ | (simp only [nz_c]; exact ⟨by omega, by omega⟩)) (by first | exact g1 | (simp only [nz_c, n71]; exact g1) | (rw [n71]; exact g1)) (by first | exact ⟨by omega, by omega⟩ | (simp only [nz_c]; exact ⟨by omega, by omega⟩)) (by first | exact g2 | (simp only [nz_c]; exact g2) | (rw [n72]; exact g2)) (by first | exact g3 | (simp only [nz_c]; exact g3)) (by first | exact g4 | (simp only [nz_c]; exact g4)) (fun F1 g e4 e69 => k26 g0 g1 g2 g3 g4 F1 (nz_in hB [4] (fun j hj hn => g j hj (by simp only [List.mem_cons, List.not_mem_nil, or_false, not_or] at hn; omega)) (List.forall_mem_cons.mpr ⟨fun t ht => (Option.some.inj ht) ▸ (nz_hi e4 n73 (by omega) (by omega)), List.forall_mem_nil _⟩)) (fun j hj hn => g j hj (by simp only [List.mem_cons, List.not_mem_nil, or_false, not_or] at hn; omega)) ((congrArg Int32.toInt (zz_i e4)).trans n73) (nz_fi (g 5 (by decide) (by decide))) (nz_fi (g 6 (by decide) (by decide))) (nz_fi (g 11 (by decide) (by decide))) (nz_fi (g 12 (by decide) (by decide))) (nz_fi (g 13 (by decide) (by decide))) (nz_fi (g 14 (by decide) (by decide))) (nz_fi (g 15 (by decide) (by decide))) (nz_fa (g 31 (by decide) (by decide))) (nz_fa (g 35 (by decide) (by decide))) (nz_fa (g 39 (by decide) (by decide))) (nz_fa (g 40 (by decide) (by decide))) (nz_fa (g 41 (by decide) (by decide))) ((congrArg Int32.toInt (zz_i e69)).trans n71))
        replace g4 : (sy_i F 4).toInt = 400 := by omega
        by_cases g5 : (sy_i F 6).toInt ≤ 0
        · have c4 := nz_bx hB (k := 4) (lo := 0) (hi := 400) rfl
          have q69 : (sy_ai F 25).getD (sy_i F 4).toNatClampNeg 0 = (sy_ai F 25).getD ((sy_i F 4).toInt).toNat 0 := by simp only [nz_c]
          have n69 : ((sy_ai F 25).getD (sy_i F 4).toNatClampNeg 0).toInt = ((sy_ai F 25).getD ((sy_i F 4).toInt).toNat 0).toInt := congrArg Int32.toInt q69
          have r69 := nz_ba hB (k := 25) (lo := 0) (hi := 42) rfl ((sy_i F 4).toInt).toNat
          have q70 : (sy_ai F 25).getD (sy_i F 4).toNatClampNeg 0 = (sy_ai F 25).getD ((sy_i F 4).toInt).toNat 0 := by simp only [nz_c]
          have n70 : ((sy_ai F 25).getD (sy_i F 4).toNatClampNeg 0).toInt = ((sy_ai F 25).getD ((sy_i F 4).toInt).toNat 0).toInt := congrArg Int32.toInt q70
          have r70 := nz_ba hB (k := 25) (lo := 0) (hi := 42) rfl ((sy_i F 4).toInt).toNat
          have n71 : (((sy_ai F 25).getD (sy_i F 4).toNatClampNeg 0) - ((22 : Int32))).toInt = (((sy_ai F 25).getD ((sy_i F 4).toInt).toNat 0).toInt - 22) := nz_sub n70 (by decide : ((22 : Int32)).toInt = 22) (by omega) (by omega)
          have q72 : (sy_ai F 25).getD (sy_i F 4).toNatClampNeg 0 = (sy_ai F 25).getD ((sy_i F 4).toInt).toNat 0 := by simp only [nz_c]
          have n72 : ((sy_ai F 25).getD (sy_i F 4).toNatClampNeg 0).toInt = ((sy_ai F 25).getD ((sy_i F 4).toInt).toNat 0).toInt := congrArg Int32.toInt q72
          have r72 := nz_ba hB (k := 25) (lo := 0) (hi := 42) rfl ((sy_i F 4).toInt).toNat
          have c6 := nz_bx hB (k := 6) (lo := 0) (hi := 2) rfl
          have q73 : (sy_ai F 26).getD (sy_i F 4).toNatClampNeg 0 = (sy_ai F 26).getD ((sy_i F 4).toInt).toNat 0 := by simp only [nz_c]
          have n73 : ((sy_ai F 26).getD (sy_i F 4).toNatClampNeg 0).toInt = ((sy_ai F 26).getD ((sy_i F 4).toInt).toNat 0).toInt := congrArg Int32.toInt q73
          exact to_0_p27 hd F X1 X2 hB (by first | exact ⟨by omega, by omega⟩ | (simp only [nz_c]; exact ⟨by omega, by omega⟩)) (by first | exact g0 | (simp only [nz_c]; exact g0) | (rw [n69]; exact g0)) (by first | exact ⟨by omega, by omega⟩ | (simp only [nz_c]; exact ⟨by omega, by omega⟩)) (by first | exact g1 | (simp only [nz_c, n71]; exact g1) | (rw [n71]; exact g1)) (by first | exact ⟨by omega, by omega⟩ | (simp only [nz_c]; exact ⟨by omega, by omega⟩)) (by first | exact g2 | (simp only [nz_c]; exact g2) | (rw [n72]; exact g2)) (by first | exact g3 | (simp only [nz_c]; exact g3)) (by first | exact g4 | (simp only [nz_c]; exact g4)) (by first | exact g5 | (simp only [nz_c]; exact g5)) (by first | exact ⟨by omega, by omega⟩ | (simp only [nz_c]; exact ⟨by omega, by omega⟩)) (fun F1 g e6 e7 e69 => k27 g0 g1 g2 g3 g4 g5 F1 (nz_in hB [6, 7] (fun j hj hn => g j hj (by simp only [List.mem_cons, List.not_mem_nil, or_false, not_or] at hn; omega)) (List.forall_mem_cons.mpr ⟨fun t ht => (Option.some.inj ht) ▸ (nz_hi e6 (by decide : ((2 : Int32)).toInt = 2) (by omega) (by omega)), List.forall_mem_cons.mpr ⟨fun t ht => (Option.some.inj ht) ▸ (nz_hz e7), List.forall_mem_nil _⟩⟩)) (fun j hj hn => g j hj (by simp only [List.mem_cons, List.not_mem_nil, or_false, not_or] at hn; omega)) (nz_fi (g 4 (by decide) (by decide))) (nz_fi (g 5 (by decide) (by decide))) ((congrArg Int32.toInt (zz_i e6)).trans (by decide : ((2 : Int32)).toInt = 2)) (nz_fi (g 11 (by decide) (by decide))) (nz_fi (g 12 (by decide) (by decide))) (nz_fi (g 13 (by decide) (by decide))) (nz_fi (g 14 (by decide) (by decide))) (nz_fi (g 15 (by decide) (by decide))) (nz_fa (g 31 (by decide) (by decide))) (nz_fa (g 35 (by decide) (by decide))) (nz_fa (g 39 (by decide) (by decide))) (nz_fa (g 40 (by decide) (by decide))) (nz_fa (g 41 (by decide) (by decide))) ((congrArg Int32.toInt (zz_i e69)).trans n71))
        replace g5 : 0 < (sy_i F 6).toInt := by omega
        have c4 := nz_bx hB (k := 4) (lo := 0) (hi := 400) rfl
        have q69 : (sy_ai F 25).getD (sy_i F 4).toNatClampNeg 0 = (sy_ai F 25).getD ((sy_i F 4).toInt).toNat 0 := by simp only [nz_c]
        have n69 : ((sy_ai F 25).getD (sy_i F 4).toNatClampNeg 0).toInt = ((sy_ai F 25).getD ((sy_i F 4).toInt).toNat 0).toInt := congrArg Int32.toInt q69
        have r69 := nz_ba hB (k := 25) (lo := 0) (hi := 42) rfl ((sy_i F 4).toInt).toNat
        have q70 : (sy_ai F 25).getD (sy_i F 4).toNatClampNeg 0 = (sy_ai F 25).getD ((sy_i F 4).toInt).toNat 0 := by simp only [nz_c]
        have n70 : ((sy_ai F 25).getD (sy_i F 4).toNatClampNeg 0).toInt = ((sy_ai F 25).getD ((sy_i F 4).toInt).toNat 0).toInt := congrArg Int32.toInt q70
        have r70 := nz_ba hB (k := 25) (lo := 0) (hi := 42) rfl ((sy_i F 4).toInt).toNat
        have n71 : (((sy_ai F 25).getD (sy_i F 4).toNatClampNeg 0) - ((22 : Int32))).toInt = (((sy_ai F 25).getD ((sy_i F 4).toInt).toNat 0).toInt - 22) := nz_sub n70 (by decide : ((22 : Int32)).toInt = 22) (by omega) (by omega)
        have q72 : (sy_ai F 25).getD (sy_i F 4).toNatClampNeg 0 = (sy_ai F 25).getD ((sy_i F 4).toInt).toNat 0 := by simp only [nz_c]
        have n72 : ((sy_ai F 25).getD (sy_i F 4).toNatClampNeg 0).toInt = ((sy_ai F 25).getD ((sy_i F 4).toInt).toNat 0).toInt := congrArg Int32.toInt q72
        have r72 := nz_ba hB (k := 25) (lo := 0) (hi := 42) rfl ((sy_i F 4).toInt).toNat
        have c6 := nz_bx hB (k := 6) (lo := 0) (hi := 2) rfl
        exfalso
        omega
      replace g3 : 0 < (sy_i F 6).toInt := by omega
      have c4 := nz_bx hB (k := 4) (lo := 0) (hi := 400) rfl
      have q69 : (sy_ai F 25).getD (sy_i F 4).toNatClampNeg 0 = (sy_ai F 25).getD ((sy_i F 4).toInt).toNat 0 := by simp only [nz_c]
      have n69 : ((sy_ai F 25).getD (sy_i F 4).toNatClampNeg 0).toInt = ((sy_ai F 25).getD ((sy_i F 4).toInt).toNat 0).toInt := congrArg Int32.toInt q69
      have r69 := nz_ba hB (k := 25) (lo := 0) (hi := 42) rfl ((sy_i F 4).toInt).toNat
      have q70 : (sy_ai F 25).getD (sy_i F 4).toNatClampNeg 0 = (sy_ai F 25).getD ((sy_i F 4).toInt).toNat 0 := by simp only [nz_c]
      have n70 : ((sy_ai F 25).getD (sy_i F 4).toNatClampNeg 0).toInt = ((sy_ai F 25).getD ((sy_i F 4).toInt).toNat 0).toInt := congrArg Int32.toInt q70
      have r70 := nz_ba hB (k := 25) (lo := 0) (hi := 42) rfl ((sy_i F 4).toInt).toNat
      have n71 : (((sy_ai F 25).getD (sy_i F 4).toNatClampNeg 0) - ((22 : Int32))).toInt = (((sy_ai F 25).getD ((sy_i F 4).toInt).toNat 0).toInt - 22) := nz_sub n70 (by decide : ((22 : Int32)).toInt = 22) (by omega) (by omega)
      have q72 : (sy_ai F 25).getD (sy_i F 4).toNatClampNeg 0 = (sy_ai F 25).getD ((sy_i F 4).toInt).toNat 0 := by simp only [nz_c]
      have n72 : ((sy_ai F 25).getD (sy_i F 4).toNatClampNeg 0).toInt = ((sy_ai F 25).getD ((sy_i F 4).toInt).toNat 0).toInt := congrArg Int32.toInt q72
      have r72 := nz_ba hB (k := 25) (lo := 0) (hi := 42) rfl ((sy_i F 4).toInt).toNat
      have c6 := nz_bx hB (k := 6) (lo := 0) (hi := 2) rfl
      exact to_0_p28 hd F X1 X2 hB (by first | exact ⟨by omega, by omega⟩ | (simp only [nz_c]; exact ⟨by omega, by omega⟩)) (by first | exact g0 | (simp only [nz_c]; exact g0) | (rw [n69]; exact g0)) (by first | exact ⟨by omega, by omega⟩ | (simp only [nz_c]; exact ⟨by omega, by omega⟩)) (by first | exact g1 | (simp only [nz_c, n71]; exact g1) | (rw [n71]; exact g1)) (by first | exact ⟨by omega, by omega⟩ | (simp only [nz_c]; exact ⟨by omega, by omega⟩)) (by first | exact g2 | (simp only [nz_c]; exact g2) | (rw [n72]; exact g2)) (by first | exact g3 | (simp only [nz_c]; exact g3)) (fun F1 g  => k28 g0 g1 g2 g3 F1 (nz_in hB [] (fun j hj hn => g j hj (by simp only [List.mem_cons, List.not_mem_nil, or_false, not_or] at hn; exact trivial)) (List.forall_mem_nil _)) (fun j hj hn => g j hj (by simp only [List.mem_cons, List.not_mem_nil, or_false, not_or] at hn; exact trivial)) (nz_fi (g 4 (by decide) (by decide))) (nz_fi (g 5 (by decide) (by decide))) (nz_fi (g 6 (by decide) (by decide))) (nz_fi (g 11 (by decide) (by decide))) (nz_fi (g 12 (by decide) (by decide))) (nz_fi (g 13 (by decide) (by decide))) (nz_fi (g 14 (by decide) (by decide))) (nz_fi (g 15 (by decide) (by decide))) (nz_fa (g 31 (by decide) (by decide))) (nz_fa (g 35 (by decide) (by decide))) (nz_fa (g 39 (by decide) (by decide))) (nz_fa (g 40 (by decide) (by decide))) (nz_fa (g 41 (by decide) (by decide))))
    replace g2 : 27 < ((sy_ai F 25).getD ((sy_i F 4).toInt).toNat 0).toInt := by omega
    have c4 := nz_bx hB (k := 4) (lo := 0) (hi := 400) rfl
    have q69 : (sy_ai F 25).getD (sy_i F 4).toNatClampNeg 0 = (sy_ai F 25).getD ((sy_i F 4).toInt).toNat 0 := by simp only [nz_c]
    have n69 : ((sy_ai F 25).getD (sy_i F 4).toNatClampNeg 0).toInt = ((sy_ai F 25).getD ((sy_i F 4).toInt).toNat 0).toInt := congrArg Int32.toInt q69
    have r69 := nz_ba hB (k := 25) (lo := 0) (hi := 42) rfl ((sy_i F 4).toInt).toNat
    have q70 : (sy_ai F 25).getD (sy_i F 4).toNatClampNeg 0 = (sy_ai F 25).getD ((sy_i F 4).toInt).toNat 0 := by simp only [nz_c]
    have n70 : ((sy_ai F 25).getD (sy_i F 4).toNatClampNeg 0).toInt = ((sy_ai F 25).getD ((sy_i F 4).toInt).toNat 0).toInt := congrArg Int32.toInt q70
    have r70 := nz_ba hB (k := 25) (lo := 0) (hi := 42) rfl ((sy_i F 4).toInt).toNat
    have n71 : (((sy_ai F 25).getD (sy_i F 4).toNatClampNeg 0) - ((22 : Int32))).toInt = (((sy_ai F 25).getD ((sy_i F 4).toInt).toNat 0).toInt - 22) := nz_sub n70 (by decide : ((22 : Int32)).toInt = 22) (by omega) (by omega)
    have q72 : (sy_ai F 25).getD (sy_i F 4).toNatClampNeg 0 = (sy_ai F 25).getD ((sy_i F 4).toInt).toNat 0 := by simp only [nz_c]
    have n72 : ((sy_ai F 25).getD (sy_i F 4).toNatClampNeg 0).toInt = ((sy_ai F 25).getD ((sy_i F 4).toInt).toNat 0).toInt := congrArg Int32.toInt q72
    have r72 := nz_ba hB (k := 25) (lo := 0) (hi := 42) rfl ((sy_i F 4).toInt).toNat
    exfalso
    omega
  have y0_8 := g0
  clear g0
  by_cases g0 : ((sy_ai F 25).getD ((sy_i F 4).toInt).toNat 0).toInt = 27
  · by_cases g1 : (((sy_ai F 25).getD ((sy_i F 4).toInt).toNat 0).toInt - 22) < 0
    · have c4 := nz_bx hB (k := 4) (lo := 0) (hi := 400) rfl
      have q69 : (sy_ai F 25).getD (sy_i F 4).toNatClampNeg 0 = (sy_ai F 25).getD ((sy_i F 4).toInt).toNat 0 := by simp only [nz_c]
      have n69 : ((sy_ai F 25).getD (sy_i F 4).toNatClampNeg 0).toInt = ((sy_ai F 25).getD ((sy_i F 4).toInt).toNat 0).toInt := congrArg Int32.toInt q69
      have r69 := nz_ba hB (k := 25) (lo := 0) (hi := 42) rfl ((sy_i F 4).toInt).toNat
      have q70 : (sy_ai F 25).getD (sy_i F 4).toNatClampNeg 0 = (sy_ai F 25).getD ((sy_i F 4).toInt).toNat 0 := by simp only [nz_c]
      have n70 : ((sy_ai F 25).getD (sy_i F 4).toNatClampNeg 0).toInt = ((sy_ai F 25).getD ((sy_i F 4).toInt).toNat 0).toInt := congrArg Int32.toInt q70
      have r70 := nz_ba hB (k := 25) (lo := 0) (hi := 42) rfl ((sy_i F 4).toInt).toNat
      have n71 : (((sy_ai F 25).getD (sy_i F 4).toNatClampNeg 0) - ((22 : Int32))).toInt = (((sy_ai F 25).getD ((sy_i F 4).toInt).toNat 0).toInt - 22) := nz_sub n70 (by decide : ((22 : Int32)).toInt = 22) (by omega) (by omega)
      exfalso
      omega
    replace g1 : 0 ≤ (((sy_ai F 25).getD ((sy_i F 4).toInt).toNat 0).toInt - 22) := by omega
    by_cases g2 : ((sy_ai F 25).getD ((sy_i F 4).toInt).toNat 0).toInt ≤ 27
    · by_cases g3 : (sy_i F 6).toInt ≤ 0
      · by_cases g4 : (sy_i F 4).toInt ≠ 400
        · have c4 := nz_bx hB (k := 4) (lo := 0) (hi := 400) rfl
          have q69 : (sy_ai F 25).getD (sy_i F 4).toNatClampNeg 0 = (sy_ai F 25).getD ((sy_i F 4).toInt).toNat 0 := by simp only [nz_c]
          have n69 : ((sy_ai F 25).getD (sy_i F 4).toNatClampNeg 0).toInt = ((sy_ai F 25).getD ((sy_i F 4).toInt).toNat 0).toInt := congrArg Int32.toInt q69
          have r69 := nz_ba hB (k := 25) (lo := 0) (hi := 42) rfl ((sy_i F 4).toInt).toNat
          have q70 : (sy_ai F 25).getD (sy_i F 4).toNatClampNeg 0 = (sy_ai F 25).getD ((sy_i F 4).toInt).toNat 0 := by simp only [nz_c]
          have n70 : ((sy_ai F 25).getD (sy_i F 4).toNatClampNeg 0).toInt = ((sy_ai F 25).getD ((sy_i F 4).toInt).toNat 0).toInt := congrArg Int32.toInt q70
          have r70 := nz_ba hB (k := 25) (lo := 0) (hi := 42) rfl ((sy_i F 4).toInt).toNat
          have n71 : (((sy_ai F 25).getD (sy_i F 4).toNatClampNeg 0) - ((22 : Int32))).toInt = (((sy_ai F 25).getD ((sy_i F 4).toInt).toNat 0).toInt - 22) := nz_sub n70 (by decide : ((22 : Int32)).toInt = 22) (by omega) (by omega)
          have q72 : (sy_ai F 25).getD (sy_i F 4).toNatClampNeg 0 = (sy_ai F 25).getD ((sy_i F 4).toInt).toNat 0 := by simp only [nz_c]
          have n72 : ((sy_ai F 25).getD (sy_i F 4).toNatClampNeg 0).toInt = ((sy_ai F 25).getD ((sy_i F 4).toInt).toNat 0).toInt := congrArg Int32.toInt q72
          have r72 := nz_ba hB (k := 25) (lo := 0) (hi := 42) rfl ((sy_i F 4).toInt).toNat
          have c6 := nz_bx hB (k := 6) (lo := 0) (hi := 2) rfl
          have n73 : ((sy_i F 4) + ((1 : Int32))).toInt = ((sy_i F 4).toInt + 1) := nz_add (rfl : (sy_i F 4).toInt = (sy_i F 4).toInt) (by decide : ((1 : Int32)).toInt = 1) (by omega) (by omega)
          exact to_0_p29 hd F X1 X2 hB (by first | exact ⟨by omega, by omega⟩ | (simp only [nz_c]; exact ⟨by omega, by omega⟩)) (by first | exact g0 | (simp only [nz_c]; exact g0) | (rw [n69]; exact g0)) (by first | exact ⟨by omega, by omega⟩ | (simp only [nz_c]; exact ⟨by omega, by omega⟩)) (by first | exact g1 | (simp only [nz_c, n71]; exact g1) | (rw [n71]; exact g1)) (by first | exact ⟨by omega, by omega⟩ | (simp only [nz_c]; exact ⟨by omega, by omega⟩)) (by first | exact g2 | (simp only [nz_c]; exact g2) | (rw [n72]; exact g2)) (by first | exact g3 | (simp only [nz_c]; exact g3)) (by first | exact g4 | (simp only [nz_c]; exact g4)) (fun F1 g e4 e69 => k29 g0 g1 g2 g3 g4 F1 (nz_in hB [4] (fun j hj hn => g j hj (by simp only [List.mem_cons, List.not_mem_nil, or_false, not_or] at hn; omega)) (List.forall_mem_cons.mpr ⟨fun t ht => (Option.some.inj ht) ▸ (nz_hi e4 n73 (by omega) (by omega)), List.forall_mem_nil _⟩)) (fun j hj hn => g j hj (by simp only [List.mem_cons, List.not_mem_nil, or_false, not_or] at hn; omega)) ((congrArg Int32.toInt (zz_i e4)).trans n73) (nz_fi (g 5 (by decide) (by decide))) (nz_fi (g 6 (by decide) (by decide))) (nz_fi (g 11 (by decide) (by decide))) (nz_fi (g 12 (by decide) (by decide))) (nz_fi (g 13 (by decide) (by decide))) (nz_fi (g 14 (by decide) (by decide))) (nz_fi (g 15 (by decide) (by decide))) (nz_fa (g 31 (by decide) (by decide))) (nz_fa (g 35 (by decide) (by decide))) (nz_fa (g 39 (by decide) (by decide))) (nz_fa (g 40 (by decide) (by decide))) (nz_fa (g 41 (by decide) (by decide))) ((congrArg Int32.toInt (zz_i e69)).trans n71))
        replace g4 : (sy_i F 4).toInt = 400 := by omega
        by_cases g5 : (sy_i F 6).toInt ≤ 0
        · have c4 := nz_bx hB (k := 4) (lo := 0) (hi := 400) rfl
          have q69 : (sy_ai F 25).getD (sy_i F 4).toNatClampNeg 0 = (sy_ai F 25).getD ((sy_i F 4).toInt).toNat 0 := by simp only [nz_c]
          have n69 : ((sy_ai F 25).getD (sy_i F 4).toNatClampNeg 0).toInt = ((sy_ai F 25).getD ((sy_i F 4).toInt).toNat 0).toInt := congrArg Int32.toInt q69
          have r69 := nz_ba hB (k := 25) (lo := 0) (hi := 42) rfl ((sy_i F 4).toInt).toNat
          have q70 : (sy_ai F 25).getD (sy_i F 4).toNatClampNeg 0 = (sy_ai F 25).getD ((sy_i F 4).toInt).toNat 0 := by simp only [nz_c]
          have n70 : ((sy_ai F 25).getD (sy_i F 4).toNatClampNeg 0).toInt = ((sy_ai F 25).getD ((sy_i F 4).toInt).toNat 0).toInt := congrArg Int32.toInt q70
          have r70 := nz_ba hB (k := 25) (lo := 0) (hi := 42) rfl ((sy_i F 4).toInt).toNat
          have n71 : (((sy_ai F 25).getD (sy_i F 4).toNatClampNeg 0) - ((22 : Int32))).toInt = (((sy_ai F 25).getD ((sy_i F 4).toInt).toNat 0).toInt - 22) := nz_sub n70 (by decide : ((22 : Int32)).toInt = 22) (by omega) (by omega)
          have q72 : (sy_ai F 25).getD (sy_i F 4).toNatClampNeg 0 = (sy_ai F 25).getD ((sy_i F 4).toInt).toNat 0 := by simp only [nz_c]
          have n72 : ((sy_ai F 25).getD (sy_i F 4).toNatClampNeg 0).toInt = ((sy_ai F 25).getD ((sy_i F 4).toInt).toNat 0).toInt := congrArg Int32.toInt q72
          have r72 := nz_ba hB (k := 25) (lo := 0) (hi := 42) rfl ((sy_i F 4).toInt).toNat
          have c6 := nz_bx hB (k := 6) (lo := 0) (hi := 2) rfl
          have q73 : (sy_ai F 26).getD (sy_i F 4).toNatClampNeg 0 = (sy_ai F 26).getD ((sy_i F 4).toInt).toNat 0 := by simp only [nz_c]
          have n73 : ((sy_ai F 26).getD (sy_i F 4).toNatClampNeg 0).toInt = ((sy_ai F 26).getD ((sy_i F 4).toInt).toNat 0).toInt := congrArg Int32.toInt q73
          exact to_0_p30 hd F X1 X2 hB (by first | exact ⟨by omega, by omega⟩ | (simp only [nz_c]; exact ⟨by omega, by omega⟩)) (by first | exact g0 | (simp only [nz_c]; exact g0) | (rw [n69]; exact g0)) (by first | exact ⟨by omega, by omega⟩ | (simp only [nz_c]; exact ⟨by omega, by omega⟩)) (by first | exact g1 | (simp only [nz_c, n71]; exact g1) | (rw [n71]; exact g1)) (by first | exact ⟨by omega, by omega⟩ | (simp only [nz_c]; exact ⟨by omega, by omega⟩)) (by first | exact g2 | (simp only [nz_c]; exact g2) | (rw [n72]; exact g2)) (by first | exact g3 | (simp only [nz_c]; exact g3)) (by first | exact g4 | (simp only [nz_c]; exact g4)) (by first | exact g5 | (simp only [nz_c]; exact g5)) (by first | exact ⟨by omega, by omega⟩ | (simp only [nz_c]; exact ⟨by omega, by omega⟩)) (fun F1 g e6 e7 e69 => k30 g0 g1 g2 g3 g4 g5 F1 (nz_in hB [6, 7] (fun j hj hn => g j hj (by simp only [List.mem_cons, List.not_mem_nil, or_false, not_or] at hn; omega)) (List.forall_mem_cons.mpr ⟨fun t ht => (Option.some.inj ht) ▸ (nz_hi e6 (by decide : ((2 : Int32)).toInt = 2) (by omega) (by omega)), List.forall_mem_cons.mpr ⟨fun t ht => (Option.some.inj ht) ▸ (nz_hz e7), List.forall_mem_nil _⟩⟩)) (fun j hj hn => g j hj (by simp only [List.mem_cons, List.not_mem_nil, or_false, not_or] at hn; omega)) (nz_fi (g 4 (by decide) (by decide))) (nz_fi (g 5 (by decide) (by decide))) ((congrArg Int32.toInt (zz_i e6)).trans (by decide : ((2 : Int32)).toInt = 2)) (nz_fi (g 11 (by decide) (by decide))) (nz_fi (g 12 (by decide) (by decide))) (nz_fi (g 13 (by decide) (by decide))) (nz_fi (g 14 (by decide) (by decide))) (nz_fi (g 15 (by decide) (by decide))) (nz_fa (g 31 (by decide) (by decide))) (nz_fa (g 35 (by decide) (by decide))) (nz_fa (g 39 (by decide) (by decide))) (nz_fa (g 40 (by decide) (by decide))) (nz_fa (g 41 (by decide) (by decide))) ((congrArg Int32.toInt (zz_i e69)).trans n71))
        replace g5 : 0 < (sy_i F 6).toInt := by omega
        have c4 := nz_bx hB (k := 4) (lo := 0) (hi := 400) rfl
        have q69 : (sy_ai F 25).getD (sy_i F 4).toNatClampNeg 0 = (sy_ai F 25).getD ((sy_i F 4).toInt).toNat 0 := by simp only [nz_c]
        have n69 : ((sy_ai F 25).getD (sy_i F 4).toNatClampNeg 0).toInt = ((sy_ai F 25).getD ((sy_i F 4).toInt).toNat 0).toInt := congrArg Int32.toInt q69
        have r69 := nz_ba hB (k := 25) (lo := 0) (hi := 42) rfl ((sy_i F 4).toInt).toNat
        have q70 : (sy_ai F 25).getD (sy_i F 4).toNatClampNeg 0 = (sy_ai F 25).getD ((sy_i F 4).toInt).toNat 0 := by simp only [nz_c]
        have n70 : ((sy_ai F 25).getD (sy_i F 4).toNatClampNeg 0).toInt = ((sy_ai F 25).getD ((sy_i F 4).toInt).toNat 0).toInt := congrArg Int32.toInt q70
        have r70 := nz_ba hB (k := 25) (lo := 0) (hi := 42) rfl ((sy_i F 4).toInt).toNat
        have n71 : (((sy_ai F 25).getD (sy_i F 4).toNatClampNeg 0) - ((22 : Int32))).toInt = (((sy_ai F 25).getD ((sy_i F 4).toInt).toNat 0).toInt - 22) := nz_sub n70 (by decide : ((22 : Int32)).toInt = 22) (by omega) (by omega)
        have q72 : (sy_ai F 25).getD (sy_i F 4).toNatClampNeg 0 = (sy_ai F 25).getD ((sy_i F 4).toInt).toNat 0 := by simp only [nz_c]
        have n72 : ((sy_ai F 25).getD (sy_i F 4).toNatClampNeg 0).toInt = ((sy_ai F 25).getD ((sy_i F 4).toInt).toNat 0).toInt := congrArg Int32.toInt q72
        have r72 := nz_ba hB (k := 25) (lo := 0) (hi := 42) rfl ((sy_i F 4).toInt).toNat
        have c6 := nz_bx hB (k := 6) (lo := 0) (hi := 2) rfl
        exfalso
        omega
      replace g3 : 0 < (sy_i F 6).toInt := by omega
      have c4 := nz_bx hB (k := 4) (lo := 0) (hi := 400) rfl
      have q69 : (sy_ai F 25).getD (sy_i F 4).toNatClampNeg 0 = (sy_ai F 25).getD ((sy_i F 4).toInt).toNat 0 := by simp only [nz_c]
      have n69 : ((sy_ai F 25).getD (sy_i F 4).toNatClampNeg 0).toInt = ((sy_ai F 25).getD ((sy_i F 4).toInt).toNat 0).toInt := congrArg Int32.toInt q69
      have r69 := nz_ba hB (k := 25) (lo := 0) (hi := 42) rfl ((sy_i F 4).toInt).toNat
      have q70 : (sy_ai F 25).getD (sy_i F 4).toNatClampNeg 0 = (sy_ai F 25).getD ((sy_i F 4).toInt).toNat 0 := by simp only [nz_c]
      have n70 : ((sy_ai F 25).getD (sy_i F 4).toNatClampNeg 0).toInt = ((sy_ai F 25).getD ((sy_i F 4).toInt).toNat 0).toInt := congrArg Int32.toInt q70
      have r70 := nz_ba hB (k := 25) (lo := 0) (hi := 42) rfl ((sy_i F 4).toInt).toNat
      have n71 : (((sy_ai F 25).getD (sy_i F 4).toNatClampNeg 0) - ((22 : Int32))).toInt = (((sy_ai F 25).getD ((sy_i F 4).toInt).toNat 0).toInt - 22) := nz_sub n70 (by decide : ((22 : Int32)).toInt = 22) (by omega) (by omega)
      have q72 : (sy_ai F 25).getD (sy_i F 4).toNatClampNeg 0 = (sy_ai F 25).getD ((sy_i F 4).toInt).toNat 0 := by simp only [nz_c]
      have n72 : ((sy_ai F 25).getD (sy_i F 4).toNatClampNeg 0).toInt = ((sy_ai F 25).getD ((sy_i F 4).toInt).toNat 0).toInt := congrArg Int32.toInt q72
      have r72 := nz_ba hB (k := 25) (lo := 0) (hi := 42) rfl ((sy_i F 4).toInt).toNat
      have c6 := nz_bx hB (k := 6) (lo := 0) (hi := 2) rfl
      exact to_0_p31 hd F X1 X2 hB (by first | exact ⟨by omega, by omega⟩ | (simp only [nz_c]; exact ⟨by omega, by omega⟩)) (by first | exact g0 | (simp only [nz_c]; exact g0) | (rw [n69]; exact g0)) (by first | exact ⟨by omega, by omega⟩ | (simp only [nz_c]; exact ⟨by omega, by omega⟩)) (by first | exact g1 | (simp only [nz_c, n71]; exact g1) | (rw [n71]; exact g1)) (by first | exact ⟨by omega, by omega⟩ | (simp only [nz_c]; exact ⟨by omega, by omega⟩)) (by first | exact g2 | (simp only [nz_c]; exact g2) | (rw [n72]; exact g2)) (by first | exact g3 | (simp only [nz_c]; exact g3)) (fun F1 g  => k31 g0 g1 g2 g3 F1 (nz_in hB [] (fun j hj hn => g j hj (by simp only [List.mem_cons, List.not_mem_nil, or_false, not_or] at hn; exact trivial)) (List.forall_mem_nil _)) (fun j hj hn => g j hj (by simp only [List.mem_cons, List.not_mem_nil, or_false, not_or] at hn; exact trivial)) (nz_fi (g 4 (by decide) (by decide))) (nz_fi (g 5 (by decide) (by decide))) (nz_fi (g 6 (by decide) (by decide))) (nz_fi (g 11 (by decide) (by decide))) (nz_fi (g 12 (by decide) (by decide))) (nz_fi (g 13 (by decide) (by decide))) (nz_fi (g 14 (by decide) (by decide))) (nz_fi (g 15 (by decide) (by decide))) (nz_fa (g 31 (by decide) (by decide))) (nz_fa (g 35 (by decide) (by decide))) (nz_fa (g 39 (by decide) (by decide))) (nz_fa (g 40 (by decide) (by decide))) (nz_fa (g 41 (by decide) (by decide))))
    replace g2 : 27 < ((sy_ai F 25).getD ((sy_i F 4).toInt).toNat 0).toInt := by omega
    have c4 := nz_bx hB (k := 4) (lo := 0) (hi := 400) rfl
    have q69 : (sy_ai F 25).getD (sy_i F 4).toNatClampNeg 0 = (sy_ai F 25).getD ((sy_i F 4).toInt).toNat 0 := by simp only [nz_c]
    have n69 : ((sy_ai F 25).getD (sy_i F 4).toNatClampNeg 0).toInt = ((sy_ai F 25).getD ((sy_i F 4).toInt).toNat 0).toInt := congrArg Int32.toInt q69
    have r69 := nz_ba hB (k := 25) (lo := 0) (hi := 42) rfl ((sy_i F 4).toInt).toNat
    have q70 : (sy_ai F 25).getD (sy_i F 4).toNatClampNeg 0 = (sy_ai F 25).getD ((sy_i F 4).toInt).toNat 0 := by simp only [nz_c]
    have n70 : ((sy_ai F 25).getD (sy_i F 4).toNatClampNeg 0).toInt = ((sy_ai F 25).getD ((sy_i F 4).toInt).toNat 0).toInt := congrArg Int32.toInt q70
    have r70 := nz_ba hB (k := 25) (lo := 0) (hi := 42) rfl ((sy_i F 4).toInt).toNat
    have n71 : (((sy_ai F 25).getD (sy_i F 4).toNatClampNeg 0) - ((22 : Int32))).toInt = (((sy_ai F 25).getD ((sy_i F 4).toInt).toNat 0).toInt - 22) := nz_sub n70 (by decide : ((22 : Int32)).toInt = 22) (by omega) (by omega)
    have q72 : (sy_ai F 25).getD (sy_i F 4).toNatClampNeg 0 = (sy_ai F 25).getD ((sy_i F 4).toInt).toNat 0 := by simp only [nz_c]
    have n72 : ((sy_ai F 25).getD (sy_i F 4).toNatClampNeg 0).toInt = ((sy_ai F 25).getD ((sy_i F 4).toInt).toNat 0).toInt := congrArg Int32.toInt q72
    have r72 := nz_ba hB (k := 25) (lo := 0) (hi := 42) rfl ((sy_i F 4).toInt).toNat
    exfalso
    omega
  have y0_9 := g0
  clear g0
  by_cases g0 : ((sy_ai F 25).getD ((sy_i F 4).toInt).toNat 0).toInt = 28
  · have c4 := nz_bx hB (k := 4) (lo := 0) (hi := 400) rfl
    have q69 : (sy_ai F 25).getD (sy_i F 4).toNatClampNeg 0 = (sy_ai F 25).getD ((sy_i F 4).toInt).toNat 0 := by simp only [nz_c]
    have n69 : ((sy_ai F 25).getD (sy_i F 4).toNatClampNeg 0).toInt = ((sy_ai F 25).getD ((sy_i F 4).toInt).toNat 0).toInt := congrArg Int32.toInt q69
    have r69 := nz_ba hB (k := 25) (lo := 0) (hi := 42) rfl ((sy_i F 4).toInt).toNat
    have c12 := nz_bx hB (k := 12) (lo := 0) (hi := 1) rfl
    exact to_0_p32 hd F X1 X2 hB (by first | exact ⟨by omega, by omega⟩ | (simp only [nz_c]; exact ⟨by omega, by omega⟩)) (by first | exact g0 | (simp only [nz_c]; exact g0) | (rw [n69]; exact g0)) (fun F1 g e69 => k32 g0 F1 (nz_in hB [] (fun j hj hn => g j hj (by simp only [List.mem_cons, List.not_mem_nil, or_false, not_or] at hn; exact trivial)) (List.forall_mem_nil _)) (fun j hj hn => g j hj (by simp only [List.mem_cons, List.not_mem_nil, or_false, not_or] at hn; exact trivial)) (nz_fi (g 4 (by decide) (by decide))) (nz_fi (g 5 (by decide) (by decide))) (nz_fi (g 6 (by decide) (by decide))) (nz_fi (g 11 (by decide) (by decide))) (nz_fi (g 12 (by decide) (by decide))) (nz_fi (g 13 (by decide) (by decide))) (nz_fi (g 14 (by decide) (by decide))) (nz_fi (g 15 (by decide) (by decide))) (nz_fa (g 31 (by decide) (by decide))) (nz_fa (g 35 (by decide) (by decide))) (nz_fa (g 39 (by decide) (by decide))) (nz_fa (g 40 (by decide) (by decide))) (nz_fa (g 41 (by decide) (by decide))) ((congrArg Int32.toInt (zz_i e69)).trans (rfl : (sy_i F 12).toInt = (sy_i F 12).toInt)))
  have y0_10 := g0
  clear g0
  by_cases g0 : ((sy_ai F 25).getD ((sy_i F 4).toInt).toNat 0).toInt = 29
  · have c4 := nz_bx hB (k := 4) (lo := 0) (hi := 400) rfl
    have q69 : (sy_ai F 25).getD (sy_i F 4).toNatClampNeg 0 = (sy_ai F 25).getD ((sy_i F 4).toInt).toNat 0 := by simp only [nz_c]
    have n69 : ((sy_ai F 25).getD (sy_i F 4).toNatClampNeg 0).toInt = ((sy_ai F 25).getD ((sy_i F 4).toInt).toNat 0).toInt := congrArg Int32.toInt q69
    have r69 := nz_ba hB (k := 25) (lo := 0) (hi := 42) rfl ((sy_i F 4).toInt).toNat
    have c12 := nz_bx hB (k := 12) (lo := 0) (hi := 1) rfl
    exact to_0_p33 hd F X1 X2 hB (by first | exact ⟨by omega, by omega⟩ | (simp only [nz_c]; exact ⟨by omega, by omega⟩)) (by first | exact g0 | (simp only [nz_c]; exact g0) | (rw [n69]; exact g0)) (fun F1 g e69 => k33 g0 F1 (nz_in hB [] (fun j hj hn => g j hj (by simp only [List.mem_cons, List.not_mem_nil, or_false, not_or] at hn; exact trivial)) (List.forall_mem_nil _)) (fun j hj hn => g j hj (by simp only [List.mem_cons, List.not_mem_nil, or_false, not_or] at hn; exact trivial)) (nz_fi (g 4 (by decide) (by decide))) (nz_fi (g 5 (by decide) (by decide))) (nz_fi (g 6 (by decide) (by decide))) (nz_fi (g 11 (by decide) (by decide))) (nz_fi (g 12 (by decide) (by decide))) (nz_fi (g 13 (by decide) (by decide))) (nz_fi (g 14 (by decide) (by decide))) (nz_fi (g 15 (by decide) (by decide))) (nz_fa (g 31 (by decide) (by decide))) (nz_fa (g 35 (by decide) (by decide))) (nz_fa (g 39 (by decide) (by decide))) (nz_fa (g 40 (by decide) (by decide))) (nz_fa (g 41 (by decide) (by decide))) ((congrArg Int32.toInt (zz_i e69)).trans (rfl : (sy_i F 12).toInt = (sy_i F 12).toInt)))
  have y0_11 := g0
  clear g0
  by_cases g0 : ((sy_ai F 25).getD ((sy_i F 4).toInt).toNat 0).toInt = 30
  · have c4 := nz_bx hB (k := 4) (lo := 0) (hi := 400) rfl
    have q69 : (sy_ai F 25).getD (sy_i F 4).toNatClampNeg 0 = (sy_ai F 25).getD ((sy_i F 4).toInt).toNat 0 := by simp only [nz_c]
    have n69 : ((sy_ai F 25).getD (sy_i F 4).toNatClampNeg 0).toInt = ((sy_ai F 25).getD ((sy_i F 4).toInt).toNat 0).toInt := congrArg Int32.toInt q69
    have r69 := nz_ba hB (k := 25) (lo := 0) (hi := 42) rfl ((sy_i F 4).toInt).toNat
    have c12 := nz_bx hB (k := 12) (lo := 0) (hi := 1) rfl
    exact to_0_p34 hd F X1 X2 hB (by first | exact ⟨by omega, by omega⟩ | (simp only [nz_c]; exact ⟨by omega, by omega⟩)) (by first | exact g0 | (simp only [nz_c]; exact g0) | (rw [n69]; exact g0)) (fun F1 g e69 => k34 g0 F1 (nz_in hB [] (fun j hj hn => g j hj (by simp only [List.mem_cons, List.not_mem_nil, or_false, not_or] at hn; exact trivial)) (List.forall_mem_nil _)) (fun j hj hn => g j hj (by simp only [List.mem_cons, List.not_mem_nil, or_false, not_or] at hn; exact trivial)) (nz_fi (g 4 (by decide) (by decide))) (nz_fi (g 5 (by decide) (by decide))) (nz_fi (g 6 (by decide) (by decide))) (nz_fi (g 11 (by decide) (by decide))) (nz_fi (g 12 (by decide) (by decide))) (nz_fi (g 13 (by decide) (by decide))) (nz_fi (g 14 (by decide) (by decide))) (nz_fi (g 15 (by decide) (by decide))) (nz_fa (g 31 (by decide) (by decide))) (nz_fa (g 35 (by decide) (by decide))) (nz_fa (g 39 (by decide) (by decide))) (nz_fa (g 40 (by decide) (by decide))) (nz_fa (g 41 (by decide) (by decide))) ((congrArg Int32.toInt (zz_i e69)).trans (rfl : (sy_i F 12).toInt = (sy_i F 12).toInt)))
  have q69 : (sy_ai F 25).getD (sy_i F 4).toNatClampNeg 0 = (sy_ai F 25).getD ((sy_i F 4).toInt).toNat 0 := by simp only [nz_c]
  have n69 : ((sy_ai F 25).getD (sy_i F 4).toNatClampNeg 0).toInt = ((sy_ai F 25).getD ((sy_i F 4).toInt).toNat 0).toInt := congrArg Int32.toInt q69
  have r69 := nz_ba hB (k := 25) (lo := 0) (hi := 42) rfl ((sy_i F 4).toInt).toNat
  exfalso
  omega
theorem to_94_p0 {Ls : Nat} {xs : Nat → Int32} {d : Nat} {Q : Option Value → jm_h → Prop} (hd : 5 ≤ d) (F : Nat → sy_d) (X1 X2 : List jm_c) (hB : iv_in F iv_B4)
    (k : ∀ F1 : Nat → sy_d, (∀ j, j < 69 → True → F1 j = F j) → Q (none) (sy_dh F1 X1 X2 (iv_H 4))) :
    hd_W Ls xs d jm_M154 Q (94, sy_dL F [some (.inl (.ref 1000)), none], sy_dS F [], sy_dh F X1 X2 (iv_H 4), 0, 0) := by
  refine hd_ret (s := 4) (nv := 69) (v := none) (uh := hd_ov (iv_id 0 iv_B4) []) (f := false) (sp := []) (d0 := 4) (O := []) (T := []) (P := []) jm_ok154 (by decide +kernel) (by decide +kernel) hd F X1 X2 (fun F' hF hs => ?_)
  have hB' : iv_in F' iv_B4 := iv_in_eq hB (fun j hj => hF j (Nat.lt_of_lt_of_le hj (by decide +kernel)))
  refine ⟨fun _ h => absurd h List.not_mem_nil, ?_⟩
  refine k _ ?_
  · exact fun j hj _ => (hd_keep hB' (Nat.lt_of_lt_of_le hj (by decide +kernel)) (by simp)).trans (hF j (by omega))
theorem to_94 {Ls : Nat} {xs : Nat → Int32} {d : Nat} {Q : Option Value → jm_h → Prop} (hd : 5 ≤ d) (F : Nat → sy_d) (X1 X2 : List jm_c) (hB : iv_in F iv_B4)
    (k0 : ∀ F1 : Nat → sy_d, iv_in F1 iv_B4 → (∀ j, j < 69 → j ∉ ([] : List Nat) → F1 j = F j) → (sy_i F1 4).toInt = (sy_i F 4).toInt → (sy_i F1 5).toInt = (sy_i F 5).toInt → (sy_i F1 6).toInt = (sy_i F 6).toInt → (sy_i F1 11).toInt = (sy_i F 11).toInt → (sy_i F1 12).toInt = (sy_i F 12).toInt → (sy_i F1 13).toInt = (sy_i F 13).toInt → (sy_i F1 14).toInt = (sy_i F 14).toInt → (sy_i F1 15).toInt = (sy_i F 15).toInt → sy_ai F1 31 = sy_ai F 31 → sy_ai F1 35 = sy_ai F 35 → sy_ai F1 39 = sy_ai F 39 → sy_ai F1 40 = sy_ai F 40 → sy_ai F1 41 = sy_ai F 41 → Q (none) (sy_dh F1 X1 X2 (iv_H 4))) :
    hd_W Ls xs d jm_M154 Q (94, sy_dL F [some (.inl (.ref 1000)), none], sy_dS F [], sy_dh F X1 X2 (iv_H 4), 0, 0) := by
  exact to_94_p0 hd F X1 X2 hB  (fun F1 g  => k0 F1 (nz_in hB [] (fun j hj hn => g j hj (by simp only [List.mem_cons, List.not_mem_nil, or_false, not_or] at hn; exact trivial)) (List.forall_mem_nil _)) (fun j hj hn => g j hj (by simp only [List.mem_cons, List.not_mem_nil, or_false, not_or] at hn; exact trivial)) (nz_fi (g 4 (by decide) (by decide))) (nz_fi (g 5 (by decide) (by decide))) (nz_fi (g 6 (by decide) (by decide))) (nz_fi (g 11 (by decide) (by decide))) (nz_fi (g 12 (by decide) (by decide))) (nz_fi (g 13 (by decide) (by decide))) (nz_fi (g 14 (by decide) (by decide))) (nz_fi (g 15 (by decide) (by decide))) (nz_fa (g 31 (by decide) (by decide))) (nz_fa (g 35 (by decide) (by decide))) (nz_fa (g 39 (by decide) (by decide))) (nz_fa (g 40 (by decide) (by decide))) (nz_fa (g 41 (by decide) (by decide))))
theorem to_122_p0 {Ls : Nat} {xs : Nat → Int32} {d : Nat} {Q : Option Value → jm_h → Prop} (hd : 5 ≤ d) (F : Nat → sy_d) (X1 X2 : List jm_c) (hB : iv_in F iv_B4)
    (k : ∀ F1 : Nat → sy_d, (∀ j, j < 69 → True → F1 j = F j) → Q (none) (sy_dh F1 X1 X2 (iv_H 4))) :
    hd_W Ls xs d jm_M154 Q (122, sy_dL F [some (.inl (.ref 1000)), none], sy_dS F [], sy_dh F X1 X2 (iv_H 4), 0, 0) := by
  refine hd_ret (s := 4) (nv := 69) (v := none) (uh := hd_ov (iv_id 0 iv_B4) []) (f := false) (sp := []) (d0 := 4) (O := []) (T := []) (P := []) jm_ok154 (by decide +kernel) (by decide +kernel) hd F X1 X2 (fun F' hF hs => ?_)
  have hB' : iv_in F' iv_B4 := iv_in_eq hB (fun j hj => hF j (Nat.lt_of_lt_of_le hj (by decide +kernel)))
  refine ⟨fun _ h => absurd h List.not_mem_nil, ?_⟩
  refine k _ ?_
  · exact fun j hj _ => (hd_keep hB' (Nat.lt_of_lt_of_le hj (by decide +kernel)) (by simp)).trans (hF j (by omega))
theorem to_122 {Ls : Nat} {xs : Nat → Int32} {d : Nat} {Q : Option Value → jm_h → Prop} (hd : 5 ≤ d) (F : Nat → sy_d) (X1 X2 : List jm_c) (hB : iv_in F iv_B4)
    (k0 : ∀ F1 : Nat → sy_d, iv_in F1 iv_B4 → (∀ j, j < 69 → j ∉ ([] : List Nat) → F1 j = F j) → (sy_i F1 4).toInt = (sy_i F 4).toInt → (sy_i F1 5).toInt = (sy_i F 5).toInt → (sy_i F1 6).toInt = (sy_i F 6).toInt → (sy_i F1 11).toInt = (sy_i F 11).toInt → (sy_i F1 12).toInt = (sy_i F 12).toInt → (sy_i F1 13).toInt = (sy_i F 13).toInt → (sy_i F1 14).toInt = (sy_i F 14).toInt → (sy_i F1 15).toInt = (sy_i F 15).toInt → sy_ai F1 31 = sy_ai F 31 → sy_ai F1 35 = sy_ai F 35 → sy_ai F1 39 = sy_ai F 39 → sy_ai F1 40 = sy_ai F 40 → sy_ai F1 41 = sy_ai F 41 → Q (none) (sy_dh F1 X1 X2 (iv_H 4))) :
    hd_W Ls xs d jm_M154 Q (122, sy_dL F [some (.inl (.ref 1000)), none], sy_dS F [], sy_dh F X1 X2 (iv_H 4), 0, 0) := by
  exact to_122_p0 hd F X1 X2 hB  (fun F1 g  => k0 F1 (nz_in hB [] (fun j hj hn => g j hj (by simp only [List.mem_cons, List.not_mem_nil, or_false, not_or] at hn; exact trivial)) (List.forall_mem_nil _)) (fun j hj hn => g j hj (by simp only [List.mem_cons, List.not_mem_nil, or_false, not_or] at hn; exact trivial)) (nz_fi (g 4 (by decide) (by decide))) (nz_fi (g 5 (by decide) (by decide))) (nz_fi (g 6 (by decide) (by decide))) (nz_fi (g 11 (by decide) (by decide))) (nz_fi (g 12 (by decide) (by decide))) (nz_fi (g 13 (by decide) (by decide))) (nz_fi (g 14 (by decide) (by decide))) (nz_fi (g 15 (by decide) (by decide))) (nz_fa (g 31 (by decide) (by decide))) (nz_fa (g 35 (by decide) (by decide))) (nz_fa (g 39 (by decide) (by decide))) (nz_fa (g 40 (by decide) (by decide))) (nz_fa (g 41 (by decide) (by decide))))
theorem to_140_p0 {Ls : Nat} {xs : Nat → Int32} {d : Nat} {Q : Option Value → jm_h → Prop} (hd : 5 ≤ d) (F : Nat → sy_d) (X1 X2 : List jm_c) (hB : iv_in F iv_B4)
    (h0 : 0 ≤ (sy_i F 69).toInt ∧ (sy_i F 69).toInt < 2)
    (k : ∀ F1 : Nat → sy_d, (∀ j, j < 69 → j ≠ 39 → F1 j = F j) → F1 39 = .inr (.inl (jm_upd (sy_ai F 39) (sy_i F 69).toNatClampNeg (sy_i F 70))) → Q (none) (sy_dh F1 X1 X2 (iv_H 4))) :
    hd_W Ls xs d jm_M154 Q (140, sy_dL F [some (.inl (.ref 1000)), none], sy_dS F [.inr (.inl 70), .inr (.inl 69), .inl (.ref 1017)], sy_dh F X1 X2 (iv_H 4), 0, 0) := by
  refine hd_ret (s := 4) (nv := 71) (v := none) (uh := hd_ov (iv_id 0 iv_B4) [(39, .inr (.inr (.inl 71)))]) (f := false) (sp := []) (d0 := 4) (O := []) (T := [(40, [.inr (.inl 69), .inr (.inl 70)], [.inr (.inl 39)])]) (P := [(6, .inr (.inl 69), .inl (.ref 2))]) jm_ok154 (by decide +kernel) (by decide +kernel) hd F X1 X2 (fun F' hF hs => ?_)
  have b69 := hd_b (F := F) (F' := F') (k := 69) (hF 69 (by decide))
  have b70 := hd_b (F := F) (F' := F') (k := 70) (hF 70 (by decide))
  have a39 := hd_ba (F := F) (F' := F') (k := 39) (hF 39 (by decide))
  have t71 : sy_da F' (.inr (.inl 71)) = .inl (jm_upd (sy_ai F 39) (sy_i F 69).toNatClampNeg (sy_i F 70)) := hd_up (hs 0 _ rfl) b69 b70 a39
  have hB' : iv_in F' iv_B4 := iv_in_eq hB (fun j hj => hF j (Nat.lt_of_lt_of_le hj (by decide +kernel)))
  refine ⟨List.forall_mem_cons.mpr ⟨hd_pb b69 (by first | exact h0 | exact h0), fun _ h => absurd h List.not_mem_nil⟩, ?_⟩
  refine k _ ?_ ?_
  · exact fun j hj hn => (hd_keep hB' (Nat.lt_of_lt_of_le hj (by decide +kernel)) (by simp; omega)).trans (hF j (by omega))
  · exact hd_ga (a := .inr (.inl 71)) (by decide +kernel) t71
theorem to_140 {Ls : Nat} {xs : Nat → Int32} {d : Nat} {Q : Option Value → jm_h → Prop} (hd : 5 ≤ d) (F : Nat → sy_d) (X1 X2 : List jm_c) (hB : iv_in F iv_B4)
    (a69 : 0 ≤ (sy_i F 69).toInt ∧ (sy_i F 69).toInt ≤ 1)
    (k0 : ∀ F1 : Nat → sy_d, iv_in F1 iv_B4 → (∀ j, j < 69 → j ∉ ([39] : List Nat) → F1 j = F j) → (sy_i F1 4).toInt = (sy_i F 4).toInt → (sy_i F1 5).toInt = (sy_i F 5).toInt → (sy_i F1 6).toInt = (sy_i F 6).toInt → (sy_i F1 11).toInt = (sy_i F 11).toInt → (sy_i F1 12).toInt = (sy_i F 12).toInt → (sy_i F1 13).toInt = (sy_i F 13).toInt → (sy_i F1 14).toInt = (sy_i F 14).toInt → (sy_i F1 15).toInt = (sy_i F 15).toInt → sy_ai F1 31 = sy_ai F 31 → sy_ai F1 35 = sy_ai F 35 → sy_ai F1 39 = jm_upd (sy_ai F 39) ((sy_i F 69).toInt).toNat (sy_i F 70) → sy_ai F1 40 = sy_ai F 40 → sy_ai F1 41 = sy_ai F 41 → Q (none) (sy_dh F1 X1 X2 (iv_H 4))) :
    hd_W Ls xs d jm_M154 Q (140, sy_dL F [some (.inl (.ref 1000)), none], sy_dS F [.inr (.inl 70), .inr (.inl 69), .inl (.ref 1017)], sy_dh F X1 X2 (iv_H 4), 0, 0) := by
  have w71 : jm_upd (sy_ai F 39) (sy_i F 69).toNatClampNeg (sy_i F 70) = jm_upd (sy_ai F 39) ((sy_i F 69).toInt).toNat (sy_i F 70) := by simp only [nz_c]
  exact to_140_p0 hd F X1 X2 hB (by first | exact ⟨by omega, by omega⟩ | (simp only [nz_c]; exact ⟨by omega, by omega⟩)) (fun F1 g e39 => k0 F1 (nz_in hB [39] (fun j hj hn => g j hj (by simp only [List.mem_cons, List.not_mem_nil, or_false, not_or] at hn; omega)) (List.forall_mem_cons.mpr ⟨fun t ht => (Option.some.inj ht) ▸ (nz_hz2 e39), List.forall_mem_nil _⟩)) (fun j hj hn => g j hj (by simp only [List.mem_cons, List.not_mem_nil, or_false, not_or] at hn; omega)) (nz_fi (g 4 (by decide) (by decide))) (nz_fi (g 5 (by decide) (by decide))) (nz_fi (g 6 (by decide) (by decide))) (nz_fi (g 11 (by decide) (by decide))) (nz_fi (g 12 (by decide) (by decide))) (nz_fi (g 13 (by decide) (by decide))) (nz_fi (g 14 (by decide) (by decide))) (nz_fi (g 15 (by decide) (by decide))) (nz_fa (g 31 (by decide) (by decide))) (nz_fa (g 35 (by decide) (by decide))) ((zz_ai e39).trans w71) (nz_fa (g 40 (by decide) (by decide))) (nz_fa (g 41 (by decide) (by decide))))
theorem to_159_p0 {Ls : Nat} {xs : Nat → Int32} {d : Nat} {Q : Option Value → jm_h → Prop} (hd : 5 ≤ d) (F : Nat → sy_d) (X1 X2 : List jm_c) (hB : iv_in F iv_B4)
    (h0 : 0 ≤ (sy_i F 69).toInt ∧ (sy_i F 69).toInt < 2)
    (k : ∀ F1 : Nat → sy_d, (∀ j, j < 69 → j ≠ 40 → F1 j = F j) → F1 40 = .inr (.inl (jm_upd (sy_ai F 40) (sy_i F 69).toNatClampNeg (sy_i F 70))) → Q (none) (sy_dh F1 X1 X2 (iv_H 4))) :
    hd_W Ls xs d jm_M154 Q (159, sy_dL F [some (.inl (.ref 1000)), none], sy_dS F [.inr (.inl 70), .inr (.inl 69), .inl (.ref 1018)], sy_dh F X1 X2 (iv_H 4), 0, 0) := by
  refine hd_ret (s := 4) (nv := 71) (v := none) (uh := hd_ov (iv_id 0 iv_B4) [(40, .inr (.inr (.inl 71)))]) (f := false) (sp := []) (d0 := 4) (O := []) (T := [(40, [.inr (.inl 69), .inr (.inl 70)], [.inr (.inl 40)])]) (P := [(6, .inr (.inl 69), .inl (.ref 2))]) jm_ok154 (by decide +kernel) (by decide +kernel) hd F X1 X2 (fun F' hF hs => ?_)
  have b69 := hd_b (F := F) (F' := F') (k := 69) (hF 69 (by decide))
  have b70 := hd_b (F := F) (F' := F') (k := 70) (hF 70 (by decide))
  have a40 := hd_ba (F := F) (F' := F') (k := 40) (hF 40 (by decide))
  have t71 : sy_da F' (.inr (.inl 71)) = .inl (jm_upd (sy_ai F 40) (sy_i F 69).toNatClampNeg (sy_i F 70)) := hd_up (hs 0 _ rfl) b69 b70 a40
  have hB' : iv_in F' iv_B4 := iv_in_eq hB (fun j hj => hF j (Nat.lt_of_lt_of_le hj (by decide +kernel)))
  refine ⟨List.forall_mem_cons.mpr ⟨hd_pb b69 (by first | exact h0 | exact h0), fun _ h => absurd h List.not_mem_nil⟩, ?_⟩
  refine k _ ?_ ?_
  · exact fun j hj hn => (hd_keep hB' (Nat.lt_of_lt_of_le hj (by decide +kernel)) (by simp; omega)).trans (hF j (by omega))
  · exact hd_ga (a := .inr (.inl 71)) (by decide +kernel) t71
theorem to_159 {Ls : Nat} {xs : Nat → Int32} {d : Nat} {Q : Option Value → jm_h → Prop} (hd : 5 ≤ d) (F : Nat → sy_d) (X1 X2 : List jm_c) (hB : iv_in F iv_B4)
    (a69 : 0 ≤ (sy_i F 69).toInt ∧ (sy_i F 69).toInt ≤ 1)
    (k0 : ∀ F1 : Nat → sy_d, iv_in F1 iv_B4 → (∀ j, j < 69 → j ∉ ([40] : List Nat) → F1 j = F j) → (sy_i F1 4).toInt = (sy_i F 4).toInt → (sy_i F1 5).toInt = (sy_i F 5).toInt → (sy_i F1 6).toInt = (sy_i F 6).toInt → (sy_i F1 11).toInt = (sy_i F 11).toInt → (sy_i F1 12).toInt = (sy_i F 12).toInt → (sy_i F1 13).toInt = (sy_i F 13).toInt → (sy_i F1 14).toInt = (sy_i F 14).toInt → (sy_i F1 15).toInt = (sy_i F 15).toInt → sy_ai F1 31 = sy_ai F 31 → sy_ai F1 35 = sy_ai F 35 → sy_ai F1 39 = sy_ai F 39 → sy_ai F1 40 = jm_upd (sy_ai F 40) ((sy_i F 69).toInt).toNat (sy_i F 70) → sy_ai F1 41 = sy_ai F 41 → Q (none) (sy_dh F1 X1 X2 (iv_H 4))) :
    hd_W Ls xs d jm_M154 Q (159, sy_dL F [some (.inl (.ref 1000)), none], sy_dS F [.inr (.inl 70), .inr (.inl 69), .inl (.ref 1018)], sy_dh F X1 X2 (iv_H 4), 0, 0) := by
  have w71 : jm_upd (sy_ai F 40) (sy_i F 69).toNatClampNeg (sy_i F 70) = jm_upd (sy_ai F 40) ((sy_i F 69).toInt).toNat (sy_i F 70) := by simp only [nz_c]
  exact to_159_p0 hd F X1 X2 hB (by first | exact ⟨by omega, by omega⟩ | (simp only [nz_c]; exact ⟨by omega, by omega⟩)) (fun F1 g e40 => k0 F1 (nz_in hB [40] (fun j hj hn => g j hj (by simp only [List.mem_cons, List.not_mem_nil, or_false, not_or] at hn; omega)) (List.forall_mem_cons.mpr ⟨fun t ht => (Option.some.inj ht) ▸ (nz_hz2 e40), List.forall_mem_nil _⟩)) (fun j hj hn => g j hj (by simp only [List.mem_cons, List.not_mem_nil, or_false, not_or] at hn; omega)) (nz_fi (g 4 (by decide) (by decide))) (nz_fi (g 5 (by decide) (by decide))) (nz_fi (g 6 (by decide) (by decide))) (nz_fi (g 11 (by decide) (by decide))) (nz_fi (g 12 (by decide) (by decide))) (nz_fi (g 13 (by decide) (by decide))) (nz_fi (g 14 (by decide) (by decide))) (nz_fi (g 15 (by decide) (by decide))) (nz_fa (g 31 (by decide) (by decide))) (nz_fa (g 35 (by decide) (by decide))) (nz_fa (g 39 (by decide) (by decide))) ((zz_ai e40).trans w71) (nz_fa (g 41 (by decide) (by decide))))
theorem to_179_p0 {Ls : Nat} {xs : Nat → Int32} {d : Nat} {Q : Option Value → jm_h → Prop} (hd : 5 ≤ d) (F : Nat → sy_d) (X1 X2 : List jm_c) (hB : iv_in F iv_B4)
    (h0 : 0 ≤ (sy_i F 69).toInt ∧ (sy_i F 69).toInt < 2)
    (k : ∀ F1 : Nat → sy_d, (∀ j, j < 69 → j ≠ 41 → F1 j = F j) → F1 41 = .inr (.inl (jm_upd (sy_ai F 41) (sy_i F 69).toNatClampNeg (sy_i F 70))) → Q (none) (sy_dh F1 X1 X2 (iv_H 4))) :
    hd_W Ls xs d jm_M154 Q (179, sy_dL F [some (.inl (.ref 1000)), none], sy_dS F [.inr (.inl 70), .inr (.inl 69), .inl (.ref 1019)], sy_dh F X1 X2 (iv_H 4), 0, 0) := by
  refine hd_ret (s := 4) (nv := 71) (v := none) (uh := hd_ov (iv_id 0 iv_B4) [(41, .inr (.inr (.inl 71)))]) (f := false) (sp := []) (d0 := 4) (O := []) (T := [(40, [.inr (.inl 69), .inr (.inl 70)], [.inr (.inl 41)])]) (P := [(6, .inr (.inl 69), .inl (.ref 2))]) jm_ok154 (by decide +kernel) (by decide +kernel) hd F X1 X2 (fun F' hF hs => ?_)
  have b69 := hd_b (F := F) (F' := F') (k := 69) (hF 69 (by decide))
  have b70 := hd_b (F := F) (F' := F') (k := 70) (hF 70 (by decide))
  have a41 := hd_ba (F := F) (F' := F') (k := 41) (hF 41 (by decide))
  have t71 : sy_da F' (.inr (.inl 71)) = .inl (jm_upd (sy_ai F 41) (sy_i F 69).toNatClampNeg (sy_i F 70)) := hd_up (hs 0 _ rfl) b69 b70 a41
  have hB' : iv_in F' iv_B4 := iv_in_eq hB (fun j hj => hF j (Nat.lt_of_lt_of_le hj (by decide +kernel)))
  refine ⟨List.forall_mem_cons.mpr ⟨hd_pb b69 (by first | exact h0 | exact h0), fun _ h => absurd h List.not_mem_nil⟩, ?_⟩
  refine k _ ?_ ?_
  · exact fun j hj hn => (hd_keep hB' (Nat.lt_of_lt_of_le hj (by decide +kernel)) (by simp; omega)).trans (hF j (by omega))
  · exact hd_ga (a := .inr (.inl 71)) (by decide +kernel) t71
theorem to_179 {Ls : Nat} {xs : Nat → Int32} {d : Nat} {Q : Option Value → jm_h → Prop} (hd : 5 ≤ d) (F : Nat → sy_d) (X1 X2 : List jm_c) (hB : iv_in F iv_B4)
    (a69 : 0 ≤ (sy_i F 69).toInt ∧ (sy_i F 69).toInt ≤ 1)
    (k0 : ∀ F1 : Nat → sy_d, iv_in F1 iv_B4 → (∀ j, j < 69 → j ∉ ([41] : List Nat) → F1 j = F j) → (sy_i F1 4).toInt = (sy_i F 4).toInt → (sy_i F1 5).toInt = (sy_i F 5).toInt → (sy_i F1 6).toInt = (sy_i F 6).toInt → (sy_i F1 11).toInt = (sy_i F 11).toInt → (sy_i F1 12).toInt = (sy_i F 12).toInt → (sy_i F1 13).toInt = (sy_i F 13).toInt → (sy_i F1 14).toInt = (sy_i F 14).toInt → (sy_i F1 15).toInt = (sy_i F 15).toInt → sy_ai F1 31 = sy_ai F 31 → sy_ai F1 35 = sy_ai F 35 → sy_ai F1 39 = sy_ai F 39 → sy_ai F1 40 = sy_ai F 40 → sy_ai F1 41 = jm_upd (sy_ai F 41) ((sy_i F 69).toInt).toNat (sy_i F 70) → Q (none) (sy_dh F1 X1 X2 (iv_H 4))) :
    hd_W Ls xs d jm_M154 Q (179, sy_dL F [some (.inl (.ref 1000)), none], sy_dS F [.inr (.inl 70), .inr (.inl 69), .inl (.ref 1019)], sy_dh F X1 X2 (iv_H 4), 0, 0) := by
  have w71 : jm_upd (sy_ai F 41) (sy_i F 69).toNatClampNeg (sy_i F 70) = jm_upd (sy_ai F 41) ((sy_i F 69).toInt).toNat (sy_i F 70) := by simp only [nz_c]
  exact to_179_p0 hd F X1 X2 hB (by first | exact ⟨by omega, by omega⟩ | (simp only [nz_c]; exact ⟨by omega, by omega⟩)) (fun F1 g e41 => k0 F1 (nz_in hB [41] (fun j hj hn => g j hj (by simp only [List.mem_cons, List.not_mem_nil, or_false, not_or] at hn; omega)) (List.forall_mem_cons.mpr ⟨fun t ht => (Option.some.inj ht) ▸ (nz_hz2 e41), List.forall_mem_nil _⟩)) (fun j hj hn => g j hj (by simp only [List.mem_cons, List.not_mem_nil, or_false, not_or] at hn; omega)) (nz_fi (g 4 (by decide) (by decide))) (nz_fi (g 5 (by decide) (by decide))) (nz_fi (g 6 (by decide) (by decide))) (nz_fi (g 11 (by decide) (by decide))) (nz_fi (g 12 (by decide) (by decide))) (nz_fi (g 13 (by decide) (by decide))) (nz_fi (g 14 (by decide) (by decide))) (nz_fi (g 15 (by decide) (by decide))) (nz_fa (g 31 (by decide) (by decide))) (nz_fa (g 35 (by decide) (by decide))) (nz_fa (g 39 (by decide) (by decide))) (nz_fa (g 40 (by decide) (by decide))) ((zz_ai e41).trans w71))
theorem to_236_p0 {Ls : Nat} {xs : Nat → Int32} {d : Nat} {Q : Option Value → jm_h → Prop} (hd : 5 ≤ d) (F : Nat → sy_d) (X1 X2 : List jm_c) (hB : iv_in F iv_B4)
    (k : ∀ F1 : Nat → sy_d, (∀ j, j < 69 → True → F1 j = F j) → Q (none) (sy_dh F1 X1 X2 (iv_H 4))) :
    hd_W Ls xs d jm_M154 Q (236, sy_dL F [some (.inl (.ref 1000)), none], sy_dS F [], sy_dh F X1 X2 (iv_H 4), 0, 0) := by
  refine hd_ret (s := 4) (nv := 70) (v := none) (uh := hd_ov (iv_id 0 iv_B4) []) (f := false) (sp := []) (d0 := 4) (O := []) (T := []) (P := []) jm_ok154 (by decide +kernel) (by decide +kernel) hd F X1 X2 (fun F' hF hs => ?_)
  have hB' : iv_in F' iv_B4 := iv_in_eq hB (fun j hj => hF j (Nat.lt_of_lt_of_le hj (by decide +kernel)))
  refine ⟨fun _ h => absurd h List.not_mem_nil, ?_⟩
  refine k _ ?_
  · exact fun j hj _ => (hd_keep hB' (Nat.lt_of_lt_of_le hj (by decide +kernel)) (by simp)).trans (hF j (by omega))
theorem to_236 {Ls : Nat} {xs : Nat → Int32} {d : Nat} {Q : Option Value → jm_h → Prop} (hd : 5 ≤ d) (F : Nat → sy_d) (X1 X2 : List jm_c) (hB : iv_in F iv_B4)
    (k0 : ∀ F1 : Nat → sy_d, iv_in F1 iv_B4 → (∀ j, j < 69 → j ∉ ([] : List Nat) → F1 j = F j) → (sy_i F1 4).toInt = (sy_i F 4).toInt → (sy_i F1 5).toInt = (sy_i F 5).toInt → (sy_i F1 6).toInt = (sy_i F 6).toInt → (sy_i F1 11).toInt = (sy_i F 11).toInt → (sy_i F1 12).toInt = (sy_i F 12).toInt → (sy_i F1 13).toInt = (sy_i F 13).toInt → (sy_i F1 14).toInt = (sy_i F 14).toInt → (sy_i F1 15).toInt = (sy_i F 15).toInt → sy_ai F1 31 = sy_ai F 31 → sy_ai F1 35 = sy_ai F 35 → sy_ai F1 39 = sy_ai F 39 → sy_ai F1 40 = sy_ai F 40 → sy_ai F1 41 = sy_ai F 41 → Q (none) (sy_dh F1 X1 X2 (iv_H 4))) :
    hd_W Ls xs d jm_M154 Q (236, sy_dL F [some (.inl (.ref 1000)), none], sy_dS F [], sy_dh F X1 X2 (iv_H 4), 0, 0) := by
  exact to_236_p0 hd F X1 X2 hB  (fun F1 g  => k0 F1 (nz_in hB [] (fun j hj hn => g j hj (by simp only [List.mem_cons, List.not_mem_nil, or_false, not_or] at hn; exact trivial)) (List.forall_mem_nil _)) (fun j hj hn => g j hj (by simp only [List.mem_cons, List.not_mem_nil, or_false, not_or] at hn; exact trivial)) (nz_fi (g 4 (by decide) (by decide))) (nz_fi (g 5 (by decide) (by decide))) (nz_fi (g 6 (by decide) (by decide))) (nz_fi (g 11 (by decide) (by decide))) (nz_fi (g 12 (by decide) (by decide))) (nz_fi (g 13 (by decide) (by decide))) (nz_fi (g 14 (by decide) (by decide))) (nz_fi (g 15 (by decide) (by decide))) (nz_fa (g 31 (by decide) (by decide))) (nz_fa (g 35 (by decide) (by decide))) (nz_fa (g 39 (by decide) (by decide))) (nz_fa (g 40 (by decide) (by decide))) (nz_fa (g 41 (by decide) (by decide))))
