/-! ===== one thing is told, way by way ===== -/
theorem to_0_p0 {Ls : Nat} {xs : Nat → Int32} {d : Nat} {Q : Option Value → jm_h → Prop} (hd : 5 ≤ d) (F : Nat → sy_d) (X1 X2 : List jm_c) (hB : iv_in F iv_B4)
    (h0 : 0 ≤ (sy_i F 4).toInt ∧ (sy_i F 4).toInt < 403)
    (h1 : ((sy_ai F 25).getD (sy_i F 4).toNatClampNeg 0).toInt < 20)
    (h2 : 0 ≤ (sy_i F 4).toInt ∧ (sy_i F 4).toInt < 403)
    (h3 : (((sy_ai F 25).getD (sy_i F 4).toNatClampNeg 0) - ((22 : Int32))).toInt < 0)
    (h4 : (sy_i F 6).toInt ≤ 0)
    (h5 : 0 ≤ (sy_i F 4).toInt ∧ (sy_i F 4).toInt < 403)
    (k : ∀ F1 : Nat → sy_d, (∀ j, j < 69 → j ≠ 6 ∧ j ≠ 7 → F1 j = F j) → F1 6 = .inl (.int ((1 : Int32))) → F1 7 = .inl (.int ((sy_ai F 26).getD (sy_i F 4).toNatClampNeg 0)) → Q (none) (sy_dh F1 X1 X2 (iv_H 4))) :
    hd_W Ls xs d jm_M154 Q (0, sy_dL F [some (.inl (.ref 1000)), none], sy_dS F [], sy_dh F X1 X2 (iv_H 4), 0, 0) := by
  refine hd_ret (s := 4) (nv := 69) (v := none) (uh := hd_ov (iv_id 0 iv_B4) [(6, .inl (.inl (.int 1))), (7, .inl (.inr (.inl 72)))]) (f := true) (sp := [91, 119, 137, 156, 176, 233]) (d0 := 4) (O := [true, true, true, true]) (T := [(30, [.inr (.inl 4)], [.inr (.inl 25)]), (30, [.inr (.inl 4)], [.inr (.inl 25)]), (1, [.inr (.inl 70), .inl (.int 22)], []), (30, [.inr (.inl 4)], [.inr (.inl 26)])]) (P := [(6, .inr (.inl 4), .inl (.ref 403)), (2, .inr (.inl 69), .inl (.int 20)), (6, .inr (.inl 4), .inl (.ref 403)), (2, .inr (.inl 71), .inl (.int 0)), (4, .inr (.inl 6), .inl (.int 0)), (6, .inr (.inl 4), .inl (.ref 403))]) jm_ok154 (by decide +kernel) (by decide +kernel) hd F X1 X2 (fun F' hF hs => ?_)
  have b4 := hd_b (F := F) (F' := F') (k := 4) (hF 4 (by decide))
  have a25 := hd_ba (F := F) (F' := F') (k := 25) (hF 25 (by decide))
  have t69 : sy_dv F' (.inr (.inl 69)) = .int ((sy_ai F 25).getD (sy_i F 4).toNatClampNeg 0) := hd_rd (hs 0 _ rfl) b4 a25
  have t70 : sy_dv F' (.inr (.inl 70)) = .int ((sy_ai F 25).getD (sy_i F 4).toNatClampNeg 0) := hd_rd (hs 1 _ rfl) b4 a25
  have t71 : sy_dv F' (.inr (.inl 71)) = .int (((sy_ai F 25).getD (sy_i F 4).toNatClampNeg 0) - ((22 : Int32))) := hd_o (hs 2 _ rfl) t70 rfl rfl
  have b6 := hd_b (F := F) (F' := F') (k := 6) (hF 6 (by decide))
  have a26 := hd_ba (F := F) (F' := F') (k := 26) (hF 26 (by decide))
  have t72 : sy_dv F' (.inr (.inl 72)) = .int ((sy_ai F 26).getD (sy_i F 4).toNatClampNeg 0) := hd_rd (hs 3 _ rfl) b4 a26
  have hB' : iv_in F' iv_B4 := iv_in_eq hB (fun j hj => hF j (Nat.lt_of_lt_of_le hj (by decide +kernel)))
  refine ⟨List.forall_mem_cons.mpr ⟨hd_pb b4 (by first | exact h0 | exact h0), List.forall_mem_cons.mpr ⟨hd_p2 t69 rfl (by have hc : ((20) : Int32).toInt = 20 := (by decide); omega), List.forall_mem_cons.mpr ⟨hd_pb b4 (by first | exact h2 | exact h2), List.forall_mem_cons.mpr ⟨hd_p2 t71 rfl (by have hc : ((0) : Int32).toInt = 0 := (by decide); omega), List.forall_mem_cons.mpr ⟨hd_p4 b6 rfl (by have hc : ((0) : Int32).toInt = 0 := (by decide); omega), List.forall_mem_cons.mpr ⟨hd_pb b4 (by first | exact h5 | exact h5), fun _ h => absurd h List.not_mem_nil⟩⟩⟩⟩⟩⟩, ?_⟩
  refine k _ ?_ ?_ ?_
  · exact fun j hj hn => (hd_keep hB' (Nat.lt_of_lt_of_le hj (by decide +kernel)) (by simp; omega)).trans (hF j (by omega))
  · exact hd_gi (x := .inl (.int 1)) (by decide +kernel) rfl
  · exact hd_gi (x := .inr (.inl 72)) (by decide +kernel) t72
theorem to_0_p1 {Ls : Nat} {xs : Nat → Int32} {d : Nat} {Q : Option Value → jm_h → Prop} (hd : 5 ≤ d) (F : Nat → sy_d) (X1 X2 : List jm_c) (hB : iv_in F iv_B4)
    (h0 : 0 ≤ (sy_i F 4).toInt ∧ (sy_i F 4).toInt < 403)
    (h1 : ((sy_ai F 25).getD (sy_i F 4).toNatClampNeg 0).toInt < 20)
    (h2 : 0 ≤ (sy_i F 4).toInt ∧ (sy_i F 4).toInt < 403)
    (h3 : (((sy_ai F 25).getD (sy_i F 4).toNatClampNeg 0) - ((22 : Int32))).toInt < 0)
    (h4 : 0 < (sy_i F 6).toInt)
    (h5 : 0 < (sy_i F 6).toInt)
    (k : ∀ F1 : Nat → sy_d, (∀ j, j < 69 → True → F1 j = F j) → Q (none) (sy_dh F1 X1 X2 (iv_H 4))) :
    hd_W Ls xs d jm_M154 Q (0, sy_dL F [some (.inl (.ref 1000)), none], sy_dS F [], sy_dh F X1 X2 (iv_H 4), 0, 0) := by
  refine hd_ret (s := 4) (nv := 69) (v := none) (uh := hd_ov (iv_id 0 iv_B4) []) (f := true) (sp := [91, 119, 137, 156, 176, 233]) (d0 := 4) (O := [true, true, true, false, false]) (T := [(30, [.inr (.inl 4)], [.inr (.inl 25)]), (30, [.inr (.inl 4)], [.inr (.inl 25)]), (1, [.inr (.inl 70), .inl (.int 22)], [])]) (P := [(6, .inr (.inl 4), .inl (.ref 403)), (2, .inr (.inl 69), .inl (.int 20)), (6, .inr (.inl 4), .inl (.ref 403)), (2, .inr (.inl 71), .inl (.int 0)), (5, .inr (.inl 6), .inl (.int 0)), (5, .inr (.inl 6), .inl (.int 0))]) jm_ok154 (by decide +kernel) (by decide +kernel) hd F X1 X2 (fun F' hF hs => ?_)
  have b4 := hd_b (F := F) (F' := F') (k := 4) (hF 4 (by decide))
  have a25 := hd_ba (F := F) (F' := F') (k := 25) (hF 25 (by decide))
  have t69 : sy_dv F' (.inr (.inl 69)) = .int ((sy_ai F 25).getD (sy_i F 4).toNatClampNeg 0) := hd_rd (hs 0 _ rfl) b4 a25
  have t70 : sy_dv F' (.inr (.inl 70)) = .int ((sy_ai F 25).getD (sy_i F 4).toNatClampNeg 0) := hd_rd (hs 1 _ rfl) b4 a25
  have t71 : sy_dv F' (.inr (.inl 71)) = .int (((sy_ai F 25).getD (sy_i F 4).toNatClampNeg 0) - ((22 : Int32))) := hd_o (hs 2 _ rfl) t70 rfl rfl
  have b6 := hd_b (F := F) (F' := F') (k := 6) (hF 6 (by decide))
  have hB' : iv_in F' iv_B4 := iv_in_eq hB (fun j hj => hF j (Nat.lt_of_lt_of_le hj (by decide +kernel)))
  refine ⟨List.forall_mem_cons.mpr ⟨hd_pb b4 (by first | exact h0 | exact h0), List.forall_mem_cons.mpr ⟨hd_p2 t69 rfl (by have hc : ((20) : Int32).toInt = 20 := (by decide); omega), List.forall_mem_cons.mpr ⟨hd_pb b4 (by first | exact h2 | exact h2), List.forall_mem_cons.mpr ⟨hd_p2 t71 rfl (by have hc : ((0) : Int32).toInt = 0 := (by decide); omega), List.forall_mem_cons.mpr ⟨hd_p5 b6 rfl (by have hc : ((0) : Int32).toInt = 0 := (by decide); omega), List.forall_mem_cons.mpr ⟨hd_p5 b6 rfl (by have hc : ((0) : Int32).toInt = 0 := (by decide); omega), fun _ h => absurd h List.not_mem_nil⟩⟩⟩⟩⟩⟩, ?_⟩
  refine k _ ?_
  · exact fun j hj _ => (hd_keep hB' (Nat.lt_of_lt_of_le hj (by decide +kernel)) (by simp)).trans (hF j (by omega))
theorem to_0_p2 {Ls : Nat} {xs : Nat → Int32} {d : Nat} {Q : Option Value → jm_h → Prop} (hd : 5 ≤ d) (F : Nat → sy_d) (X1 X2 : List jm_c) (hB : iv_in F iv_B4)
    (h0 : 0 ≤ (sy_i F 4).toInt ∧ (sy_i F 4).toInt < 403)
    (h1 : 30 < ((sy_ai F 25).getD (sy_i F 4).toNatClampNeg 0).toInt)
    (h2 : 0 ≤ (sy_i F 4).toInt ∧ (sy_i F 4).toInt < 403)
    (h3 : 0 ≤ (((sy_ai F 25).getD (sy_i F 4).toNatClampNeg 0) - ((22 : Int32))).toInt)
    (h4 : 0 ≤ (sy_i F 4).toInt ∧ (sy_i F 4).toInt < 403)
    (h5 : 27 < ((sy_ai F 25).getD (sy_i F 4).toNatClampNeg 0).toInt)
    (h6 : (sy_i F 6).toInt ≤ 0)
    (h7 : 0 ≤ (sy_i F 4).toInt ∧ (sy_i F 4).toInt < 403)
    (k : ∀ F1 : Nat → sy_d, (∀ j, j < 69 → j ≠ 6 ∧ j ≠ 7 → F1 j = F j) → F1 6 = .inl (.int ((1 : Int32))) → F1 7 = .inl (.int ((sy_ai F 26).getD (sy_i F 4).toNatClampNeg 0)) → Q (none) (sy_dh F1 X1 X2 (iv_H 4))) :
    hd_W Ls xs d jm_M154 Q (0, sy_dL F [some (.inl (.ref 1000)), none], sy_dS F [], sy_dh F X1 X2 (iv_H 4), 0, 0) := by
  refine hd_ret (s := 4) (nv := 69) (v := none) (uh := hd_ov (iv_id 0 iv_B4) [(6, .inl (.inl (.int 1))), (7, .inl (.inr (.inl 73)))]) (f := true) (sp := [91, 119, 137, 156, 176, 233]) (d0 := 4) (O := [true, false, false, false, true]) (T := [(30, [.inr (.inl 4)], [.inr (.inl 25)]), (30, [.inr (.inl 4)], [.inr (.inl 25)]), (1, [.inr (.inl 70), .inl (.int 22)], []), (30, [.inr (.inl 4)], [.inr (.inl 25)]), (30, [.inr (.inl 4)], [.inr (.inl 26)])]) (P := [(6, .inr (.inl 4), .inl (.ref 403)), (2, .inl (.int 30), .inr (.inl 69)), (6, .inr (.inl 4), .inl (.ref 403)), (3, .inr (.inl 71), .inl (.int 0)), (6, .inr (.inl 4), .inl (.ref 403)), (5, .inr (.inl 72), .inl (.int 27)), (4, .inr (.inl 6), .inl (.int 0)), (6, .inr (.inl 4), .inl (.ref 403))]) jm_ok154 (by decide +kernel) (by decide +kernel) hd F X1 X2 (fun F' hF hs => ?_)
  have b4 := hd_b (F := F) (F' := F') (k := 4) (hF 4 (by decide))
  have a25 := hd_ba (F := F) (F' := F') (k := 25) (hF 25 (by decide))
  have t69 : sy_dv F' (.inr (.inl 69)) = .int ((sy_ai F 25).getD (sy_i F 4).toNatClampNeg 0) := hd_rd (hs 0 _ rfl) b4 a25
  have t70 : sy_dv F' (.inr (.inl 70)) = .int ((sy_ai F 25).getD (sy_i F 4).toNatClampNeg 0) := hd_rd (hs 1 _ rfl) b4 a25
  have t71 : sy_dv F' (.inr (.inl 71)) = .int (((sy_ai F 25).getD (sy_i F 4).toNatClampNeg 0) - ((22 : Int32))) := hd_o (hs 2 _ rfl) t70 rfl rfl
  have t72 : sy_dv F' (.inr (.inl 72)) = .int ((sy_ai F 25).getD (sy_i F 4).toNatClampNeg 0) := hd_rd (hs 3 _ rfl) b4 a25
  have b6 := hd_b (F := F) (F' := F') (k := 6) (hF 6 (by decide))
  have a26 := hd_ba (F := F) (F' := F') (k := 26) (hF 26 (by decide))
  have t73 : sy_dv F' (.inr (.inl 73)) = .int ((sy_ai F 26).getD (sy_i F 4).toNatClampNeg 0) := hd_rd (hs 4 _ rfl) b4 a26
  have hB' : iv_in F' iv_B4 := iv_in_eq hB (fun j hj => hF j (Nat.lt_of_lt_of_le hj (by decide +kernel)))
  refine ⟨List.forall_mem_cons.mpr ⟨hd_pb b4 (by first | exact h0 | exact h0), List.forall_mem_cons.mpr ⟨hd_p2 rfl t69 (by have hc : ((30) : Int32).toInt = 30 := (by decide); omega), List.forall_mem_cons.mpr ⟨hd_pb b4 (by first | exact h2 | exact h2), List.forall_mem_cons.mpr ⟨hd_p3 t71 rfl (by have hc : ((0) : Int32).toInt = 0 := (by decide); omega), List.forall_mem_cons.mpr ⟨hd_pb b4 (by first | exact h4 | exact h4), List.forall_mem_cons.mpr ⟨hd_p5 t72 rfl (by have hc : ((27) : Int32).toInt = 27 := (by decide); omega), List.forall_mem_cons.mpr ⟨hd_p4 b6 rfl (by have hc : ((0) : Int32).toInt = 0 := (by decide); omega), List.forall_mem_cons.mpr ⟨hd_pb b4 (by first | exact h7 | exact h7), fun _ h => absurd h List.not_mem_nil⟩⟩⟩⟩⟩⟩⟩⟩, ?_⟩
  refine k _ ?_ ?_ ?_
  · exact fun j hj hn => (hd_keep hB' (Nat.lt_of_lt_of_le hj (by decide +kernel)) (by simp; omega)).trans (hF j (by omega))
  · exact hd_gi (x := .inl (.int 1)) (by decide +kernel) rfl
  · exact hd_gi (x := .inr (.inl 73)) (by decide +kernel) t73
theorem to_0_p3 {Ls : Nat} {xs : Nat → Int32} {d : Nat} {Q : Option Value → jm_h → Prop} (hd : 5 ≤ d) (F : Nat → sy_d) (X1 X2 : List jm_c) (hB : iv_in F iv_B4)
    (h0 : 0 ≤ (sy_i F 4).toInt ∧ (sy_i F 4).toInt < 403)
    (h1 : 30 < ((sy_ai F 25).getD (sy_i F 4).toNatClampNeg 0).toInt)
    (h2 : 0 ≤ (sy_i F 4).toInt ∧ (sy_i F 4).toInt < 403)
    (h3 : 0 ≤ (((sy_ai F 25).getD (sy_i F 4).toNatClampNeg 0) - ((22 : Int32))).toInt)
    (h4 : 0 ≤ (sy_i F 4).toInt ∧ (sy_i F 4).toInt < 403)
    (h5 : 27 < ((sy_ai F 25).getD (sy_i F 4).toNatClampNeg 0).toInt)
    (h6 : 0 < (sy_i F 6).toInt)
    (h7 : 0 < (sy_i F 6).toInt)
    (k : ∀ F1 : Nat → sy_d, (∀ j, j < 69 → True → F1 j = F j) → Q (none) (sy_dh F1 X1 X2 (iv_H 4))) :
    hd_W Ls xs d jm_M154 Q (0, sy_dL F [some (.inl (.ref 1000)), none], sy_dS F [], sy_dh F X1 X2 (iv_H 4), 0, 0) := by
  refine hd_ret (s := 4) (nv := 69) (v := none) (uh := hd_ov (iv_id 0 iv_B4) []) (f := true) (sp := [91, 119, 137, 156, 176, 233]) (d0 := 4) (O := [true, false, false, false, false, false]) (T := [(30, [.inr (.inl 4)], [.inr (.inl 25)]), (30, [.inr (.inl 4)], [.inr (.inl 25)]), (1, [.inr (.inl 70), .inl (.int 22)], []), (30, [.inr (.inl 4)], [.inr (.inl 25)])]) (P := [(6, .inr (.inl 4), .inl (.ref 403)), (2, .inl (.int 30), .inr (.inl 69)), (6, .inr (.inl 4), .inl (.ref 403)), (3, .inr (.inl 71), .inl (.int 0)), (6, .inr (.inl 4), .inl (.ref 403)), (5, .inr (.inl 72), .inl (.int 27)), (5, .inr (.inl 6), .inl (.int 0)), (5, .inr (.inl 6), .inl (.int 0))]) jm_ok154 (by decide +kernel) (by decide +kernel) hd F X1 X2 (fun F' hF hs => ?_)
  have b4 := hd_b (F := F) (F' := F') (k := 4) (hF 4 (by decide))
  have a25 := hd_ba (F := F) (F' := F') (k := 25) (hF 25 (by decide))
  have t69 : sy_dv F' (.inr (.inl 69)) = .int ((sy_ai F 25).getD (sy_i F 4).toNatClampNeg 0) := hd_rd (hs 0 _ rfl) b4 a25
  have t70 : sy_dv F' (.inr (.inl 70)) = .int ((sy_ai F 25).getD (sy_i F 4).toNatClampNeg 0) := hd_rd (hs 1 _ rfl) b4 a25
  have t71 : sy_dv F' (.inr (.inl 71)) = .int (((sy_ai F 25).getD (sy_i F 4).toNatClampNeg 0) - ((22 : Int32))) := hd_o (hs 2 _ rfl) t70 rfl rfl
  have t72 : sy_dv F' (.inr (.inl 72)) = .int ((sy_ai F 25).getD (sy_i F 4).toNatClampNeg 0) := hd_rd (hs 3 _ rfl) b4 a25
  have b6 := hd_b (F := F) (F' := F') (k := 6) (hF 6 (by decide))
  have hB' : iv_in F' iv_B4 := iv_in_eq hB (fun j hj => hF j (Nat.lt_of_lt_of_le hj (by decide +kernel)))
  refine ⟨List.forall_mem_cons.mpr ⟨hd_pb b4 (by first | exact h0 | exact h0), List.forall_mem_cons.mpr ⟨hd_p2 rfl t69 (by have hc : ((30) : Int32).toInt = 30 := (by decide); omega), List.forall_mem_cons.mpr ⟨hd_pb b4 (by first | exact h2 | exact h2), List.forall_mem_cons.mpr ⟨hd_p3 t71 rfl (by have hc : ((0) : Int32).toInt = 0 := (by decide); omega), List.forall_mem_cons.mpr ⟨hd_pb b4 (by first | exact h4 | exact h4), List.forall_mem_cons.mpr ⟨hd_p5 t72 rfl (by have hc : ((27) : Int32).toInt = 27 := (by decide); omega), List.forall_mem_cons.mpr ⟨hd_p5 b6 rfl (by have hc : ((0) : Int32).toInt = 0 := (by decide); omega), List.forall_mem_cons.mpr ⟨hd_p5 b6 rfl (by have hc : ((0) : Int32).toInt = 0 := (by decide); omega), fun _ h => absurd h List.not_mem_nil⟩⟩⟩⟩⟩⟩⟩⟩, ?_⟩
  refine k _ ?_
  · exact fun j hj _ => (hd_keep hB' (Nat.lt_of_lt_of_le hj (by decide +kernel)) (by simp)).trans (hF j (by omega))
theorem to_0_p4 {Ls : Nat} {xs : Nat → Int32} {d : Nat} {Q : Option Value → jm_h → Prop} (hd : 5 ≤ d) (F : Nat → sy_d) (X1 X2 : List jm_c) (hB : iv_in F iv_B4)
    (h0 : 0 ≤ (sy_i F 4).toInt ∧ (sy_i F 4).toInt < 403)
    (h1 : ((sy_ai F 25).getD (sy_i F 4).toNatClampNeg 0).toInt = 20)
    (h2 : 0 ≤ (sy_i F 12).toInt ∧ (sy_i F 12).toInt < 2)
    (h3 : ((sy_ai F 31).getD (sy_i F 12).toNatClampNeg 0).toInt ≠ 7)
    (h4 : (sy_i F 6).toInt ≠ 0)
    (h5 : (sy_i F 6).toInt ≠ 0)
    (k : ∀ F1 : Nat → sy_d, (∀ j, j < 69 → True → F1 j = F j) → Q (none) (sy_dh F1 X1 X2 (iv_H 4))) :
    hd_W Ls xs d jm_M154 Q (0, sy_dL F [some (.inl (.ref 1000)), none], sy_dS F [], sy_dh F X1 X2 (iv_H 4), 0, 0) := by
  refine hd_ret (s := 4) (nv := 69) (v := none) (uh := hd_ov (iv_id 0 iv_B4) []) (f := true) (sp := [91, 119, 137, 156, 176, 233]) (d0 := 4) (O := [false, true, true, true, true]) (T := [(30, [.inr (.inl 4)], [.inr (.inl 25)]), (30, [.inr (.inl 12)], [.inr (.inl 31)])]) (P := [(6, .inr (.inl 4), .inl (.ref 403)), (0, .inr (.inl 69), .inl (.int 20)), (6, .inr (.inl 12), .inl (.ref 2)), (1, .inr (.inl 70), .inl (.int 7)), (1, .inr (.inl 6), .inl (.int 0)), (1, .inr (.inl 6), .inl (.int 0))]) jm_ok154 (by decide +kernel) (by decide +kernel) hd F X1 X2 (fun F' hF hs => ?_)
  have b4 := hd_b (F := F) (F' := F') (k := 4) (hF 4 (by decide))
  have a25 := hd_ba (F := F) (F' := F') (k := 25) (hF 25 (by decide))
  have t69 : sy_dv F' (.inr (.inl 69)) = .int ((sy_ai F 25).getD (sy_i F 4).toNatClampNeg 0) := hd_rd (hs 0 _ rfl) b4 a25
  have b12 := hd_b (F := F) (F' := F') (k := 12) (hF 12 (by decide))
  have a31 := hd_ba (F := F) (F' := F') (k := 31) (hF 31 (by decide))
  have t70 : sy_dv F' (.inr (.inl 70)) = .int ((sy_ai F 31).getD (sy_i F 12).toNatClampNeg 0) := hd_rd (hs 1 _ rfl) b12 a31
  have b6 := hd_b (F := F) (F' := F') (k := 6) (hF 6 (by decide))
  have hB' : iv_in F' iv_B4 := iv_in_eq hB (fun j hj => hF j (Nat.lt_of_lt_of_le hj (by decide +kernel)))
  refine ⟨List.forall_mem_cons.mpr ⟨hd_pb b4 (by first | exact h0 | exact h0), List.forall_mem_cons.mpr ⟨hd_p0 t69 rfl (by have hc : ((20) : Int32).toInt = 20 := (by decide); omega), List.forall_mem_cons.mpr ⟨hd_pb b12 (by first | exact h2 | exact h2), List.forall_mem_cons.mpr ⟨hd_p1 t70 rfl (by have hc : ((7) : Int32).toInt = 7 := (by decide); omega), List.forall_mem_cons.mpr ⟨hd_p1 b6 rfl (by have hc : ((0) : Int32).toInt = 0 := (by decide); omega), List.forall_mem_cons.mpr ⟨hd_p1 b6 rfl (by have hc : ((0) : Int32).toInt = 0 := (by decide); omega), fun _ h => absurd h List.not_mem_nil⟩⟩⟩⟩⟩⟩, ?_⟩
  refine k _ ?_
  · exact fun j hj _ => (hd_keep hB' (Nat.lt_of_lt_of_le hj (by decide +kernel)) (by simp)).trans (hF j (by omega))
theorem to_0_p5 {Ls : Nat} {xs : Nat → Int32} {d : Nat} {Q : Option Value → jm_h → Prop} (hd : 5 ≤ d) (F : Nat → sy_d) (X1 X2 : List jm_c) (hB : iv_in F iv_B4)
    (h0 : 0 ≤ (sy_i F 4).toInt ∧ (sy_i F 4).toInt < 403)
    (h1 : ((sy_ai F 25).getD (sy_i F 4).toNatClampNeg 0).toInt = 20)
    (h2 : 0 ≤ (sy_i F 12).toInt ∧ (sy_i F 12).toInt < 2)
    (h3 : ((sy_ai F 31).getD (sy_i F 12).toNatClampNeg 0).toInt ≠ 7)
    (h4 : (sy_i F 6).toInt = 0)
    (h5 : (sy_i F 4).toInt ≠ 400)
    (h6 : (sy_i F 6).toInt = 0)
    (k : ∀ F1 : Nat → sy_d, (∀ j, j < 69 → j ≠ 4 → F1 j = F j) → F1 4 = .inl (.int ((sy_i F 4) + ((1 : Int32)))) → hd_W Ls xs d jm_M154 Q (91, sy_dL F1 [some (.inl (.ref 1000)), none], sy_dS F1 [.inl (.ref 1000)], sy_dh F1 X1 X2 (iv_H 4), 0, 0)) :
    hd_W Ls xs d jm_M154 Q (0, sy_dL F [some (.inl (.ref 1000)), none], sy_dS F [], sy_dh F X1 X2 (iv_H 4), 0, 0) := by
  refine hd_run (s := 4) (nv := 69) (pc := 91) (L := [some (.inl (.ref 1000)), none]) (S := [.inl (.ref 1000)]) (uh := hd_ov (iv_id 0 iv_B4) [(4, .inl (.inr (.inl 71)))]) (ul := []) (f := true) (sp := [91, 119, 137, 156, 176, 233]) (d0 := 4) (O := [false, true, true, false, true, false]) (T := [(30, [.inr (.inl 4)], [.inr (.inl 25)]), (30, [.inr (.inl 12)], [.inr (.inl 31)]), (0, [.inr (.inl 4), .inl (.int 1)], [])]) (P := [(6, .inr (.inl 4), .inl (.ref 403)), (0, .inr (.inl 69), .inl (.int 20)), (6, .inr (.inl 12), .inl (.ref 2)), (1, .inr (.inl 70), .inl (.int 7)), (0, .inr (.inl 6), .inl (.int 0)), (1, .inr (.inl 4), .inl (.int 400)), (0, .inr (.inl 6), .inl (.int 0))]) jm_ok154 (by decide +kernel) (by decide +kernel) hd F X1 X2 (fun F' hF hs => ?_)
  have b4 := hd_b (F := F) (F' := F') (k := 4) (hF 4 (by decide))
  have a25 := hd_ba (F := F) (F' := F') (k := 25) (hF 25 (by decide))
  have t69 : sy_dv F' (.inr (.inl 69)) = .int ((sy_ai F 25).getD (sy_i F 4).toNatClampNeg 0) := hd_rd (hs 0 _ rfl) b4 a25
  have b12 := hd_b (F := F) (F' := F') (k := 12) (hF 12 (by decide))
  have a31 := hd_ba (F := F) (F' := F') (k := 31) (hF 31 (by decide))
  have t70 : sy_dv F' (.inr (.inl 70)) = .int ((sy_ai F 31).getD (sy_i F 12).toNatClampNeg 0) := hd_rd (hs 1 _ rfl) b12 a31
  have b6 := hd_b (F := F) (F' := F') (k := 6) (hF 6 (by decide))
  have t71 : sy_dv F' (.inr (.inl 71)) = .int ((sy_i F 4) + ((1 : Int32))) := hd_o (hs 2 _ rfl) b4 rfl rfl
  have hB' : iv_in F' iv_B4 := iv_in_eq hB (fun j hj => hF j (Nat.lt_of_lt_of_le hj (by decide +kernel)))
  refine ⟨List.forall_mem_cons.mpr ⟨hd_pb b4 (by first | exact h0 | exact h0), List.forall_mem_cons.mpr ⟨hd_p0 t69 rfl (by have hc : ((20) : Int32).toInt = 20 := (by decide); omega), List.forall_mem_cons.mpr ⟨hd_pb b12 (by first | exact h2 | exact h2), List.forall_mem_cons.mpr ⟨hd_p1 t70 rfl (by have hc : ((7) : Int32).toInt = 7 := (by decide); omega), List.forall_mem_cons.mpr ⟨hd_p0 b6 rfl (by have hc : ((0) : Int32).toInt = 0 := (by decide); omega), List.forall_mem_cons.mpr ⟨hd_p1 b4 rfl (by have hc : ((400) : Int32).toInt = 400 := (by decide); omega), List.forall_mem_cons.mpr ⟨hd_p0 b6 rfl (by have hc : ((0) : Int32).toInt = 0 := (by decide); omega), fun _ h => absurd h List.not_mem_nil⟩⟩⟩⟩⟩⟩⟩, ?_⟩
  refine k _ ?_ ?_
  · exact fun j hj hn => (hd_keep hB' (Nat.lt_of_lt_of_le hj (by decide +kernel)) (by simp; omega)).trans (hF j (by omega))
  · exact hd_gi (x := .inr (.inl 71)) (by decide +kernel) t71
theorem to_0_p6 {Ls : Nat} {xs : Nat → Int32} {d : Nat} {Q : Option Value → jm_h → Prop} (hd : 5 ≤ d) (F : Nat → sy_d) (X1 X2 : List jm_c) (hB : iv_in F iv_B4)
    (h0 : 0 ≤ (sy_i F 4).toInt ∧ (sy_i F 4).toInt < 403)
    (h1 : ((sy_ai F 25).getD (sy_i F 4).toNatClampNeg 0).toInt = 20)
    (h2 : 0 ≤ (sy_i F 12).toInt ∧ (sy_i F 12).toInt < 2)
    (h3 : ((sy_ai F 31).getD (sy_i F 12).toNatClampNeg 0).toInt ≠ 7)
    (h4 : (sy_i F 6).toInt = 0)
    (h5 : (sy_i F 4).toInt = 400)
    (h6 : (sy_i F 6).toInt ≤ 0)
    (h7 : 0 ≤ (sy_i F 4).toInt ∧ (sy_i F 4).toInt < 403)
    (k : ∀ F1 : Nat → sy_d, (∀ j, j < 69 → j ≠ 6 ∧ j ≠ 7 → F1 j = F j) → F1 6 = .inl (.int ((2 : Int32))) → F1 7 = .inl (.int ((sy_ai F 26).getD (sy_i F 4).toNatClampNeg 0)) → Q (none) (sy_dh F1 X1 X2 (iv_H 4))) :
    hd_W Ls xs d jm_M154 Q (0, sy_dL F [some (.inl (.ref 1000)), none], sy_dS F [], sy_dh F X1 X2 (iv_H 4), 0, 0) := by
  refine hd_ret (s := 4) (nv := 69) (v := none) (uh := hd_ov (iv_id 0 iv_B4) [(6, .inl (.inl (.int 2))), (7, .inl (.inr (.inl 71)))]) (f := true) (sp := [91, 119, 137, 156, 176, 233]) (d0 := 4) (O := [false, true, true, false, false, true]) (T := [(30, [.inr (.inl 4)], [.inr (.inl 25)]), (30, [.inr (.inl 12)], [.inr (.inl 31)]), (30, [.inr (.inl 4)], [.inr (.inl 26)])]) (P := [(6, .inr (.inl 4), .inl (.ref 403)), (0, .inr (.inl 69), .inl (.int 20)), (6, .inr (.inl 12), .inl (.ref 2)), (1, .inr (.inl 70), .inl (.int 7)), (0, .inr (.inl 6), .inl (.int 0)), (0, .inr (.inl 4), .inl (.int 400)), (4, .inr (.inl 6), .inl (.int 0)), (6, .inr (.inl 4), .inl (.ref 403))]) jm_ok154 (by decide +kernel) (by decide +kernel) hd F X1 X2 (fun F' hF hs => ?_)
  have b4 := hd_b (F := F) (F' := F') (k := 4) (hF 4 (by decide))
  have a25 := hd_ba (F := F) (F' := F') (k := 25) (hF 25 (by decide))
  have t69 : sy_dv F' (.inr (.inl 69)) = .int ((sy_ai F 25).getD (sy_i F 4).toNatClampNeg 0) := hd_rd (hs 0 _ rfl) b4 a25
  have b12 := hd_b (F := F) (F' := F') (k := 12) (hF 12 (by decide))
  have a31 := hd_ba (F := F) (F' := F') (k := 31) (hF 31 (by decide))
  have t70 : sy_dv F' (.inr (.inl 70)) = .int ((sy_ai F 31).getD (sy_i F 12).toNatClampNeg 0) := hd_rd (hs 1 _ rfl) b12 a31
  have b6 := hd_b (F := F) (F' := F') (k := 6) (hF 6 (by decide))
  have a26 := hd_ba (F := F) (F' := F') (k := 26) (hF 26 (by decide))
  have t71 : sy_dv F' (.inr (.inl 71)) = .int ((sy_ai F 26).getD (sy_i F 4).toNatClampNeg 0) := hd_rd (hs 2 _ rfl) b4 a26
  have hB' : iv_in F' iv_B4 := iv_in_eq hB (fun j hj => hF j (Nat.lt_of_lt_of_le hj (by decide +kernel)))
  refine ⟨List.forall_mem_cons.mpr ⟨hd_pb b4 (by first | exact h0 | exact h0), List.forall_mem_cons.mpr ⟨hd_p0 t69 rfl (by have hc : ((20) : Int32).toInt = 20 := (by decide); omega), List.forall_mem_cons.mpr ⟨hd_pb b12 (by first | exact h2 | exact h2), List.forall_mem_cons.mpr ⟨hd_p1 t70 rfl (by have hc : ((7) : Int32).toInt = 7 := (by decide); omega), List.forall_mem_cons.mpr ⟨hd_p0 b6 rfl (by have hc : ((0) : Int32).toInt = 0 := (by decide); omega), List.forall_mem_cons.mpr ⟨hd_p0 b4 rfl (by have hc : ((400) : Int32).toInt = 400 := (by decide); omega), List.forall_mem_cons.mpr ⟨hd_p4 b6 rfl (by have hc : ((0) : Int32).toInt = 0 := (by decide); omega), List.forall_mem_cons.mpr ⟨hd_pb b4 (by first | exact h7 | exact h7), fun _ h => absurd h List.not_mem_nil⟩⟩⟩⟩⟩⟩⟩⟩, ?_⟩
  refine k _ ?_ ?_ ?_
  · exact fun j hj hn => (hd_keep hB' (Nat.lt_of_lt_of_le hj (by decide +kernel)) (by simp; omega)).trans (hF j (by omega))
  · exact hd_gi (x := .inl (.int 2)) (by decide +kernel) rfl
  · exact hd_gi (x := .inr (.inl 71)) (by decide +kernel) t71
theorem to_0_p7 {Ls : Nat} {xs : Nat → Int32} {d : Nat} {Q : Option Value → jm_h → Prop} (hd : 5 ≤ d) (F : Nat → sy_d) (X1 X2 : List jm_c) (hB : iv_in F iv_B4)
    (h0 : 0 ≤ (sy_i F 4).toInt ∧ (sy_i F 4).toInt < 403)
    (h1 : ((sy_ai F 25).getD (sy_i F 4).toNatClampNeg 0).toInt = 20)
    (h2 : 0 ≤ (sy_i F 12).toInt ∧ (sy_i F 12).toInt < 2)
    (h3 : ((sy_ai F 31).getD (sy_i F 12).toNatClampNeg 0).toInt = 7)
    (h4 : (sy_i F 6).toInt ≤ 0)
    (h5 : 0 ≤ (sy_i F 4).toInt ∧ (sy_i F 4).toInt < 403)
    (k : ∀ F1 : Nat → sy_d, (∀ j, j < 69 → j ≠ 6 ∧ j ≠ 7 → F1 j = F j) → F1 6 = .inl (.int ((2 : Int32))) → F1 7 = .inl (.int ((sy_ai F 26).getD (sy_i F 4).toNatClampNeg 0)) → Q (none) (sy_dh F1 X1 X2 (iv_H 4))) :
    hd_W Ls xs d jm_M154 Q (0, sy_dL F [some (.inl (.ref 1000)), none], sy_dS F [], sy_dh F X1 X2 (iv_H 4), 0, 0) := by
  refine hd_ret (s := 4) (nv := 69) (v := none) (uh := hd_ov (iv_id 0 iv_B4) [(6, .inl (.inl (.int 2))), (7, .inl (.inr (.inl 71)))]) (f := true) (sp := [91, 119, 137, 156, 176, 233]) (d0 := 4) (O := [false, true, false, true]) (T := [(30, [.inr (.inl 4)], [.inr (.inl 25)]), (30, [.inr (.inl 12)], [.inr (.inl 31)]), (30, [.inr (.inl 4)], [.inr (.inl 26)])]) (P := [(6, .inr (.inl 4), .inl (.ref 403)), (0, .inr (.inl 69), .inl (.int 20)), (6, .inr (.inl 12), .inl (.ref 2)), (0, .inr (.inl 70), .inl (.int 7)), (4, .inr (.inl 6), .inl (.int 0)), (6, .inr (.inl 4), .inl (.ref 403))]) jm_ok154 (by decide +kernel) (by decide +kernel) hd F X1 X2 (fun F' hF hs => ?_)
  have b4 := hd_b (F := F) (F' := F') (k := 4) (hF 4 (by decide))
  have a25 := hd_ba (F := F) (F' := F') (k := 25) (hF 25 (by decide))
  have t69 : sy_dv F' (.inr (.inl 69)) = .int ((sy_ai F 25).getD (sy_i F 4).toNatClampNeg 0) := hd_rd (hs 0 _ rfl) b4 a25
  have b12 := hd_b (F := F) (F' := F') (k := 12) (hF 12 (by decide))
  have a31 := hd_ba (F := F) (F' := F') (k := 31) (hF 31 (by decide))
  have t70 : sy_dv F' (.inr (.inl 70)) = .int ((sy_ai F 31).getD (sy_i F 12).toNatClampNeg 0) := hd_rd (hs 1 _ rfl) b12 a31
  have b6 := hd_b (F := F) (F' := F') (k := 6) (hF 6 (by decide))
  have a26 := hd_ba (F := F) (F' := F') (k := 26) (hF 26 (by decide))
  have t71 : sy_dv F' (.inr (.inl 71)) = .int ((sy_ai F 26).getD (sy_i F 4).toNatClampNeg 0) := hd_rd (hs 2 _ rfl) b4 a26
  have hB' : iv_in F' iv_B4 := iv_in_eq hB (fun j hj => hF j (Nat.lt_of_lt_of_le hj (by decide +kernel)))
  refine ⟨List.forall_mem_cons.mpr ⟨hd_pb b4 (by first | exact h0 | exact h0), List.forall_mem_cons.mpr ⟨hd_p0 t69 rfl (by have hc : ((20) : Int32).toInt = 20 := (by decide); omega), List.forall_mem_cons.mpr ⟨hd_pb b12 (by first | exact h2 | exact h2), List.forall_mem_cons.mpr ⟨hd_p0 t70 rfl (by have hc : ((7) : Int32).toInt = 7 := (by decide); omega), List.forall_mem_cons.mpr ⟨hd_p4 b6 rfl (by have hc : ((0) : Int32).toInt = 0 := (by decide); omega), List.forall_mem_cons.mpr ⟨hd_pb b4 (by first | exact h5 | exact h5), fun _ h => absurd h List.not_mem_nil⟩⟩⟩⟩⟩⟩, ?_⟩
  refine k _ ?_ ?_ ?_
  · exact fun j hj hn => (hd_keep hB' (Nat.lt_of_lt_of_le hj (by decide +kernel)) (by simp; omega)).trans (hF j (by omega))
  · exact hd_gi (x := .inl (.int 2)) (by decide +kernel) rfl
  · exact hd_gi (x := .inr (.inl 71)) (by decide +kernel) t71
theorem to_0_p8 {Ls : Nat} {xs : Nat → Int32} {d : Nat} {Q : Option Value → jm_h → Prop} (hd : 5 ≤ d) (F : Nat → sy_d) (X1 X2 : List jm_c) (hB : iv_in F iv_B4)
    (h0 : 0 ≤ (sy_i F 4).toInt ∧ (sy_i F 4).toInt < 403)
    (h1 : ((sy_ai F 25).getD (sy_i F 4).toNatClampNeg 0).toInt = 20)
    (h2 : 0 ≤ (sy_i F 12).toInt ∧ (sy_i F 12).toInt < 2)
    (h3 : ((sy_ai F 31).getD (sy_i F 12).toNatClampNeg 0).toInt = 7)
    (h4 : 0 < (sy_i F 6).toInt)
    (h5 : (sy_i F 6).toInt ≠ 0)
    (h6 : (sy_i F 6).toInt ≠ 0)
    (k : ∀ F1 : Nat → sy_d, (∀ j, j < 69 → True → F1 j = F j) → Q (none) (sy_dh F1 X1 X2 (iv_H 4))) :
    hd_W Ls xs d jm_M154 Q (0, sy_dL F [some (.inl (.ref 1000)), none], sy_dS F [], sy_dh F X1 X2 (iv_H 4), 0, 0) := by
  refine hd_ret (s := 4) (nv := 69) (v := none) (uh := hd_ov (iv_id 0 iv_B4) []) (f := true) (sp := [91, 119, 137, 156, 176, 233]) (d0 := 4) (O := [false, true, false, false, true, true]) (T := [(30, [.inr (.inl 4)], [.inr (.inl 25)]), (30, [.inr (.inl 12)], [.inr (.inl 31)])]) (P := [(6, .inr (.inl 4), .inl (.ref 403)), (0, .inr (.inl 69), .inl (.int 20)), (6, .inr (.inl 12), .inl (.ref 2)), (0, .inr (.inl 70), .inl (.int 7)), (5, .inr (.inl 6), .inl (.int 0)), (1, .inr (.inl 6), .inl (.int 0)), (1, .inr (.inl 6), .inl (.int 0))]) jm_ok154 (by decide +kernel) (by decide +kernel) hd F X1 X2 (fun F' hF hs => ?_)
  have b4 := hd_b (F := F) (F' := F') (k := 4) (hF 4 (by decide))
  have a25 := hd_ba (F := F) (F' := F') (k := 25) (hF 25 (by decide))
  have t69 : sy_dv F' (.inr (.inl 69)) = .int ((sy_ai F 25).getD (sy_i F 4).toNatClampNeg 0) := hd_rd (hs 0 _ rfl) b4 a25
  have b12 := hd_b (F := F) (F' := F') (k := 12) (hF 12 (by decide))
  have a31 := hd_ba (F := F) (F' := F') (k := 31) (hF 31 (by decide))
  have t70 : sy_dv F' (.inr (.inl 70)) = .int ((sy_ai F 31).getD (sy_i F 12).toNatClampNeg 0) := hd_rd (hs 1 _ rfl) b12 a31
  have b6 := hd_b (F := F) (F' := F') (k := 6) (hF 6 (by decide))
  have hB' : iv_in F' iv_B4 := iv_in_eq hB (fun j hj => hF j (Nat.lt_of_lt_of_le hj (by decide +kernel)))
  refine ⟨List.forall_mem_cons.mpr ⟨hd_pb b4 (by first | exact h0 | exact h0), List.forall_mem_cons.mpr ⟨hd_p0 t69 rfl (by have hc : ((20) : Int32).toInt = 20 := (by decide); omega), List.forall_mem_cons.mpr ⟨hd_pb b12 (by first | exact h2 | exact h2), List.forall_mem_cons.mpr ⟨hd_p0 t70 rfl (by have hc : ((7) : Int32).toInt = 7 := (by decide); omega), List.forall_mem_cons.mpr ⟨hd_p5 b6 rfl (by have hc : ((0) : Int32).toInt = 0 := (by decide); omega), List.forall_mem_cons.mpr ⟨hd_p1 b6 rfl (by have hc : ((0) : Int32).toInt = 0 := (by decide); omega), List.forall_mem_cons.mpr ⟨hd_p1 b6 rfl (by have hc : ((0) : Int32).toInt = 0 := (by decide); omega), fun _ h => absurd h List.not_mem_nil⟩⟩⟩⟩⟩⟩⟩, ?_⟩
  refine k _ ?_
  · exact fun j hj _ => (hd_keep hB' (Nat.lt_of_lt_of_le hj (by decide +kernel)) (by simp)).trans (hF j (by omega))
theorem to_0_p9 {Ls : Nat} {xs : Nat → Int32} {d : Nat} {Q : Option Value → jm_h → Prop} (hd : 5 ≤ d) (F : Nat → sy_d) (X1 X2 : List jm_c) (hB : iv_in F iv_B4)
    (h0 : 0 ≤ (sy_i F 4).toInt ∧ (sy_i F 4).toInt < 403)
    (h1 : ((sy_ai F 25).getD (sy_i F 4).toNatClampNeg 0).toInt = 21)
    (h2 : 0 ≤ (sy_i F 12).toInt ∧ (sy_i F 12).toInt < 2)
    (h3 : ((sy_ai F 35).getD (sy_i F 12).toNatClampNeg 0).toInt ≠ 4)
    (h4 : (sy_i F 6).toInt ≠ 0)
    (h5 : (sy_i F 6).toInt ≠ 0)
    (k : ∀ F1 : Nat → sy_d, (∀ j, j < 69 → True → F1 j = F j) → Q (none) (sy_dh F1 X1 X2 (iv_H 4))) :
    hd_W Ls xs d jm_M154 Q (0, sy_dL F [some (.inl (.ref 1000)), none], sy_dS F [], sy_dh F X1 X2 (iv_H 4), 0, 0) := by
  refine hd_ret (s := 4) (nv := 69) (v := none) (uh := hd_ov (iv_id 0 iv_B4) []) (f := true) (sp := [91, 119, 137, 156, 176, 233]) (d0 := 4) (O := [false, false, true, true, true, true]) (T := [(30, [.inr (.inl 4)], [.inr (.inl 25)]), (30, [.inr (.inl 12)], [.inr (.inl 35)])]) (P := [(6, .inr (.inl 4), .inl (.ref 403)), (0, .inr (.inl 69), .inl (.int 21)), (6, .inr (.inl 12), .inl (.ref 2)), (1, .inr (.inl 70), .inl (.int 4)), (1, .inr (.inl 6), .inl (.int 0)), (1, .inr (.inl 6), .inl (.int 0))]) jm_ok154 (by decide +kernel) (by decide +kernel) hd F X1 X2 (fun F' hF hs => ?_)
  have b4 := hd_b (F := F) (F' := F') (k := 4) (hF 4 (by decide))
  have a25 := hd_ba (F := F) (F' := F') (k := 25) (hF 25 (by decide))
  have t69 : sy_dv F' (.inr (.inl 69)) = .int ((sy_ai F 25).getD (sy_i F 4).toNatClampNeg 0) := hd_rd (hs 0 _ rfl) b4 a25
  have b12 := hd_b (F := F) (F' := F') (k := 12) (hF 12 (by decide))
  have a35 := hd_ba (F := F) (F' := F') (k := 35) (hF 35 (by decide))
  have t70 : sy_dv F' (.inr (.inl 70)) = .int ((sy_ai F 35).getD (sy_i F 12).toNatClampNeg 0) := hd_rd (hs 1 _ rfl) b12 a35
  have b6 := hd_b (F := F) (F' := F') (k := 6) (hF 6 (by decide))
  have hB' : iv_in F' iv_B4 := iv_in_eq hB (fun j hj => hF j (Nat.lt_of_lt_of_le hj (by decide +kernel)))
  refine ⟨List.forall_mem_cons.mpr ⟨hd_pb b4 (by first | exact h0 | exact h0), List.forall_mem_cons.mpr ⟨hd_p0 t69 rfl (by have hc : ((21) : Int32).toInt = 21 := (by decide); omega), List.forall_mem_cons.mpr ⟨hd_pb b12 (by first | exact h2 | exact h2), List.forall_mem_cons.mpr ⟨hd_p1 t70 rfl (by have hc : ((4) : Int32).toInt = 4 := (by decide); omega), List.forall_mem_cons.mpr ⟨hd_p1 b6 rfl (by have hc : ((0) : Int32).toInt = 0 := (by decide); omega), List.forall_mem_cons.mpr ⟨hd_p1 b6 rfl (by have hc : ((0) : Int32).toInt = 0 := (by decide); omega), fun _ h => absurd h List.not_mem_nil⟩⟩⟩⟩⟩⟩, ?_⟩
  refine k _ ?_
  · exact fun j hj _ => (hd_keep hB' (Nat.lt_of_lt_of_le hj (by decide +kernel)) (by simp)).trans (hF j (by omega))
theorem to_0_p10 {Ls : Nat} {xs : Nat → Int32} {d : Nat} {Q : Option Value → jm_h → Prop} (hd : 5 ≤ d) (F : Nat → sy_d) (X1 X2 : List jm_c) (hB : iv_in F iv_B4)
    (h0 : 0 ≤ (sy_i F 4).toInt ∧ (sy_i F 4).toInt < 403)
    (h1 : ((sy_ai F 25).getD (sy_i F 4).toNatClampNeg 0).toInt = 21)
    (h2 : 0 ≤ (sy_i F 12).toInt ∧ (sy_i F 12).toInt < 2)
    (h3 : ((sy_ai F 35).getD (sy_i F 12).toNatClampNeg 0).toInt ≠ 4)
    (h4 : (sy_i F 6).toInt = 0)
    (h5 : (sy_i F 4).toInt ≠ 400)
    (h6 : (sy_i F 6).toInt = 0)
    (k : ∀ F1 : Nat → sy_d, (∀ j, j < 69 → j ≠ 4 → F1 j = F j) → F1 4 = .inl (.int ((sy_i F 4) + ((1 : Int32)))) → hd_W Ls xs d jm_M154 Q (119, sy_dL F1 [some (.inl (.ref 1000)), none], sy_dS F1 [.inl (.ref 1000)], sy_dh F1 X1 X2 (iv_H 4), 0, 0)) :
    hd_W Ls xs d jm_M154 Q (0, sy_dL F [some (.inl (.ref 1000)), none], sy_dS F [], sy_dh F X1 X2 (iv_H 4), 0, 0) := by
  refine hd_run (s := 4) (nv := 69) (pc := 119) (L := [some (.inl (.ref 1000)), none]) (S := [.inl (.ref 1000)]) (uh := hd_ov (iv_id 0 iv_B4) [(4, .inl (.inr (.inl 71)))]) (ul := []) (f := true) (sp := [91, 119, 137, 156, 176, 233]) (d0 := 4) (O := [false, false, true, true, false, true, false]) (T := [(30, [.inr (.inl 4)], [.inr (.inl 25)]), (30, [.inr (.inl 12)], [.inr (.inl 35)]), (0, [.inr (.inl 4), .inl (.int 1)], [])]) (P := [(6, .inr (.inl 4), .inl (.ref 403)), (0, .inr (.inl 69), .inl (.int 21)), (6, .inr (.inl 12), .inl (.ref 2)), (1, .inr (.inl 70), .inl (.int 4)), (0, .inr (.inl 6), .inl (.int 0)), (1, .inr (.inl 4), .inl (.int 400)), (0, .inr (.inl 6), .inl (.int 0))]) jm_ok154 (by decide +kernel) (by decide +kernel) hd F X1 X2 (fun F' hF hs => ?_)
  have b4 := hd_b (F := F) (F' := F') (k := 4) (hF 4 (by decide))
  have a25 := hd_ba (F := F) (F' := F') (k := 25) (hF 25 (by decide))
  have t69 : sy_dv F' (.inr (.inl 69)) = .int ((sy_ai F 25).getD (sy_i F 4).toNatClampNeg 0) := hd_rd (hs 0 _ rfl) b4 a25
  have b12 := hd_b (F := F) (F' := F') (k := 12) (hF 12 (by decide))
  have a35 := hd_ba (F := F) (F' := F') (k := 35) (hF 35 (by decide))
  have t70 : sy_dv F' (.inr (.inl 70)) = .int ((sy_ai F 35).getD (sy_i F 12).toNatClampNeg 0) := hd_rd (hs 1 _ rfl) b12 a35
  have b6 := hd_b (F := F) (F' := F') (k := 6) (hF 6 (by decide))
  have t71 : sy_dv F' (.inr (.inl 71)) = .int ((sy_i F 4) + ((1 : Int32))) := hd_o (hs 2 _ rfl) b4 rfl rfl
  have hB' : iv_in F' iv_B4 := iv_in_eq hB (fun j hj => hF j (Nat.lt_of_lt_of_le hj (by decide +kernel)))
  refine ⟨List.forall_mem_cons.mpr ⟨hd_pb b4 (by first | exact h0 | exact h0), List.forall_mem_cons.mpr ⟨hd_p0 t69 rfl (by have hc : ((21) : Int32).toInt = 21 := (by decide); omega), List.forall_mem_cons.mpr ⟨hd_pb b12 (by first | exact h2 | exact h2), List.forall_mem_cons.mpr ⟨hd_p1 t70 rfl (by have hc : ((4) : Int32).toInt = 4 := (by decide); omega), List.forall_mem_cons.mpr ⟨hd_p0 b6 rfl (by have hc : ((0) : Int32).toInt = 0 := (by decide); omega), List.forall_mem_cons.mpr ⟨hd_p1 b4 rfl (by have hc : ((400) : Int32).toInt = 400 := (by decide); omega), List.forall_mem_cons.mpr ⟨hd_p0 b6 rfl (by have hc : ((0) : Int32).toInt = 0 := (by decide); omega), fun _ h => absurd h List.not_mem_nil⟩⟩⟩⟩⟩⟩⟩, ?_⟩
  refine k _ ?_ ?_
  · exact fun j hj hn => (hd_keep hB' (Nat.lt_of_lt_of_le hj (by decide +kernel)) (by simp; omega)).trans (hF j (by omega))
  · exact hd_gi (x := .inr (.inl 71)) (by decide +kernel) t71
theorem to_0_p11 {Ls : Nat} {xs : Nat → Int32} {d : Nat} {Q : Option Value → jm_h → Prop} (hd : 5 ≤ d) (F : Nat → sy_d) (X1 X2 : List jm_c) (hB : iv_in F iv_B4)
    (h0 : 0 ≤ (sy_i F 4).toInt ∧ (sy_i F 4).toInt < 403)
    (h1 : ((sy_ai F 25).getD (sy_i F 4).toNatClampNeg 0).toInt = 21)
    (h2 : 0 ≤ (sy_i F 12).toInt ∧ (sy_i F 12).toInt < 2)
    (h3 : ((sy_ai F 35).getD (sy_i F 12).toNatClampNeg 0).toInt ≠ 4)
    (h4 : (sy_i F 6).toInt = 0)
    (h5 : (sy_i F 4).toInt = 400)
    (h6 : (sy_i F 6).toInt ≤ 0)
    (h7 : 0 ≤ (sy_i F 4).toInt ∧ (sy_i F 4).toInt < 403)
    (k : ∀ F1 : Nat → sy_d, (∀ j, j < 69 → j ≠ 6 ∧ j ≠ 7 → F1 j = F j) → F1 6 = .inl (.int ((2 : Int32))) → F1 7 = .inl (.int ((sy_ai F 26).getD (sy_i F 4).toNatClampNeg 0)) → Q (none) (sy_dh F1 X1 X2 (iv_H 4))) :
    hd_W Ls xs d jm_M154 Q (0, sy_dL F [some (.inl (.ref 1000)), none], sy_dS F [], sy_dh F X1 X2 (iv_H 4), 0, 0) := by
  refine hd_ret (s := 4) (nv := 69) (v := none) (uh := hd_ov (iv_id 0 iv_B4) [(6, .inl (.inl (.int 2))), (7, .inl (.inr (.inl 71)))]) (f := true) (sp := [91, 119, 137, 156, 176, 233]) (d0 := 4) (O := [false, false, true, true, false, false, true]) (T := [(30, [.inr (.inl 4)], [.inr (.inl 25)]), (30, [.inr (.inl 12)], [.inr (.inl 35)]), (30, [.inr (.inl 4)], [.inr (.inl 26)])]) (P := [(6, .inr (.inl 4), .inl (.ref 403)), (0, .inr (.inl 69), .inl (.int 21)), (6, .inr (.inl 12), .inl (.ref 2)), (1, .inr (.inl 70), .inl (.int 4)), (0, .inr (.inl 6), .inl (.int 0)), (0, .inr (.inl 4), .inl (.int 400)), (4, .inr (.inl 6), .inl (.int 0)), (6, .inr (.inl 4), .inl (.ref 403))]) jm_ok154 (by decide +kernel) (by decide +kernel) hd F X1 X2 (fun F' hF hs => ?_)
  have b4 := hd_b (F := F) (F' := F') (k := 4) (hF 4 (by decide))
  have a25 := hd_ba (F := F) (F' := F') (k := 25) (hF 25 (by decide))
  have t69 : sy_dv F' (.inr (.inl 69)) = .int ((sy_ai F 25).getD (sy_i F 4).toNatClampNeg 0) := hd_rd (hs 0 _ rfl) b4 a25
  have b12 := hd_b (F := F) (F' := F') (k := 12) (hF 12 (by decide))
  have a35 := hd_ba (F := F) (F' := F') (k := 35) (hF 35 (by decide))
  have t70 : sy_dv F' (.inr (.inl 70)) = .int ((sy_ai F 35).getD (sy_i F 12).toNatClampNeg 0) := hd_rd (hs 1 _ rfl) b12 a35
  have b6 := hd_b (F := F) (F' := F') (k := 6) (hF 6 (by decide))
  have a26 := hd_ba (F := F) (F' := F') (k := 26) (hF 26 (by decide))
  have t71 : sy_dv F' (.inr (.inl 71)) = .int ((sy_ai F 26).getD (sy_i F 4).toNatClampNeg 0) := hd_rd (hs 2 _ rfl) b4 a26
  have hB' : iv_in F' iv_B4 := iv_in_eq hB (fun j hj => hF j (Nat.lt_of_lt_of_le hj (by decide +kernel)))
  refine ⟨List.forall_mem_cons.mpr ⟨hd_pb b4 (by first | exact h0 | exact h0), List.forall_mem_cons.mpr ⟨hd_p0 t69 rfl (by have hc : ((21) : Int32).toInt = 21 := (by decide); omega), List.forall_mem_cons.mpr ⟨hd_pb b12 (by first | exact h2 | exact h2), List.forall_mem_cons.mpr ⟨hd_p1 t70 rfl (by have hc : ((4) : Int32).toInt = 4 := (by decide); omega), List.forall_mem_cons.mpr ⟨hd_p0 b6 rfl (by have hc : ((0) : Int32).toInt = 0 := (by decide); omega), List.forall_mem_cons.mpr ⟨hd_p0 b4 rfl (by have hc : ((400) : Int32).toInt = 400 := (by decide); omega), List.forall_mem_cons.mpr ⟨hd_p4 b6 rfl (by have hc : ((0) : Int32).toInt = 0 := (by decide); omega), List.forall_mem_cons.mpr ⟨hd_pb b4 (by first | exact h7 | exact h7), fun _ h => absurd h List.not_mem_nil⟩⟩⟩⟩⟩⟩⟩⟩, ?_⟩
  refine k _ ?_ ?_ ?_
  · exact fun j hj hn => (hd_keep hB' (Nat.lt_of_lt_of_le hj (by decide +kernel)) (by simp; omega)).trans (hF j (by omega))
  · exact hd_gi (x := .inl (.int 2)) (by decide +kernel) rfl
  · exact hd_gi (x := .inr (.inl 71)) (by decide +kernel) t71
theorem to_0_p12 {Ls : Nat} {xs : Nat → Int32} {d : Nat} {Q : Option Value → jm_h → Prop} (hd : 5 ≤ d) (F : Nat → sy_d) (X1 X2 : List jm_c) (hB : iv_in F iv_B4)
    (h0 : 0 ≤ (sy_i F 4).toInt ∧ (sy_i F 4).toInt < 403)
    (h1 : ((sy_ai F 25).getD (sy_i F 4).toNatClampNeg 0).toInt = 21)
    (h2 : 0 ≤ (sy_i F 12).toInt ∧ (sy_i F 12).toInt < 2)
    (h3 : ((sy_ai F 35).getD (sy_i F 12).toNatClampNeg 0).toInt = 4)
    (h4 : (sy_i F 6).toInt ≤ 0)
    (h5 : 0 ≤ (sy_i F 4).toInt ∧ (sy_i F 4).toInt < 403)
    (k : ∀ F1 : Nat → sy_d, (∀ j, j < 69 → j ≠ 6 ∧ j ≠ 7 → F1 j = F j) → F1 6 = .inl (.int ((2 : Int32))) → F1 7 = .inl (.int ((sy_ai F 26).getD (sy_i F 4).toNatClampNeg 0)) → Q (none) (sy_dh F1 X1 X2 (iv_H 4))) :
    hd_W Ls xs d jm_M154 Q (0, sy_dL F [some (.inl (.ref 1000)), none], sy_dS F [], sy_dh F X1 X2 (iv_H 4), 0, 0) := by
  refine hd_ret (s := 4) (nv := 69) (v := none) (uh := hd_ov (iv_id 0 iv_B4) [(6, .inl (.inl (.int 2))), (7, .inl (.inr (.inl 71)))]) (f := true) (sp := [91, 119, 137, 156, 176, 233]) (d0 := 4) (O := [false, false, true, false, true]) (T := [(30, [.inr (.inl 4)], [.inr (.inl 25)]), (30, [.inr (.inl 12)], [.inr (.inl 35)]), (30, [.inr (.inl 4)], [.inr (.inl 26)])]) (P := [(6, .inr (.inl 4), .inl (.ref 403)), (0, .inr (.inl 69), .inl (.int 21)), (6, .inr (.inl 12), .inl (.ref 2)), (0, .inr (.inl 70), .inl (.int 4)), (4, .inr (.inl 6), .inl (.int 0)), (6, .inr (.inl 4), .inl (.ref 403))]) jm_ok154 (by decide +kernel) (by decide +kernel) hd F X1 X2 (fun F' hF hs => ?_)
  have b4 := hd_b (F := F) (F' := F') (k := 4) (hF 4 (by decide))
  have a25 := hd_ba (F := F) (F' := F') (k := 25) (hF 25 (by decide))
  have t69 : sy_dv F' (.inr (.inl 69)) = .int ((sy_ai F 25).getD (sy_i F 4).toNatClampNeg 0) := hd_rd (hs 0 _ rfl) b4 a25
  have b12 := hd_b (F := F) (F' := F') (k := 12) (hF 12 (by decide))
  have a35 := hd_ba (F := F) (F' := F') (k := 35) (hF 35 (by decide))
  have t70 : sy_dv F' (.inr (.inl 70)) = .int ((sy_ai F 35).getD (sy_i F 12).toNatClampNeg 0) := hd_rd (hs 1 _ rfl) b12 a35
  have b6 := hd_b (F := F) (F' := F') (k := 6) (hF 6 (by decide))
  have a26 := hd_ba (F := F) (F' := F') (k := 26) (hF 26 (by decide))
  have t71 : sy_dv F' (.inr (.inl 71)) = .int ((sy_ai F 26).getD (sy_i F 4).toNatClampNeg 0) := hd_rd (hs 2 _ rfl) b4 a26
  have hB' : iv_in F' iv_B4 := iv_in_eq hB (fun j hj => hF j (Nat.lt_of_lt_of_le hj (by decide +kernel)))
  refine ⟨List.forall_mem_cons.mpr ⟨hd_pb b4 (by first | exact h0 | exact h0), List.forall_mem_cons.mpr ⟨hd_p0 t69 rfl (by have hc : ((21) : Int32).toInt = 21 := (by decide); omega), List.forall_mem_cons.mpr ⟨hd_pb b12 (by first | exact h2 | exact h2), List.forall_mem_cons.mpr ⟨hd_p0 t70 rfl (by have hc : ((4) : Int32).toInt = 4 := (by decide); omega), List.forall_mem_cons.mpr ⟨hd_p4 b6 rfl (by have hc : ((0) : Int32).toInt = 0 := (by decide); omega), List.forall_mem_cons.mpr ⟨hd_pb b4 (by first | exact h5 | exact h5), fun _ h => absurd h List.not_mem_nil⟩⟩⟩⟩⟩⟩, ?_⟩
  refine k _ ?_ ?_ ?_
  · exact fun j hj hn => (hd_keep hB' (Nat.lt_of_lt_of_le hj (by decide +kernel)) (by simp; omega)).trans (hF j (by omega))
  · exact hd_gi (x := .inl (.int 2)) (by decide +kernel) rfl
  · exact hd_gi (x := .inr (.inl 71)) (by decide +kernel) t71
theorem to_0_p13 {Ls : Nat} {xs : Nat → Int32} {d : Nat} {Q : Option Value → jm_h → Prop} (hd : 5 ≤ d) (F : Nat → sy_d) (X1 X2 : List jm_c) (hB : iv_in F iv_B4)
    (h0 : 0 ≤ (sy_i F 4).toInt ∧ (sy_i F 4).toInt < 403)
    (h1 : ((sy_ai F 25).getD (sy_i F 4).toNatClampNeg 0).toInt = 21)
    (h2 : 0 ≤ (sy_i F 12).toInt ∧ (sy_i F 12).toInt < 2)
    (h3 : ((sy_ai F 35).getD (sy_i F 12).toNatClampNeg 0).toInt = 4)
    (h4 : 0 < (sy_i F 6).toInt)
    (h5 : (sy_i F 6).toInt ≠ 0)
    (h6 : (sy_i F 6).toInt ≠ 0)
    (k : ∀ F1 : Nat → sy_d, (∀ j, j < 69 → True → F1 j = F j) → Q (none) (sy_dh F1 X1 X2 (iv_H 4))) :
    hd_W Ls xs d jm_M154 Q (0, sy_dL F [some (.inl (.ref 1000)), none], sy_dS F [], sy_dh F X1 X2 (iv_H 4), 0, 0) := by
  refine hd_ret (s := 4) (nv := 69) (v := none) (uh := hd_ov (iv_id 0 iv_B4) []) (f := true) (sp := [91, 119, 137, 156, 176, 233]) (d0 := 4) (O := [false, false, true, false, false, true, true]) (T := [(30, [.inr (.inl 4)], [.inr (.inl 25)]), (30, [.inr (.inl 12)], [.inr (.inl 35)])]) (P := [(6, .inr (.inl 4), .inl (.ref 403)), (0, .inr (.inl 69), .inl (.int 21)), (6, .inr (.inl 12), .inl (.ref 2)), (0, .inr (.inl 70), .inl (.int 4)), (5, .inr (.inl 6), .inl (.int 0)), (1, .inr (.inl 6), .inl (.int 0)), (1, .inr (.inl 6), .inl (.int 0))]) jm_ok154 (by decide +kernel) (by decide +kernel) hd F X1 X2 (fun F' hF hs => ?_)
  have b4 := hd_b (F := F) (F' := F') (k := 4) (hF 4 (by decide))
  have a25 := hd_ba (F := F) (F' := F') (k := 25) (hF 25 (by decide))
  have t69 : sy_dv F' (.inr (.inl 69)) = .int ((sy_ai F 25).getD (sy_i F 4).toNatClampNeg 0) := hd_rd (hs 0 _ rfl) b4 a25
  have b12 := hd_b (F := F) (F' := F') (k := 12) (hF 12 (by decide))
  have a35 := hd_ba (F := F) (F' := F') (k := 35) (hF 35 (by decide))
  have t70 : sy_dv F' (.inr (.inl 70)) = .int ((sy_ai F 35).getD (sy_i F 12).toNatClampNeg 0) := hd_rd (hs 1 _ rfl) b12 a35
  have b6 := hd_b (F := F) (F' := F') (k := 6) (hF 6 (by decide))
  have hB' : iv_in F' iv_B4 := iv_in_eq hB (fun j hj => hF j (Nat.lt_of_lt_of_le hj (by decide +kernel)))
  refine ⟨List.forall_mem_cons.mpr ⟨hd_pb b4 (by first | exact h0 | exact h0), List.forall_mem_cons.mpr ⟨hd_p0 t69 rfl (by have hc : ((21) : Int32).toInt = 21 := (by decide); omega), List.forall_mem_cons.mpr ⟨hd_pb b12 (by first | exact h2 | exact h2), List.forall_mem_cons.mpr ⟨hd_p0 t70 rfl (by have hc : ((4) : Int32).toInt = 4 := (by decide); omega), List.forall_mem_cons.mpr ⟨hd_p5 b6 rfl (by have hc : ((0) : Int32).toInt = 0 := (by decide); omega), List.forall_mem_cons.mpr ⟨hd_p1 b6 rfl (by have hc : ((0) : Int32).toInt = 0 := (by decide); omega), List.forall_mem_cons.mpr ⟨hd_p1 b6 rfl (by have hc : ((0) : Int32).toInt = 0 := (by decide); omega), fun _ h => absurd h List.not_mem_nil⟩⟩⟩⟩⟩⟩⟩, ?_⟩
  refine k _ ?_
  · exact fun j hj _ => (hd_keep hB' (Nat.lt_of_lt_of_le hj (by decide +kernel)) (by simp)).trans (hF j (by omega))
theorem to_0_p14 {Ls : Nat} {xs : Nat → Int32} {d : Nat} {Q : Option Value → jm_h → Prop} (hd : 5 ≤ d) (F : Nat → sy_d) (X1 X2 : List jm_c) (hB : iv_in F iv_B4)
    (h0 : 0 ≤ (sy_i F 4).toInt ∧ (sy_i F 4).toInt < 403)
    (h1 : ((sy_ai F 25).getD (sy_i F 4).toNatClampNeg 0).toInt = 22)
    (h2 : 0 ≤ (sy_i F 4).toInt ∧ (sy_i F 4).toInt < 403)
    (h3 : 0 ≤ (((sy_ai F 25).getD (sy_i F 4).toNatClampNeg 0) - ((22 : Int32))).toInt)
    (h4 : 0 ≤ (sy_i F 4).toInt ∧ (sy_i F 4).toInt < 403)
    (h5 : ((sy_ai F 25).getD (sy_i F 4).toNatClampNeg 0).toInt ≤ 27)
    (h6 : (sy_i F 6).toInt ≤ 0)
    (h7 : (sy_i F 4).toInt ≠ 400)
    (k : ∀ F1 : Nat → sy_d, (∀ j, j < 69 → j ≠ 4 → F1 j = F j) → F1 4 = .inl (.int ((sy_i F 4) + ((1 : Int32)))) → F1 69 = .inl (.int (((sy_ai F 25).getD (sy_i F 4).toNatClampNeg 0) - ((22 : Int32)))) → hd_W Ls xs d jm_M154 Q (233, sy_dL F1 [some (.inl (.ref 1000)), none], sy_dS F1 [.inr (.inl 69), .inl (.ref 1000)], sy_dh F1 X1 X2 (iv_H 4), 0, 0)) :
    hd_W Ls xs d jm_M154 Q (0, sy_dL F [some (.inl (.ref 1000)), none], sy_dS F [], sy_dh F X1 X2 (iv_H 4), 0, 0) := by
  refine hd_run (s := 4) (nv := 69) (pc := 233) (L := [some (.inl (.ref 1000)), none]) (S := [.inr (.inl 69), .inl (.ref 1000)]) (uh := hd_ov (iv_id 0 iv_B4) [(4, .inl (.inr (.inl 73)))]) (ul := [.inl (.inr (.inl 71))]) (f := true) (sp := [91, 119, 137, 156, 176, 233]) (d0 := 4) (O := [false, false, false, true, false, true, true, true]) (T := [(30, [.inr (.inl 4)], [.inr (.inl 25)]), (30, [.inr (.inl 4)], [.inr (.inl 25)]), (1, [.inr (.inl 70), .inl (.int 22)], []), (30, [.inr (.inl 4)], [.inr (.inl 25)]), (0, [.inr (.inl 4), .inl (.int 1)], [])]) (P := [(6, .inr (.inl 4), .inl (.ref 403)), (0, .inr (.inl 69), .inl (.int 22)), (6, .inr (.inl 4), .inl (.ref 403)), (3, .inr (.inl 71), .inl (.int 0)), (6, .inr (.inl 4), .inl (.ref 403)), (4, .inr (.inl 72), .inl (.int 27)), (4, .inr (.inl 6), .inl (.int 0)), (1, .inr (.inl 4), .inl (.int 400))]) jm_ok154 (by decide +kernel) (by decide +kernel) hd F X1 X2 (fun F' hF hs => ?_)
  have b4 := hd_b (F := F) (F' := F') (k := 4) (hF 4 (by decide))
  have a25 := hd_ba (F := F) (F' := F') (k := 25) (hF 25 (by decide))
  have t69 : sy_dv F' (.inr (.inl 69)) = .int ((sy_ai F 25).getD (sy_i F 4).toNatClampNeg 0) := hd_rd (hs 0 _ rfl) b4 a25
  have t70 : sy_dv F' (.inr (.inl 70)) = .int ((sy_ai F 25).getD (sy_i F 4).toNatClampNeg 0) := hd_rd (hs 1 _ rfl) b4 a25
  have t71 : sy_dv F' (.inr (.inl 71)) = .int (((sy_ai F 25).getD (sy_i F 4).toNatClampNeg 0) - ((22 : Int32))) := hd_o (hs 2 _ rfl) t70 rfl rfl
  have t72 : sy_dv F' (.inr (.inl 72)) = .int ((sy_ai F 25).getD (sy_i F 4).toNatClampNeg 0) := hd_rd (hs 3 _ rfl) b4 a25
  have b6 := hd_b (F := F) (F' := F') (k := 6) (hF 6 (by decide))
  have t73 : sy_dv F' (.inr (.inl 73)) = .int ((sy_i F 4) + ((1 : Int32))) := hd_o (hs 4 _ rfl) b4 rfl rfl
  have hB' : iv_in F' iv_B4 := iv_in_eq hB (fun j hj => hF j (Nat.lt_of_lt_of_le hj (by decide +kernel)))
  refine ⟨List.forall_mem_cons.mpr ⟨hd_pb b4 (by first | exact h0 | exact h0), List.forall_mem_cons.mpr ⟨hd_p0 t69 rfl (by have hc : ((22) : Int32).toInt = 22 := (by decide); omega), List.forall_mem_cons.mpr ⟨hd_pb b4 (by first | exact h2 | exact h2), List.forall_mem_cons.mpr ⟨hd_p3 t71 rfl (by have hc : ((0) : Int32).toInt = 0 := (by decide); omega), List.forall_mem_cons.mpr ⟨hd_pb b4 (by first | exact h4 | exact h4), List.forall_mem_cons.mpr ⟨hd_p4 t72 rfl (by have hc : ((27) : Int32).toInt = 27 := (by decide); omega), List.forall_mem_cons.mpr ⟨hd_p4 b6 rfl (by have hc : ((0) : Int32).toInt = 0 := (by decide); omega), List.forall_mem_cons.mpr ⟨hd_p1 b4 rfl (by have hc : ((400) : Int32).toInt = 400 := (by decide); omega), fun _ h => absurd h List.not_mem_nil⟩⟩⟩⟩⟩⟩⟩⟩, ?_⟩
  refine k _ ?_ ?_ ?_
  · exact fun j hj hn => (hd_keep hB' (Nat.lt_of_lt_of_le hj (by decide +kernel)) (by simp; omega)).trans (hF j (by omega))
  · exact hd_gi (x := .inr (.inl 73)) (by decide +kernel) t73
  · exact hd_gi (x := .inr (.inl 71)) (by decide +kernel) t71
theorem to_0_p15 {Ls : Nat} {xs : Nat → Int32} {d : Nat} {Q : Option Value → jm_h → Prop} (hd : 5 ≤ d) (F : Nat → sy_d) (X1 X2 : List jm_c) (hB : iv_in F iv_B4)
    (h0 : 0 ≤ (sy_i F 4).toInt ∧ (sy_i F 4).toInt < 403)
    (h1 : ((sy_ai F 25).getD (sy_i F 4).toNatClampNeg 0).toInt = 22)
    (h2 : 0 ≤ (sy_i F 4).toInt ∧ (sy_i F 4).toInt < 403)
    (h3 : 0 ≤ (((sy_ai F 25).getD (sy_i F 4).toNatClampNeg 0) - ((22 : Int32))).toInt)
    (h4 : 0 ≤ (sy_i F 4).toInt ∧ (sy_i F 4).toInt < 403)
    (h5 : ((sy_ai F 25).getD (sy_i F 4).toNatClampNeg 0).toInt ≤ 27)
    (h6 : (sy_i F 6).toInt ≤ 0)
    (h7 : (sy_i F 4).toInt = 400)
    (h8 : (sy_i F 6).toInt ≤ 0)
    (h9 : 0 ≤ (sy_i F 4).toInt ∧ (sy_i F 4).toInt < 403)
    (k : ∀ F1 : Nat → sy_d, (∀ j, j < 69 → j ≠ 6 ∧ j ≠ 7 → F1 j = F j) → F1 6 = .inl (.int ((2 : Int32))) → F1 7 = .inl (.int ((sy_ai F 26).getD (sy_i F 4).toNatClampNeg 0)) → F1 69 = .inl (.int (((sy_ai F 25).getD (sy_i F 4).toNatClampNeg 0) - ((22 : Int32)))) → hd_W Ls xs d jm_M154 Q (233, sy_dL F1 [some (.inl (.ref 1000)), none], sy_dS F1 [.inr (.inl 69), .inl (.ref 1000)], sy_dh F1 X1 X2 (iv_H 4), 0, 0)) :
    hd_W Ls xs d jm_M154 Q (0, sy_dL F [some (.inl (.ref 1000)), none], sy_dS F [], sy_dh F X1 X2 (iv_H 4), 0, 0) := by
  refine hd_run (s := 4) (nv := 69) (pc := 233) (L := [some (.inl (.ref 1000)), none]) (S := [.inr (.inl 69), .inl (.ref 1000)]) (uh := hd_ov (iv_id 0 iv_B4) [(6, .inl (.inl (.int 2))), (7, .inl (.inr (.inl 73)))]) (ul := [.inl (.inr (.inl 71))]) (f := true) (sp := [91, 119, 137, 156, 176, 233]) (d0 := 4) (O := [false, false, false, true, false, true, true, false, true]) (T := [(30, [.inr (.inl 4)], [.inr (.inl 25)]), (30, [.inr (.inl 4)], [.inr (.inl 25)]), (1, [.inr (.inl 70), .inl (.int 22)], []), (30, [.inr (.inl 4)], [.inr (.inl 25)]), (30, [.inr (.inl 4)], [.inr (.inl 26)])]) (P := [(6, .inr (.inl 4), .inl (.ref 403)), (0, .inr (.inl 69), .inl (.int 22)), (6, .inr (.inl 4), .inl (.ref 403)), (3, .inr (.inl 71), .inl (.int 0)), (6, .inr (.inl 4), .inl (.ref 403)), (4, .inr (.inl 72), .inl (.int 27)), (4, .inr (.inl 6), .inl (.int 0)), (0, .inr (.inl 4), .inl (.int 400)), (4, .inr (.inl 6), .inl (.int 0)), (6, .inr (.inl 4), .inl (.ref 403))]) jm_ok154 (by decide +kernel) (by decide +kernel) hd F X1 X2 (fun F' hF hs => ?_)
  have b4 := hd_b (F := F) (F' := F') (k := 4) (hF 4 (by decide))
  have a25 := hd_ba (F := F) (F' := F') (k := 25) (hF 25 (by decide))
  have t69 : sy_dv F' (.inr (.inl 69)) = .int ((sy_ai F 25).getD (sy_i F 4).toNatClampNeg 0) := hd_rd (hs 0 _ rfl) b4 a25
  have t70 : sy_dv F' (.inr (.inl 70)) = .int ((sy_ai F 25).getD (sy_i F 4).toNatClampNeg 0) := hd_rd (hs 1 _ rfl) b4 a25
  have t71 : sy_dv F' (.inr (.inl 71)) = .int (((sy_ai F 25).getD (sy_i F 4).toNatClampNeg 0) - ((22 : Int32))) := hd_o (hs 2 _ rfl) t70 rfl rfl
  have t72 : sy_dv F' (.inr (.inl 72)) = .int ((sy_ai F 25).getD (sy_i F 4).toNatClampNeg 0) := hd_rd (hs 3 _ rfl) b4 a25
  have b6 := hd_b (F := F) (F' := F') (k := 6) (hF 6 (by decide))
  have a26 := hd_ba (F := F) (F' := F') (k := 26) (hF 26 (by decide))
  have t73 : sy_dv F' (.inr (.inl 73)) = .int ((sy_ai F 26).getD (sy_i F 4).toNatClampNeg 0) := hd_rd (hs 4 _ rfl) b4 a26
  have hB' : iv_in F' iv_B4 := iv_in_eq hB (fun j hj => hF j (Nat.lt_of_lt_of_le hj (by decide +kernel)))
  refine ⟨List.forall_mem_cons.mpr ⟨hd_pb b4 (by first | exact h0 | exact h0), List.forall_mem_cons.mpr ⟨hd_p0 t69 rfl (by have hc : ((22) : Int32).toInt = 22 := (by decide); omega), List.forall_mem_cons.mpr ⟨hd_pb b4 (by first | exact h2 | exact h2), List.forall_mem_cons.mpr ⟨hd_p3 t71 rfl (by have hc : ((0) : Int32).toInt = 0 := (by decide); omega), List.forall_mem_cons.mpr ⟨hd_pb b4 (by first | exact h4 | exact h4), List.forall_mem_cons.mpr ⟨hd_p4 t72 rfl (by have hc : ((27) : Int32).toInt = 27 := (by decide); omega), List.forall_mem_cons.mpr ⟨hd_p4 b6 rfl (by have hc : ((0) : Int32).toInt = 0 := (by decide); omega), List.forall_mem_cons.mpr ⟨hd_p0 b4 rfl (by have hc : ((400) : Int32).toInt = 400 := (by decide); omega), List.forall_mem_cons.mpr ⟨hd_p4 b6 rfl (by have hc : ((0) : Int32).toInt = 0 := (by decide); omega), List.forall_mem_cons.mpr ⟨hd_pb b4 (by first | exact h9 | exact h9), fun _ h => absurd h List.not_mem_nil⟩⟩⟩⟩⟩⟩⟩⟩⟩⟩, ?_⟩
  refine k _ ?_ ?_ ?_ ?_
  · exact fun j hj hn => (hd_keep hB' (Nat.lt_of_lt_of_le hj (by decide +kernel)) (by simp; omega)).trans (hF j (by omega))
  · exact hd_gi (x := .inl (.int 2)) (by decide +kernel) rfl
  · exact hd_gi (x := .inr (.inl 73)) (by decide +kernel) t73
  · exact hd_gi (x := .inr (.inl 71)) (by decide +kernel) t71
theorem to_0_p16 {Ls : Nat} {xs : Nat → Int32} {d : Nat} {Q : Option Value → jm_h → Prop} (hd : 5 ≤ d) (F : Nat → sy_d) (X1 X2 : List jm_c) (hB : iv_in F iv_B4)
    (h0 : 0 ≤ (sy_i F 4).toInt ∧ (sy_i F 4).toInt < 403)
    (h1 : ((sy_ai F 25).getD (sy_i F 4).toNatClampNeg 0).toInt = 22)
    (h2 : 0 ≤ (sy_i F 4).toInt ∧ (sy_i F 4).toInt < 403)
    (h3 : 0 ≤ (((sy_ai F 25).getD (sy_i F 4).toNatClampNeg 0) - ((22 : Int32))).toInt)
    (h4 : 0 ≤ (sy_i F 4).toInt ∧ (sy_i F 4).toInt < 403)
    (h5 : ((sy_ai F 25).getD (sy_i F 4).toNatClampNeg 0).toInt ≤ 27)
    (h6 : 0 < (sy_i F 6).toInt)
    (k : ∀ F1 : Nat → sy_d, (∀ j, j < 69 → True → F1 j = F j) → Q (none) (sy_dh F1 X1 X2 (iv_H 4))) :
    hd_W Ls xs d jm_M154 Q (0, sy_dL F [some (.inl (.ref 1000)), none], sy_dS F [], sy_dh F X1 X2 (iv_H 4), 0, 0) := by
  refine hd_ret (s := 4) (nv := 69) (v := none) (uh := hd_ov (iv_id 0 iv_B4) []) (f := true) (sp := [91, 119, 137, 156, 176, 233]) (d0 := 4) (O := [false, false, false, true, false, true, false]) (T := [(30, [.inr (.inl 4)], [.inr (.inl 25)]), (30, [.inr (.inl 4)], [.inr (.inl 25)]), (1, [.inr (.inl 70), .inl (.int 22)], []), (30, [.inr (.inl 4)], [.inr (.inl 25)])]) (P := [(6, .inr (.inl 4), .inl (.ref 403)), (0, .inr (.inl 69), .inl (.int 22)), (6, .inr (.inl 4), .inl (.ref 403)), (3, .inr (.inl 71), .inl (.int 0)), (6, .inr (.inl 4), .inl (.ref 403)), (4, .inr (.inl 72), .inl (.int 27)), (5, .inr (.inl 6), .inl (.int 0))]) jm_ok154 (by decide +kernel) (by decide +kernel) hd F X1 X2 (fun F' hF hs => ?_)
  have b4 := hd_b (F := F) (F' := F') (k := 4) (hF 4 (by decide))
  have a25 := hd_ba (F := F) (F' := F') (k := 25) (hF 25 (by decide))
  have t69 : sy_dv F' (.inr (.inl 69)) = .int ((sy_ai F 25).getD (sy_i F 4).toNatClampNeg 0) := hd_rd (hs 0 _ rfl) b4 a25
  have t70 : sy_dv F' (.inr (.inl 70)) = .int ((sy_ai F 25).getD (sy_i F 4).toNatClampNeg 0) := hd_rd (hs 1 _ rfl) b4 a25
  have t71 : sy_dv F' (.inr (.inl 71)) = .int (((sy_ai F 25).getD (sy_i F 4).toNatClampNeg 0) - ((22 : Int32))) := hd_o (hs 2 _ rfl) t70 rfl rfl
  have t72 : sy_dv F' (.inr (.inl 72)) = .int ((sy_ai F 25).getD (sy_i F 4).toNatClampNeg 0) := hd_rd (hs 3 _ rfl) b4 a25
  have b6 := hd_b (F := F) (F' := F') (k := 6) (hF 6 (by decide))
  have hB' : iv_in F' iv_B4 := iv_in_eq hB (fun j hj => hF j (Nat.lt_of_lt_of_le hj (by decide +kernel)))
  refine ⟨List.forall_mem_cons.mpr ⟨hd_pb b4 (by first | exact h0 | exact h0), List.forall_mem_cons.mpr ⟨hd_p0 t69 rfl (by have hc : ((22) : Int32).toInt = 22 := (by decide); omega), List.forall_mem_cons.mpr ⟨hd_pb b4 (by first | exact h2 | exact h2), List.forall_mem_cons.mpr ⟨hd_p3 t71 rfl (by have hc : ((0) : Int32).toInt = 0 := (by decide); omega), List.forall_mem_cons.mpr ⟨hd_pb b4 (by first | exact h4 | exact h4), List.forall_mem_cons.mpr ⟨hd_p4 t72 rfl (by have hc : ((27) : Int32).toInt = 27 := (by decide); omega), List.forall_mem_cons.mpr ⟨hd_p5 b6 rfl (by have hc : ((0) : Int32).toInt = 0 := (by decide); omega), fun _ h => absurd h List.not_mem_nil⟩⟩⟩⟩⟩⟩⟩, ?_⟩
  refine k _ ?_
  · exact fun j hj _ => (hd_keep hB' (Nat.lt_of_lt_of_le hj (by decide +kernel)) (by simp)).trans (hF j (by omega))
theorem to_0_p17 {Ls : Nat} {xs : Nat → Int32} {d : Nat} {Q : Option Value → jm_h → Prop} (hd : 5 ≤ d) (F : Nat → sy_d) (X1 X2 : List jm_c) (hB : iv_in F iv_B4)
    (h0 : 0 ≤ (sy_i F 4).toInt ∧ (sy_i F 4).toInt < 403)
    (h1 : ((sy_ai F 25).getD (sy_i F 4).toNatClampNeg 0).toInt = 23)
    (h2 : 0 ≤ (sy_i F 4).toInt ∧ (sy_i F 4).toInt < 403)
    (h3 : 0 ≤ (((sy_ai F 25).getD (sy_i F 4).toNatClampNeg 0) - ((22 : Int32))).toInt)
    (h4 : 0 ≤ (sy_i F 4).toInt ∧ (sy_i F 4).toInt < 403)
    (h5 : ((sy_ai F 25).getD (sy_i F 4).toNatClampNeg 0).toInt ≤ 27)
    (h6 : (sy_i F 6).toInt ≤ 0)
    (h7 : (sy_i F 4).toInt ≠ 400)
    (k : ∀ F1 : Nat → sy_d, (∀ j, j < 69 → j ≠ 4 → F1 j = F j) → F1 4 = .inl (.int ((sy_i F 4) + ((1 : Int32)))) → F1 69 = .inl (.int (((sy_ai F 25).getD (sy_i F 4).toNatClampNeg 0) - ((22 : Int32)))) → hd_W Ls xs d jm_M154 Q (233, sy_dL F1 [some (.inl (.ref 1000)), none], sy_dS F1 [.inr (.inl 69), .inl (.ref 1000)], sy_dh F1 X1 X2 (iv_H 4), 0, 0)) :
    hd_W Ls xs d jm_M154 Q (0, sy_dL F [some (.inl (.ref 1000)), none], sy_dS F [], sy_dh F X1 X2 (iv_H 4), 0, 0) := by
  refine hd_run (s := 4) (nv := 69) (pc := 233) (L := [some (.inl (.ref 1000)), none]) (S := [.inr (.inl 69), .inl (.ref 1000)]) (uh := hd_ov (iv_id 0 iv_B4) [(4, .inl (.inr (.inl 73)))]) (ul := [.inl (.inr (.inl 71))]) (f := true) (sp := [91, 119, 137, 156, 176, 233]) (d0 := 4) (O := [false, false, false, false, true, false, true, true, true]) (T := [(30, [.inr (.inl 4)], [.inr (.inl 25)]), (30, [.inr (.inl 4)], [.inr (.inl 25)]), (1, [.inr (.inl 70), .inl (.int 22)], []), (30, [.inr (.inl 4)], [.inr (.inl 25)]), (0, [.inr (.inl 4), .inl (.int 1)], [])]) (P := [(6, .inr (.inl 4), .inl (.ref 403)), (0, .inr (.inl 69), .inl (.int 23)), (6, .inr (.inl 4), .inl (.ref 403)), (3, .inr (.inl 71), .inl (.int 0)), (6, .inr (.inl 4), .inl (.ref 403)), (4, .inr (.inl 72), .inl (.int 27)), (4, .inr (.inl 6), .inl (.int 0)), (1, .inr (.inl 4), .inl (.int 400))]) jm_ok154 (by decide +kernel) (by decide +kernel) hd F X1 X2 (fun F' hF hs => ?_)
  have b4 := hd_b (F := F) (F' := F') (k := 4) (hF 4 (by decide))
  have a25 := hd_ba (F := F) (F' := F') (k := 25) (hF 25 (by decide))
  have t69 : sy_dv F' (.inr (.inl 69)) = .int ((sy_ai F 25).getD (sy_i F 4).toNatClampNeg 0) := hd_rd (hs 0 _ rfl) b4 a25
  have t70 : sy_dv F' (.inr (.inl 70)) = .int ((sy_ai F 25).getD (sy_i F 4).toNatClampNeg 0) := hd_rd (hs 1 _ rfl) b4 a25
  have t71 : sy_dv F' (.inr (.inl 71)) = .int (((sy_ai F 25).getD (sy_i F 4).toNatClampNeg 0) - ((22 : Int32))) := hd_o (hs 2 _ rfl) t70 rfl rfl
  have t72 : sy_dv F' (.inr (.inl 72)) = .int ((sy_ai F 25).getD (sy_i F 4).toNatClampNeg 0) := hd_rd (hs 3 _ rfl) b4 a25
  have b6 := hd_b (F := F) (F' := F') (k := 6) (hF 6 (by decide))
  have t73 : sy_dv F' (.inr (.inl 73)) = .int ((sy_i F 4) + ((1 : Int32))) := hd_o (hs 4 _ rfl) b4 rfl rfl
  have hB' : iv_in F' iv_B4 := iv_in_eq hB (fun j hj => hF j (Nat.lt_of_lt_of_le hj (by decide +kernel)))
  refine ⟨List.forall_mem_cons.mpr ⟨hd_pb b4 (by first | exact h0 | exact h0), List.forall_mem_cons.mpr ⟨hd_p0 t69 rfl (by have hc : ((23) : Int32).toInt = 23 := (by decide); omega), List.forall_mem_cons.mpr ⟨hd_pb b4 (by first | exact h2 | exact h2), List.forall_mem_cons.mpr ⟨hd_p3 t71 rfl (by have hc : ((0) : Int32).toInt = 0 := (by decide); omega), List.forall_mem_cons.mpr ⟨hd_pb b4 (by first | exact h4 | exact h4), List.forall_mem_cons.mpr ⟨hd_p4 t72 rfl (by have hc : ((27) : Int32).toInt = 27 := (by decide); omega), List.forall_mem_cons.mpr ⟨hd_p4 b6 rfl (by have hc : ((0) : Int32).toInt = 0 := (by decide); omega), List.forall_mem_cons.mpr ⟨hd_p1 b4 rfl (by have hc : ((400) : Int32).toInt = 400 := (by decide); omega), fun _ h => absurd h List.not_mem_nil⟩⟩⟩⟩⟩⟩⟩⟩, ?_⟩
  refine k _ ?_ ?_ ?_
  · exact fun j hj hn => (hd_keep hB' (Nat.lt_of_lt_of_le hj (by decide +kernel)) (by simp; omega)).trans (hF j (by omega))
  · exact hd_gi (x := .inr (.inl 73)) (by decide +kernel) t73
  · exact hd_gi (x := .inr (.inl 71)) (by decide +kernel) t71
theorem to_0_p18 {Ls : Nat} {xs : Nat → Int32} {d : Nat} {Q : Option Value → jm_h → Prop} (hd : 5 ≤ d) (F : Nat → sy_d) (X1 X2 : List jm_c) (hB : iv_in F iv_B4)
    (h0 : 0 ≤ (sy_i F 4).toInt ∧ (sy_i F 4).toInt < 403)
    (h1 : ((sy_ai F 25).getD (sy_i F 4).toNatClampNeg 0).toInt = 23)
    (h2 : 0 ≤ (sy_i F 4).toInt ∧ (sy_i F 4).toInt < 403)
    (h3 : 0 ≤ (((sy_ai F 25).getD (sy_i F 4).toNatClampNeg 0) - ((22 : Int32))).toInt)
    (h4 : 0 ≤ (sy_i F 4).toInt ∧ (sy_i F 4).toInt < 403)
    (h5 : ((sy_ai F 25).getD (sy_i F 4).toNatClampNeg 0).toInt ≤ 27)
    (h6 : (sy_i F 6).toInt ≤ 0)
    (h7 : (sy_i F 4).toInt = 400)
    (h8 : (sy_i F 6).toInt ≤ 0)
    (h9 : 0 ≤ (sy_i F 4).toInt ∧ (sy_i F 4).toInt < 403)
    (k : ∀ F1 : Nat → sy_d, (∀ j, j < 69 → j ≠ 6 ∧ j ≠ 7 → F1 j = F j) → F1 6 = .inl (.int ((2 : Int32))) → F1 7 = .inl (.int ((sy_ai F 26).getD (sy_i F 4).toNatClampNeg 0)) → F1 69 = .inl (.int (((sy_ai F 25).getD (sy_i F 4).toNatClampNeg 0) - ((22 : Int32)))) → hd_W Ls xs d jm_M154 Q (233, sy_dL F1 [some (.inl (.ref 1000)), none], sy_dS F1 [.inr (.inl 69), .inl (.ref 1000)], sy_dh F1 X1 X2 (iv_H 4), 0, 0)) :
    hd_W Ls xs d jm_M154 Q (0, sy_dL F [some (.inl (.ref 1000)), none], sy_dS F [], sy_dh F X1 X2 (iv_H 4), 0, 0) := by
  refine hd_run (s := 4) (nv := 69) (pc := 233) (L := [some (.inl (.ref 1000)), none]) (S := [.inr (.inl 69), .inl (.ref 1000)]) (uh := hd_ov (iv_id 0 iv_B4) [(6, .inl (.inl (.int 2))), (7, .inl (.inr (.inl 73)))]) (ul := [.inl (.inr (.inl 71))]) (f := true) (sp := [91, 119, 137, 156, 176, 233]) (d0 := 4) (O := [false, false, false, false, true, false, true, true, false, true]) (T := [(30, [.inr (.inl 4)], [.inr (.inl 25)]), (30, [.inr (.inl 4)], [.inr (.inl 25)]), (1, [.inr (.inl 70), .inl (.int 22)], []), (30, [.inr (.inl 4)], [.inr (.inl 25)]), (30, [.inr (.inl 4)], [.inr (.inl 26)])]) (P := [(6, .inr (.inl 4), .inl (.ref 403)), (0, .inr (.inl 69), .inl (.int 23)), (6, .inr (.inl 4), .inl (.ref 403)), (3, .inr (.inl 71), .inl (.int 0)), (6, .inr (.inl 4), .inl (.ref 403)), (4, .inr (.inl 72), .inl (.int 27)), (4, .inr (.inl 6), .inl (.int 0)), (0, .inr (.inl 4), .inl (.int 400)), (4, .inr (.inl 6), .inl (.int 0)), (6, .inr (.inl 4), .inl (.ref 403))]) jm_ok154 (by decide +kernel) (by decide +kernel) hd F X1 X2 (fun F' hF hs => ?_)
  have b4 := hd_b (F := F) (F' := F') (k := 4) (hF 4 (by decide))
  have a25 := hd_ba (F := F) (F' := F') (k := 25) (hF 25 (by decide))
  have t69 : sy_dv F' (.inr (.inl 69)) = .int ((sy_ai F 25).getD (sy_i F 4).toNatClampNeg 0) := hd_rd (hs 0 _ rfl) b4 a25
  have t70 : sy_dv F' (.inr (.inl 70)) = .int ((sy_ai F 25).getD (sy_i F 4).toNatClampNeg 0) := hd_rd (hs 1 _ rfl) b4 a25
  have t71 : sy_dv F' (.inr (.inl 71)) = .int (((sy_ai F 25).getD (sy_i F 4).toNatClampNeg 0) - ((22 : Int32))) := hd_o (hs 2 _ rfl) t70 rfl rfl
  have t72 : sy_dv F' (.inr (.inl 72)) = .int ((sy_ai F 25).getD (sy_i F 4).toNatClampNeg 0) := hd_rd (hs 3 _ rfl) b4 a25
  have b6 := hd_b (F := F) (F' := F') (k := 6) (hF 6 (by decide))
  have a26 := hd_ba (F := F) (F' := F') (k := 26) (hF 26 (by decide))
  have t73 : sy_dv F' (.inr (.inl 73)) = .int ((sy_ai F 26).getD (sy_i F 4).toNatClampNeg 0) := hd_rd (hs 4 _ rfl) b4 a26
  have hB' : iv_in F' iv_B4 := iv_in_eq hB (fun j hj => hF j (Nat.lt_of_lt_of_le hj (by decide +kernel)))
  refine ⟨List.forall_mem_cons.mpr ⟨hd_pb b4 (by first | exact h0 | exact h0), List.forall_mem_cons.mpr ⟨hd_p0 t69 rfl (by have hc : ((23) : Int32).toInt = 23 := (by decide); omega), List.forall_mem_cons.mpr ⟨hd_pb b4 (by first | exact h2 | exact h2), List.forall_mem_cons.mpr ⟨hd_p3 t71 rfl (by have hc : ((0) : Int32).toInt = 0 := (by decide); omega), List.forall_mem_cons.mpr ⟨hd_pb b4 (by first | exact h4 | exact h4), List.forall_mem_cons.mpr ⟨hd_p4 t72 rfl (by have hc : ((27) : Int32).toInt = 27 := (by decide); omega), List.forall_mem_cons.mpr ⟨hd_p4 b6 rfl (by have hc : ((0) : Int32).toInt = 0 := (by decide); omega), List.forall_mem_cons.mpr ⟨hd_p0 b4 rfl (by have hc : ((400) : Int32).toInt = 400 := (by decide); omega), List.forall_mem_cons.mpr ⟨hd_p4 b6 rfl (by have hc : ((0) : Int32).toInt = 0 := (by decide); omega), List.forall_mem_cons.mpr ⟨hd_pb b4 (by first | exact h9 | exact h9), fun _ h => absurd h List.not_mem_nil⟩⟩⟩⟩⟩⟩⟩⟩⟩⟩, ?_⟩
  refine k _ ?_ ?_ ?_ ?_
  · exact fun j hj hn => (hd_keep hB' (Nat.lt_of_lt_of_le hj (by decide +kernel)) (by simp; omega)).trans (hF j (by omega))
  · exact hd_gi (x := .inl (.int 2)) (by decide +kernel) rfl
  · exact hd_gi (x := .inr (.inl 73)) (by decide +kernel) t73
  · exact hd_gi (x := .inr (.inl 71)) (by decide +kernel) t71
theorem to_0_p19 {Ls : Nat} {xs : Nat → Int32} {d : Nat} {Q : Option Value → jm_h → Prop} (hd : 5 ≤ d) (F : Nat → sy_d) (X1 X2 : List jm_c) (hB : iv_in F iv_B4)
    (h0 : 0 ≤ (sy_i F 4).toInt ∧ (sy_i F 4).toInt < 403)
    (h1 : ((sy_ai F 25).getD (sy_i F 4).toNatClampNeg 0).toInt = 23)
    (h2 : 0 ≤ (sy_i F 4).toInt ∧ (sy_i F 4).toInt < 403)
    (h3 : 0 ≤ (((sy_ai F 25).getD (sy_i F 4).toNatClampNeg 0) - ((22 : Int32))).toInt)
    (h4 : 0 ≤ (sy_i F 4).toInt ∧ (sy_i F 4).toInt < 403)
    (h5 : ((sy_ai F 25).getD (sy_i F 4).toNatClampNeg 0).toInt ≤ 27)
    (h6 : 0 < (sy_i F 6).toInt)
    (k : ∀ F1 : Nat → sy_d, (∀ j, j < 69 → True → F1 j = F j) → Q (none) (sy_dh F1 X1 X2 (iv_H 4))) :
    hd_W Ls xs d jm_M154 Q (0, sy_dL F [some (.inl (.ref 1000)), none], sy_dS F [], sy_dh F X1 X2 (iv_H 4), 0, 0) := by
  refine hd_ret (s := 4) (nv := 69) (v := none) (uh := hd_ov (iv_id 0 iv_B4) []) (f := true) (sp := [91, 119, 137, 156, 176, 233]) (d0 := 4) (O := [false, false, false, false, true, false, true, false]) (T := [(30, [.inr (.inl 4)], [.inr (.inl 25)]), (30, [.inr (.inl 4)], [.inr (.inl 25)]), (1, [.inr (.inl 70), .inl (.int 22)], []), (30, [.inr (.inl 4)], [.inr (.inl 25)])]) (P := [(6, .inr (.inl 4), .inl (.ref 403)), (0, .inr (.inl 69), .inl (.int 23)), (6, .inr (.inl 4), .inl (.ref 403)), (3, .inr (.inl 71), .inl (.int 0)), (6, .inr (.inl 4), .inl (.ref 403)), (4, .inr (.inl 72), .inl (.int 27)), (5, .inr (.inl 6), .inl (.int 0))]) jm_ok154 (by decide +kernel) (by decide +kernel) hd F X1 X2 (fun F' hF hs => ?_)
  have b4 := hd_b (F := F) (F' := F') (k := 4) (hF 4 (by decide))
  have a25 := hd_ba (F := F) (F' := F') (k := 25) (hF 25 (by decide))
  have t69 : sy_dv F' (.inr (.inl 69)) = .int ((sy_ai F 25).getD (sy_i F 4).toNatClampNeg 0) := hd_rd (hs 0 _ rfl) b4 a25
  have t70 : sy_dv F' (.inr (.inl 70)) = .int ((sy_ai F 25).getD (sy_i F 4).toNatClampNeg 0) := hd_rd (hs 1 _ rfl) b4 a25
  have t71 : sy_dv F' (.inr (.inl 71)) = .int (((sy_ai F 25).getD (sy_i F 4).toNatClampNeg 0) - ((22 : Int32))) := hd_o (hs 2 _ rfl) t70 rfl rfl
  have t72 : sy_dv F' (.inr (.inl 72)) = .int ((sy_ai F 25).getD (sy_i F 4).toNatClampNeg 0) := hd_rd (hs 3 _ rfl) b4 a25
  have b6 := hd_b (F := F) (F' := F') (k := 6) (hF 6 (by decide))
  have hB' : iv_in F' iv_B4 := iv_in_eq hB (fun j hj => hF j (Nat.lt_of_lt_of_le hj (by decide +kernel)))
  refine ⟨List.forall_mem_cons.mpr ⟨hd_pb b4 (by first | exact h0 | exact h0), List.forall_mem_cons.mpr ⟨hd_p0 t69 rfl (by have hc : ((23) : Int32).toInt = 23 := (by decide); omega), List.forall_mem_cons.mpr ⟨hd_pb b4 (by first | exact h2 | exact h2), List.forall_mem_cons.mpr ⟨hd_p3 t71 rfl (by have hc : ((0) : Int32).toInt = 0 := (by decide); omega), List.forall_mem_cons.mpr ⟨hd_pb b4 (by first | exact h4 | exact h4), List.forall_mem_cons.mpr ⟨hd_p4 t72 rfl (by have hc : ((27) : Int32).toInt = 27 := (by decide); omega), List.forall_mem_cons.mpr ⟨hd_p5 b6 rfl (by have hc : ((0) : Int32).toInt = 0 := (by decide); omega), fun _ h => absurd h List.not_mem_nil⟩⟩⟩⟩⟩⟩⟩, ?_⟩
  refine k _ ?_
  · exact fun j hj _ => (hd_keep hB' (Nat.lt_of_lt_of_le hj (by decide +kernel)) (by simp)).trans (hF j (by omega))
theorem to_0_p20 {Ls : Nat} {xs : Nat → Int32} {d : Nat} {Q : Option Value → jm_h → Prop} (hd : 5 ≤ d) (F : Nat → sy_d) (X1 X2 : List jm_c) (hB : iv_in F iv_B4)
    (h0 : 0 ≤ (sy_i F 4).toInt ∧ (sy_i F 4).toInt < 403)
    (h1 : ((sy_ai F 25).getD (sy_i F 4).toNatClampNeg 0).toInt = 24)
    (h2 : 0 ≤ (sy_i F 4).toInt ∧ (sy_i F 4).toInt < 403)
    (h3 : 0 ≤ (((sy_ai F 25).getD (sy_i F 4).toNatClampNeg 0) - ((22 : Int32))).toInt)
    (h4 : 0 ≤ (sy_i F 4).toInt ∧ (sy_i F 4).toInt < 403)
    (h5 : ((sy_ai F 25).getD (sy_i F 4).toNatClampNeg 0).toInt ≤ 27)
    (h6 : (sy_i F 6).toInt ≤ 0)
    (h7 : (sy_i F 4).toInt ≠ 400)
    (k : ∀ F1 : Nat → sy_d, (∀ j, j < 69 → j ≠ 4 → F1 j = F j) → F1 4 = .inl (.int ((sy_i F 4) + ((1 : Int32)))) → F1 69 = .inl (.int (((sy_ai F 25).getD (sy_i F 4).toNatClampNeg 0) - ((22 : Int32)))) → hd_W Ls xs d jm_M154 Q (233, sy_dL F1 [some (.inl (.ref 1000)), none], sy_dS F1 [.inr (.inl 69), .inl (.ref 1000)], sy_dh F1 X1 X2 (iv_H 4), 0, 0)) :
    hd_W Ls xs d jm_M154 Q (0, sy_dL F [some (.inl (.ref 1000)), none], sy_dS F [], sy_dh F X1 X2 (iv_H 4), 0, 0) := by
  refine hd_run (s := 4) (nv := 69) (pc := 233) (L := [some (.inl (.ref 1000)), none]) (S := [.inr (.inl 69), .inl (.ref 1000)]) (uh := hd_ov (iv_id 0 iv_B4) [(4, .inl (.inr (.inl 73)))]) (ul := [.inl (.inr (.inl 71))]) (f := true) (sp := [91, 119, 137, 156, 176, 233]) (d0 := 4) (O := [false, false, false, false, false, true, false, true, true, true]) (T := [(30, [.inr (.inl 4)], [.inr (.inl 25)]), (30, [.inr (.inl 4)], [.inr (.inl 25)]), (1, [.inr (.inl 70), .inl (.int 22)], []), (30, [.inr (.inl 4)], [.inr (.inl 25)]), (0, [.inr (.inl 4), .inl (.int 1)], [])]) (P := [(6, .inr (.inl 4), .inl (.ref 403)), (0, .inr (.inl 69), .inl (.int 24)), (6, .inr (.inl 4), .inl (.ref 403)), (3, .inr (.inl 71), .inl (.int 0)), (6, .inr (.inl 4), .inl (.ref 403)), (4, .inr (.inl 72), .inl (.int 27)), (4, .inr (.inl 6), .inl (.int 0)), (1, .inr (.inl 4), .inl (.int 400))]) jm_ok154 (by decide +kernel) (by decide +kernel) hd F X1 X2 (fun F' hF hs => ?_)
  have b4 := hd_b (F := F) (F' := F') (k := 4) (hF 4 (by decide))
  have a25 := hd_ba (F := F) (F' := F') (k := 25) (hF 25 (by decide))
  have t69 : sy_dv F' (.inr (.inl 69)) = .int ((sy_ai F 25).getD (sy_i F 4).toNatClampNeg 0) := hd_rd (hs 0 _ rfl) b4 a25
  have t70 : sy_dv F' (.inr (.inl 70)) = .int ((sy_ai F 25).getD (sy_i F 4).toNatClampNeg 0) := hd_rd (hs 1 _ rfl) b4 a25
  have t71 : sy_dv F' (.inr (.inl 71)) = .int (((sy_ai F 25).getD (sy_i F 4).toNatClampNeg 0) - ((22 : Int32))) := hd_o (hs 2 _ rfl) t70 rfl rfl
  have t72 : sy_dv F' (.inr (.inl 72)) = .int ((sy_ai F 25).getD (sy_i F 4).toNatClampNeg 0) := hd_rd (hs 3 _ rfl) b4 a25
  have b6 := hd_b (F := F) (F' := F') (k := 6) (hF 6 (by decide))
  have t73 : sy_dv F' (.inr (.inl 73)) = .int ((sy_i F 4) + ((1 : Int32))) := hd_o (hs 4 _ rfl) b4 rfl rfl
  have hB' : iv_in F' iv_B4 := iv_in_eq hB (fun j hj => hF j (Nat.lt_of_lt_of_le hj (by decide +kernel)))
  refine ⟨List.forall_mem_cons.mpr ⟨hd_pb b4 (by first | exact h0 | exact h0), List.forall_mem_cons.mpr ⟨hd_p0 t69 rfl (by have hc : ((24) : Int32).toInt = 24 := (by decide); omega), List.forall_mem_cons.mpr ⟨hd_pb b4 (by first | exact h2 | exact h2), List.forall_mem_cons.mpr ⟨hd_p3 t71 rfl (by have hc : ((0) : Int32).toInt = 0 := (by decide); omega), List.forall_mem_cons.mpr ⟨hd_pb b4 (by first | exact h4 | exact h4), List.forall_mem_cons.mpr ⟨hd_p4 t72 rfl (by have hc : ((27) : Int32).toInt = 27 := (by decide); omega), List.forall_mem_cons.mpr ⟨hd_p4 b6 rfl (by have hc : ((0) : Int32).toInt = 0 := (by decide); omega), List.forall_mem_cons.mpr ⟨hd_p1 b4 rfl (by have hc : ((400) : Int32).toInt = 400 := (by decide); omega), fun _ h => absurd h List.not_mem_nil⟩⟩⟩⟩⟩⟩⟩⟩, ?_⟩
  refine k _ ?_ ?_ ?_
  · exact fun j hj hn => (hd_keep hB' (Nat.lt_of_lt_of_le hj (by decide +kernel)) (by simp; omega)).trans (hF j (by omega))
  · exact hd_gi (x := .inr (.inl 73)) (by decide +kernel) t73
  · exact hd_gi (x := .inr (.inl 71)) (by decide +kernel) t71
theorem to_0_p21 {Ls : Nat} {xs : Nat → Int32} {d : Nat} {Q : Option Value → jm_h → Prop} (hd : 5 ≤ d) (F : Nat → sy_d) (X1 X2 : List jm_c) (hB : iv_in F iv_B4)
    (h0 : 0 ≤ (sy_i F 4).toInt ∧ (sy_i F 4).toInt < 403)
    (h1 : ((sy_ai F 25).getD (sy_i F 4).toNatClampNeg 0).toInt = 24)
    (h2 : 0 ≤ (sy_i F 4).toInt ∧ (sy_i F 4).toInt < 403)
    (h3 : 0 ≤ (((sy_ai F 25).getD (sy_i F 4).toNatClampNeg 0) - ((22 : Int32))).toInt)
    (h4 : 0 ≤ (sy_i F 4).toInt ∧ (sy_i F 4).toInt < 403)
    (h5 : ((sy_ai F 25).getD (sy_i F 4).toNatClampNeg 0).toInt ≤ 27)
    (h6 : (sy_i F 6).toInt ≤ 0)
    (h7 : (sy_i F 4).toInt = 400)
    (h8 : (sy_i F 6).toInt ≤ 0)
    (h9 : 0 ≤ (sy_i F 4).toInt ∧ (sy_i F 4).toInt < 403)
    (k : ∀ F1 : Nat → sy_d, (∀ j, j < 69 → j ≠ 6 ∧ j ≠ 7 → F1 j = F j) → F1 6 = .inl (.int ((2 : Int32))) → F1 7 = .inl (.int ((sy_ai F 26).getD (sy_i F 4).toNatClampNeg 0)) → F1 69 = .inl (.int (((sy_ai F 25).getD (sy_i F 4).toNatClampNeg 0) - ((22 : Int32)))) → hd_W Ls xs d jm_M154 Q (233, sy_dL F1 [some (.inl (.ref 1000)), none], sy_dS F1 [.inr (.inl 69), .inl (.ref 1000)], sy_dh F1 X1 X2 (iv_H 4), 0, 0)) :
    hd_W Ls xs d jm_M154 Q (0, sy_dL F [some (.inl (.ref 1000)), none], sy_dS F [], sy_dh F X1 X2 (iv_H 4), 0, 0) := by
  refine hd_run (s := 4) (nv := 69) (pc := 233) (L := [some (.inl (.ref 1000)), none]) (S := [.inr (.inl 69), .inl (.ref 1000)]) (uh := hd_ov (iv_id 0 iv_B4) [(6, .inl (.inl (.int 2))), (7, .inl (.inr (.inl 73)))]) (ul := [.inl (.inr (.inl 71))]) (f := true) (sp := [91, 119, 137, 156, 176, 233]) (d0 := 4) (O := [false, false, false, false, false, true, false, true, true, false, true]) (T := [(30, [.inr (.inl 4)], [.inr (.inl 25)]), (30, [.inr (.inl 4)], [.inr (.inl 25)]), (1, [.inr (.inl 70), .inl (.int 22)], []), (30, [.inr (.inl 4)], [.inr (.inl 25)]), (30, [.inr (.inl 4)], [.inr (.inl 26)])]) (P := [(6, .inr (.inl 4), .inl (.ref 403)), (0, .inr (.inl 69), .inl (.int 24)), (6, .inr (.inl 4), .inl (.ref 403)), (3, .inr (.inl 71), .inl (.int 0)), (6, .inr (.inl 4), .inl (.ref 403)), (4, .inr (.inl 72), .inl (.int 27)), (4, .inr (.inl 6), .inl (.int 0)), (0, .inr (.inl 4), .inl (.int 400)), (4, .inr (.inl 6), .inl (.int 0)), (6, .inr (.inl 4), .inl (.ref 403))]) jm_ok154 (by decide +kernel) (by decide +kernel) hd F X1 X2 (fun F' hF hs => ?_)
  have b4 := hd_b (F := F) (F' := F') (k := 4) (hF 4 (by decide))
  have a25 := hd_ba (F := F) (F' := F') (k := 25) (hF 25 (by decide))
  have t69 : sy_dv F' (.inr (.inl 69)) = .int ((sy_ai F 25).getD (sy_i F 4).toNatClampNeg 0) := hd_rd (hs 0 _ rfl) b4 a25
  have t70 : sy_dv F' (.inr (.inl 70)) = .int ((sy_ai F 25).getD (sy_i F 4).toNatClampNeg 0) := hd_rd (hs 1 _ rfl) b4 a25
  have t71 : sy_dv F' (.inr (.inl 71)) = .int (((sy_ai F 25).getD (sy_i F 4).toNatClampNeg 0) - ((22 : Int32))) := hd_o (hs 2 _ rfl) t70 rfl rfl
  have t72 : sy_dv F' (.inr (.inl 72)) = .int ((sy_ai F 25).getD (sy_i F 4).toNatClampNeg 0) := hd_rd (hs 3 _ rfl) b4 a25
  have b6 := hd_b (F := F) (F' := F') (k := 6) (hF 6 (by decide))
  have a26 := hd_ba (F := F) (F' := F') (k := 26) (hF 26 (by decide))
  have t73 : sy_dv F' (.inr (.inl 73)) = .int ((sy_ai F 26).getD (sy_i F 4).toNatClampNeg 0) := hd_rd (hs 4 _ rfl) b4 a26
  have hB' : iv_in F' iv_B4 := iv_in_eq hB (fun j hj => hF j (Nat.lt_of_lt_of_le hj (by decide +kernel)))
  refine ⟨List.forall_mem_cons.mpr ⟨hd_pb b4 (by first | exact h0 | exact h0), List.forall_mem_cons.mpr ⟨hd_p0 t69 rfl (by have hc : ((24) : Int32).toInt = 24 := (by decide); omega), List.forall_mem_cons.mpr ⟨hd_pb b4 (by first | exact h2 | exact h2), List.forall_mem_cons.mpr ⟨hd_p3 t71 rfl (by have hc : ((0) : Int32).toInt = 0 := (by decide); omega), List.forall_mem_cons.mpr ⟨hd_pb b4 (by first | exact h4 | exact h4), List.forall_mem_cons.mpr ⟨hd_p4 t72 rfl (by have hc : ((27) : Int32).toInt = 27 := (by decide); omega), List.forall_mem_cons.mpr ⟨hd_p4 b6 rfl (by have hc : ((0) : Int32).toInt = 0 := (by decide); omega), List.forall_mem_cons.mpr ⟨hd_p0 b4 rfl (by have hc : ((400) : Int32).toInt = 400 := (by decide); omega), List.forall_mem_cons.mpr ⟨hd_p4 b6 rfl (by have hc : ((0) : Int32).toInt = 0 := (by decide); omega), List.forall_mem_cons.mpr ⟨hd_pb b4 (by first | exact h9 | exact h9), fun _ h => absurd h List.not_mem_nil⟩⟩⟩⟩⟩⟩⟩⟩⟩⟩, ?_⟩
  refine k _ ?_ ?_ ?_ ?_
  · exact fun j hj hn => (hd_keep hB' (Nat.lt_of_lt_of_le hj (by decide +kernel)) (by simp; omega)).trans (hF j (by omega))
  · exact hd_gi (x := .inl (.int 2)) (by decide +kernel) rfl
  · exact hd_gi (x := .inr (.inl 73)) (by decide +kernel) t73
  · exact hd_gi (x := .inr (.inl 71)) (by decide +kernel) t71
theorem to_0_p22 {Ls : Nat} {xs : Nat → Int32} {d : Nat} {Q : Option Value → jm_h → Prop} (hd : 5 ≤ d) (F : Nat → sy_d) (X1 X2 : List jm_c) (hB : iv_in F iv_B4)
    (h0 : 0 ≤ (sy_i F 4).toInt ∧ (sy_i F 4).toInt < 403)
    (h1 : ((sy_ai F 25).getD (sy_i F 4).toNatClampNeg 0).toInt = 24)
    (h2 : 0 ≤ (sy_i F 4).toInt ∧ (sy_i F 4).toInt < 403)
    (h3 : 0 ≤ (((sy_ai F 25).getD (sy_i F 4).toNatClampNeg 0) - ((22 : Int32))).toInt)
    (h4 : 0 ≤ (sy_i F 4).toInt ∧ (sy_i F 4).toInt < 403)
    (h5 : ((sy_ai F 25).getD (sy_i F 4).toNatClampNeg 0).toInt ≤ 27)
    (h6 : 0 < (sy_i F 6).toInt)
    (k : ∀ F1 : Nat → sy_d, (∀ j, j < 69 → True → F1 j = F j) → Q (none) (sy_dh F1 X1 X2 (iv_H 4))) :
    hd_W Ls xs d jm_M154 Q (0, sy_dL F [some (.inl (.ref 1000)), none], sy_dS F [], sy_dh F X1 X2 (iv_H 4), 0, 0) := by
  refine hd_ret (s := 4) (nv := 69) (v := none) (uh := hd_ov (iv_id 0 iv_B4) []) (f := true) (sp := [91, 119, 137, 156, 176, 233]) (d0 := 4) (O := [false, false, false, false, false, true, false, true, false]) (T := [(30, [.inr (.inl 4)], [.inr (.inl 25)]), (30, [.inr (.inl 4)], [.inr (.inl 25)]), (1, [.inr (.inl 70), .inl (.int 22)], []), (30, [.inr (.inl 4)], [.inr (.inl 25)])]) (P := [(6, .inr (.inl 4), .inl (.ref 403)), (0, .inr (.inl 69), .inl (.int 24)), (6, .inr (.inl 4), .inl (.ref 403)), (3, .inr (.inl 71), .inl (.int 0)), (6, .inr (.inl 4), .inl (.ref 403)), (4, .inr (.inl 72), .inl (.int 27)), (5, .inr (.inl 6), .inl (.int 0))]) jm_ok154 (by decide +kernel) (by decide +kernel) hd F X1 X2 (fun F' hF hs => ?_)
  have b4 := hd_b (F := F) (F' := F') (k := 4) (hF 4 (by decide))
  have a25 := hd_ba (F := F) (F' := F') (k := 25) (hF 25 (by decide))
  have t69 : sy_dv F' (.inr (.inl 69)) = .int ((sy_ai F 25).getD (sy_i F 4).toNatClampNeg 0) := hd_rd (hs 0 _ rfl) b4 a25
  have t70 : sy_dv F' (.inr (.inl 70)) = .int ((sy_ai F 25).getD (sy_i F 4).toNatClampNeg 0) := hd_rd (hs 1 _ rfl) b4 a25
  have t71 : sy_dv F' (.inr (.inl 71)) = .int (((sy_ai F 25).getD (sy_i F 4).toNatClampNeg 0) - ((22 : Int32))) := hd_o (hs 2 _ rfl) t70 rfl rfl
  have t72 : sy_dv F' (.inr (.inl 72)) = .int ((sy_ai F 25).getD (sy_i F 4).toNatClampNeg 0) := hd_rd (hs 3 _ rfl) b4 a25
  have b6 := hd_b (F := F) (F' := F') (k := 6) (hF 6 (by decide))
  have hB' : iv_in F' iv_B4 := iv_in_eq hB (fun j hj => hF j (Nat.lt_of_lt_of_le hj (by decide +kernel)))
  refine ⟨List.forall_mem_cons.mpr ⟨hd_pb b4 (by first | exact h0 | exact h0), List.forall_mem_cons.mpr ⟨hd_p0 t69 rfl (by have hc : ((24) : Int32).toInt = 24 := (by decide); omega), List.forall_mem_cons.mpr ⟨hd_pb b4 (by first | exact h2 | exact h2), List.forall_mem_cons.mpr ⟨hd_p3 t71 rfl (by have hc : ((0) : Int32).toInt = 0 := (by decide); omega), List.forall_mem_cons.mpr ⟨hd_pb b4 (by first | exact h4 | exact h4), List.forall_mem_cons.mpr ⟨hd_p4 t72 rfl (by have hc : ((27) : Int32).toInt = 27 := (by decide); omega), List.forall_mem_cons.mpr ⟨hd_p5 b6 rfl (by have hc : ((0) : Int32).toInt = 0 := (by decide); omega), fun _ h => absurd h List.not_mem_nil⟩⟩⟩⟩⟩⟩⟩, ?_⟩
  refine k _ ?_
  · exact fun j hj _ => (hd_keep hB' (Nat.lt_of_lt_of_le hj (by decide +kernel)) (by simp)).trans (hF j (by omega))
theorem to_0_p23 {Ls : Nat} {xs : Nat → Int32} {d : Nat} {Q : Option Value → jm_h → Prop} (hd : 5 ≤ d) (F : Nat → sy_d) (X1 X2 : List jm_c) (hB : iv_in F iv_B4)
    (h0 : 0 ≤ (sy_i F 4).toInt ∧ (sy_i F 4).toInt < 403)
    (h1 : ((sy_ai F 25).getD (sy_i F 4).toNatClampNeg 0).toInt = 25)
    (h2 : 0 ≤ (sy_i F 4).toInt ∧ (sy_i F 4).toInt < 403)
    (h3 : 0 ≤ (((sy_ai F 25).getD (sy_i F 4).toNatClampNeg 0) - ((22 : Int32))).toInt)
    (h4 : 0 ≤ (sy_i F 4).toInt ∧ (sy_i F 4).toInt < 403)
    (h5 : ((sy_ai F 25).getD (sy_i F 4).toNatClampNeg 0).toInt ≤ 27)
    (h6 : (sy_i F 6).toInt ≤ 0)
    (h7 : (sy_i F 4).toInt ≠ 400)
    (k : ∀ F1 : Nat → sy_d, (∀ j, j < 69 → j ≠ 4 → F1 j = F j) → F1 4 = .inl (.int ((sy_i F 4) + ((1 : Int32)))) → F1 69 = .inl (.int (((sy_ai F 25).getD (sy_i F 4).toNatClampNeg 0) - ((22 : Int32)))) → hd_W Ls xs d jm_M154 Q (233, sy_dL F1 [some (.inl (.ref 1000)), none], sy_dS F1 [.inr (.inl 69), .inl (.ref 1000)], sy_dh F1 X1 X2 (iv_H 4), 0, 0)) :
    hd_W Ls xs d jm_M154 Q (0, sy_dL F [some (.inl (.ref 1000)), none], sy_dS F [], sy_dh F X1 X2 (iv_H 4), 0, 0) := by
  refine hd_run (s := 4) (nv := 69) (pc := 233) (L := [some (.inl (.ref 1000)), none]) (S := [.inr (.inl 69), .inl (.ref 1000)]) (uh := hd_ov (iv_id 0 iv_B4) [(4, .inl (.inr (.inl 73)))]) (ul := [.inl (.inr (.inl 71))]) (f := true) (sp := [91, 119, 137, 156, 176, 233]) (d0 := 4) (O := [false, false, false, false, false, false, true, false, true, true, true]) (T := [(30, [.inr (.inl 4)], [.inr (.inl 25)]), (30, [.inr (.inl 4)], [.inr (.inl 25)]), (1, [.inr (.inl 70), .inl (.int 22)], []), (30, [.inr (.inl 4)], [.inr (.inl 25)]), (0, [.inr (.inl 4), .inl (.int 1)], [])]) (P := [(6, .inr (.inl 4), .inl (.ref 403)), (0, .inr (.inl 69), .inl (.int 25)), (6, .inr (.inl 4), .inl (.ref 403)), (3, .inr (.inl 71), .inl (.int 0)), (6, .inr (.inl 4), .inl (.ref 403)), (4, .inr (.inl 72), .inl (.int 27)), (4, .inr (.inl 6), .inl (.int 0)), (1, .inr (.inl 4), .inl (.int 400))]) jm_ok154 (by decide +kernel) (by decide +kernel) hd F X1 X2 (fun F' hF hs => ?_)
  have b4 := hd_b (F := F) (F' := F') (k := 4) (hF 4 (by decide))
  have a25 := hd_ba (F := F) (F' := F') (k := 25) (hF 25 (by decide))
  have t69 : sy_dv F' (.inr (.inl 69)) = .int ((sy_ai F 25).getD (sy_i F 4).toNatClampNeg 0) := hd_rd (hs 0 _ rfl) b4 a25
  have t70 : sy_dv F' (.inr (.inl 70)) = .int ((sy_ai F 25).getD (sy_i F 4).toNatClampNeg 0) := hd_rd (hs 1 _ rfl) b4 a25
  have t71 : sy_dv F' (.inr (.inl 71)) = .int (((sy_ai F 25).getD (sy_i F 4).toNatClampNeg 0) - ((22 : Int32))) := hd_o (hs 2 _ rfl) t70 rfl rfl
  have t72 : sy_dv F' (.inr (.inl 72)) = .int ((sy_ai F 25).getD (sy_i F 4).toNatClampNeg 0) := hd_rd (hs 3 _ rfl) b4 a25
  have b6 := hd_b (F := F) (F' := F') (k := 6) (hF 6 (by decide))
  have t73 : sy_dv F' (.inr (.inl 73)) = .int ((sy_i F 4) + ((1 : Int32))) := hd_o (hs 4 _ rfl) b4 rfl rfl
  have hB' : iv_in F' iv_B4 := iv_in_eq hB (fun j hj => hF j (Nat.lt_of_lt_of_le hj (by decide +kernel)))
  refine ⟨List.forall_mem_cons.mpr ⟨hd_pb b4 (by first | exact h0 | exact h0), List.forall_mem_cons.mpr ⟨hd_p0 t69 rfl (by have hc : ((25) : Int32).toInt = 25 := (by decide); omega), List.forall_mem_cons.mpr ⟨hd_pb b4 (by first | exact h2 | exact h2), List.forall_mem_cons.mpr ⟨hd_p3 t71 rfl (by have hc : ((0) : Int32).toInt = 0 := (by decide); omega), List.forall_mem_cons.mpr ⟨hd_pb b4 (by first | exact h4 | exact h4), List.forall_mem_cons.mpr ⟨hd_p4 t72 rfl (by have hc : ((27) : Int32).toInt = 27 := (by decide); omega), List.forall_mem_cons.mpr ⟨hd_p4 b6 rfl (by have hc : ((0) : Int32).toInt = 0 := (by decide); omega), List.forall_mem_cons.mpr ⟨hd_p1 b4 rfl (by have hc : ((400) : Int32).toInt = 400 := (by decide); omega), fun _ h => absurd h List.not_mem_nil⟩⟩⟩⟩⟩⟩⟩⟩, ?_⟩
  refine k _ ?_ ?_ ?_
  · exact fun j hj hn => (hd_keep hB' (Nat.lt_of_lt_of_le hj (by decide +kernel)) (by simp; omega)).trans (hF j (by omega))
  · exact hd_gi (x := .inr (.inl 73)) (by decide +kernel) t73
  · exact hd_gi (x := .inr (.inl 71)) (by decide +kernel) t71
theorem to_0_p24 {Ls : Nat} {xs : Nat → Int32} {d : Nat} {Q : Option Value → jm_h → Prop} (hd : 5 ≤ d) (F : Nat → sy_d) (X1 X2 : List jm_c) (hB : iv_in F iv_B4)
    (h0 : 0 ≤ (sy_i F 4).toInt ∧ (sy_i F 4).toInt < 403)
    (h1 : ((sy_ai F 25).getD (sy_i F 4).toNatClampNeg 0).toInt = 25)
    (h2 : 0 ≤ (sy_i F 4).toInt ∧ (sy_i F 4).toInt < 403)
    (h3 : 0 ≤ (((sy_ai F 25).getD (sy_i F 4).toNatClampNeg 0) - ((22 : Int32))).toInt)
    (h4 : 0 ≤ (sy_i F 4).toInt ∧ (sy_i F 4).toInt < 403)
    (h5 : ((sy_ai F 25).getD (sy_i F 4).toNatClampNeg 0).toInt ≤ 27)
    (h6 : (sy_i F 6).toInt ≤ 0)
    (h7 : (sy_i F 4).toInt = 400)
    (h8 : (sy_i F 6).toInt ≤ 0)
    (h9 : 0 ≤ (sy_i F 4).toInt ∧ (sy_i F 4).toInt < 403)
    (k : ∀ F1 : Nat → sy_d, (∀ j, j < 69 → j ≠ 6 ∧ j ≠ 7 → F1 j = F j) → F1 6 = .inl (.int ((2 : Int32))) → F1 7 = .inl (.int ((sy_ai F 26).getD (sy_i F 4).toNatClampNeg 0)) → F1 69 = .inl (.int (((sy_ai F 25).getD (sy_i F 4).toNatClampNeg 0) - ((22 : Int32)))) → hd_W Ls xs d jm_M154 Q (233, sy_dL F1 [some (.inl (.ref 1000)), none], sy_dS F1 [.inr (.inl 69), .inl (.ref 1000)], sy_dh F1 X1 X2 (iv_H 4), 0, 0)) :
    hd_W Ls xs d jm_M154 Q (0, sy_dL F [some (.inl (.ref 1000)), none], sy_dS F [], sy_dh F X1 X2 (iv_H 4), 0, 0) := by
  refine hd_run (s := 4) (nv := 69) (pc := 233) (L := [some (.inl (.ref 1000)), none]) (S := [.inr (.inl 69), .inl (.ref 1000)]) (uh := hd_ov (iv_id 0 iv_B4) [(6, .inl (.inl (.int 2))), (7, .inl (.inr (.inl 73)))]) (ul := [.inl (.inr (.inl 71))]) (f := true) (sp := [91, 119, 137, 156, 176, 233]) (d0 := 4) (O := [false, false, false, false, false, false, true, false, true, true, false, true]) (T := [(30, [.inr (.inl 4)], [.inr (.inl 25)]), (30, [.inr (.inl 4)], [.inr (.inl 25)]), (1, [.inr (.inl 70), .inl (.int 22)], []), (30, [.inr (.inl 4)], [.inr (.inl 25)]), (30, [.inr (.inl 4)], [.inr (.inl 26)])]) (P := [(6, .inr (.inl 4), .inl (.ref 403)), (0, .inr (.inl 69), .inl (.int 25)), (6, .inr (.inl 4), .inl (.ref 403)), (3, .inr (.inl 71), .inl (.int 0)), (6, .inr (.inl 4), .inl (.ref 403)), (4, .inr (.inl 72), .inl (.int 27)), (4, .inr (.inl 6), .inl (.int 0)), (0, .inr (.inl 4), .inl (.int 400)), (4, .inr (.inl 6), .inl (.int 0)), (6, .inr (.inl 4), .inl (.ref 403))]) jm_ok154 (by decide +kernel) (by decide +kernel) hd F X1 X2 (fun F' hF hs => ?_)
  have b4 := hd_b (F := F) (F' := F') (k := 4) (hF 4 (by decide))
  have a25 := hd_ba (F := F) (F' := F') (k := 25) (hF 25 (by decide))
  have t69 : sy_dv F' (.inr (.inl 69)) = .int ((sy_ai F 25).getD (sy_i F 4).toNatClampNeg 0) := hd_rd (hs 0 _ rfl) b4 a25
  have t70 : sy_dv F' (.inr (.inl 70)) = .int ((sy_ai F 25).getD (sy_i F 4).toNatClampNeg 0) := hd_rd (hs 1 _ rfl) b4 a25
  have t71 : sy_dv F' (.inr (.inl 71)) = .int (((sy_ai F 25).getD (sy_i F 4).toNatClampNeg 0) - ((22 : Int32))) := hd_o (hs 2 _ rfl) t70 rfl rfl
  have t72 : sy_dv F' (.inr (.inl 72)) = .int ((sy_ai F 25).getD (sy_i F 4).toNatClampNeg 0) := hd_rd (hs 3 _ rfl) b4 a25
  have b6 := hd_b (F := F) (F' := F') (k := 6) (hF 6 (by decide))
  have a26 := hd_ba (F := F) (F' := F') (k := 26) (hF 26 (by decide))
  have t73 : sy_dv F' (.inr (.inl 73)) = .int ((sy_ai F 26).getD (sy_i F 4).toNatClampNeg 0) := hd_rd (hs 4 _ rfl) b4 a26
  have hB' : iv_in F' iv_B4 := iv_in_eq hB (fun j hj => hF j (Nat.lt_of_lt_of_le hj (by decide +kernel)))
  refine ⟨List.forall_mem_cons.mpr ⟨hd_pb b4 (by first | exact h0 | exact h0), List.forall_mem_cons.mpr ⟨hd_p0 t69 rfl (by have hc : ((25) : Int32).toInt = 25 := (by decide); omega), List.forall_mem_cons.mpr ⟨hd_pb b4 (by first | exact h2 | exact h2), List.forall_mem_cons.mpr ⟨hd_p3 t71 rfl (by have hc : ((0) : Int32).toInt = 0 := (by decide); omega), List.forall_mem_cons.mpr ⟨hd_pb b4 (by first | exact h4 | exact h4), List.forall_mem_cons.mpr ⟨hd_p4 t72 rfl (by have hc : ((27) : Int32).toInt = 27 := (by decide); omega), List.forall_mem_cons.mpr ⟨hd_p4 b6 rfl (by have hc : ((0) : Int32).toInt = 0 := (by decide); omega), List.forall_mem_cons.mpr ⟨hd_p0 b4 rfl (by have hc : ((400) : Int32).toInt = 400 := (by decide); omega), List.forall_mem_cons.mpr ⟨hd_p4 b6 rfl (by have hc : ((0) : Int32).toInt = 0 := (by decide); omega), List.forall_mem_cons.mpr ⟨hd_pb b4 (by first | exact h9 | exact h9), fun _ h => absurd h List.not_mem_nil⟩⟩⟩⟩⟩⟩⟩⟩⟩⟩, ?_⟩
  refine k _ ?_ ?_ ?_ ?_
  · exact fun j hj hn => (hd_keep hB' (Nat.lt_of_lt_of_le hj (by decide +kernel)) (by simp; omega)).trans (hF j (by omega))
  · exact hd_gi (x := .inl (.int 2)) (by decide +kernel) rfl
  · exact hd_gi (x := .inr (.inl 73)) (by decide +kernel) t73
  · exact hd_gi (x := .inr (.inl 71)) (by decide +kernel) t71
theorem to_0_p25 {Ls : Nat} {xs : Nat → Int32} {d : Nat} {Q : Option Value → jm_h → Prop} (hd : 5 ≤ d) (F : Nat → sy_d) (X1 X2 : List jm_c) (hB : iv_in F iv_B4)
    (h0 : 0 ≤ (sy_i F 4).toInt ∧ (sy_i F 4).toInt < 403)
    (h1 : ((sy_ai F 25).getD (sy_i F 4).toNatClampNeg 0).toInt = 25)
    (h2 : 0 ≤ (sy_i F 4).toInt ∧ (sy_i F 4).toInt < 403)
    (h3 : 0 ≤ (((sy_ai F 25).getD (sy_i F 4).toNatClampNeg 0) - ((22 : Int32))).toInt)
    (h4 : 0 ≤ (sy_i F 4).toInt ∧ (sy_i F 4).toInt < 403)
    (h5 : ((sy_ai F 25).getD (sy_i F 4).toNatClampNeg 0).toInt ≤ 27)
    (h6 : 0 < (sy_i F 6).toInt)
    (k : ∀ F1 : Nat → sy_d, (∀ j, j < 69 → True → F1 j = F j) → Q (none) (sy_dh F1 X1 X2 (iv_H 4))) :
    hd_W Ls xs d jm_M154 Q (0, sy_dL F [some (.inl (.ref 1000)), none], sy_dS F [], sy_dh F X1 X2 (iv_H 4), 0, 0) := by
  refine hd_ret (s := 4) (nv := 69) (v := none) (uh := hd_ov (iv_id 0 iv_B4) []) (f := true) (sp := [91, 119, 137, 156, 176, 233]) (d0 := 4) (O := [false, false, false, false, false, false, true, false, true, false]) (T := [(30, [.inr (.inl 4)], [.inr (.inl 25)]), (30, [.inr (.inl 4)], [.inr (.inl 25)]), (1, [.inr (.inl 70), .inl (.int 22)], []), (30, [.inr (.inl 4)], [.inr (.inl 25)])]) (P := [(6, .inr (.inl 4), .inl (.ref 403)), (0, .inr (.inl 69), .inl (.int 25)), (6, .inr (.inl 4), .inl (.ref 403)), (3, .inr (.inl 71), .inl (.int 0)), (6, .inr (.inl 4), .inl (.ref 403)), (4, .inr (.inl 72), .inl (.int 27)), (5, .inr (.inl 6), .inl (.int 0))]) jm_ok154 (by decide +kernel) (by decide +kernel) hd F X1 X2 (fun F' hF hs => ?_)
  have b4 := hd_b (F := F) (F' := F') (k := 4) (hF 4 (by decide))
  have a25 := hd_ba (F := F) (F' := F') (k := 25) (hF 25 (by decide))
  have t69 : sy_dv F' (.inr (.inl 69)) = .int ((sy_ai F 25).getD (sy_i F 4).toNatClampNeg 0) := hd_rd (hs 0 _ rfl) b4 a25
  have t70 : sy_dv F' (.inr (.inl 70)) = .int ((sy_ai F 25).getD (sy_i F 4).toNatClampNeg 0) := hd_rd (hs 1 _ rfl) b4 a25
  have t71 : sy_dv F' (.inr (.inl 71)) = .int (((sy_ai F 25).getD (sy_i F 4).toNatClampNeg 0) - ((22 : Int32))) := hd_o (hs 2 _ rfl) t70 rfl rfl
  have t72 : sy_dv F' (.inr (.inl 72)) = .int ((sy_ai F 25).getD (sy_i F 4).toNatClampNeg 0) := hd_rd (hs 3 _ rfl) b4 a25
  have b6 := hd_b (F := F) (F' := F') (k := 6) (hF 6 (by decide))
  have hB' : iv_in F' iv_B4 := iv_in_eq hB (fun j hj => hF j (Nat.lt_of_lt_of_le hj (by decide +kernel)))
  refine ⟨List.forall_mem_cons.mpr ⟨hd_pb b4 (by first | exact h0 | exact h0), List.forall_mem_cons.mpr ⟨hd_p0 t69 rfl (by have hc : ((25) : Int32).toInt = 25 := (by decide); omega), List.forall_mem_cons.mpr ⟨hd_pb b4 (by first | exact h2 | exact h2), List.forall_mem_cons.mpr ⟨hd_p3 t71 rfl (by have hc : ((0) : Int32).toInt = 0 := (by decide); omega), List.forall_mem_cons.mpr ⟨hd_pb b4 (by first | exact h4 | exact h4), List.forall_mem_cons.mpr ⟨hd_p4 t72 rfl (by have hc : ((27) : Int32).toInt = 27 := (by decide); omega), List.forall_mem_cons.mpr ⟨hd_p5 b6 rfl (by have hc : ((0) : Int32).toInt = 0 := (by decide); omega), fun _ h => absurd h List.not_mem_nil⟩⟩⟩⟩⟩⟩⟩, ?_⟩
  refine k _ ?_
  · exact fun j hj _ => (hd_keep hB' (Nat.lt_of_lt_of_le hj (by decide +kernel)) (by simp)).trans (hF j (by omega))
theorem to_0_p26 {Ls : Nat} {xs : Nat → Int32} {d : Nat} {Q : Option Value → jm_h → Prop} (hd : 5 ≤ d) (F : Nat → sy_d) (X1 X2 : List jm_c) (hB : iv_in F iv_B4)
    (h0 : 0 ≤ (sy_i F 4).toInt ∧ (sy_i F 4).toInt < 403)
    (h1 : ((sy_ai F 25).getD (sy_i F 4).toNatClampNeg 0).toInt = 26)
    (h2 : 0 ≤ (sy_i F 4).toInt ∧ (sy_i F 4).toInt < 403)
    (h3 : 0 ≤ (((sy_ai F 25).getD (sy_i F 4).toNatClampNeg 0) - ((22 : Int32))).toInt)
    (h4 : 0 ≤ (sy_i F 4).toInt ∧ (sy_i F 4).toInt < 403)
    (h5 : ((sy_ai F 25).getD (sy_i F 4).toNatClampNeg 0).toInt ≤ 27)
    (h6 : (sy_i F 6).toInt ≤ 0)
    (h7 : (sy_i F 4).toInt ≠ 400)
    (k : ∀ F1 : Nat → sy_d, (∀ j, j < 69 → j ≠ 4 → F1 j = F j) → F1 4 = .inl (.int ((sy_i F 4) + ((1 : Int32)))) → F1 69 = .inl (.int (((sy_ai F 25).getD (sy_i F 4).toNatClampNeg 0) - ((22 : Int32)))) → hd_W Ls xs d jm_M154 Q (233, sy_dL F1 [some (.inl (.ref 1000)), none], sy_dS F1 [.inr (.inl 69), .inl (.ref 1000)], sy_dh F1 X1 X2 (iv_H 4), 0, 0)) :
    hd_W Ls xs d jm_M154 Q (0, sy_dL F [some (.inl (.ref 1000)), none], sy_dS F [], sy_dh F X1 X2 (iv_H 4), 0, 0) := by
  refine hd_run (s := 4) (nv := 69) (pc := 233) (L := [some (.inl (.ref 1000)), none]) (S := [.inr (.inl 69), .inl (.ref 1000)]) (uh := hd_ov (iv_id 0 iv_B4) [(4, .inl (.inr (.inl 73)))]) (ul := [.inl (.inr (.inl 71))]) (f := true) (sp := [91, 119, 137, 156, 176, 233]) (d0 := 4) (O := [false, false, false, false, false, false, false, true, false, true, true, true]) (T := [(30, [.inr (.inl 4)], [.inr (.inl 25)]), (30, [.inr (.inl 4)], [.inr (.inl 25)]), (1, [.inr (.inl 70), .inl (.int 22)], []), (30, [.inr (.inl 4)], [.inr (.inl 25)]), (0, [.inr (.inl 4), .inl (.int 1)], [])]) (P := [(6, .inr (.inl 4), .inl (.ref 403)), (0, .inr (.inl 69), .inl (.int 26)), (6, .inr (.inl 4), .inl (.ref 403)), (3, .inr (.inl 71), .inl (.int 0)), (6, .inr (.inl 4), .inl (.ref 403)), (4, .inr (.inl 72), .inl (.int 27)), (4, .inr (.inl 6), .inl (.int 0)), (1, .inr (.inl 4), .inl (.int 400))]) jm_ok154 (by decide +kernel) (by decide +kernel) hd F X1 X2 (fun F' hF hs => ?_)
  have b4 := hd_b (F := F) (F' := F') (k := 4) (hF 4 (by decide))
  have a25 := hd_ba (F := F) (F' := F') (k := 25) (hF 25 (by decide))
  have t69 : sy_dv F' (.inr (.inl 69)) = .int ((sy_ai F 25).getD (sy_i F 4).toNatClampNeg 0) := hd_rd (hs 0 _ rfl) b4 a25
  have t70 : sy_dv F' (.inr (.inl 70)) = .int ((sy_ai F 25).getD (sy_i F 4).toNatClampNeg 0) := hd_rd (hs 1 _ rfl) b4 a25
  have t71 : sy_dv F' (.inr (.inl 71)) = .int (((sy_ai F 25).getD (sy_i F 4).toNatClampNeg 0) - ((22 : Int32))) := hd_o (hs 2 _ rfl) t70 rfl rfl
  have t72 : sy_dv F' (.inr (.inl 72)) = .int ((sy_ai F 25).getD (sy_i F 4).toNatClampNeg 0) := hd_rd (hs 3 _ rfl) b4 a25
  have b6 := hd_b (F := F) (F' := F') (k := 6) (hF 6 (by decide))
  have t73 : sy_dv F' (.inr (.inl 73)) = .int ((sy_i F 4) + ((1 : Int32))) := hd_o (hs 4 _ rfl) b4 rfl rfl
  have hB' : iv_in F' iv_B4 := iv_in_eq hB (fun j hj => hF j (Nat.lt_of_lt_of_le hj (by decide +kernel)))
  refine ⟨List.forall_mem_cons.mpr ⟨hd_pb b4 (by first | exact h0 | exact h0), List.forall_mem_cons.mpr ⟨hd_p0 t69 rfl (by have hc : ((26) : Int32).toInt = 26 := (by decide); omega), List.forall_mem_cons.mpr ⟨hd_pb b4 (by first | exact h2 | exact h2), List.forall_mem_cons.mpr ⟨hd_p3 t71 rfl (by have hc : ((0) : Int32).toInt = 0 := (by decide); omega), List.forall_mem_cons.mpr ⟨hd_pb b4 (by first | exact h4 | exact h4), List.forall_mem_cons.mpr ⟨hd_p4 t72 rfl (by have hc : ((27) : Int32).toInt = 27 := (by decide); omega), List.forall_mem_cons.mpr ⟨hd_p4 b6 rfl (by have hc : ((0) : Int32).toInt = 0 := (by decide); omega), List.forall_mem_cons.mpr ⟨hd_p1 b4 rfl (by have hc : ((400) : Int32).toInt = 400 := (by decide); omega), fun _ h => absurd h List.not_mem_nil⟩⟩⟩⟩⟩⟩⟩⟩, ?_⟩
  refine k _ ?_ ?_ ?_
  · exact fun j hj hn => (hd_keep hB' (Nat.lt_of_lt_of_le hj (by decide +kernel)) (by simp; omega)).trans (hF j (by omega))
  · exact hd_gi (x := .inr (.inl 73)) (by decide +kernel) t73
  · exact hd_gi (x := .inr (.inl 71)) (by decide +kernel) t71
theorem to_0_p27 {Ls : Nat} {xs : Nat → Int32} {d : Nat} {Q : Option Value → jm_h → Prop} (hd : 5 ≤ d) (F : Nat → sy_d) (X1 X2 : List jm_c) (hB : iv_in F iv_B4)
    (h0 : 0 ≤ (sy_i F 4).toInt ∧ (sy_i F 4).toInt < 403)
    (h1 : ((sy_ai F 25).getD (sy_i F 4).toNatClampNeg 0).toInt = 26)
    (h2 : 0 ≤ (sy_i F 4).toInt ∧ (sy_i F 4).toInt < 403)
    (h3 : 0 ≤ (((sy_ai F 25).getD (sy_i F 4).toNatClampNeg 0) - ((22 : Int32))).toInt)
    (h4 : 0 ≤ (sy_i F 4).toInt ∧ (sy_i F 4).toInt < 403)
    (h5 : ((sy_ai F 25).getD (sy_i F 4).toNatClampNeg 0).toInt ≤ 27)
    (h6 : (sy_i F 6).toInt ≤ 0)
    (h7 : (sy_i F 4).toInt = 400)
    (h8 : (sy_i F 6).toInt ≤ 0)
    (h9 : 0 ≤ (sy_i F 4).toInt ∧ (sy_i F 4).toInt < 403)
    (k : ∀ F1 : Nat → sy_d, (∀ j, j < 69 → j ≠ 6 ∧ j ≠ 7 → F1 j = F j) → F1 6 = .inl (.int ((2 : Int32))) → F1 7 = .inl (.int ((sy_ai F 26).getD (sy_i F 4).toNatClampNeg 0)) → F1 69 = .inl (.int (((sy_ai F 25).getD (sy_i F 4).toNatClampNeg 0) - ((22 : Int32)))) → hd_W Ls xs d jm_M154 Q (233, sy_dL F1 [some (.inl (.ref 1000)), none], sy_dS F1 [.inr (.inl 69), .inl (.ref 1000)], sy_dh F1 X1 X2 (iv_H 4), 0, 0)) :
    hd_W Ls xs d jm_M154 Q (0, sy_dL F [some (.inl (.ref 1000)), none], sy_dS F [], sy_dh F X1 X2 (iv_H 4), 0, 0) := by
  refine hd_run (s := 4) (nv := 69) (pc := 233) (L := [some (.inl (.ref 1000)), none]) (S := [.inr (.inl 69), .inl (.ref 1000)]) (uh := hd_ov (iv_id 0 iv_B4) [(6, .inl (.inl (.int 2))), (7, .inl (.inr (.inl 73)))]) (ul := [.inl (.inr (.inl 71))]) (f := true) (sp := [91, 119, 137, 156, 176, 233]) (d0 := 4) (O := [false, false, false, false, false, false, false, true, false, true, true, false, true]) (T := [(30, [.inr (.inl 4)], [.inr (.inl 25)]), (30, [.inr (.inl 4)], [.inr (.inl 25)]), (1, [.inr (.inl 70), .inl (.int 22)], []), (30, [.inr (.inl 4)], [.inr (.inl 25)]), (30, [.inr (.inl 4)], [.inr (.inl 26)])]) (P := [(6, .inr (.inl 4), .inl (.ref 403)), (0, .inr (.inl 69), .inl (.int 26)), (6, .inr (.inl 4), .inl (.ref 403)), (3, .inr (.inl 71), .inl (.int 0)), (6, .inr (.inl 4), .inl (.ref 403)), (4, .inr (.inl 72), .inl (.int 27)), (4, .inr (.inl 6), .inl (.int 0)), (0, .inr (.inl 4), .inl (.int 400)), (4, .inr (.inl 6), .inl (.int 0)), (6, .inr (.inl 4), .inl (.ref 403))]) jm_ok154 (by decide +kernel) (by decide +kernel) hd F X1 X2 (fun F' hF hs => ?_)
  have b4 := hd_b (F := F) (F' := F') (k := 4) (hF 4 (by decide))
  have a25 := hd_ba (F := F) (F' := F') (k := 25) (hF 25 (by decide))
  have t69 : sy_dv F' (.inr (.inl 69)) = .int ((sy_ai F 25).getD (sy_i F 4).toNatClampNeg 0) := hd_rd (hs 0 _ rfl) b4 a25
  have t70 : sy_dv F' (.inr (.inl 70)) = .int ((sy_ai F 25).getD (sy_i F 4).toNatClampNeg 0) := hd_rd (hs 1 _ rfl) b4 a25
  have t71 : sy_dv F' (.inr (.inl 71)) = .int (((sy_ai F 25).getD (sy_i F 4).toNatClampNeg 0) - ((22 : Int32))) := hd_o (hs 2 _ rfl) t70 rfl rfl
  have t72 : sy_dv F' (.inr (.inl 72)) = .int ((sy_ai F 25).getD (sy_i F 4).toNatClampNeg 0) := hd_rd (hs 3 _ rfl) b4 a25
  have b6 := hd_b (F := F) (F' := F') (k := 6) (hF 6 (by decide))
  have a26 := hd_ba (F := F) (F' := F') (k := 26) (hF 26 (by decide))
  have t73 : sy_dv F' (.inr (.inl 73)) = .int ((sy_ai F 26).getD (sy_i F 4).toNatClampNeg 0) := hd_rd (hs 4 _ rfl) b4 a26
  have hB' : iv_in F' iv_B4 := iv_in_eq hB (fun j hj => hF j (Nat.lt_of_lt_of_le hj (by decide +kernel)))
  refine ⟨List.forall_mem_cons.mpr ⟨hd_pb b4 (by first | exact h0 | exact h0), List.forall_mem_cons.mpr ⟨hd_p0 t69 rfl (by have hc : ((26) : Int32).toInt = 26 := (by decide); omega), List.forall_mem_cons.mpr ⟨hd_pb b4 (by first | exact h2 | exact h2), List.forall_mem_cons.mpr ⟨hd_p3 t71 rfl (by have hc : ((0) : Int32).toInt = 0 := (by decide); omega), List.forall_mem_cons.mpr ⟨hd_pb b4 (by first | exact h4 | exact h4), List.forall_mem_cons.mpr ⟨hd_p4 t72 rfl (by have hc : ((27) : Int32).toInt = 27 := (by decide); omega), List.forall_mem_cons.mpr ⟨hd_p4 b6 rfl (by have hc : ((0) : Int32).toInt = 0 := (by decide); omega), List.forall_mem_cons.mpr ⟨hd_p0 b4 rfl (by have hc : ((400) : Int32).toInt = 400 := (by decide); omega), List.forall_mem_cons.mpr ⟨hd_p4 b6 rfl (by have hc : ((0) : Int32).toInt = 0 := (by decide); omega), List.forall_mem_cons.mpr ⟨hd_pb b4 (by first | exact h9 | exact h9), fun _ h => absurd h List.not_mem_nil⟩⟩⟩⟩⟩⟩⟩⟩⟩⟩, ?_⟩
  refine k _ ?_ ?_ ?_ ?_
  · exact fun j hj hn => (hd_keep hB' (Nat.lt_of_lt_of_le hj (by decide +kernel)) (by simp; omega)).trans (hF j (by omega))
  · exact hd_gi (x := .inl (.int 2)) (by decide +kernel) rfl
  · exact hd_gi (x := .inr (.inl 73)) (by decide +kernel) t73
  · exact hd_gi (x := .inr (.inl 71)) (by decide +kernel) t71
theorem to_0_p28 {Ls : Nat} {xs : Nat → Int32} {d : Nat} {Q : Option Value → jm_h → Prop} (hd : 5 ≤ d) (F : Nat → sy_d) (X1 X2 : List jm_c) (hB : iv_in F iv_B4)
    (h0 : 0 ≤ (sy_i F 4).toInt ∧ (sy_i F 4).toInt < 403)
    (h1 : ((sy_ai F 25).getD (sy_i F 4).toNatClampNeg 0).toInt = 26)
    (h2 : 0 ≤ (sy_i F 4).toInt ∧ (sy_i F 4).toInt < 403)
    (h3 : 0 ≤ (((sy_ai F 25).getD (sy_i F 4).toNatClampNeg 0) - ((22 : Int32))).toInt)
    (h4 : 0 ≤ (sy_i F 4).toInt ∧ (sy_i F 4).toInt < 403)
    (h5 : ((sy_ai F 25).getD (sy_i F 4).toNatClampNeg 0).toInt ≤ 27)
    (h6 : 0 < (sy_i F 6).toInt)
    (k : ∀ F1 : Nat → sy_d, (∀ j, j < 69 → True → F1 j = F j) → Q (none) (sy_dh F1 X1 X2 (iv_H 4))) :
    hd_W Ls xs d jm_M154 Q (0, sy_dL F [some (.inl (.ref 1000)), none], sy_dS F [], sy_dh F X1 X2 (iv_H 4), 0, 0) := by
  refine hd_ret (s := 4) (nv := 69) (v := none) (uh := hd_ov (iv_id 0 iv_B4) []) (f := true) (sp := [91, 119, 137, 156, 176, 233]) (d0 := 4) (O := [false, false, false, false, false, false, false, true, false, true, false]) (T := [(30, [.inr (.inl 4)], [.inr (.inl 25)]), (30, [.inr (.inl 4)], [.inr (.inl 25)]), (1, [.inr (.inl 70), .inl (.int 22)], []), (30, [.inr (.inl 4)], [.inr (.inl 25)])]) (P := [(6, .inr (.inl 4), .inl (.ref 403)), (0, .inr (.inl 69), .inl (.int 26)), (6, .inr (.inl 4), .inl (.ref 403)), (3, .inr (.inl 71), .inl (.int 0)), (6, .inr (.inl 4), .inl (.ref 403)), (4, .inr (.inl 72), .inl (.int 27)), (5, .inr (.inl 6), .inl (.int 0))]) jm_ok154 (by decide +kernel) (by decide +kernel) hd F X1 X2 (fun F' hF hs => ?_)
  have b4 := hd_b (F := F) (F' := F') (k := 4) (hF 4 (by decide))
  have a25 := hd_ba (F := F) (F' := F') (k := 25) (hF 25 (by decide))
  have t69 : sy_dv F' (.inr (.inl 69)) = .int ((sy_ai F 25).getD (sy_i F 4).toNatClampNeg 0) := hd_rd (hs 0 _ rfl) b4 a25
  have t70 : sy_dv F' (.inr (.inl 70)) = .int ((sy_ai F 25).getD (sy_i F 4).toNatClampNeg 0) := hd_rd (hs 1 _ rfl) b4 a25
  have t71 : sy_dv F' (.inr (.inl 71)) = .int (((sy_ai F 25).getD (sy_i F 4).toNatClampNeg 0) - ((22 : Int32))) := hd_o (hs 2 _ rfl) t70 rfl rfl
  have t72 : sy_dv F' (.inr (.inl 72)) = .int ((sy_ai F 25).getD (sy_i F 4).toNatClampNeg 0) := hd_rd (hs 3 _ rfl) b4 a25
  have b6 := hd_b (F := F) (F' := F') (k := 6) (hF 6 (by decide))
  have hB' : iv_in F' iv_B4 := iv_in_eq hB (fun j hj => hF j (Nat.lt_of_lt_of_le hj (by decide +kernel)))
  refine ⟨List.forall_mem_cons.mpr ⟨hd_pb b4 (by first | exact h0 | exact h0), List.forall_mem_cons.mpr ⟨hd_p0 t69 rfl (by have hc : ((26) : Int32).toInt = 26 := (by decide); omega), List.forall_mem_cons.mpr ⟨hd_pb b4 (by first | exact h2 | exact h2), List.forall_mem_cons.mpr ⟨hd_p3 t71 rfl (by have hc : ((0) : Int32).toInt = 0 := (by decide); omega), List.forall_mem_cons.mpr ⟨hd_pb b4 (by first | exact h4 | exact h4), List.forall_mem_cons.mpr ⟨hd_p4 t72 rfl (by have hc : ((27) : Int32).toInt = 27 := (by decide); omega), List.forall_mem_cons.mpr ⟨hd_p5 b6 rfl (by have hc : ((0) : Int32).toInt = 0 := (by decide); omega), fun _ h => absurd h List.not_mem_nil⟩⟩⟩⟩⟩⟩⟩, ?_⟩
  refine k _ ?_
  · exact fun j hj _ => (hd_keep hB' (Nat.lt_of_lt_of_le hj (by decide +kernel)) (by simp)).trans (hF j (by omega))
theorem to_0_p29 {Ls : Nat} {xs : Nat → Int32} {d : Nat} {Q : Option Value → jm_h → Prop} (hd : 5 ≤ d) (F : Nat → sy_d) (X1 X2 : List jm_c) (hB : iv_in F iv_B4)
    (h0 : 0 ≤ (sy_i F 4).toInt ∧ (sy_i F 4).toInt < 403)
    (h1 : ((sy_ai F 25).getD (sy_i F 4).toNatClampNeg 0).toInt = 27)
    (h2 : 0 ≤ (sy_i F 4).toInt ∧ (sy_i F 4).toInt < 403)
    (h3 : 0 ≤ (((sy_ai F 25).getD (sy_i F 4).toNatClampNeg 0) - ((22 : Int32))).toInt)
    (h4 : 0 ≤ (sy_i F 4).toInt ∧ (sy_i F 4).toInt < 403)
    (h5 : ((sy_ai F 25).getD (sy_i F 4).toNatClampNeg 0).toInt ≤ 27)
    (h6 : (sy_i F 6).toInt ≤ 0)
    (h7 : (sy_i F 4).toInt ≠ 400)
    (k : ∀ F1 : Nat → sy_d, (∀ j, j < 69 → j ≠ 4 → F1 j = F j) → F1 4 = .inl (.int ((sy_i F 4) + ((1 : Int32)))) → F1 69 = .inl (.int (((sy_ai F 25).getD (sy_i F 4).toNatClampNeg 0) - ((22 : Int32)))) → hd_W Ls xs d jm_M154 Q (233, sy_dL F1 [some (.inl (.ref 1000)), none], sy_dS F1 [.inr (.inl 69), .inl (.ref 1000)], sy_dh F1 X1 X2 (iv_H 4), 0, 0)) :
    hd_W Ls xs d jm_M154 Q (0, sy_dL F [some (.inl (.ref 1000)), none], sy_dS F [], sy_dh F X1 X2 (iv_H 4), 0, 0) := by
  refine hd_run (s := 4) (nv := 69) (pc := 233) (L := [some (.inl (.ref 1000)), none]) (S := [.inr (.inl 69), .inl (.ref 1000)]) (uh := hd_ov (iv_id 0 iv_B4) [(4, .inl (.inr (.inl 73)))]) (ul := [.inl (.inr (.inl 71))]) (f := true) (sp := [91, 119, 137, 156, 176, 233]) (d0 := 4) (O := [false, false, false, false, false, false, false, false, true, false, true, true, true]) (T := [(30, [.inr (.inl 4)], [.inr (.inl 25)]), (30, [.inr (.inl 4)], [.inr (.inl 25)]), (1, [.inr (.inl 70), .inl (.int 22)], []), (30, [.inr (.inl 4)], [.inr (.inl 25)]), (0, [.inr (.inl 4), .inl (.int 1)], [])]) (P := [(6, .inr (.inl 4), .inl (.ref 403)), (0, .inr (.inl 69), .inl (.int 27)), (6, .inr (.inl 4), .inl (.ref 403)), (3, .inr (.inl 71), .inl (.int 0)), (6, .inr (.inl 4), .inl (.ref 403)), (4, .inr (.inl 72), .inl (.int 27)), (4, .inr (.inl 6), .inl (.int 0)), (1, .inr (.inl 4), .inl (.int 400))]) jm_ok154 (by decide +kernel) (by decide +kernel) hd F X1 X2 (fun F' hF hs => ?_)
  have b4 := hd_b (F := F) (F' := F') (k := 4) (hF 4 (by decide))
  have a25 := hd_ba (F := F) (F' := F') (k := 25) (hF 25 (by decide))
  have t69 : sy_dv F' (.inr (.inl 69)) = .int ((sy_ai F 25).getD (sy_i F 4).toNatClampNeg 0) := hd_rd (hs 0 _ rfl) b4 a25
  have t70 : sy_dv F' (.inr (.inl 70)) = .int ((sy_ai F 25).getD (sy_i F 4).toNatClampNeg 0) := hd_rd (hs 1 _ rfl) b4 a25
  have t71 : sy_dv F' (.inr (.inl 71)) = .int (((sy_ai F 25).getD (sy_i F 4).toNatClampNeg 0) - ((22 : Int32))) := hd_o (hs 2 _ rfl) t70 rfl rfl
  have t72 : sy_dv F' (.inr (.inl 72)) = .int ((sy_ai F 25).getD (sy_i F 4).toNatClampNeg 0) := hd_rd (hs 3 _ rfl) b4 a25
  have b6 := hd_b (F := F) (F' := F') (k := 6) (hF 6 (by decide))
  have t73 : sy_dv F' (.inr (.inl 73)) = .int ((sy_i F 4) + ((1 : Int32))) := hd_o (hs 4 _ rfl) b4 rfl rfl
  have hB' : iv_in F' iv_B4 := iv_in_eq hB (fun j hj => hF j (Nat.lt_of_lt_of_le hj (by decide +kernel)))
  refine ⟨List.forall_mem_cons.mpr ⟨hd_pb b4 (by first | exact h0 | exact h0), List.forall_mem_cons.mpr ⟨hd_p0 t69 rfl (by have hc : ((27) : Int32).toInt = 27 := (by decide); omega), List.forall_mem_cons.mpr ⟨hd_pb b4 (by first | exact h2 | exact h2), List.forall_mem_cons.mpr ⟨hd_p3 t71 rfl (by have hc : ((0) : Int32).toInt = 0 := (by decide); omega), List.forall_mem_cons.mpr ⟨hd_pb b4 (by first | exact h4 | exact h4), List.forall_mem_cons.mpr ⟨hd_p4 t72 rfl (by have hc : ((27) : Int32).toInt = 27 := (by decide); omega), List.forall_mem_cons.mpr ⟨hd_p4 b6 rfl (by have hc : ((0) : Int32).toInt = 0 := (by decide); omega), List.forall_mem_cons.mpr ⟨hd_p1 b4 rfl (by have hc : ((400) : Int32).toInt = 400 := (by decide); omega), fun _ h => absurd h List.not_mem_nil⟩⟩⟩⟩⟩⟩⟩⟩, ?_⟩
  refine k _ ?_ ?_ ?_
  · exact fun j hj hn => (hd_keep hB' (Nat.lt_of_lt_of_le hj (by decide +kernel)) (by simp; omega)).trans (hF j (by omega))
  · exact hd_gi (x := .inr (.inl 73)) (by decide +kernel) t73
  · exact hd_gi (x := .inr (.inl 71)) (by decide +kernel) t71
theorem to_0_p30 {Ls : Nat} {xs : Nat → Int32} {d : Nat} {Q : Option Value → jm_h → Prop} (hd : 5 ≤ d) (F : Nat → sy_d) (X1 X2 : List jm_c) (hB : iv_in F iv_B4)
    (h0 : 0 ≤ (sy_i F 4).toInt ∧ (sy_i F 4).toInt < 403)
    (h1 : ((sy_ai F 25).getD (sy_i F 4).toNatClampNeg 0).toInt = 27)
    (h2 : 0 ≤ (sy_i F 4).toInt ∧ (sy_i F 4).toInt < 403)
    (h3 : 0 ≤ (((sy_ai F 25).getD (sy_i F 4).toNatClampNeg 0) - ((22 : Int32))).toInt)
    (h4 : 0 ≤ (sy_i F 4).toInt ∧ (sy_i F 4).toInt < 403)
    (h5 : ((sy_ai F 25).getD (sy_i F 4).toNatClampNeg 0).toInt ≤ 27)
    (h6 : (sy_i F 6).toInt ≤ 0)
    (h7 : (sy_i F 4).toInt = 400)
    (h8 : (sy_i F 6).toInt ≤ 0)
    (h9 : 0 ≤ (sy_i F 4).toInt ∧ (sy_i F 4).toInt < 403)
    (k : ∀ F1 : Nat → sy_d, (∀ j, j < 69 → j ≠ 6 ∧ j ≠ 7 → F1 j = F j) → F1 6 = .inl (.int ((2 : Int32))) → F1 7 = .inl (.int ((sy_ai F 26).getD (sy_i F 4).toNatClampNeg 0)) → F1 69 = .inl (.int (((sy_ai F 25).getD (sy_i F 4).toNatClampNeg 0) - ((22 : Int32)))) → hd_W Ls xs d jm_M154 Q (233, sy_dL F1 [some (.inl (.ref 1000)), none], sy_dS F1 [.inr (.inl 69), .inl (.ref 1000)], sy_dh F1 X1 X2 (iv_H 4), 0, 0)) :
    hd_W Ls xs d jm_M154 Q (0, sy_dL F [some (.inl (.ref 1000)), none], sy_dS F [], sy_dh F X1 X2 (iv_H 4), 0, 0) := by
  refine hd_run (s := 4) (nv := 69) (pc := 233) (L := [some (.inl (.ref 1000)), none]) (S := [.inr (.inl 69), .inl (.ref 1000)]) (uh := hd_ov (iv_id 0 iv_B4) [(6, .inl (.inl (.int 2))), (7, .inl (.inr (.inl 73)))]) (ul := [.inl (.inr (.inl 71))]) (f := true) (sp := [91, 119, 137, 156, 176, 233]) (d0 := 4) (O := [false, false, false, false, false, false, false, false, true, false, true, true, false, true]) (T := [(30, [.inr (.inl 4)], [.inr (.inl 25)]), (30, [.inr (.inl 4)], [.inr (.inl 25)]), (1, [.inr (.inl 70), .inl (.int 22)], []), (30, [.inr (.inl 4)], [.inr (.inl 25)]), (30, [.inr (.inl 4)], [.inr (.inl 26)])]) (P := [(6, .inr (.inl 4), .inl (.ref 403)), (0, .inr (.inl 69), .inl (.int 27)), (6, .inr (.inl 4), .inl (.ref 403)), (3, .inr (.inl 71), .inl (.int 0)), (6, .inr (.inl 4), .inl (.ref 403)), (4, .inr (.inl 72), .inl (.int 27)), (4, .inr (.inl 6), .inl (.int 0)), (0, .inr (.inl 4), .inl (.int 400)), (4, .inr (.inl 6), .inl (.int 0)), (6, .inr (.inl 4), .inl (.ref 403))]) jm_ok154 (by decide +kernel) (by decide +kernel) hd F X1 X2 (fun F' hF hs => ?_)
  have b4 := hd_b (F := F) (F' := F') (k := 4) (hF 4 (by decide))
  have a25 := hd_ba (F := F) (F' := F') (k := 25) (hF 25 (by decide))
  have t69 : sy_dv F' (.inr (.inl 69)) = .int ((sy_ai F 25).getD (sy_i F 4).toNatClampNeg 0) := hd_rd (hs 0 _ rfl) b4 a25
  have t70 : sy_dv F' (.inr (.inl 70)) = .int ((sy_ai F 25).getD (sy_i F 4).toNatClampNeg 0) := hd_rd (hs 1 _ rfl) b4 a25
  have t71 : sy_dv F' (.inr (.inl 71)) = .int (((sy_ai F 25).getD (sy_i F 4).toNatClampNeg 0) - ((22 : Int32))) := hd_o (hs 2 _ rfl) t70 rfl rfl
  have t72 : sy_dv F' (.inr (.inl 72)) = .int ((sy_ai F 25).getD (sy_i F 4).toNatClampNeg 0) := hd_rd (hs 3 _ rfl) b4 a25
  have b6 := hd_b (F := F) (F' := F') (k := 6) (hF 6 (by decide))
  have a26 := hd_ba (F := F) (F' := F') (k := 26) (hF 26 (by decide))
  have t73 : sy_dv F' (.inr (.inl 73)) = .int ((sy_ai F 26).getD (sy_i F 4).toNatClampNeg 0) := hd_rd (hs 4 _ rfl) b4 a26
  have hB' : iv_in F' iv_B4 := iv_in_eq hB (fun j hj => hF j (Nat.lt_of_lt_of_le hj (by decide +kernel)))
  refine ⟨List.forall_mem_cons.mpr ⟨hd_pb b4 (by first | exact h0 | exact h0), List.forall_mem_cons.mpr ⟨hd_p0 t69 rfl (by have hc : ((27) : Int32).toInt = 27 := (by decide); omega), List.forall_mem_cons.mpr ⟨hd_pb b4 (by first | exact h2 | exact h2), List.forall_mem_cons.mpr ⟨hd_p3 t71 rfl (by have hc : ((0) : Int32).toInt = 0 := (by decide); omega), List.forall_mem_cons.mpr ⟨hd_pb b4 (by first | exact h4 | exact h4), List.forall_mem_cons.mpr ⟨hd_p4 t72 rfl (by have hc : ((27) : Int32).toInt = 27 := (by decide); omega), List.forall_mem_cons.mpr ⟨hd_p4 b6 rfl (by have hc : ((0) : Int32).toInt = 0 := (by decide); omega), List.forall_mem_cons.mpr ⟨hd_p0 b4 rfl (by have hc : ((400) : Int32).toInt = 400 := (by decide); omega), List.forall_mem_cons.mpr ⟨hd_p4 b6 rfl (by have hc : ((0) : Int32).toInt = 0 := (by decide); omega), List.forall_mem_cons.mpr ⟨hd_pb b4 (by first | exact h9 | exact h9), fun _ h => absurd h List.not_mem_nil⟩⟩⟩⟩⟩⟩⟩⟩⟩⟩, ?_⟩
  refine k _ ?_ ?_ ?_ ?_
  · exact fun j hj hn => (hd_keep hB' (Nat.lt_of_lt_of_le hj (by decide +kernel)) (by simp; omega)).trans (hF j (by omega))
  · exact hd_gi (x := .inl (.int 2)) (by decide +kernel) rfl
  · exact hd_gi (x := .inr (.inl 73)) (by decide +kernel) t73
  · exact hd_gi (x := .inr (.inl 71)) (by decide +kernel) t71
theorem to_0_p31 {Ls : Nat} {xs : Nat → Int32} {d : Nat} {Q : Option Value → jm_h → Prop} (hd : 5 ≤ d) (F : Nat → sy_d) (X1 X2 : List jm_c) (hB : iv_in F iv_B4)
    (h0 : 0 ≤ (sy_i F 4).toInt ∧ (sy_i F 4).toInt < 403)
    (h1 : ((sy_ai F 25).getD (sy_i F 4).toNatClampNeg 0).toInt = 27)
    (h2 : 0 ≤ (sy_i F 4).toInt ∧ (sy_i F 4).toInt < 403)
    (h3 : 0 ≤ (((sy_ai F 25).getD (sy_i F 4).toNatClampNeg 0) - ((22 : Int32))).toInt)
    (h4 : 0 ≤ (sy_i F 4).toInt ∧ (sy_i F 4).toInt < 403)
    (h5 : ((sy_ai F 25).getD (sy_i F 4).toNatClampNeg 0).toInt ≤ 27)
    (h6 : 0 < (sy_i F 6).toInt)
    (k : ∀ F1 : Nat → sy_d, (∀ j, j < 69 → True → F1 j = F j) → Q (none) (sy_dh F1 X1 X2 (iv_H 4))) :
    hd_W Ls xs d jm_M154 Q (0, sy_dL F [some (.inl (.ref 1000)), none], sy_dS F [], sy_dh F X1 X2 (iv_H 4), 0, 0) := by
  refine hd_ret (s := 4) (nv := 69) (v := none) (uh := hd_ov (iv_id 0 iv_B4) []) (f := true) (sp := [91, 119, 137, 156, 176, 233]) (d0 := 4) (O := [false, false, false, false, false, false, false, false, true, false, true, false]) (T := [(30, [.inr (.inl 4)], [.inr (.inl 25)]), (30, [.inr (.inl 4)], [.inr (.inl 25)]), (1, [.inr (.inl 70), .inl (.int 22)], []), (30, [.inr (.inl 4)], [.inr (.inl 25)])]) (P := [(6, .inr (.inl 4), .inl (.ref 403)), (0, .inr (.inl 69), .inl (.int 27)), (6, .inr (.inl 4), .inl (.ref 403)), (3, .inr (.inl 71), .inl (.int 0)), (6, .inr (.inl 4), .inl (.ref 403)), (4, .inr (.inl 72), .inl (.int 27)), (5, .inr (.inl 6), .inl (.int 0))]) jm_ok154 (by decide +kernel) (by decide +kernel) hd F X1 X2 (fun F' hF hs => ?_)
  have b4 := hd_b (F := F) (F' := F') (k := 4) (hF 4 (by decide))
  have a25 := hd_ba (F := F) (F' := F') (k := 25) (hF 25 (by decide))
  have t69 : sy_dv F' (.inr (.inl 69)) = .int ((sy_ai F 25).getD (sy_i F 4).toNatClampNeg 0) := hd_rd (hs 0 _ rfl) b4 a25
  have t70 : sy_dv F' (.inr (.inl 70)) = .int ((sy_ai F 25).getD (sy_i F 4).toNatClampNeg 0) := hd_rd (hs 1 _ rfl) b4 a25
  have t71 : sy_dv F' (.inr (.inl 71)) = .int (((sy_ai F 25).getD (sy_i F 4).toNatClampNeg 0) - ((22 : Int32))) := hd_o (hs 2 _ rfl) t70 rfl rfl
  have t72 : sy_dv F' (.inr (.inl 72)) = .int ((sy_ai F 25).getD (sy_i F 4).toNatClampNeg 0) := hd_rd (hs 3 _ rfl) b4 a25
  have b6 := hd_b (F := F) (F' := F') (k := 6) (hF 6 (by decide))
  have hB' : iv_in F' iv_B4 := iv_in_eq hB (fun j hj => hF j (Nat.lt_of_lt_of_le hj (by decide +kernel)))
  refine ⟨List.forall_mem_cons.mpr ⟨hd_pb b4 (by first | exact h0 | exact h0), List.forall_mem_cons.mpr ⟨hd_p0 t69 rfl (by have hc : ((27) : Int32).toInt = 27 := (by decide); omega), List.forall_mem_cons.mpr ⟨hd_pb b4 (by first | exact h2 | exact h2), List.forall_mem_cons.mpr ⟨hd_p3 t71 rfl (by have hc : ((0) : Int32).toInt = 0 := (by decide); omega), List.forall_mem_cons.mpr ⟨hd_pb b4 (by first | exact h4 | exact h4), List.forall_mem_cons.mpr ⟨hd_p4 t72 rfl (by have hc : ((27) : Int32).toInt = 27 := (by decide); omega), List.forall_mem_cons.mpr ⟨hd_p5 b6 rfl (by have hc : ((0) : Int32).toInt = 0 := (by decide); omega), fun _ h => absurd h List.not_mem_nil⟩⟩⟩⟩⟩⟩⟩, ?_⟩
  refine k _ ?_
  · exact fun j hj _ => (hd_keep hB' (Nat.lt_of_lt_of_le hj (by decide +kernel)) (by simp)).trans (hF j (by omega))
theorem to_0_p32 {Ls : Nat} {xs : Nat → Int32} {d : Nat} {Q : Option Value → jm_h → Prop} (hd : 5 ≤ d) (F : Nat → sy_d) (X1 X2 : List jm_c) (hB : iv_in F iv_B4)
    (h0 : 0 ≤ (sy_i F 4).toInt ∧ (sy_i F 4).toInt < 403)
    (h1 : ((sy_ai F 25).getD (sy_i F 4).toNatClampNeg 0).toInt = 28)
    (k : ∀ F1 : Nat → sy_d, (∀ j, j < 69 → True → F1 j = F j) → F1 69 = .inl (.int (sy_i F 12)) → hd_W Ls xs d jm_M154 Q (137, sy_dL F1 [some (.inl (.ref 1000)), none], sy_dS F1 [.inl (.int 99), .inl (.int 0), .inl (.ref 1000), .inr (.inl 69), .inl (.ref 1017)], sy_dh F1 X1 X2 (iv_H 4), 0, 0)) :
    hd_W Ls xs d jm_M154 Q (0, sy_dL F [some (.inl (.ref 1000)), none], sy_dS F [], sy_dh F X1 X2 (iv_H 4), 0, 0) := by
  refine hd_run (s := 4) (nv := 69) (pc := 137) (L := [some (.inl (.ref 1000)), none]) (S := [.inl (.int 99), .inl (.int 0), .inl (.ref 1000), .inr (.inl 69), .inl (.ref 1017)]) (uh := hd_ov (iv_id 0 iv_B4) []) (ul := [.inl (.inr (.inl 12))]) (f := true) (sp := [91, 119, 137, 156, 176, 233]) (d0 := 4) (O := [false, false, false, false, false, false, false, false, false, true]) (T := [(30, [.inr (.inl 4)], [.inr (.inl 25)])]) (P := [(6, .inr (.inl 4), .inl (.ref 403)), (0, .inr (.inl 69), .inl (.int 28))]) jm_ok154 (by decide +kernel) (by decide +kernel) hd F X1 X2 (fun F' hF hs => ?_)
  have b4 := hd_b (F := F) (F' := F') (k := 4) (hF 4 (by decide))
  have a25 := hd_ba (F := F) (F' := F') (k := 25) (hF 25 (by decide))
  have t69 : sy_dv F' (.inr (.inl 69)) = .int ((sy_ai F 25).getD (sy_i F 4).toNatClampNeg 0) := hd_rd (hs 0 _ rfl) b4 a25
  have b12 := hd_b (F := F) (F' := F') (k := 12) (hF 12 (by decide))
  have hB' : iv_in F' iv_B4 := iv_in_eq hB (fun j hj => hF j (Nat.lt_of_lt_of_le hj (by decide +kernel)))
  refine ⟨List.forall_mem_cons.mpr ⟨hd_pb b4 (by first | exact h0 | exact h0), List.forall_mem_cons.mpr ⟨hd_p0 t69 rfl (by have hc : ((28) : Int32).toInt = 28 := (by decide); omega), fun _ h => absurd h List.not_mem_nil⟩⟩, ?_⟩
  refine k _ ?_ ?_
  · exact fun j hj _ => (hd_keep hB' (Nat.lt_of_lt_of_le hj (by decide +kernel)) (by simp)).trans (hF j (by omega))
  · exact hd_gi (x := .inr (.inl 12)) (by decide +kernel) b12
theorem to_0_p33 {Ls : Nat} {xs : Nat → Int32} {d : Nat} {Q : Option Value → jm_h → Prop} (hd : 5 ≤ d) (F : Nat → sy_d) (X1 X2 : List jm_c) (hB : iv_in F iv_B4)
    (h0 : 0 ≤ (sy_i F 4).toInt ∧ (sy_i F 4).toInt < 403)
    (h1 : ((sy_ai F 25).getD (sy_i F 4).toNatClampNeg 0).toInt = 29)
    (k : ∀ F1 : Nat → sy_d, (∀ j, j < 69 → True → F1 j = F j) → F1 69 = .inl (.int (sy_i F 12)) → hd_W Ls xs d jm_M154 Q (156, sy_dL F1 [some (.inl (.ref 1000)), none], sy_dS F1 [.inl (.int 99), .inl (.int 0), .inl (.ref 1000), .inr (.inl 69), .inl (.ref 1018)], sy_dh F1 X1 X2 (iv_H 4), 0, 0)) :
    hd_W Ls xs d jm_M154 Q (0, sy_dL F [some (.inl (.ref 1000)), none], sy_dS F [], sy_dh F X1 X2 (iv_H 4), 0, 0) := by
  refine hd_run (s := 4) (nv := 69) (pc := 156) (L := [some (.inl (.ref 1000)), none]) (S := [.inl (.int 99), .inl (.int 0), .inl (.ref 1000), .inr (.inl 69), .inl (.ref 1018)]) (uh := hd_ov (iv_id 0 iv_B4) []) (ul := [.inl (.inr (.inl 12))]) (f := true) (sp := [91, 119, 137, 156, 176, 233]) (d0 := 4) (O := [false, false, false, false, false, false, false, false, false, false, true]) (T := [(30, [.inr (.inl 4)], [.inr (.inl 25)])]) (P := [(6, .inr (.inl 4), .inl (.ref 403)), (0, .inr (.inl 69), .inl (.int 29))]) jm_ok154 (by decide +kernel) (by decide +kernel) hd F X1 X2 (fun F' hF hs => ?_)
  have b4 := hd_b (F := F) (F' := F') (k := 4) (hF 4 (by decide))
  have a25 := hd_ba (F := F) (F' := F') (k := 25) (hF 25 (by decide))
  have t69 : sy_dv F' (.inr (.inl 69)) = .int ((sy_ai F 25).getD (sy_i F 4).toNatClampNeg 0) := hd_rd (hs 0 _ rfl) b4 a25
  have b12 := hd_b (F := F) (F' := F') (k := 12) (hF 12 (by decide))
  have hB' : iv_in F' iv_B4 := iv_in_eq hB (fun j hj => hF j (Nat.lt_of_lt_of_le hj (by decide +kernel)))
  refine ⟨List.forall_mem_cons.mpr ⟨hd_pb b4 (by first | exact h0 | exact h0), List.forall_mem_cons.mpr ⟨hd_p0 t69 rfl (by have hc : ((29) : Int32).toInt = 29 := (by decide); omega), fun _ h => absurd h List.not_mem_nil⟩⟩, ?_⟩
  refine k _ ?_ ?_
  · exact fun j hj _ => (hd_keep hB' (Nat.lt_of_lt_of_le hj (by decide +kernel)) (by simp)).trans (hF j (by omega))
  · exact hd_gi (x := .inr (.inl 12)) (by decide +kernel) b12
theorem to_0_p34 {Ls : Nat} {xs : Nat → Int32} {d : Nat} {Q : Option Value → jm_h → Prop} (hd : 5 ≤ d) (F : Nat → sy_d) (X1 X2 : List jm_c) (hB : iv_in F iv_B4)
    (h0 : 0 ≤ (sy_i F 4).toInt ∧ (sy_i F 4).toInt < 403)
    (h1 : ((sy_ai F 25).getD (sy_i F 4).toNatClampNeg 0).toInt = 30)
    (k : ∀ F1 : Nat → sy_d, (∀ j, j < 69 → True → F1 j = F j) → F1 69 = .inl (.int (sy_i F 12)) → hd_W Ls xs d jm_M154 Q (176, sy_dL F1 [some (.inl (.ref 1000)), none], sy_dS F1 [.inl (.int 9999), .inl (.int 0), .inl (.ref 1000), .inr (.inl 69), .inl (.ref 1019)], sy_dh F1 X1 X2 (iv_H 4), 0, 0)) :
    hd_W Ls xs d jm_M154 Q (0, sy_dL F [some (.inl (.ref 1000)), none], sy_dS F [], sy_dh F X1 X2 (iv_H 4), 0, 0) := by
  refine hd_run (s := 4) (nv := 69) (pc := 176) (L := [some (.inl (.ref 1000)), none]) (S := [.inl (.int 9999), .inl (.int 0), .inl (.ref 1000), .inr (.inl 69), .inl (.ref 1019)]) (uh := hd_ov (iv_id 0 iv_B4) []) (ul := [.inl (.inr (.inl 12))]) (f := true) (sp := [91, 119, 137, 156, 176, 233]) (d0 := 4) (O := [false, false, false, false, false, false, false, false, false, false, false, true]) (T := [(30, [.inr (.inl 4)], [.inr (.inl 25)])]) (P := [(6, .inr (.inl 4), .inl (.ref 403)), (0, .inr (.inl 69), .inl (.int 30))]) jm_ok154 (by decide +kernel) (by decide +kernel) hd F X1 X2 (fun F' hF hs => ?_)
  have b4 := hd_b (F := F) (F' := F') (k := 4) (hF 4 (by decide))
  have a25 := hd_ba (F := F) (F' := F') (k := 25) (hF 25 (by decide))
  have t69 : sy_dv F' (.inr (.inl 69)) = .int ((sy_ai F 25).getD (sy_i F 4).toNatClampNeg 0) := hd_rd (hs 0 _ rfl) b4 a25
  have b12 := hd_b (F := F) (F' := F') (k := 12) (hF 12 (by decide))
  have hB' : iv_in F' iv_B4 := iv_in_eq hB (fun j hj => hF j (Nat.lt_of_lt_of_le hj (by decide +kernel)))
  refine ⟨List.forall_mem_cons.mpr ⟨hd_pb b4 (by first | exact h0 | exact h0), List.forall_mem_cons.mpr ⟨hd_p0 t69 rfl (by have hc : ((30) : Int32).toInt = 30 := (by decide); omega), fun _ h => absurd h List.not_mem_nil⟩⟩, ?_⟩
  refine k _ ?_ ?_
  · exact fun j hj _ => (hd_keep hB' (Nat.lt_of_lt_of_le hj (by decide +kernel)) (by simp)).trans (hF j (by omega))
  · exact hd_gi (x := .inr (.inl 12)) (by decide +kernel) b12
theorem to_94_p0 {Ls : Nat} {xs : Nat → Int32} {d : Nat} {Q : Option Value → jm_h → Prop} (hd : 5 ≤ d) (F : Nat → sy_d) (X1 X2 : List jm_c) (hB : iv_in F iv_B4)
    (k : ∀ F1 : Nat → sy_d, (∀ j, j < 69 → True → F1 j = F j) → Q (none) (sy_dh F1 X1 X2 (iv_H 4))) :
    hd_W Ls xs d jm_M154 Q (94, sy_dL F [some (.inl (.ref 1000)), none], sy_dS F [], sy_dh F X1 X2 (iv_H 4), 0, 0) := by
  refine hd_ret (s := 4) (nv := 69) (v := none) (uh := hd_ov (iv_id 0 iv_B4) []) (f := false) (sp := []) (d0 := 4) (O := []) (T := []) (P := []) jm_ok154 (by decide +kernel) (by decide +kernel) hd F X1 X2 (fun F' hF hs => ?_)
  have hB' : iv_in F' iv_B4 := iv_in_eq hB (fun j hj => hF j (Nat.lt_of_lt_of_le hj (by decide +kernel)))
  refine ⟨fun _ h => absurd h List.not_mem_nil, ?_⟩
  refine k _ ?_
  · exact fun j hj _ => (hd_keep hB' (Nat.lt_of_lt_of_le hj (by decide +kernel)) (by simp)).trans (hF j (by omega))
theorem to_122_p0 {Ls : Nat} {xs : Nat → Int32} {d : Nat} {Q : Option Value → jm_h → Prop} (hd : 5 ≤ d) (F : Nat → sy_d) (X1 X2 : List jm_c) (hB : iv_in F iv_B4)
    (k : ∀ F1 : Nat → sy_d, (∀ j, j < 69 → True → F1 j = F j) → Q (none) (sy_dh F1 X1 X2 (iv_H 4))) :
    hd_W Ls xs d jm_M154 Q (122, sy_dL F [some (.inl (.ref 1000)), none], sy_dS F [], sy_dh F X1 X2 (iv_H 4), 0, 0) := by
  refine hd_ret (s := 4) (nv := 69) (v := none) (uh := hd_ov (iv_id 0 iv_B4) []) (f := false) (sp := []) (d0 := 4) (O := []) (T := []) (P := []) jm_ok154 (by decide +kernel) (by decide +kernel) hd F X1 X2 (fun F' hF hs => ?_)
  have hB' : iv_in F' iv_B4 := iv_in_eq hB (fun j hj => hF j (Nat.lt_of_lt_of_le hj (by decide +kernel)))
  refine ⟨fun _ h => absurd h List.not_mem_nil, ?_⟩
  refine k _ ?_
  · exact fun j hj _ => (hd_keep hB' (Nat.lt_of_lt_of_le hj (by decide +kernel)) (by simp)).trans (hF j (by omega))
theorem to_140_p0 {Ls : Nat} {xs : Nat → Int32} {d : Nat} {Q : Option Value → jm_h → Prop} (hd : 5 ≤ d) (F : Nat → sy_d) (X1 X2 : List jm_c) (hB : iv_in F iv_B4)
    (h0 : 0 ≤ (sy_i F 69).toInt ∧ (sy_i F 69).toInt < 2)
    (k : ∀ F1 : Nat → sy_d, (∀ j, j < 69 → j ≠ 39 → F1 j = F j) → F1 39 = .inr (.inl (jm_upd (sy_ai F 39) (sy_i F 69).toNatClampNeg (sy_i F 70))) → Q (none) (sy_dh F1 X1 X2 (iv_H 4))) :
    hd_W Ls xs d jm_M154 Q (140, sy_dL F [some (.inl (.ref 1000)), none], sy_dS F [.inr (.inl 70), .inr (.inl 69), .inl (.ref 1017)], sy_dh F X1 X2 (iv_H 4), 0, 0) := by
  refine hd_ret (s := 4) (nv := 71) (v := none) (uh := hd_ov (iv_id 0 iv_B4) [(39, .inr (.inr (.inl 71)))]) (f := false) (sp := []) (d0 := 4) (O := []) (T := [(40, [.inr (.inl 69), .inr (.inl 70)], [.inr (.inl 39)])]) (P := [(6, .inr (.inl 69), .inl (.ref 2))]) jm_ok154 (by decide +kernel) (by decide +kernel) hd F X1 X2 (fun F' hF hs => ?_)
  have b69 := hd_b (F := F) (F' := F') (k := 69) (hF 69 (by decide))
  have b70 := hd_b (F := F) (F' := F') (k := 70) (hF 70 (by decide))
  have a39 := hd_ba (F := F) (F' := F') (k := 39) (hF 39 (by decide))
  have t71 : sy_da F' (.inr (.inl 71)) = .inl (jm_upd (sy_ai F 39) (sy_i F 69).toNatClampNeg (sy_i F 70)) := hd_up (hs 0 _ rfl) b69 b70 a39
  have hB' : iv_in F' iv_B4 := iv_in_eq hB (fun j hj => hF j (Nat.lt_of_lt_of_le hj (by decide +kernel)))
  refine ⟨List.forall_mem_cons.mpr ⟨hd_pb b69 (by first | exact h0 | exact h0), fun _ h => absurd h List.not_mem_nil⟩, ?_⟩
  refine k _ ?_ ?_
  · exact fun j hj hn => (hd_keep hB' (Nat.lt_of_lt_of_le hj (by decide +kernel)) (by simp; omega)).trans (hF j (by omega))
  · exact hd_ga (a := .inr (.inl 71)) (by decide +kernel) t71
theorem to_159_p0 {Ls : Nat} {xs : Nat → Int32} {d : Nat} {Q : Option Value → jm_h → Prop} (hd : 5 ≤ d) (F : Nat → sy_d) (X1 X2 : List jm_c) (hB : iv_in F iv_B4)
    (h0 : 0 ≤ (sy_i F 69).toInt ∧ (sy_i F 69).toInt < 2)
    (k : ∀ F1 : Nat → sy_d, (∀ j, j < 69 → j ≠ 40 → F1 j = F j) → F1 40 = .inr (.inl (jm_upd (sy_ai F 40) (sy_i F 69).toNatClampNeg (sy_i F 70))) → Q (none) (sy_dh F1 X1 X2 (iv_H 4))) :
    hd_W Ls xs d jm_M154 Q (159, sy_dL F [some (.inl (.ref 1000)), none], sy_dS F [.inr (.inl 70), .inr (.inl 69), .inl (.ref 1018)], sy_dh F X1 X2 (iv_H 4), 0, 0) := by
  refine hd_ret (s := 4) (nv := 71) (v := none) (uh := hd_ov (iv_id 0 iv_B4) [(40, .inr (.inr (.inl 71)))]) (f := false) (sp := []) (d0 := 4) (O := []) (T := [(40, [.inr (.inl 69), .inr (.inl 70)], [.inr (.inl 40)])]) (P := [(6, .inr (.inl 69), .inl (.ref 2))]) jm_ok154 (by decide +kernel) (by decide +kernel) hd F X1 X2 (fun F' hF hs => ?_)
  have b69 := hd_b (F := F) (F' := F') (k := 69) (hF 69 (by decide))
  have b70 := hd_b (F := F) (F' := F') (k := 70) (hF 70 (by decide))
  have a40 := hd_ba (F := F) (F' := F') (k := 40) (hF 40 (by decide))
  have t71 : sy_da F' (.inr (.inl 71)) = .inl (jm_upd (sy_ai F 40) (sy_i F 69).toNatClampNeg (sy_i F 70)) := hd_up (hs 0 _ rfl) b69 b70 a40
  have hB' : iv_in F' iv_B4 := iv_in_eq hB (fun j hj => hF j (Nat.lt_of_lt_of_le hj (by decide +kernel)))
  refine ⟨List.forall_mem_cons.mpr ⟨hd_pb b69 (by first | exact h0 | exact h0), fun _ h => absurd h List.not_mem_nil⟩, ?_⟩
  refine k _ ?_ ?_
  · exact fun j hj hn => (hd_keep hB' (Nat.lt_of_lt_of_le hj (by decide +kernel)) (by simp; omega)).trans (hF j (by omega))
  · exact hd_ga (a := .inr (.inl 71)) (by decide +kernel) t71
theorem to_179_p0 {Ls : Nat} {xs : Nat → Int32} {d : Nat} {Q : Option Value → jm_h → Prop} (hd : 5 ≤ d) (F : Nat → sy_d) (X1 X2 : List jm_c) (hB : iv_in F iv_B4)
    (h0 : 0 ≤ (sy_i F 69).toInt ∧ (sy_i F 69).toInt < 2)
    (k : ∀ F1 : Nat → sy_d, (∀ j, j < 69 → j ≠ 41 → F1 j = F j) → F1 41 = .inr (.inl (jm_upd (sy_ai F 41) (sy_i F 69).toNatClampNeg (sy_i F 70))) → Q (none) (sy_dh F1 X1 X2 (iv_H 4))) :
    hd_W Ls xs d jm_M154 Q (179, sy_dL F [some (.inl (.ref 1000)), none], sy_dS F [.inr (.inl 70), .inr (.inl 69), .inl (.ref 1019)], sy_dh F X1 X2 (iv_H 4), 0, 0) := by
  refine hd_ret (s := 4) (nv := 71) (v := none) (uh := hd_ov (iv_id 0 iv_B4) [(41, .inr (.inr (.inl 71)))]) (f := false) (sp := []) (d0 := 4) (O := []) (T := [(40, [.inr (.inl 69), .inr (.inl 70)], [.inr (.inl 41)])]) (P := [(6, .inr (.inl 69), .inl (.ref 2))]) jm_ok154 (by decide +kernel) (by decide +kernel) hd F X1 X2 (fun F' hF hs => ?_)
  have b69 := hd_b (F := F) (F' := F') (k := 69) (hF 69 (by decide))
  have b70 := hd_b (F := F) (F' := F') (k := 70) (hF 70 (by decide))
  have a41 := hd_ba (F := F) (F' := F') (k := 41) (hF 41 (by decide))
  have t71 : sy_da F' (.inr (.inl 71)) = .inl (jm_upd (sy_ai F 41) (sy_i F 69).toNatClampNeg (sy_i F 70)) := hd_up (hs 0 _ rfl) b69 b70 a41
  have hB' : iv_in F' iv_B4 := iv_in_eq hB (fun j hj => hF j (Nat.lt_of_lt_of_le hj (by decide +kernel)))
  refine ⟨List.forall_mem_cons.mpr ⟨hd_pb b69 (by first | exact h0 | exact h0), fun _ h => absurd h List.not_mem_nil⟩, ?_⟩
  refine k _ ?_ ?_
  · exact fun j hj hn => (hd_keep hB' (Nat.lt_of_lt_of_le hj (by decide +kernel)) (by simp; omega)).trans (hF j (by omega))
  · exact hd_ga (a := .inr (.inl 71)) (by decide +kernel) t71
theorem to_236_p0 {Ls : Nat} {xs : Nat → Int32} {d : Nat} {Q : Option Value → jm_h → Prop} (hd : 5 ≤ d) (F : Nat → sy_d) (X1 X2 : List jm_c) (hB : iv_in F iv_B4)
    (k : ∀ F1 : Nat → sy_d, (∀ j, j < 69 → True → F1 j = F j) → Q (none) (sy_dh F1 X1 X2 (iv_H 4))) :
    hd_W Ls xs d jm_M154 Q (236, sy_dL F [some (.inl (.ref 1000)), none], sy_dS F [], sy_dh F X1 X2 (iv_H 4), 0, 0) := by
  refine hd_ret (s := 4) (nv := 70) (v := none) (uh := hd_ov (iv_id 0 iv_B4) []) (f := false) (sp := []) (d0 := 4) (O := []) (T := []) (P := []) jm_ok154 (by decide +kernel) (by decide +kernel) hd F X1 X2 (fun F' hF hs => ?_)
  have hB' : iv_in F' iv_B4 := iv_in_eq hB (fun j hj => hF j (Nat.lt_of_lt_of_le hj (by decide +kernel)))
  refine ⟨fun _ h => absurd h List.not_mem_nil, ?_⟩
  refine k _ ?_
  · exact fun j hj _ => (hd_keep hB' (Nat.lt_of_lt_of_le hj (by decide +kernel)) (by simp)).trans (hF j (by omega))
