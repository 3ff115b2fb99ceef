section
/-! ===== the class parses expressions, way by way (shape 3) ===== -/
theorem k3pu_0_p0 {Ls : Nat} {xs : Nat → Int32} {d : Nat} {Q : Option Value → jm_h → Prop} (hd : 4 ≤ d) (F : Nat → sy_d) (X1 X2 : List jm_c) (hB : iv_in F iv_B0)
    (h0 : 0 ≤ (sy_i F 33).toInt)
    (h1 : (sy_i F 33).toInt ≤ 400)
    (h2 : 0 ≤ (sy_i F 33).toInt ∧ (sy_i F 33).toInt < 401)
    (h3 : ((sy_ai F 39).getD (sy_i F 33).toNatClampNeg 0).toInt ≠ 24)
    (h4 : ((sy_ai F 39).getD (sy_i F 33).toNatClampNeg 0).toInt < 14)
    (h5 : ((sy_ai F 39).getD (sy_i F 33).toNatClampNeg 0).toInt ≠ 40)
    (k : ∀ F1 : Nat → sy_d, (∀ j, j < 82 → j ≠ 34 → F1 j = F j) → F1 34 = .inl (.int ((1 : Int32))) → Q (some (.int ((0 : Int32)))) (sy_dh F1 X1 X2 (iv_H 3))) :
    hd_W Ls xs d jm_M40 Q (0, sy_dL F [some (.inl (.ref 30)), some (.inr (.inl 82)), some (.inr (.inl 83)), none, none], sy_dS F [], sy_dh F X1 X2 (iv_H 3), 0, 0) := by
  refine hd_ret (s := 3) (nv := 84) (v := some (.inl (.int 0))) (uh := hd_ov (iv_id 0 iv_B0) [(34, .inl (.inl (.int 1)))]) (f := true) (sp := [34, 88, 134]) (d0 := 3) (O := [false, false, true, true, false]) (T := [(30, [.inr (.inl 33)], [.inr (.inl 39)])]) (P := [(3, .inr (.inl 33), .inl (.int 0)), (3, .inl (.int 400), .inr (.inl 33)), (6, .inr (.inl 33), .inl (.ref 401)), (1, .inr (.inl 84), .inl (.int 24)), (2, .inr (.inl 84), .inl (.int 14)), (1, .inr (.inl 84), .inl (.int 40))]) jm_ok40 (by decide +kernel) (by decide +kernel) hd F X1 X2 (fun F' hF hs => ?_)
  have b33 := hd_b (F := F) (F' := F') (k := 33) (hF 33 (by decide))
  have a39 := hd_ba (F := F) (F' := F') (k := 39) (hF 39 (by decide))
  have t84 : sy_dv F' (.inr (.inl 84)) = .int ((sy_ai F 39).getD (sy_i F 33).toNatClampNeg 0) := hd_rd (hs 0 _ rfl) b33 a39
  have hB' : iv_in F' iv_B0 := iv_in_eq hB (fun j hj => hF j (Nat.lt_of_lt_of_le hj (by decide +kernel)))
  refine ⟨List.forall_mem_cons.mpr ⟨hd_p3 b33 rfl (by have hc : ((0) : Int32).toInt = 0 := (by decide); omega), List.forall_mem_cons.mpr ⟨hd_p3 rfl b33 (by have hc : ((400) : Int32).toInt = 400 := (by decide); omega), List.forall_mem_cons.mpr ⟨hd_pb b33 (by first | exact h2 | exact h2), List.forall_mem_cons.mpr ⟨hd_p1 t84 rfl (by have hc : ((24) : Int32).toInt = 24 := (by decide); omega), List.forall_mem_cons.mpr ⟨hd_p2 t84 rfl (by have hc : ((14) : Int32).toInt = 14 := (by decide); omega), List.forall_mem_cons.mpr ⟨hd_p1 t84 rfl (by have hc : ((40) : Int32).toInt = 40 := (by decide); omega), fun _ h => absurd h List.not_mem_nil⟩⟩⟩⟩⟩⟩, ?_⟩
  refine k _ ?_ ?_
  · exact fun j hj hn => (hd_keep hB' (Nat.lt_of_lt_of_le hj (by decide +kernel)) (by simp; omega)).trans (hF j (Nat.lt_of_lt_of_le hj (by decide)))
  · exact hd_gi (x := .inl (.int 1)) (by decide +kernel) rfl
theorem k3pu_0_p1 {Ls : Nat} {xs : Nat → Int32} {d : Nat} {Q : Option Value → jm_h → Prop} (hd : 4 ≤ d) (F : Nat → sy_d) (X1 X2 : List jm_c) (hB : iv_in F iv_B0)
    (h0 : 0 ≤ (sy_i F 33).toInt)
    (h1 : (sy_i F 33).toInt ≤ 400)
    (h2 : 0 ≤ (sy_i F 33).toInt ∧ (sy_i F 33).toInt < 401)
    (h3 : ((sy_ai F 39).getD (sy_i F 33).toNatClampNeg 0).toInt ≠ 24)
    (h4 : 14 ≤ ((sy_ai F 39).getD (sy_i F 33).toNatClampNeg 0).toInt)
    (h5 : 22 < ((sy_ai F 39).getD (sy_i F 33).toNatClampNeg 0).toInt)
    (h6 : ((sy_ai F 39).getD (sy_i F 33).toNatClampNeg 0).toInt = 40)
    (h7 : (sy_i F 83).toInt < 6)
    (h8 : 0 ≤ (sy_i F 33).toInt)
    (h9 : (sy_i F 33).toInt ≤ 400)
    (h10 : 0 ≤ (sy_i F 33).toInt ∧ (sy_i F 33).toInt < 401)
    (h11 : ((sy_ai F 39).getD (sy_i F 33).toNatClampNeg 0).toInt = ((sy_ai F 39).getD (sy_i F 33).toNatClampNeg 0).toInt)
    (h12 : (sy_i F 33).toInt < 400)
    (k : ∀ F1 : Nat → sy_d, (∀ j, j < 82 → j ≠ 33 → F1 j = F j) → F1 33 = .inl (.int ((sy_i F 33) + ((1 : Int32)))) → F1 82 = .inl (.int ((sy_i F 83) + ((1 : Int32)))) → F1 83 = .inl (.int (sy_i F 82)) → hd_W Ls xs d jm_M40 Q (134, sy_dL F1 [some (.inl (.ref 30)), none, none, none, none], sy_dS F1 [.inr (.inl 82), .inr (.inl 83), .inl (.ref 30)], sy_dh F1 X1 X2 (iv_H 3), 0, 0)) :
    hd_W Ls xs d jm_M40 Q (0, sy_dL F [some (.inl (.ref 30)), some (.inr (.inl 82)), some (.inr (.inl 83)), none, none], sy_dS F [], sy_dh F X1 X2 (iv_H 3), 0, 0) := by
  refine hd_run (s := 3) (nv := 84) (pc := 134) (L := [some (.inl (.ref 30)), none, none, none, none]) (S := [.inr (.inl 82), .inr (.inl 83), .inl (.ref 30)]) (uh := hd_ov (iv_id 0 iv_B0) [(33, .inl (.inr (.inl 86)))]) (ul := [.inl (.inr (.inl 87)), .inl (.inr (.inl 82))]) (f := true) (sp := [34, 88, 134]) (d0 := 3) (O := [false, false, true, false, true, true, true, false, false, true, true]) (T := [(30, [.inr (.inl 33)], [.inr (.inl 39)]), (30, [.inr (.inl 33)], [.inr (.inl 39)]), (0, [.inr (.inl 33), .inl (.int 1)], []), (0, [.inr (.inl 83), .inl (.int 1)], [])]) (P := [(3, .inr (.inl 33), .inl (.int 0)), (3, .inl (.int 400), .inr (.inl 33)), (6, .inr (.inl 33), .inl (.ref 401)), (1, .inr (.inl 84), .inl (.int 24)), (3, .inr (.inl 84), .inl (.int 14)), (2, .inl (.int 22), .inr (.inl 84)), (0, .inr (.inl 84), .inl (.int 40)), (2, .inr (.inl 83), .inl (.int 6)), (3, .inr (.inl 33), .inl (.int 0)), (3, .inl (.int 400), .inr (.inl 33)), (6, .inr (.inl 33), .inl (.ref 401)), (0, .inr (.inl 85), .inr (.inl 84)), (2, .inr (.inl 33), .inl (.int 400))]) jm_ok40 (by decide +kernel) (by decide +kernel) hd F X1 X2 (fun F' hF hs => ?_)
  have b33 := hd_b (F := F) (F' := F') (k := 33) (hF 33 (by decide))
  have a39 := hd_ba (F := F) (F' := F') (k := 39) (hF 39 (by decide))
  have t84 : sy_dv F' (.inr (.inl 84)) = .int ((sy_ai F 39).getD (sy_i F 33).toNatClampNeg 0) := hd_rd (hs 0 _ rfl) b33 a39
  have b83 := hd_b (F := F) (F' := F') (k := 83) (hF 83 (by decide))
  have t85 : sy_dv F' (.inr (.inl 85)) = .int ((sy_ai F 39).getD (sy_i F 33).toNatClampNeg 0) := hd_rd (hs 1 _ rfl) b33 a39
  have t86 : sy_dv F' (.inr (.inl 86)) = .int ((sy_i F 33) + ((1 : Int32))) := hd_o (hs 2 _ rfl) b33 rfl rfl
  have t87 : sy_dv F' (.inr (.inl 87)) = .int ((sy_i F 83) + ((1 : Int32))) := hd_o (hs 3 _ rfl) b83 rfl rfl
  have b82 := hd_b (F := F) (F' := F') (k := 82) (hF 82 (by decide))
  have hB' : iv_in F' iv_B0 := iv_in_eq hB (fun j hj => hF j (Nat.lt_of_lt_of_le hj (by decide +kernel)))
  refine ⟨List.forall_mem_cons.mpr ⟨hd_p3 b33 rfl (by have hc : ((0) : Int32).toInt = 0 := (by decide); omega), List.forall_mem_cons.mpr ⟨hd_p3 rfl b33 (by have hc : ((400) : Int32).toInt = 400 := (by decide); omega), List.forall_mem_cons.mpr ⟨hd_pb b33 (by first | exact h2 | exact h2), List.forall_mem_cons.mpr ⟨hd_p1 t84 rfl (by have hc : ((24) : Int32).toInt = 24 := (by decide); omega), List.forall_mem_cons.mpr ⟨hd_p3 t84 rfl (by have hc : ((14) : Int32).toInt = 14 := (by decide); omega), List.forall_mem_cons.mpr ⟨hd_p2 rfl t84 (by have hc : ((22) : Int32).toInt = 22 := (by decide); omega), List.forall_mem_cons.mpr ⟨hd_p0 t84 rfl (by have hc : ((40) : Int32).toInt = 40 := (by decide); omega), List.forall_mem_cons.mpr ⟨hd_p2 b83 rfl (by have hc : ((6) : Int32).toInt = 6 := (by decide); omega), List.forall_mem_cons.mpr ⟨hd_p3 b33 rfl (by have hc : ((0) : Int32).toInt = 0 := (by decide); omega), List.forall_mem_cons.mpr ⟨hd_p3 rfl b33 (by have hc : ((400) : Int32).toInt = 400 := (by decide); omega), List.forall_mem_cons.mpr ⟨hd_pb b33 (by first | exact h10 | exact h10), List.forall_mem_cons.mpr ⟨hd_p0 t85 t84 h11, List.forall_mem_cons.mpr ⟨hd_p2 b33 rfl (by have hc : ((400) : Int32).toInt = 400 := (by decide); omega), fun _ h => absurd h List.not_mem_nil⟩⟩⟩⟩⟩⟩⟩⟩⟩⟩⟩⟩⟩, ?_⟩
  refine k _ ?_ ?_ ?_ ?_
  · exact fun j hj hn => (hd_keep hB' (Nat.lt_of_lt_of_le hj (by decide +kernel)) (by simp; omega)).trans (hF j (Nat.lt_of_lt_of_le hj (by decide)))
  · exact hd_gi (x := .inr (.inl 86)) (by decide +kernel) t86
  · exact hd_gi (x := .inr (.inl 87)) (by decide +kernel) t87
  · exact hd_gi (x := .inr (.inl 82)) (by decide +kernel) b82
theorem k3pu_0_p2 {Ls : Nat} {xs : Nat → Int32} {d : Nat} {Q : Option Value → jm_h → Prop} (hd : 4 ≤ d) (F : Nat → sy_d) (X1 X2 : List jm_c) (hB : iv_in F iv_B0)
    (h0 : 0 ≤ (sy_i F 33).toInt)
    (h1 : (sy_i F 33).toInt ≤ 400)
    (h2 : 0 ≤ (sy_i F 33).toInt ∧ (sy_i F 33).toInt < 401)
    (h3 : ((sy_ai F 39).getD (sy_i F 33).toNatClampNeg 0).toInt ≠ 24)
    (h4 : 14 ≤ ((sy_ai F 39).getD (sy_i F 33).toNatClampNeg 0).toInt)
    (h5 : 22 < ((sy_ai F 39).getD (sy_i F 33).toNatClampNeg 0).toInt)
    (h6 : ((sy_ai F 39).getD (sy_i F 33).toNatClampNeg 0).toInt = 40)
    (h7 : (sy_i F 83).toInt < 6)
    (h8 : 0 ≤ (sy_i F 33).toInt)
    (h9 : (sy_i F 33).toInt ≤ 400)
    (h10 : 0 ≤ (sy_i F 33).toInt ∧ (sy_i F 33).toInt < 401)
    (h11 : ((sy_ai F 39).getD (sy_i F 33).toNatClampNeg 0).toInt = ((sy_ai F 39).getD (sy_i F 33).toNatClampNeg 0).toInt)
    (h12 : 400 ≤ (sy_i F 33).toInt)
    (k : ∀ F1 : Nat → sy_d, (∀ j, j < 82 → j ≠ 34 → F1 j = F j) → F1 34 = .inl (.int ((2 : Int32))) → Q (some (.int ((0 : Int32)))) (sy_dh F1 X1 X2 (iv_H 3))) :
    hd_W Ls xs d jm_M40 Q (0, sy_dL F [some (.inl (.ref 30)), some (.inr (.inl 82)), some (.inr (.inl 83)), none, none], sy_dS F [], sy_dh F X1 X2 (iv_H 3), 0, 0) := by
  refine hd_ret (s := 3) (nv := 84) (v := some (.inl (.int 0))) (uh := hd_ov (iv_id 0 iv_B0) [(34, .inl (.inl (.int 2)))]) (f := true) (sp := [34, 88, 134]) (d0 := 3) (O := [false, false, true, false, true, true, true, false, false, true, false]) (T := [(30, [.inr (.inl 33)], [.inr (.inl 39)]), (30, [.inr (.inl 33)], [.inr (.inl 39)])]) (P := [(3, .inr (.inl 33), .inl (.int 0)), (3, .inl (.int 400), .inr (.inl 33)), (6, .inr (.inl 33), .inl (.ref 401)), (1, .inr (.inl 84), .inl (.int 24)), (3, .inr (.inl 84), .inl (.int 14)), (2, .inl (.int 22), .inr (.inl 84)), (0, .inr (.inl 84), .inl (.int 40)), (2, .inr (.inl 83), .inl (.int 6)), (3, .inr (.inl 33), .inl (.int 0)), (3, .inl (.int 400), .inr (.inl 33)), (6, .inr (.inl 33), .inl (.ref 401)), (0, .inr (.inl 85), .inr (.inl 84)), (3, .inr (.inl 33), .inl (.int 400))]) jm_ok40 (by decide +kernel) (by decide +kernel) hd F X1 X2 (fun F' hF hs => ?_)
  have b33 := hd_b (F := F) (F' := F') (k := 33) (hF 33 (by decide))
  have a39 := hd_ba (F := F) (F' := F') (k := 39) (hF 39 (by decide))
  have t84 : sy_dv F' (.inr (.inl 84)) = .int ((sy_ai F 39).getD (sy_i F 33).toNatClampNeg 0) := hd_rd (hs 0 _ rfl) b33 a39
  have b83 := hd_b (F := F) (F' := F') (k := 83) (hF 83 (by decide))
  have t85 : sy_dv F' (.inr (.inl 85)) = .int ((sy_ai F 39).getD (sy_i F 33).toNatClampNeg 0) := hd_rd (hs 1 _ rfl) b33 a39
  have hB' : iv_in F' iv_B0 := iv_in_eq hB (fun j hj => hF j (Nat.lt_of_lt_of_le hj (by decide +kernel)))
  refine ⟨List.forall_mem_cons.mpr ⟨hd_p3 b33 rfl (by have hc : ((0) : Int32).toInt = 0 := (by decide); omega), List.forall_mem_cons.mpr ⟨hd_p3 rfl b33 (by have hc : ((400) : Int32).toInt = 400 := (by decide); omega), List.forall_mem_cons.mpr ⟨hd_pb b33 (by first | exact h2 | exact h2), List.forall_mem_cons.mpr ⟨hd_p1 t84 rfl (by have hc : ((24) : Int32).toInt = 24 := (by decide); omega), List.forall_mem_cons.mpr ⟨hd_p3 t84 rfl (by have hc : ((14) : Int32).toInt = 14 := (by decide); omega), List.forall_mem_cons.mpr ⟨hd_p2 rfl t84 (by have hc : ((22) : Int32).toInt = 22 := (by decide); omega), List.forall_mem_cons.mpr ⟨hd_p0 t84 rfl (by have hc : ((40) : Int32).toInt = 40 := (by decide); omega), List.forall_mem_cons.mpr ⟨hd_p2 b83 rfl (by have hc : ((6) : Int32).toInt = 6 := (by decide); omega), List.forall_mem_cons.mpr ⟨hd_p3 b33 rfl (by have hc : ((0) : Int32).toInt = 0 := (by decide); omega), List.forall_mem_cons.mpr ⟨hd_p3 rfl b33 (by have hc : ((400) : Int32).toInt = 400 := (by decide); omega), List.forall_mem_cons.mpr ⟨hd_pb b33 (by first | exact h10 | exact h10), List.forall_mem_cons.mpr ⟨hd_p0 t85 t84 h11, List.forall_mem_cons.mpr ⟨hd_p3 b33 rfl (by have hc : ((400) : Int32).toInt = 400 := (by decide); omega), fun _ h => absurd h List.not_mem_nil⟩⟩⟩⟩⟩⟩⟩⟩⟩⟩⟩⟩⟩, ?_⟩
  refine k _ ?_ ?_
  · exact fun j hj hn => (hd_keep hB' (Nat.lt_of_lt_of_le hj (by decide +kernel)) (by simp; omega)).trans (hF j (Nat.lt_of_lt_of_le hj (by decide)))
  · exact hd_gi (x := .inl (.int 2)) (by decide +kernel) rfl
theorem k3pu_0_p3 {Ls : Nat} {xs : Nat → Int32} {d : Nat} {Q : Option Value → jm_h → Prop} (hd : 4 ≤ d) (F : Nat → sy_d) (X1 X2 : List jm_c) (hB : iv_in F iv_B0)
    (h0 : 0 ≤ (sy_i F 33).toInt)
    (h1 : (sy_i F 33).toInt ≤ 400)
    (h2 : 0 ≤ (sy_i F 33).toInt ∧ (sy_i F 33).toInt < 401)
    (h3 : ((sy_ai F 39).getD (sy_i F 33).toNatClampNeg 0).toInt ≠ 24)
    (h4 : 14 ≤ ((sy_ai F 39).getD (sy_i F 33).toNatClampNeg 0).toInt)
    (h5 : 22 < ((sy_ai F 39).getD (sy_i F 33).toNatClampNeg 0).toInt)
    (h6 : ((sy_ai F 39).getD (sy_i F 33).toNatClampNeg 0).toInt = 40)
    (h7 : 6 ≤ (sy_i F 83).toInt)
    (k : ∀ F1 : Nat → sy_d, (∀ j, j < 82 → j ≠ 34 → F1 j = F j) → F1 34 = .inl (.int ((2 : Int32))) → Q (some (.int ((0 : Int32)))) (sy_dh F1 X1 X2 (iv_H 3))) :
    hd_W Ls xs d jm_M40 Q (0, sy_dL F [some (.inl (.ref 30)), some (.inr (.inl 82)), some (.inr (.inl 83)), none, none], sy_dS F [], sy_dh F X1 X2 (iv_H 3), 0, 0) := by
  refine hd_ret (s := 3) (nv := 84) (v := some (.inl (.int 0))) (uh := hd_ov (iv_id 0 iv_B0) [(34, .inl (.inl (.int 2)))]) (f := true) (sp := [34, 88, 134]) (d0 := 3) (O := [false, false, true, false, true, true, false]) (T := [(30, [.inr (.inl 33)], [.inr (.inl 39)])]) (P := [(3, .inr (.inl 33), .inl (.int 0)), (3, .inl (.int 400), .inr (.inl 33)), (6, .inr (.inl 33), .inl (.ref 401)), (1, .inr (.inl 84), .inl (.int 24)), (3, .inr (.inl 84), .inl (.int 14)), (2, .inl (.int 22), .inr (.inl 84)), (0, .inr (.inl 84), .inl (.int 40)), (3, .inr (.inl 83), .inl (.int 6))]) jm_ok40 (by decide +kernel) (by decide +kernel) hd F X1 X2 (fun F' hF hs => ?_)
  have b33 := hd_b (F := F) (F' := F') (k := 33) (hF 33 (by decide))
  have a39 := hd_ba (F := F) (F' := F') (k := 39) (hF 39 (by decide))
  have t84 : sy_dv F' (.inr (.inl 84)) = .int ((sy_ai F 39).getD (sy_i F 33).toNatClampNeg 0) := hd_rd (hs 0 _ rfl) b33 a39
  have b83 := hd_b (F := F) (F' := F') (k := 83) (hF 83 (by decide))
  have hB' : iv_in F' iv_B0 := iv_in_eq hB (fun j hj => hF j (Nat.lt_of_lt_of_le hj (by decide +kernel)))
  refine ⟨List.forall_mem_cons.mpr ⟨hd_p3 b33 rfl (by have hc : ((0) : Int32).toInt = 0 := (by decide); omega), List.forall_mem_cons.mpr ⟨hd_p3 rfl b33 (by have hc : ((400) : Int32).toInt = 400 := (by decide); omega), List.forall_mem_cons.mpr ⟨hd_pb b33 (by first | exact h2 | exact h2), List.forall_mem_cons.mpr ⟨hd_p1 t84 rfl (by have hc : ((24) : Int32).toInt = 24 := (by decide); omega), List.forall_mem_cons.mpr ⟨hd_p3 t84 rfl (by have hc : ((14) : Int32).toInt = 14 := (by decide); omega), List.forall_mem_cons.mpr ⟨hd_p2 rfl t84 (by have hc : ((22) : Int32).toInt = 22 := (by decide); omega), List.forall_mem_cons.mpr ⟨hd_p0 t84 rfl (by have hc : ((40) : Int32).toInt = 40 := (by decide); omega), List.forall_mem_cons.mpr ⟨hd_p3 b83 rfl (by have hc : ((6) : Int32).toInt = 6 := (by decide); omega), fun _ h => absurd h List.not_mem_nil⟩⟩⟩⟩⟩⟩⟩⟩, ?_⟩
  refine k _ ?_ ?_
  · exact fun j hj hn => (hd_keep hB' (Nat.lt_of_lt_of_le hj (by decide +kernel)) (by simp; omega)).trans (hF j (Nat.lt_of_lt_of_le hj (by decide)))
  · exact hd_gi (x := .inl (.int 2)) (by decide +kernel) rfl
theorem k3pu_0_p4 {Ls : Nat} {xs : Nat → Int32} {d : Nat} {Q : Option Value → jm_h → Prop} (hd : 4 ≤ d) (F : Nat → sy_d) (X1 X2 : List jm_c) (hB : iv_in F iv_B0)
    (h0 : 0 ≤ (sy_i F 33).toInt)
    (h1 : (sy_i F 33).toInt ≤ 400)
    (h2 : 0 ≤ (sy_i F 33).toInt ∧ (sy_i F 33).toInt < 401)
    (h3 : ((sy_ai F 39).getD (sy_i F 33).toNatClampNeg 0).toInt ≠ 24)
    (h4 : 14 ≤ ((sy_ai F 39).getD (sy_i F 33).toNatClampNeg 0).toInt)
    (h5 : 22 < ((sy_ai F 39).getD (sy_i F 33).toNatClampNeg 0).toInt)
    (h6 : ((sy_ai F 39).getD (sy_i F 33).toNatClampNeg 0).toInt ≠ 40)
    (k : ∀ F1 : Nat → sy_d, (∀ j, j < 82 → j ≠ 34 → F1 j = F j) → F1 34 = .inl (.int ((1 : Int32))) → Q (some (.int ((0 : Int32)))) (sy_dh F1 X1 X2 (iv_H 3))) :
    hd_W Ls xs d jm_M40 Q (0, sy_dL F [some (.inl (.ref 30)), some (.inr (.inl 82)), some (.inr (.inl 83)), none, none], sy_dS F [], sy_dh F X1 X2 (iv_H 3), 0, 0) := by
  refine hd_ret (s := 3) (nv := 84) (v := some (.inl (.int 0))) (uh := hd_ov (iv_id 0 iv_B0) [(34, .inl (.inl (.int 1)))]) (f := true) (sp := [34, 88, 134]) (d0 := 3) (O := [false, false, true, false, true, false]) (T := [(30, [.inr (.inl 33)], [.inr (.inl 39)])]) (P := [(3, .inr (.inl 33), .inl (.int 0)), (3, .inl (.int 400), .inr (.inl 33)), (6, .inr (.inl 33), .inl (.ref 401)), (1, .inr (.inl 84), .inl (.int 24)), (3, .inr (.inl 84), .inl (.int 14)), (2, .inl (.int 22), .inr (.inl 84)), (1, .inr (.inl 84), .inl (.int 40))]) jm_ok40 (by decide +kernel) (by decide +kernel) hd F X1 X2 (fun F' hF hs => ?_)
  have b33 := hd_b (F := F) (F' := F') (k := 33) (hF 33 (by decide))
  have a39 := hd_ba (F := F) (F' := F') (k := 39) (hF 39 (by decide))
  have t84 : sy_dv F' (.inr (.inl 84)) = .int ((sy_ai F 39).getD (sy_i F 33).toNatClampNeg 0) := hd_rd (hs 0 _ rfl) b33 a39
  have hB' : iv_in F' iv_B0 := iv_in_eq hB (fun j hj => hF j (Nat.lt_of_lt_of_le hj (by decide +kernel)))
  refine ⟨List.forall_mem_cons.mpr ⟨hd_p3 b33 rfl (by have hc : ((0) : Int32).toInt = 0 := (by decide); omega), List.forall_mem_cons.mpr ⟨hd_p3 rfl b33 (by have hc : ((400) : Int32).toInt = 400 := (by decide); omega), List.forall_mem_cons.mpr ⟨hd_pb b33 (by first | exact h2 | exact h2), List.forall_mem_cons.mpr ⟨hd_p1 t84 rfl (by have hc : ((24) : Int32).toInt = 24 := (by decide); omega), List.forall_mem_cons.mpr ⟨hd_p3 t84 rfl (by have hc : ((14) : Int32).toInt = 14 := (by decide); omega), List.forall_mem_cons.mpr ⟨hd_p2 rfl t84 (by have hc : ((22) : Int32).toInt = 22 := (by decide); omega), List.forall_mem_cons.mpr ⟨hd_p1 t84 rfl (by have hc : ((40) : Int32).toInt = 40 := (by decide); omega), fun _ h => absurd h List.not_mem_nil⟩⟩⟩⟩⟩⟩⟩, ?_⟩
  refine k _ ?_ ?_
  · exact fun j hj hn => (hd_keep hB' (Nat.lt_of_lt_of_le hj (by decide +kernel)) (by simp; omega)).trans (hF j (Nat.lt_of_lt_of_le hj (by decide)))
  · exact hd_gi (x := .inl (.int 1)) (by decide +kernel) rfl
theorem k3pu_0_p5 {Ls : Nat} {xs : Nat → Int32} {d : Nat} {Q : Option Value → jm_h → Prop} (hd : 4 ≤ d) (F : Nat → sy_d) (X1 X2 : List jm_c) (hB : iv_in F iv_B0)
    (h0 : 0 ≤ (sy_i F 33).toInt)
    (h1 : (sy_i F 33).toInt ≤ 400)
    (h2 : 0 ≤ (sy_i F 33).toInt ∧ (sy_i F 33).toInt < 401)
    (h3 : ((sy_ai F 39).getD (sy_i F 33).toNatClampNeg 0).toInt ≠ 24)
    (h4 : 14 ≤ ((sy_ai F 39).getD (sy_i F 33).toNatClampNeg 0).toInt)
    (h5 : ((sy_ai F 39).getD (sy_i F 33).toNatClampNeg 0).toInt ≤ 22)
    (h6 : 0 ≤ (sy_i F 82).toInt ∧ (sy_i F 82).toInt < 6)
    (h7 : (((([260, 383, 383, 407, 279, 300]).getD (sy_i F 82).toNatClampNeg 0) >>> ((((sy_ai F 39).getD (sy_i F 33).toNatClampNeg 0) - ((14 : Int32))) &&& 31)) &&& ((1 : Int32))).toInt ≠ 1)
    (k : ∀ F1 : Nat → sy_d, (∀ j, j < 82 → True → F1 j = F j) → F1 82 = .inl (.int ((sy_ai F 39).getD (sy_i F 33).toNatClampNeg 0)) → F1 83 = .inl (.int ((0 : Int32))) → hd_W Ls xs d jm_M40 Q (88, sy_dL F1 [some (.inl (.ref 30)), none, none, some (.inr (.inl 82)), none], sy_dS F1 [.inr (.inl 83), .inl (.ref 10)], sy_dh F1 X1 X2 (iv_H 3), 0, 0)) :
    hd_W Ls xs d jm_M40 Q (0, sy_dL F [some (.inl (.ref 30)), some (.inr (.inl 82)), some (.inr (.inl 83)), none, none], sy_dS F [], sy_dh F X1 X2 (iv_H 3), 0, 0) := by
  refine hd_run (s := 3) (nv := 84) (pc := 88) (L := [some (.inl (.ref 30)), none, none, some (.inr (.inl 82)), none]) (S := [.inr (.inl 83), .inl (.ref 10)]) (uh := hd_ov (iv_id 0 iv_B0) []) (ul := [.inl (.inr (.inl 84)), .inl (.inl (.int 0))]) (f := true) (sp := [34, 88, 134]) (d0 := 3) (O := [false, false, true, false, false, true]) (T := [(30, [.inr (.inl 33)], [.inr (.inl 39)]), (1, [.inr (.inl 84), .inl (.int 14)], []), (30, [.inr (.inl 82)], [.inl (.inl [260, 383, 383, 407, 279, 300])]), (7, [.inr (.inl 86), .inr (.inl 85)], []), (3, [.inr (.inl 87), .inl (.int 1)], [])]) (P := [(3, .inr (.inl 33), .inl (.int 0)), (3, .inl (.int 400), .inr (.inl 33)), (6, .inr (.inl 33), .inl (.ref 401)), (1, .inr (.inl 84), .inl (.int 24)), (3, .inr (.inl 84), .inl (.int 14)), (3, .inl (.int 22), .inr (.inl 84)), (6, .inr (.inl 82), .inl (.ref 6)), (1, .inr (.inl 88), .inl (.int 1))]) jm_ok40 (by decide +kernel) (by decide +kernel) hd F X1 X2 (fun F' hF hs => ?_)
  have b33 := hd_b (F := F) (F' := F') (k := 33) (hF 33 (by decide))
  have a39 := hd_ba (F := F) (F' := F') (k := 39) (hF 39 (by decide))
  have t84 : sy_dv F' (.inr (.inl 84)) = .int ((sy_ai F 39).getD (sy_i F 33).toNatClampNeg 0) := hd_rd (hs 0 _ rfl) b33 a39
  have b82 := hd_b (F := F) (F' := F') (k := 82) (hF 82 (by decide))
  have t86 : sy_dv F' (.inr (.inl 86)) = .int (([260, 383, 383, 407, 279, 300]).getD (sy_i F 82).toNatClampNeg 0) := hd_rd (hs 2 _ rfl) b82 rfl
  have t85 : sy_dv F' (.inr (.inl 85)) = .int (((sy_ai F 39).getD (sy_i F 33).toNatClampNeg 0) - ((14 : Int32))) := hd_o (hs 1 _ rfl) t84 rfl rfl
  have t87 : sy_dv F' (.inr (.inl 87)) = .int ((([260, 383, 383, 407, 279, 300]).getD (sy_i F 82).toNatClampNeg 0) >>> ((((sy_ai F 39).getD (sy_i F 33).toNatClampNeg 0) - ((14 : Int32))) &&& 31)) := hd_o (hs 3 _ rfl) t86 t85 rfl
  have t88 : sy_dv F' (.inr (.inl 88)) = .int (((([260, 383, 383, 407, 279, 300]).getD (sy_i F 82).toNatClampNeg 0) >>> ((((sy_ai F 39).getD (sy_i F 33).toNatClampNeg 0) - ((14 : Int32))) &&& 31)) &&& ((1 : Int32))) := hd_o (hs 4 _ rfl) t87 rfl rfl
  have hB' : iv_in F' iv_B0 := iv_in_eq hB (fun j hj => hF j (Nat.lt_of_lt_of_le hj (by decide +kernel)))
  refine ⟨List.forall_mem_cons.mpr ⟨hd_p3 b33 rfl (by have hc : ((0) : Int32).toInt = 0 := (by decide); omega), List.forall_mem_cons.mpr ⟨hd_p3 rfl b33 (by have hc : ((400) : Int32).toInt = 400 := (by decide); omega), List.forall_mem_cons.mpr ⟨hd_pb b33 (by first | exact h2 | exact h2), List.forall_mem_cons.mpr ⟨hd_p1 t84 rfl (by have hc : ((24) : Int32).toInt = 24 := (by decide); omega), List.forall_mem_cons.mpr ⟨hd_p3 t84 rfl (by have hc : ((14) : Int32).toInt = 14 := (by decide); omega), List.forall_mem_cons.mpr ⟨hd_p3 rfl t84 (by have hc : ((22) : Int32).toInt = 22 := (by decide); omega), List.forall_mem_cons.mpr ⟨hd_pb b82 (by first | exact h6 | exact h6), List.forall_mem_cons.mpr ⟨hd_p1 t88 rfl (by have hc : ((1) : Int32).toInt = 1 := (by decide); omega), fun _ h => absurd h List.not_mem_nil⟩⟩⟩⟩⟩⟩⟩⟩, ?_⟩
  refine k _ ?_ ?_ ?_
  · exact fun j hj _ => (hd_keep hB' (Nat.lt_of_lt_of_le hj (by decide +kernel)) (by simp)).trans (hF j (Nat.lt_of_lt_of_le hj (by decide)))
  · exact hd_gi (x := .inr (.inl 84)) (by decide +kernel) t84
  · exact hd_gi (x := .inl (.int 0)) (by decide +kernel) rfl
theorem k3pu_0_p6 {Ls : Nat} {xs : Nat → Int32} {d : Nat} {Q : Option Value → jm_h → Prop} (hd : 4 ≤ d) (F : Nat → sy_d) (X1 X2 : List jm_c) (hB : iv_in F iv_B0)
    (h0 : 0 ≤ (sy_i F 33).toInt)
    (h1 : (sy_i F 33).toInt ≤ 400)
    (h2 : 0 ≤ (sy_i F 33).toInt ∧ (sy_i F 33).toInt < 401)
    (h3 : ((sy_ai F 39).getD (sy_i F 33).toNatClampNeg 0).toInt ≠ 24)
    (h4 : 14 ≤ ((sy_ai F 39).getD (sy_i F 33).toNatClampNeg 0).toInt)
    (h5 : ((sy_ai F 39).getD (sy_i F 33).toNatClampNeg 0).toInt ≤ 22)
    (h6 : 0 ≤ (sy_i F 82).toInt ∧ (sy_i F 82).toInt < 6)
    (h7 : (((([260, 383, 383, 407, 279, 300]).getD (sy_i F 82).toNatClampNeg 0) >>> ((((sy_ai F 39).getD (sy_i F 33).toNatClampNeg 0) - ((14 : Int32))) &&& 31)) &&& ((1 : Int32))).toInt = 1)
    (k : ∀ F1 : Nat → sy_d, (∀ j, j < 82 → True → F1 j = F j) → F1 82 = .inl (.int ((sy_ai F 39).getD (sy_i F 33).toNatClampNeg 0)) → F1 83 = .inl (.int ((((-1) : Int32)) - (((sy_ai F 39).getD (sy_i F 33).toNatClampNeg 0) - ((14 : Int32))))) → hd_W Ls xs d jm_M40 Q (88, sy_dL F1 [some (.inl (.ref 30)), none, none, some (.inr (.inl 82)), none], sy_dS F1 [.inr (.inl 83), .inl (.ref 10)], sy_dh F1 X1 X2 (iv_H 3), 0, 0)) :
    hd_W Ls xs d jm_M40 Q (0, sy_dL F [some (.inl (.ref 30)), some (.inr (.inl 82)), some (.inr (.inl 83)), none, none], sy_dS F [], sy_dh F X1 X2 (iv_H 3), 0, 0) := by
  refine hd_run (s := 3) (nv := 84) (pc := 88) (L := [some (.inl (.ref 30)), none, none, some (.inr (.inl 82)), none]) (S := [.inr (.inl 83), .inl (.ref 10)]) (uh := hd_ov (iv_id 0 iv_B0) []) (ul := [.inl (.inr (.inl 84)), .inl (.inr (.inl 89))]) (f := true) (sp := [34, 88, 134]) (d0 := 3) (O := [false, false, true, false, false, false]) (T := [(30, [.inr (.inl 33)], [.inr (.inl 39)]), (1, [.inr (.inl 84), .inl (.int 14)], []), (30, [.inr (.inl 82)], [.inl (.inl [260, 383, 383, 407, 279, 300])]), (7, [.inr (.inl 86), .inr (.inl 85)], []), (3, [.inr (.inl 87), .inl (.int 1)], []), (1, [.inl (.int (-1)), .inr (.inl 85)], [])]) (P := [(3, .inr (.inl 33), .inl (.int 0)), (3, .inl (.int 400), .inr (.inl 33)), (6, .inr (.inl 33), .inl (.ref 401)), (1, .inr (.inl 84), .inl (.int 24)), (3, .inr (.inl 84), .inl (.int 14)), (3, .inl (.int 22), .inr (.inl 84)), (6, .inr (.inl 82), .inl (.ref 6)), (0, .inr (.inl 88), .inl (.int 1))]) jm_ok40 (by decide +kernel) (by decide +kernel) hd F X1 X2 (fun F' hF hs => ?_)
  have b33 := hd_b (F := F) (F' := F') (k := 33) (hF 33 (by decide))
  have a39 := hd_ba (F := F) (F' := F') (k := 39) (hF 39 (by decide))
  have t84 : sy_dv F' (.inr (.inl 84)) = .int ((sy_ai F 39).getD (sy_i F 33).toNatClampNeg 0) := hd_rd (hs 0 _ rfl) b33 a39
  have b82 := hd_b (F := F) (F' := F') (k := 82) (hF 82 (by decide))
  have t86 : sy_dv F' (.inr (.inl 86)) = .int (([260, 383, 383, 407, 279, 300]).getD (sy_i F 82).toNatClampNeg 0) := hd_rd (hs 2 _ rfl) b82 rfl
  have t85 : sy_dv F' (.inr (.inl 85)) = .int (((sy_ai F 39).getD (sy_i F 33).toNatClampNeg 0) - ((14 : Int32))) := hd_o (hs 1 _ rfl) t84 rfl rfl
  have t87 : sy_dv F' (.inr (.inl 87)) = .int ((([260, 383, 383, 407, 279, 300]).getD (sy_i F 82).toNatClampNeg 0) >>> ((((sy_ai F 39).getD (sy_i F 33).toNatClampNeg 0) - ((14 : Int32))) &&& 31)) := hd_o (hs 3 _ rfl) t86 t85 rfl
  have t88 : sy_dv F' (.inr (.inl 88)) = .int (((([260, 383, 383, 407, 279, 300]).getD (sy_i F 82).toNatClampNeg 0) >>> ((((sy_ai F 39).getD (sy_i F 33).toNatClampNeg 0) - ((14 : Int32))) &&& 31)) &&& ((1 : Int32))) := hd_o (hs 4 _ rfl) t87 rfl rfl
  have t89 : sy_dv F' (.inr (.inl 89)) = .int ((((-1) : Int32)) - (((sy_ai F 39).getD (sy_i F 33).toNatClampNeg 0) - ((14 : Int32)))) := hd_o (hs 5 _ rfl) rfl t85 rfl
  have hB' : iv_in F' iv_B0 := iv_in_eq hB (fun j hj => hF j (Nat.lt_of_lt_of_le hj (by decide +kernel)))
  refine ⟨List.forall_mem_cons.mpr ⟨hd_p3 b33 rfl (by have hc : ((0) : Int32).toInt = 0 := (by decide); omega), List.forall_mem_cons.mpr ⟨hd_p3 rfl b33 (by have hc : ((400) : Int32).toInt = 400 := (by decide); omega), List.forall_mem_cons.mpr ⟨hd_pb b33 (by first | exact h2 | exact h2), List.forall_mem_cons.mpr ⟨hd_p1 t84 rfl (by have hc : ((24) : Int32).toInt = 24 := (by decide); omega), List.forall_mem_cons.mpr ⟨hd_p3 t84 rfl (by have hc : ((14) : Int32).toInt = 14 := (by decide); omega), List.forall_mem_cons.mpr ⟨hd_p3 rfl t84 (by have hc : ((22) : Int32).toInt = 22 := (by decide); omega), List.forall_mem_cons.mpr ⟨hd_pb b82 (by first | exact h6 | exact h6), List.forall_mem_cons.mpr ⟨hd_p0 t88 rfl (by have hc : ((1) : Int32).toInt = 1 := (by decide); omega), fun _ h => absurd h List.not_mem_nil⟩⟩⟩⟩⟩⟩⟩⟩, ?_⟩
  refine k _ ?_ ?_ ?_
  · exact fun j hj _ => (hd_keep hB' (Nat.lt_of_lt_of_le hj (by decide +kernel)) (by simp)).trans (hF j (Nat.lt_of_lt_of_le hj (by decide)))
  · exact hd_gi (x := .inr (.inl 84)) (by decide +kernel) t84
  · exact hd_gi (x := .inr (.inl 89)) (by decide +kernel) t89
theorem k3pu_0_p7 {Ls : Nat} {xs : Nat → Int32} {d : Nat} {Q : Option Value → jm_h → Prop} (hd : 4 ≤ d) (F : Nat → sy_d) (X1 X2 : List jm_c) (hB : iv_in F iv_B0)
    (h0 : 0 ≤ (sy_i F 33).toInt)
    (h1 : (sy_i F 33).toInt ≤ 400)
    (h2 : 0 ≤ (sy_i F 33).toInt ∧ (sy_i F 33).toInt < 401)
    (h3 : ((sy_ai F 39).getD (sy_i F 33).toNatClampNeg 0).toInt = 24)
    (h4 : 0 ≤ (sy_i F 33).toInt)
    (h5 : (sy_i F 33).toInt ≤ 400)
    (h6 : 0 ≤ (sy_i F 33).toInt ∧ (sy_i F 33).toInt < 401)
    (k : ∀ F1 : Nat → sy_d, (∀ j, j < 82 → True → F1 j = F j) → F1 82 = .inl (.int ((sy_ai F 39).getD (sy_i F 33).toNatClampNeg 0)) → F1 83 = .inl (.int (((sy_al F 41).getD (sy_i F 33).toNatClampNeg 0).toInt32)) → hd_W Ls xs d jm_M40 Q (34, sy_dL F1 [some (.inl (.ref 30)), none, none, some (.inr (.inl 82)), none], sy_dS F1 [.inr (.inl 83), .inl (.ref 10)], sy_dh F1 X1 X2 (iv_H 3), 0, 0)) :
    hd_W Ls xs d jm_M40 Q (0, sy_dL F [some (.inl (.ref 30)), some (.inr (.inl 82)), some (.inr (.inl 83)), none, none], sy_dS F [], sy_dh F X1 X2 (iv_H 3), 0, 0) := by
  refine hd_run (s := 3) (nv := 84) (pc := 34) (L := [some (.inl (.ref 30)), none, none, some (.inr (.inl 82)), none]) (S := [.inr (.inl 83), .inl (.ref 10)]) (uh := hd_ov (iv_id 0 iv_B0) []) (ul := [.inl (.inr (.inl 84)), .inl (.inr (.inl 86))]) (f := true) (sp := [34, 88, 134]) (d0 := 3) (O := [false, false, false, false, false]) (T := [(30, [.inr (.inl 33)], [.inr (.inl 39)]), (30, [.inr (.inl 33)], [.inr (.inr 41)]), (25, [.inr (.inr 85)], [])]) (P := [(3, .inr (.inl 33), .inl (.int 0)), (3, .inl (.int 400), .inr (.inl 33)), (6, .inr (.inl 33), .inl (.ref 401)), (0, .inr (.inl 84), .inl (.int 24)), (3, .inr (.inl 33), .inl (.int 0)), (3, .inl (.int 400), .inr (.inl 33)), (6, .inr (.inl 33), .inl (.ref 401))]) jm_ok40 (by decide +kernel) (by decide +kernel) hd F X1 X2 (fun F' hF hs => ?_)
  have b33 := hd_b (F := F) (F' := F') (k := 33) (hF 33 (by decide))
  have a39 := hd_ba (F := F) (F' := F') (k := 39) (hF 39 (by decide))
  have t84 : sy_dv F' (.inr (.inl 84)) = .int ((sy_ai F 39).getD (sy_i F 33).toNatClampNeg 0) := hd_rd (hs 0 _ rfl) b33 a39
  have a41 := hd_bA (F := F) (F' := F') (k := 41) (hF 41 (by decide))
  have t85 : sy_dv F' (.inr (.inr 85)) = .long ((sy_al F 41).getD (sy_i F 33).toNatClampNeg 0) := hd_rL (hs 1 _ rfl) b33 a41
  have t86 : sy_dv F' (.inr (.inl 86)) = .int (((sy_al F 41).getD (sy_i F 33).toNatClampNeg 0).toInt32) := hd_uI (hs 2 _ rfl) t85
  have hB' : iv_in F' iv_B0 := iv_in_eq hB (fun j hj => hF j (Nat.lt_of_lt_of_le hj (by decide +kernel)))
  refine ⟨List.forall_mem_cons.mpr ⟨hd_p3 b33 rfl (by have hc : ((0) : Int32).toInt = 0 := (by decide); omega), List.forall_mem_cons.mpr ⟨hd_p3 rfl b33 (by have hc : ((400) : Int32).toInt = 400 := (by decide); omega), List.forall_mem_cons.mpr ⟨hd_pb b33 (by first | exact h2 | exact h2), List.forall_mem_cons.mpr ⟨hd_p0 t84 rfl (by have hc : ((24) : Int32).toInt = 24 := (by decide); omega), List.forall_mem_cons.mpr ⟨hd_p3 b33 rfl (by have hc : ((0) : Int32).toInt = 0 := (by decide); omega), List.forall_mem_cons.mpr ⟨hd_p3 rfl b33 (by have hc : ((400) : Int32).toInt = 400 := (by decide); omega), List.forall_mem_cons.mpr ⟨hd_pb b33 (by first | exact h6 | exact h6), fun _ h => absurd h List.not_mem_nil⟩⟩⟩⟩⟩⟩⟩, ?_⟩
  refine k _ ?_ ?_ ?_
  · exact fun j hj _ => (hd_keep hB' (Nat.lt_of_lt_of_le hj (by decide +kernel)) (by simp)).trans (hF j (Nat.lt_of_lt_of_le hj (by decide)))
  · exact hd_gi (x := .inr (.inl 84)) (by decide +kernel) t84
  · exact hd_gi (x := .inr (.inl 86)) (by decide +kernel) t86
theorem k3pu_137_p0 {Ls : Nat} {xs : Nat → Int32} {d : Nat} {Q : Option Value → jm_h → Prop} (hd : 4 ≤ d) (F : Nat → sy_d) (X1 X2 : List jm_c) (hB : iv_in F iv_B0)
    (h0 : (sy_i F 84).toInt = 0)
    (k : ∀ F1 : Nat → sy_d, (∀ j, j < 82 → True → F1 j = F j) → Q (some (.int ((0 : Int32)))) (sy_dh F1 X1 X2 (iv_H 3))) :
    hd_W Ls xs d jm_M40 Q (137, sy_dL F [some (.inl (.ref 30)), none, none, none, none], sy_dS F [.inr (.inl 84)], sy_dh F X1 X2 (iv_H 3), 0, 0) := by
  refine hd_ret (s := 3) (nv := 85) (v := some (.inl (.int 0))) (uh := hd_ov (iv_id 0 iv_B0) []) (f := false) (sp := []) (d0 := 3) (O := [true]) (T := []) (P := [(0, .inr (.inl 84), .inl (.int 0))]) jm_ok40 (by decide +kernel) (by decide +kernel) hd F X1 X2 (fun F' hF hs => ?_)
  have b84 := hd_b (F := F) (F' := F') (k := 84) (hF 84 (by decide))
  have hB' : iv_in F' iv_B0 := iv_in_eq hB (fun j hj => hF j (Nat.lt_of_lt_of_le hj (by decide +kernel)))
  refine ⟨List.forall_mem_cons.mpr ⟨hd_p0 b84 rfl (by have hc : ((0) : Int32).toInt = 0 := (by decide); omega), fun _ h => absurd h List.not_mem_nil⟩, ?_⟩
  refine k _ ?_
  · exact fun j hj _ => (hd_keep hB' (Nat.lt_of_lt_of_le hj (by decide +kernel)) (by simp)).trans (hF j (Nat.lt_of_lt_of_le hj (by decide)))
theorem k3pu_137_p1 {Ls : Nat} {xs : Nat → Int32} {d : Nat} {Q : Option Value → jm_h → Prop} (hd : 4 ≤ d) (F : Nat → sy_d) (X1 X2 : List jm_c) (hB : iv_in F iv_B0)
    (h0 : (sy_i F 84).toInt ≠ 0)
    (h1 : 0 ≤ (sy_i F 33).toInt)
    (h2 : (sy_i F 33).toInt ≤ 400)
    (h3 : 0 ≤ (sy_i F 33).toInt ∧ (sy_i F 33).toInt < 401)
    (h4 : ((sy_ai F 39).getD (sy_i F 33).toNatClampNeg 0).toInt = 41)
    (h5 : (sy_i F 33).toInt < 400)
    (k : ∀ F1 : Nat → sy_d, (∀ j, j < 82 → j ≠ 33 → F1 j = F j) → F1 33 = .inl (.int ((sy_i F 33) + ((1 : Int32)))) → Q (some (.int ((1 : Int32)))) (sy_dh F1 X1 X2 (iv_H 3))) :
    hd_W Ls xs d jm_M40 Q (137, sy_dL F [some (.inl (.ref 30)), none, none, none, none], sy_dS F [.inr (.inl 84)], sy_dh F X1 X2 (iv_H 3), 0, 0) := by
  refine hd_ret (s := 3) (nv := 85) (v := some (.inl (.int 1))) (uh := hd_ov (iv_id 0 iv_B0) [(33, .inl (.inr (.inl 86)))]) (f := false) (sp := []) (d0 := 3) (O := [false, false, false, true, true]) (T := [(30, [.inr (.inl 33)], [.inr (.inl 39)]), (0, [.inr (.inl 33), .inl (.int 1)], [])]) (P := [(1, .inr (.inl 84), .inl (.int 0)), (3, .inr (.inl 33), .inl (.int 0)), (3, .inl (.int 400), .inr (.inl 33)), (6, .inr (.inl 33), .inl (.ref 401)), (0, .inr (.inl 85), .inl (.int 41)), (2, .inr (.inl 33), .inl (.int 400))]) jm_ok40 (by decide +kernel) (by decide +kernel) hd F X1 X2 (fun F' hF hs => ?_)
  have b84 := hd_b (F := F) (F' := F') (k := 84) (hF 84 (by decide))
  have b33 := hd_b (F := F) (F' := F') (k := 33) (hF 33 (by decide))
  have a39 := hd_ba (F := F) (F' := F') (k := 39) (hF 39 (by decide))
  have t85 : sy_dv F' (.inr (.inl 85)) = .int ((sy_ai F 39).getD (sy_i F 33).toNatClampNeg 0) := hd_rd (hs 0 _ rfl) b33 a39
  have t86 : sy_dv F' (.inr (.inl 86)) = .int ((sy_i F 33) + ((1 : Int32))) := hd_o (hs 1 _ rfl) b33 rfl rfl
  have hB' : iv_in F' iv_B0 := iv_in_eq hB (fun j hj => hF j (Nat.lt_of_lt_of_le hj (by decide +kernel)))
  refine ⟨List.forall_mem_cons.mpr ⟨hd_p1 b84 rfl (by have hc : ((0) : Int32).toInt = 0 := (by decide); omega), List.forall_mem_cons.mpr ⟨hd_p3 b33 rfl (by have hc : ((0) : Int32).toInt = 0 := (by decide); omega), List.forall_mem_cons.mpr ⟨hd_p3 rfl b33 (by have hc : ((400) : Int32).toInt = 400 := (by decide); omega), List.forall_mem_cons.mpr ⟨hd_pb b33 (by first | exact h3 | exact h3), List.forall_mem_cons.mpr ⟨hd_p0 t85 rfl (by have hc : ((41) : Int32).toInt = 41 := (by decide); omega), List.forall_mem_cons.mpr ⟨hd_p2 b33 rfl (by have hc : ((400) : Int32).toInt = 400 := (by decide); omega), fun _ h => absurd h List.not_mem_nil⟩⟩⟩⟩⟩⟩, ?_⟩
  refine k _ ?_ ?_
  · exact fun j hj hn => (hd_keep hB' (Nat.lt_of_lt_of_le hj (by decide +kernel)) (by simp; omega)).trans (hF j (Nat.lt_of_lt_of_le hj (by decide)))
  · exact hd_gi (x := .inr (.inl 86)) (by decide +kernel) t86
theorem k3pu_137_p2 {Ls : Nat} {xs : Nat → Int32} {d : Nat} {Q : Option Value → jm_h → Prop} (hd : 4 ≤ d) (F : Nat → sy_d) (X1 X2 : List jm_c) (hB : iv_in F iv_B0)
    (h0 : (sy_i F 84).toInt ≠ 0)
    (h1 : 0 ≤ (sy_i F 33).toInt)
    (h2 : (sy_i F 33).toInt ≤ 400)
    (h3 : 0 ≤ (sy_i F 33).toInt ∧ (sy_i F 33).toInt < 401)
    (h4 : ((sy_ai F 39).getD (sy_i F 33).toNatClampNeg 0).toInt = 41)
    (h5 : 400 ≤ (sy_i F 33).toInt)
    (k : ∀ F1 : Nat → sy_d, (∀ j, j < 82 → j ≠ 34 → F1 j = F j) → F1 34 = .inl (.int ((2 : Int32))) → Q (some (.int ((0 : Int32)))) (sy_dh F1 X1 X2 (iv_H 3))) :
    hd_W Ls xs d jm_M40 Q (137, sy_dL F [some (.inl (.ref 30)), none, none, none, none], sy_dS F [.inr (.inl 84)], sy_dh F X1 X2 (iv_H 3), 0, 0) := by
  refine hd_ret (s := 3) (nv := 85) (v := some (.inl (.int 0))) (uh := hd_ov (iv_id 0 iv_B0) [(34, .inl (.inl (.int 2)))]) (f := false) (sp := []) (d0 := 3) (O := [false, false, false, true, false]) (T := [(30, [.inr (.inl 33)], [.inr (.inl 39)])]) (P := [(1, .inr (.inl 84), .inl (.int 0)), (3, .inr (.inl 33), .inl (.int 0)), (3, .inl (.int 400), .inr (.inl 33)), (6, .inr (.inl 33), .inl (.ref 401)), (0, .inr (.inl 85), .inl (.int 41)), (3, .inr (.inl 33), .inl (.int 400))]) jm_ok40 (by decide +kernel) (by decide +kernel) hd F X1 X2 (fun F' hF hs => ?_)
  have b84 := hd_b (F := F) (F' := F') (k := 84) (hF 84 (by decide))
  have b33 := hd_b (F := F) (F' := F') (k := 33) (hF 33 (by decide))
  have a39 := hd_ba (F := F) (F' := F') (k := 39) (hF 39 (by decide))
  have t85 : sy_dv F' (.inr (.inl 85)) = .int ((sy_ai F 39).getD (sy_i F 33).toNatClampNeg 0) := hd_rd (hs 0 _ rfl) b33 a39
  have hB' : iv_in F' iv_B0 := iv_in_eq hB (fun j hj => hF j (Nat.lt_of_lt_of_le hj (by decide +kernel)))
  refine ⟨List.forall_mem_cons.mpr ⟨hd_p1 b84 rfl (by have hc : ((0) : Int32).toInt = 0 := (by decide); omega), List.forall_mem_cons.mpr ⟨hd_p3 b33 rfl (by have hc : ((0) : Int32).toInt = 0 := (by decide); omega), List.forall_mem_cons.mpr ⟨hd_p3 rfl b33 (by have hc : ((400) : Int32).toInt = 400 := (by decide); omega), List.forall_mem_cons.mpr ⟨hd_pb b33 (by first | exact h3 | exact h3), List.forall_mem_cons.mpr ⟨hd_p0 t85 rfl (by have hc : ((41) : Int32).toInt = 41 := (by decide); omega), List.forall_mem_cons.mpr ⟨hd_p3 b33 rfl (by have hc : ((400) : Int32).toInt = 400 := (by decide); omega), fun _ h => absurd h List.not_mem_nil⟩⟩⟩⟩⟩⟩, ?_⟩
  refine k _ ?_ ?_
  · exact fun j hj hn => (hd_keep hB' (Nat.lt_of_lt_of_le hj (by decide +kernel)) (by simp; omega)).trans (hF j (Nat.lt_of_lt_of_le hj (by decide)))
  · exact hd_gi (x := .inl (.int 2)) (by decide +kernel) rfl
theorem k3pu_137_p3 {Ls : Nat} {xs : Nat → Int32} {d : Nat} {Q : Option Value → jm_h → Prop} (hd : 4 ≤ d) (F : Nat → sy_d) (X1 X2 : List jm_c) (hB : iv_in F iv_B0)
    (h0 : (sy_i F 84).toInt ≠ 0)
    (h1 : 0 ≤ (sy_i F 33).toInt)
    (h2 : (sy_i F 33).toInt ≤ 400)
    (h3 : 0 ≤ (sy_i F 33).toInt ∧ (sy_i F 33).toInt < 401)
    (h4 : ((sy_ai F 39).getD (sy_i F 33).toNatClampNeg 0).toInt ≠ 41)
    (k : ∀ F1 : Nat → sy_d, (∀ j, j < 82 → j ≠ 34 → F1 j = F j) → F1 34 = .inl (.int ((1 : Int32))) → Q (some (.int ((0 : Int32)))) (sy_dh F1 X1 X2 (iv_H 3))) :
    hd_W Ls xs d jm_M40 Q (137, sy_dL F [some (.inl (.ref 30)), none, none, none, none], sy_dS F [.inr (.inl 84)], sy_dh F X1 X2 (iv_H 3), 0, 0) := by
  refine hd_ret (s := 3) (nv := 85) (v := some (.inl (.int 0))) (uh := hd_ov (iv_id 0 iv_B0) [(34, .inl (.inl (.int 1)))]) (f := false) (sp := []) (d0 := 3) (O := [false, false, false, false]) (T := [(30, [.inr (.inl 33)], [.inr (.inl 39)])]) (P := [(1, .inr (.inl 84), .inl (.int 0)), (3, .inr (.inl 33), .inl (.int 0)), (3, .inl (.int 400), .inr (.inl 33)), (6, .inr (.inl 33), .inl (.ref 401)), (1, .inr (.inl 85), .inl (.int 41))]) jm_ok40 (by decide +kernel) (by decide +kernel) hd F X1 X2 (fun F' hF hs => ?_)
  have b84 := hd_b (F := F) (F' := F') (k := 84) (hF 84 (by decide))
  have b33 := hd_b (F := F) (F' := F') (k := 33) (hF 33 (by decide))
  have a39 := hd_ba (F := F) (F' := F') (k := 39) (hF 39 (by decide))
  have t85 : sy_dv F' (.inr (.inl 85)) = .int ((sy_ai F 39).getD (sy_i F 33).toNatClampNeg 0) := hd_rd (hs 0 _ rfl) b33 a39
  have hB' : iv_in F' iv_B0 := iv_in_eq hB (fun j hj => hF j (Nat.lt_of_lt_of_le hj (by decide +kernel)))
  refine ⟨List.forall_mem_cons.mpr ⟨hd_p1 b84 rfl (by have hc : ((0) : Int32).toInt = 0 := (by decide); omega), List.forall_mem_cons.mpr ⟨hd_p3 b33 rfl (by have hc : ((0) : Int32).toInt = 0 := (by decide); omega), List.forall_mem_cons.mpr ⟨hd_p3 rfl b33 (by have hc : ((400) : Int32).toInt = 400 := (by decide); omega), List.forall_mem_cons.mpr ⟨hd_pb b33 (by first | exact h3 | exact h3), List.forall_mem_cons.mpr ⟨hd_p1 t85 rfl (by have hc : ((41) : Int32).toInt = 41 := (by decide); omega), fun _ h => absurd h List.not_mem_nil⟩⟩⟩⟩⟩, ?_⟩
  refine k _ ?_ ?_
  · exact fun j hj hn => (hd_keep hB' (Nat.lt_of_lt_of_le hj (by decide +kernel)) (by simp; omega)).trans (hF j (Nat.lt_of_lt_of_le hj (by decide)))
  · exact hd_gi (x := .inl (.int 1)) (by decide +kernel) rfl
theorem k3pu_34_p0 {Ls : Nat} {xs : Nat → Int32} {d : Nat} {Q : Option Value → jm_h → Prop} (hd : 4 ≤ d) (F : Nat → sy_d) (X1 X2 : List jm_c) (hB : iv_in F iv_B0)
    (h0 : 512 ≤ (sy_i F 8).toInt)
    (h1 : 0 ≤ (sy_i F 33).toInt)
    (h2 : (sy_i F 33).toInt ≤ 400)
    (h3 : 0 ≤ (sy_i F 33).toInt ∧ (sy_i F 33).toInt < 401)
    (h4 : ((sy_ai F 39).getD (sy_i F 33).toNatClampNeg 0).toInt = (sy_i F 82).toInt)
    (h5 : (sy_i F 33).toInt < 400)
    (k : ∀ F1 : Nat → sy_d, (∀ j, j < 82 → j ≠ 33 → F1 j = F j) → F1 33 = .inl (.int ((sy_i F 33) + ((1 : Int32)))) → Q (some (.int ((1 : Int32)))) (sy_dh F1 X1 X2 (iv_H 3))) :
    hd_W Ls xs d jm_M40 Q (34, sy_dL F [some (.inl (.ref 30)), none, none, some (.inr (.inl 82)), none], sy_dS F [.inr (.inl 83), .inl (.ref 10)], sy_dh F X1 X2 (iv_H 3), 0, 0) := by
  refine hd_ret (s := 3) (nv := 84) (v := some (.inl (.int 1))) (uh := hd_ov (iv_id 0 iv_B0) [(33, .inl (.inr (.inl 85)))]) (f := true) (sp := []) (d0 := 3) (O := [true, false, false, true, true]) (T := [(30, [.inr (.inl 33)], [.inr (.inl 39)]), (0, [.inr (.inl 33), .inl (.int 1)], [])]) (P := [(4, .inl (.int 512), .inr (.inl 8)), (3, .inr (.inl 33), .inl (.int 0)), (3, .inl (.int 400), .inr (.inl 33)), (6, .inr (.inl 33), .inl (.ref 401)), (0, .inr (.inl 84), .inr (.inl 82)), (2, .inr (.inl 33), .inl (.int 400))]) jm_ok40 (by decide +kernel) (by decide +kernel) hd F X1 X2 (fun F' hF hs => ?_)
  have b8 := hd_b (F := F) (F' := F') (k := 8) (hF 8 (by decide))
  have b33 := hd_b (F := F) (F' := F') (k := 33) (hF 33 (by decide))
  have a39 := hd_ba (F := F) (F' := F') (k := 39) (hF 39 (by decide))
  have t84 : sy_dv F' (.inr (.inl 84)) = .int ((sy_ai F 39).getD (sy_i F 33).toNatClampNeg 0) := hd_rd (hs 0 _ rfl) b33 a39
  have b82 := hd_b (F := F) (F' := F') (k := 82) (hF 82 (by decide))
  have t85 : sy_dv F' (.inr (.inl 85)) = .int ((sy_i F 33) + ((1 : Int32))) := hd_o (hs 1 _ rfl) b33 rfl rfl
  have hB' : iv_in F' iv_B0 := iv_in_eq hB (fun j hj => hF j (Nat.lt_of_lt_of_le hj (by decide +kernel)))
  refine ⟨List.forall_mem_cons.mpr ⟨hd_p4 rfl b8 (by have hc : ((512) : Int32).toInt = 512 := (by decide); omega), List.forall_mem_cons.mpr ⟨hd_p3 b33 rfl (by have hc : ((0) : Int32).toInt = 0 := (by decide); omega), List.forall_mem_cons.mpr ⟨hd_p3 rfl b33 (by have hc : ((400) : Int32).toInt = 400 := (by decide); omega), List.forall_mem_cons.mpr ⟨hd_pb b33 (by first | exact h3 | exact h3), List.forall_mem_cons.mpr ⟨hd_p0 t84 b82 h4, List.forall_mem_cons.mpr ⟨hd_p2 b33 rfl (by have hc : ((400) : Int32).toInt = 400 := (by decide); omega), fun _ h => absurd h List.not_mem_nil⟩⟩⟩⟩⟩⟩, ?_⟩
  refine k _ ?_ ?_
  · exact fun j hj hn => (hd_keep hB' (Nat.lt_of_lt_of_le hj (by decide +kernel)) (by simp; omega)).trans (hF j (Nat.lt_of_lt_of_le hj (by decide)))
  · exact hd_gi (x := .inr (.inl 85)) (by decide +kernel) t85
theorem k3pu_34_p1 {Ls : Nat} {xs : Nat → Int32} {d : Nat} {Q : Option Value → jm_h → Prop} (hd : 4 ≤ d) (F : Nat → sy_d) (X1 X2 : List jm_c) (hB : iv_in F iv_B0)
    (h0 : 512 ≤ (sy_i F 8).toInt)
    (h1 : 0 ≤ (sy_i F 33).toInt)
    (h2 : (sy_i F 33).toInt ≤ 400)
    (h3 : 0 ≤ (sy_i F 33).toInt ∧ (sy_i F 33).toInt < 401)
    (h4 : ((sy_ai F 39).getD (sy_i F 33).toNatClampNeg 0).toInt = (sy_i F 82).toInt)
    (h5 : 400 ≤ (sy_i F 33).toInt)
    (k : ∀ F1 : Nat → sy_d, (∀ j, j < 82 → j ≠ 34 → F1 j = F j) → F1 34 = .inl (.int ((2 : Int32))) → Q (some (.int ((0 : Int32)))) (sy_dh F1 X1 X2 (iv_H 3))) :
    hd_W Ls xs d jm_M40 Q (34, sy_dL F [some (.inl (.ref 30)), none, none, some (.inr (.inl 82)), none], sy_dS F [.inr (.inl 83), .inl (.ref 10)], sy_dh F X1 X2 (iv_H 3), 0, 0) := by
  refine hd_ret (s := 3) (nv := 84) (v := some (.inl (.int 0))) (uh := hd_ov (iv_id 0 iv_B0) [(34, .inl (.inl (.int 2)))]) (f := true) (sp := []) (d0 := 3) (O := [true, false, false, true, false]) (T := [(30, [.inr (.inl 33)], [.inr (.inl 39)])]) (P := [(4, .inl (.int 512), .inr (.inl 8)), (3, .inr (.inl 33), .inl (.int 0)), (3, .inl (.int 400), .inr (.inl 33)), (6, .inr (.inl 33), .inl (.ref 401)), (0, .inr (.inl 84), .inr (.inl 82)), (3, .inr (.inl 33), .inl (.int 400))]) jm_ok40 (by decide +kernel) (by decide +kernel) hd F X1 X2 (fun F' hF hs => ?_)
  have b8 := hd_b (F := F) (F' := F') (k := 8) (hF 8 (by decide))
  have b33 := hd_b (F := F) (F' := F') (k := 33) (hF 33 (by decide))
  have a39 := hd_ba (F := F) (F' := F') (k := 39) (hF 39 (by decide))
  have t84 : sy_dv F' (.inr (.inl 84)) = .int ((sy_ai F 39).getD (sy_i F 33).toNatClampNeg 0) := hd_rd (hs 0 _ rfl) b33 a39
  have b82 := hd_b (F := F) (F' := F') (k := 82) (hF 82 (by decide))
  have hB' : iv_in F' iv_B0 := iv_in_eq hB (fun j hj => hF j (Nat.lt_of_lt_of_le hj (by decide +kernel)))
  refine ⟨List.forall_mem_cons.mpr ⟨hd_p4 rfl b8 (by have hc : ((512) : Int32).toInt = 512 := (by decide); omega), List.forall_mem_cons.mpr ⟨hd_p3 b33 rfl (by have hc : ((0) : Int32).toInt = 0 := (by decide); omega), List.forall_mem_cons.mpr ⟨hd_p3 rfl b33 (by have hc : ((400) : Int32).toInt = 400 := (by decide); omega), List.forall_mem_cons.mpr ⟨hd_pb b33 (by first | exact h3 | exact h3), List.forall_mem_cons.mpr ⟨hd_p0 t84 b82 h4, List.forall_mem_cons.mpr ⟨hd_p3 b33 rfl (by have hc : ((400) : Int32).toInt = 400 := (by decide); omega), fun _ h => absurd h List.not_mem_nil⟩⟩⟩⟩⟩⟩, ?_⟩
  refine k _ ?_ ?_
  · exact fun j hj hn => (hd_keep hB' (Nat.lt_of_lt_of_le hj (by decide +kernel)) (by simp; omega)).trans (hF j (Nat.lt_of_lt_of_le hj (by decide)))
  · exact hd_gi (x := .inl (.int 2)) (by decide +kernel) rfl
theorem k3pu_34_p2 {Ls : Nat} {xs : Nat → Int32} {d : Nat} {Q : Option Value → jm_h → Prop} (hd : 4 ≤ d) (F : Nat → sy_d) (X1 X2 : List jm_c) (hB : iv_in F iv_B0)
    (h0 : 512 ≤ (sy_i F 8).toInt)
    (h1 : 0 ≤ (sy_i F 33).toInt)
    (h2 : (sy_i F 33).toInt ≤ 400)
    (h3 : 0 ≤ (sy_i F 33).toInt ∧ (sy_i F 33).toInt < 401)
    (h4 : ((sy_ai F 39).getD (sy_i F 33).toNatClampNeg 0).toInt ≠ (sy_i F 82).toInt)
    (k : ∀ F1 : Nat → sy_d, (∀ j, j < 82 → j ≠ 34 → F1 j = F j) → F1 34 = .inl (.int ((1 : Int32))) → Q (some (.int ((0 : Int32)))) (sy_dh F1 X1 X2 (iv_H 3))) :
    hd_W Ls xs d jm_M40 Q (34, sy_dL F [some (.inl (.ref 30)), none, none, some (.inr (.inl 82)), none], sy_dS F [.inr (.inl 83), .inl (.ref 10)], sy_dh F X1 X2 (iv_H 3), 0, 0) := by
  refine hd_ret (s := 3) (nv := 84) (v := some (.inl (.int 0))) (uh := hd_ov (iv_id 0 iv_B0) [(34, .inl (.inl (.int 1)))]) (f := true) (sp := []) (d0 := 3) (O := [true, false, false, false]) (T := [(30, [.inr (.inl 33)], [.inr (.inl 39)])]) (P := [(4, .inl (.int 512), .inr (.inl 8)), (3, .inr (.inl 33), .inl (.int 0)), (3, .inl (.int 400), .inr (.inl 33)), (6, .inr (.inl 33), .inl (.ref 401)), (1, .inr (.inl 84), .inr (.inl 82))]) jm_ok40 (by decide +kernel) (by decide +kernel) hd F X1 X2 (fun F' hF hs => ?_)
  have b8 := hd_b (F := F) (F' := F') (k := 8) (hF 8 (by decide))
  have b33 := hd_b (F := F) (F' := F') (k := 33) (hF 33 (by decide))
  have a39 := hd_ba (F := F) (F' := F') (k := 39) (hF 39 (by decide))
  have t84 : sy_dv F' (.inr (.inl 84)) = .int ((sy_ai F 39).getD (sy_i F 33).toNatClampNeg 0) := hd_rd (hs 0 _ rfl) b33 a39
  have b82 := hd_b (F := F) (F' := F') (k := 82) (hF 82 (by decide))
  have hB' : iv_in F' iv_B0 := iv_in_eq hB (fun j hj => hF j (Nat.lt_of_lt_of_le hj (by decide +kernel)))
  refine ⟨List.forall_mem_cons.mpr ⟨hd_p4 rfl b8 (by have hc : ((512) : Int32).toInt = 512 := (by decide); omega), List.forall_mem_cons.mpr ⟨hd_p3 b33 rfl (by have hc : ((0) : Int32).toInt = 0 := (by decide); omega), List.forall_mem_cons.mpr ⟨hd_p3 rfl b33 (by have hc : ((400) : Int32).toInt = 400 := (by decide); omega), List.forall_mem_cons.mpr ⟨hd_pb b33 (by first | exact h3 | exact h3), List.forall_mem_cons.mpr ⟨hd_p1 t84 b82 h4, fun _ h => absurd h List.not_mem_nil⟩⟩⟩⟩⟩, ?_⟩
  refine k _ ?_ ?_
  · exact fun j hj hn => (hd_keep hB' (Nat.lt_of_lt_of_le hj (by decide +kernel)) (by simp; omega)).trans (hF j (Nat.lt_of_lt_of_le hj (by decide)))
  · exact hd_gi (x := .inl (.int 1)) (by decide +kernel) rfl
theorem k3pu_34_p3 {Ls : Nat} {xs : Nat → Int32} {d : Nat} {Q : Option Value → jm_h → Prop} (hd : 4 ≤ d) (F : Nat → sy_d) (X1 X2 : List jm_c) (hB : iv_in F iv_B0)
    (h0 : (sy_i F 8).toInt < 512)
    (h1 : 0 ≤ (sy_i F 8).toInt ∧ (sy_i F 8).toInt < 512)
    (h2 : 0 ≤ (sy_i F 33).toInt)
    (h3 : (sy_i F 33).toInt ≤ 400)
    (h4 : 0 ≤ (sy_i F 33).toInt ∧ (sy_i F 33).toInt < 401)
    (h5 : ((sy_ai F 39).getD (sy_i F 33).toNatClampNeg 0).toInt = (sy_i F 82).toInt)
    (h6 : (sy_i F 33).toInt < 400)
    (k : ∀ F1 : Nat → sy_d, (∀ j, j < 82 → j ≠ 8 ∧ j ≠ 17 ∧ j ≠ 33 → F1 j = F j) → F1 8 = .inl (.int ((sy_i F 8) + ((1 : Int32)))) → F1 17 = .inr (.inl (jm_upd (sy_ai F 17) (sy_i F 8).toNatClampNeg (sy_i F 83))) → F1 33 = .inl (.int ((sy_i F 33) + ((1 : Int32)))) → Q (some (.int ((1 : Int32)))) (sy_dh F1 X1 X2 (iv_H 3))) :
    hd_W Ls xs d jm_M40 Q (34, sy_dL F [some (.inl (.ref 30)), none, none, some (.inr (.inl 82)), none], sy_dS F [.inr (.inl 83), .inl (.ref 10)], sy_dh F X1 X2 (iv_H 3), 0, 0) := by
  refine hd_ret (s := 3) (nv := 84) (v := some (.inl (.int 1))) (uh := hd_ov (iv_id 0 iv_B0) [(8, .inl (.inr (.inl 85))), (17, .inr (.inr (.inl 84))), (33, .inl (.inr (.inl 87)))]) (f := true) (sp := []) (d0 := 3) (O := [false, false, false, true, true]) (T := [(40, [.inr (.inl 8), .inr (.inl 83)], [.inr (.inl 17)]), (0, [.inr (.inl 8), .inl (.int 1)], []), (30, [.inr (.inl 33)], [.inr (.inl 39)]), (0, [.inr (.inl 33), .inl (.int 1)], [])]) (P := [(5, .inl (.int 512), .inr (.inl 8)), (6, .inr (.inl 8), .inl (.ref 512)), (3, .inr (.inl 33), .inl (.int 0)), (3, .inl (.int 400), .inr (.inl 33)), (6, .inr (.inl 33), .inl (.ref 401)), (0, .inr (.inl 86), .inr (.inl 82)), (2, .inr (.inl 33), .inl (.int 400))]) jm_ok40 (by decide +kernel) (by decide +kernel) hd F X1 X2 (fun F' hF hs => ?_)
  have b8 := hd_b (F := F) (F' := F') (k := 8) (hF 8 (by decide))
  have b33 := hd_b (F := F) (F' := F') (k := 33) (hF 33 (by decide))
  have a39 := hd_ba (F := F) (F' := F') (k := 39) (hF 39 (by decide))
  have t86 : sy_dv F' (.inr (.inl 86)) = .int ((sy_ai F 39).getD (sy_i F 33).toNatClampNeg 0) := hd_rd (hs 2 _ rfl) b33 a39
  have b82 := hd_b (F := F) (F' := F') (k := 82) (hF 82 (by decide))
  have t85 : sy_dv F' (.inr (.inl 85)) = .int ((sy_i F 8) + ((1 : Int32))) := hd_o (hs 1 _ rfl) b8 rfl rfl
  have b83 := hd_b (F := F) (F' := F') (k := 83) (hF 83 (by decide))
  have a17 := hd_ba (F := F) (F' := F') (k := 17) (hF 17 (by decide))
  have t84 : sy_da F' (.inr (.inl 84)) = .inl (jm_upd (sy_ai F 17) (sy_i F 8).toNatClampNeg (sy_i F 83)) := hd_up (hs 0 _ rfl) b8 b83 a17
  have t87 : sy_dv F' (.inr (.inl 87)) = .int ((sy_i F 33) + ((1 : Int32))) := hd_o (hs 3 _ rfl) b33 rfl rfl
  have hB' : iv_in F' iv_B0 := iv_in_eq hB (fun j hj => hF j (Nat.lt_of_lt_of_le hj (by decide +kernel)))
  refine ⟨List.forall_mem_cons.mpr ⟨hd_p5 rfl b8 (by have hc : ((512) : Int32).toInt = 512 := (by decide); omega), List.forall_mem_cons.mpr ⟨hd_pb b8 (by first | exact h1 | exact h1), List.forall_mem_cons.mpr ⟨hd_p3 b33 rfl (by have hc : ((0) : Int32).toInt = 0 := (by decide); omega), List.forall_mem_cons.mpr ⟨hd_p3 rfl b33 (by have hc : ((400) : Int32).toInt = 400 := (by decide); omega), List.forall_mem_cons.mpr ⟨hd_pb b33 (by first | exact h4 | exact h4), List.forall_mem_cons.mpr ⟨hd_p0 t86 b82 h5, List.forall_mem_cons.mpr ⟨hd_p2 b33 rfl (by have hc : ((400) : Int32).toInt = 400 := (by decide); omega), fun _ h => absurd h List.not_mem_nil⟩⟩⟩⟩⟩⟩⟩, ?_⟩
  refine k _ ?_ ?_ ?_ ?_
  · exact fun j hj hn => (hd_keep hB' (Nat.lt_of_lt_of_le hj (by decide +kernel)) (by simp; omega)).trans (hF j (Nat.lt_of_lt_of_le hj (by decide)))
  · exact hd_gi (x := .inr (.inl 85)) (by decide +kernel) t85
  · exact hd_ga (a := .inr (.inl 84)) (by decide +kernel) t84
  · exact hd_gi (x := .inr (.inl 87)) (by decide +kernel) t87
theorem k3pu_34_p4 {Ls : Nat} {xs : Nat → Int32} {d : Nat} {Q : Option Value → jm_h → Prop} (hd : 4 ≤ d) (F : Nat → sy_d) (X1 X2 : List jm_c) (hB : iv_in F iv_B0)
    (h0 : (sy_i F 8).toInt < 512)
    (h1 : 0 ≤ (sy_i F 8).toInt ∧ (sy_i F 8).toInt < 512)
    (h2 : 0 ≤ (sy_i F 33).toInt)
    (h3 : (sy_i F 33).toInt ≤ 400)
    (h4 : 0 ≤ (sy_i F 33).toInt ∧ (sy_i F 33).toInt < 401)
    (h5 : ((sy_ai F 39).getD (sy_i F 33).toNatClampNeg 0).toInt = (sy_i F 82).toInt)
    (h6 : 400 ≤ (sy_i F 33).toInt)
    (k : ∀ F1 : Nat → sy_d, (∀ j, j < 82 → j ≠ 8 ∧ j ≠ 17 ∧ j ≠ 34 → F1 j = F j) → F1 8 = .inl (.int ((sy_i F 8) + ((1 : Int32)))) → F1 17 = .inr (.inl (jm_upd (sy_ai F 17) (sy_i F 8).toNatClampNeg (sy_i F 83))) → F1 34 = .inl (.int ((2 : Int32))) → Q (some (.int ((0 : Int32)))) (sy_dh F1 X1 X2 (iv_H 3))) :
    hd_W Ls xs d jm_M40 Q (34, sy_dL F [some (.inl (.ref 30)), none, none, some (.inr (.inl 82)), none], sy_dS F [.inr (.inl 83), .inl (.ref 10)], sy_dh F X1 X2 (iv_H 3), 0, 0) := by
  refine hd_ret (s := 3) (nv := 84) (v := some (.inl (.int 0))) (uh := hd_ov (iv_id 0 iv_B0) [(8, .inl (.inr (.inl 85))), (17, .inr (.inr (.inl 84))), (34, .inl (.inl (.int 2)))]) (f := true) (sp := []) (d0 := 3) (O := [false, false, false, true, false]) (T := [(40, [.inr (.inl 8), .inr (.inl 83)], [.inr (.inl 17)]), (0, [.inr (.inl 8), .inl (.int 1)], []), (30, [.inr (.inl 33)], [.inr (.inl 39)])]) (P := [(5, .inl (.int 512), .inr (.inl 8)), (6, .inr (.inl 8), .inl (.ref 512)), (3, .inr (.inl 33), .inl (.int 0)), (3, .inl (.int 400), .inr (.inl 33)), (6, .inr (.inl 33), .inl (.ref 401)), (0, .inr (.inl 86), .inr (.inl 82)), (3, .inr (.inl 33), .inl (.int 400))]) jm_ok40 (by decide +kernel) (by decide +kernel) hd F X1 X2 (fun F' hF hs => ?_)
  have b8 := hd_b (F := F) (F' := F') (k := 8) (hF 8 (by decide))
  have b33 := hd_b (F := F) (F' := F') (k := 33) (hF 33 (by decide))
  have a39 := hd_ba (F := F) (F' := F') (k := 39) (hF 39 (by decide))
  have t86 : sy_dv F' (.inr (.inl 86)) = .int ((sy_ai F 39).getD (sy_i F 33).toNatClampNeg 0) := hd_rd (hs 2 _ rfl) b33 a39
  have b82 := hd_b (F := F) (F' := F') (k := 82) (hF 82 (by decide))
  have t85 : sy_dv F' (.inr (.inl 85)) = .int ((sy_i F 8) + ((1 : Int32))) := hd_o (hs 1 _ rfl) b8 rfl rfl
  have b83 := hd_b (F := F) (F' := F') (k := 83) (hF 83 (by decide))
  have a17 := hd_ba (F := F) (F' := F') (k := 17) (hF 17 (by decide))
  have t84 : sy_da F' (.inr (.inl 84)) = .inl (jm_upd (sy_ai F 17) (sy_i F 8).toNatClampNeg (sy_i F 83)) := hd_up (hs 0 _ rfl) b8 b83 a17
  have hB' : iv_in F' iv_B0 := iv_in_eq hB (fun j hj => hF j (Nat.lt_of_lt_of_le hj (by decide +kernel)))
  refine ⟨List.forall_mem_cons.mpr ⟨hd_p5 rfl b8 (by have hc : ((512) : Int32).toInt = 512 := (by decide); omega), List.forall_mem_cons.mpr ⟨hd_pb b8 (by first | exact h1 | exact h1), List.forall_mem_cons.mpr ⟨hd_p3 b33 rfl (by have hc : ((0) : Int32).toInt = 0 := (by decide); omega), List.forall_mem_cons.mpr ⟨hd_p3 rfl b33 (by have hc : ((400) : Int32).toInt = 400 := (by decide); omega), List.forall_mem_cons.mpr ⟨hd_pb b33 (by first | exact h4 | exact h4), List.forall_mem_cons.mpr ⟨hd_p0 t86 b82 h5, List.forall_mem_cons.mpr ⟨hd_p3 b33 rfl (by have hc : ((400) : Int32).toInt = 400 := (by decide); omega), fun _ h => absurd h List.not_mem_nil⟩⟩⟩⟩⟩⟩⟩, ?_⟩
  refine k _ ?_ ?_ ?_ ?_
  · exact fun j hj hn => (hd_keep hB' (Nat.lt_of_lt_of_le hj (by decide +kernel)) (by simp; omega)).trans (hF j (Nat.lt_of_lt_of_le hj (by decide)))
  · exact hd_gi (x := .inr (.inl 85)) (by decide +kernel) t85
  · exact hd_ga (a := .inr (.inl 84)) (by decide +kernel) t84
  · exact hd_gi (x := .inl (.int 2)) (by decide +kernel) rfl
theorem k3pu_34_p5 {Ls : Nat} {xs : Nat → Int32} {d : Nat} {Q : Option Value → jm_h → Prop} (hd : 4 ≤ d) (F : Nat → sy_d) (X1 X2 : List jm_c) (hB : iv_in F iv_B0)
    (h0 : (sy_i F 8).toInt < 512)
    (h1 : 0 ≤ (sy_i F 8).toInt ∧ (sy_i F 8).toInt < 512)
    (h2 : 0 ≤ (sy_i F 33).toInt)
    (h3 : (sy_i F 33).toInt ≤ 400)
    (h4 : 0 ≤ (sy_i F 33).toInt ∧ (sy_i F 33).toInt < 401)
    (h5 : ((sy_ai F 39).getD (sy_i F 33).toNatClampNeg 0).toInt ≠ (sy_i F 82).toInt)
    (k : ∀ F1 : Nat → sy_d, (∀ j, j < 82 → j ≠ 8 ∧ j ≠ 17 ∧ j ≠ 34 → F1 j = F j) → F1 8 = .inl (.int ((sy_i F 8) + ((1 : Int32)))) → F1 17 = .inr (.inl (jm_upd (sy_ai F 17) (sy_i F 8).toNatClampNeg (sy_i F 83))) → F1 34 = .inl (.int ((1 : Int32))) → Q (some (.int ((0 : Int32)))) (sy_dh F1 X1 X2 (iv_H 3))) :
    hd_W Ls xs d jm_M40 Q (34, sy_dL F [some (.inl (.ref 30)), none, none, some (.inr (.inl 82)), none], sy_dS F [.inr (.inl 83), .inl (.ref 10)], sy_dh F X1 X2 (iv_H 3), 0, 0) := by
  refine hd_ret (s := 3) (nv := 84) (v := some (.inl (.int 0))) (uh := hd_ov (iv_id 0 iv_B0) [(8, .inl (.inr (.inl 85))), (17, .inr (.inr (.inl 84))), (34, .inl (.inl (.int 1)))]) (f := true) (sp := []) (d0 := 3) (O := [false, false, false, false]) (T := [(40, [.inr (.inl 8), .inr (.inl 83)], [.inr (.inl 17)]), (0, [.inr (.inl 8), .inl (.int 1)], []), (30, [.inr (.inl 33)], [.inr (.inl 39)])]) (P := [(5, .inl (.int 512), .inr (.inl 8)), (6, .inr (.inl 8), .inl (.ref 512)), (3, .inr (.inl 33), .inl (.int 0)), (3, .inl (.int 400), .inr (.inl 33)), (6, .inr (.inl 33), .inl (.ref 401)), (1, .inr (.inl 86), .inr (.inl 82))]) jm_ok40 (by decide +kernel) (by decide +kernel) hd F X1 X2 (fun F' hF hs => ?_)
  have b8 := hd_b (F := F) (F' := F') (k := 8) (hF 8 (by decide))
  have b33 := hd_b (F := F) (F' := F') (k := 33) (hF 33 (by decide))
  have a39 := hd_ba (F := F) (F' := F') (k := 39) (hF 39 (by decide))
  have t86 : sy_dv F' (.inr (.inl 86)) = .int ((sy_ai F 39).getD (sy_i F 33).toNatClampNeg 0) := hd_rd (hs 2 _ rfl) b33 a39
  have b82 := hd_b (F := F) (F' := F') (k := 82) (hF 82 (by decide))
  have t85 : sy_dv F' (.inr (.inl 85)) = .int ((sy_i F 8) + ((1 : Int32))) := hd_o (hs 1 _ rfl) b8 rfl rfl
  have b83 := hd_b (F := F) (F' := F') (k := 83) (hF 83 (by decide))
  have a17 := hd_ba (F := F) (F' := F') (k := 17) (hF 17 (by decide))
  have t84 : sy_da F' (.inr (.inl 84)) = .inl (jm_upd (sy_ai F 17) (sy_i F 8).toNatClampNeg (sy_i F 83)) := hd_up (hs 0 _ rfl) b8 b83 a17
  have hB' : iv_in F' iv_B0 := iv_in_eq hB (fun j hj => hF j (Nat.lt_of_lt_of_le hj (by decide +kernel)))
  refine ⟨List.forall_mem_cons.mpr ⟨hd_p5 rfl b8 (by have hc : ((512) : Int32).toInt = 512 := (by decide); omega), List.forall_mem_cons.mpr ⟨hd_pb b8 (by first | exact h1 | exact h1), List.forall_mem_cons.mpr ⟨hd_p3 b33 rfl (by have hc : ((0) : Int32).toInt = 0 := (by decide); omega), List.forall_mem_cons.mpr ⟨hd_p3 rfl b33 (by have hc : ((400) : Int32).toInt = 400 := (by decide); omega), List.forall_mem_cons.mpr ⟨hd_pb b33 (by first | exact h4 | exact h4), List.forall_mem_cons.mpr ⟨hd_p1 t86 b82 h5, fun _ h => absurd h List.not_mem_nil⟩⟩⟩⟩⟩⟩, ?_⟩
  refine k _ ?_ ?_ ?_ ?_
  · exact fun j hj hn => (hd_keep hB' (Nat.lt_of_lt_of_le hj (by decide +kernel)) (by simp; omega)).trans (hF j (Nat.lt_of_lt_of_le hj (by decide)))
  · exact hd_gi (x := .inr (.inl 85)) (by decide +kernel) t85
  · exact hd_ga (a := .inr (.inl 84)) (by decide +kernel) t84
  · exact hd_gi (x := .inl (.int 1)) (by decide +kernel) rfl
theorem k3pu_88_p0 {Ls : Nat} {xs : Nat → Int32} {d : Nat} {Q : Option Value → jm_h → Prop} (hd : 4 ≤ d) (F : Nat → sy_d) (X1 X2 : List jm_c) (hB : iv_in F iv_B0)
    (h0 : 512 ≤ (sy_i F 8).toInt)
    (h1 : 0 ≤ (sy_i F 33).toInt)
    (h2 : (sy_i F 33).toInt ≤ 400)
    (h3 : 0 ≤ (sy_i F 33).toInt ∧ (sy_i F 33).toInt < 401)
    (h4 : ((sy_ai F 39).getD (sy_i F 33).toNatClampNeg 0).toInt = (sy_i F 82).toInt)
    (h5 : (sy_i F 33).toInt < 400)
    (k : ∀ F1 : Nat → sy_d, (∀ j, j < 82 → j ≠ 33 → F1 j = F j) → F1 33 = .inl (.int ((sy_i F 33) + ((1 : Int32)))) → Q (some (.int ((1 : Int32)))) (sy_dh F1 X1 X2 (iv_H 3))) :
    hd_W Ls xs d jm_M40 Q (88, sy_dL F [some (.inl (.ref 30)), none, none, some (.inr (.inl 82)), none], sy_dS F [.inr (.inl 83), .inl (.ref 10)], sy_dh F X1 X2 (iv_H 3), 0, 0) := by
  refine hd_ret (s := 3) (nv := 84) (v := some (.inl (.int 1))) (uh := hd_ov (iv_id 0 iv_B0) [(33, .inl (.inr (.inl 85)))]) (f := true) (sp := []) (d0 := 3) (O := [true, false, false, true, true]) (T := [(30, [.inr (.inl 33)], [.inr (.inl 39)]), (0, [.inr (.inl 33), .inl (.int 1)], [])]) (P := [(4, .inl (.int 512), .inr (.inl 8)), (3, .inr (.inl 33), .inl (.int 0)), (3, .inl (.int 400), .inr (.inl 33)), (6, .inr (.inl 33), .inl (.ref 401)), (0, .inr (.inl 84), .inr (.inl 82)), (2, .inr (.inl 33), .inl (.int 400))]) jm_ok40 (by decide +kernel) (by decide +kernel) hd F X1 X2 (fun F' hF hs => ?_)
  have b8 := hd_b (F := F) (F' := F') (k := 8) (hF 8 (by decide))
  have b33 := hd_b (F := F) (F' := F') (k := 33) (hF 33 (by decide))
  have a39 := hd_ba (F := F) (F' := F') (k := 39) (hF 39 (by decide))
  have t84 : sy_dv F' (.inr (.inl 84)) = .int ((sy_ai F 39).getD (sy_i F 33).toNatClampNeg 0) := hd_rd (hs 0 _ rfl) b33 a39
  have b82 := hd_b (F := F) (F' := F') (k := 82) (hF 82 (by decide))
  have t85 : sy_dv F' (.inr (.inl 85)) = .int ((sy_i F 33) + ((1 : Int32))) := hd_o (hs 1 _ rfl) b33 rfl rfl
  have hB' : iv_in F' iv_B0 := iv_in_eq hB (fun j hj => hF j (Nat.lt_of_lt_of_le hj (by decide +kernel)))
  refine ⟨List.forall_mem_cons.mpr ⟨hd_p4 rfl b8 (by have hc : ((512) : Int32).toInt = 512 := (by decide); omega), List.forall_mem_cons.mpr ⟨hd_p3 b33 rfl (by have hc : ((0) : Int32).toInt = 0 := (by decide); omega), List.forall_mem_cons.mpr ⟨hd_p3 rfl b33 (by have hc : ((400) : Int32).toInt = 400 := (by decide); omega), List.forall_mem_cons.mpr ⟨hd_pb b33 (by first | exact h3 | exact h3), List.forall_mem_cons.mpr ⟨hd_p0 t84 b82 h4, List.forall_mem_cons.mpr ⟨hd_p2 b33 rfl (by have hc : ((400) : Int32).toInt = 400 := (by decide); omega), fun _ h => absurd h List.not_mem_nil⟩⟩⟩⟩⟩⟩, ?_⟩
  refine k _ ?_ ?_
  · exact fun j hj hn => (hd_keep hB' (Nat.lt_of_lt_of_le hj (by decide +kernel)) (by simp; omega)).trans (hF j (Nat.lt_of_lt_of_le hj (by decide)))
  · exact hd_gi (x := .inr (.inl 85)) (by decide +kernel) t85
theorem k3pu_88_p1 {Ls : Nat} {xs : Nat → Int32} {d : Nat} {Q : Option Value → jm_h → Prop} (hd : 4 ≤ d) (F : Nat → sy_d) (X1 X2 : List jm_c) (hB : iv_in F iv_B0)
    (h0 : 512 ≤ (sy_i F 8).toInt)
    (h1 : 0 ≤ (sy_i F 33).toInt)
    (h2 : (sy_i F 33).toInt ≤ 400)
    (h3 : 0 ≤ (sy_i F 33).toInt ∧ (sy_i F 33).toInt < 401)
    (h4 : ((sy_ai F 39).getD (sy_i F 33).toNatClampNeg 0).toInt = (sy_i F 82).toInt)
    (h5 : 400 ≤ (sy_i F 33).toInt)
    (k : ∀ F1 : Nat → sy_d, (∀ j, j < 82 → j ≠ 34 → F1 j = F j) → F1 34 = .inl (.int ((2 : Int32))) → Q (some (.int ((0 : Int32)))) (sy_dh F1 X1 X2 (iv_H 3))) :
    hd_W Ls xs d jm_M40 Q (88, sy_dL F [some (.inl (.ref 30)), none, none, some (.inr (.inl 82)), none], sy_dS F [.inr (.inl 83), .inl (.ref 10)], sy_dh F X1 X2 (iv_H 3), 0, 0) := by
  refine hd_ret (s := 3) (nv := 84) (v := some (.inl (.int 0))) (uh := hd_ov (iv_id 0 iv_B0) [(34, .inl (.inl (.int 2)))]) (f := true) (sp := []) (d0 := 3) (O := [true, false, false, true, false]) (T := [(30, [.inr (.inl 33)], [.inr (.inl 39)])]) (P := [(4, .inl (.int 512), .inr (.inl 8)), (3, .inr (.inl 33), .inl (.int 0)), (3, .inl (.int 400), .inr (.inl 33)), (6, .inr (.inl 33), .inl (.ref 401)), (0, .inr (.inl 84), .inr (.inl 82)), (3, .inr (.inl 33), .inl (.int 400))]) jm_ok40 (by decide +kernel) (by decide +kernel) hd F X1 X2 (fun F' hF hs => ?_)
  have b8 := hd_b (F := F) (F' := F') (k := 8) (hF 8 (by decide))
  have b33 := hd_b (F := F) (F' := F') (k := 33) (hF 33 (by decide))
  have a39 := hd_ba (F := F) (F' := F') (k := 39) (hF 39 (by decide))
  have t84 : sy_dv F' (.inr (.inl 84)) = .int ((sy_ai F 39).getD (sy_i F 33).toNatClampNeg 0) := hd_rd (hs 0 _ rfl) b33 a39
  have b82 := hd_b (F := F) (F' := F') (k := 82) (hF 82 (by decide))
  have hB' : iv_in F' iv_B0 := iv_in_eq hB (fun j hj => hF j (Nat.lt_of_lt_of_le hj (by decide +kernel)))
  refine ⟨List.forall_mem_cons.mpr ⟨hd_p4 rfl b8 (by have hc : ((512) : Int32).toInt = 512 := (by decide); omega), List.forall_mem_cons.mpr ⟨hd_p3 b33 rfl (by have hc : ((0) : Int32).toInt = 0 := (by decide); omega), List.forall_mem_cons.mpr ⟨hd_p3 rfl b33 (by have hc : ((400) : Int32).toInt = 400 := (by decide); omega), List.forall_mem_cons.mpr ⟨hd_pb b33 (by first | exact h3 | exact h3), List.forall_mem_cons.mpr ⟨hd_p0 t84 b82 h4, List.forall_mem_cons.mpr ⟨hd_p3 b33 rfl (by have hc : ((400) : Int32).toInt = 400 := (by decide); omega), fun _ h => absurd h List.not_mem_nil⟩⟩⟩⟩⟩⟩, ?_⟩
  refine k _ ?_ ?_
  · exact fun j hj hn => (hd_keep hB' (Nat.lt_of_lt_of_le hj (by decide +kernel)) (by simp; omega)).trans (hF j (Nat.lt_of_lt_of_le hj (by decide)))
  · exact hd_gi (x := .inl (.int 2)) (by decide +kernel) rfl
theorem k3pu_88_p2 {Ls : Nat} {xs : Nat → Int32} {d : Nat} {Q : Option Value → jm_h → Prop} (hd : 4 ≤ d) (F : Nat → sy_d) (X1 X2 : List jm_c) (hB : iv_in F iv_B0)
    (h0 : 512 ≤ (sy_i F 8).toInt)
    (h1 : 0 ≤ (sy_i F 33).toInt)
    (h2 : (sy_i F 33).toInt ≤ 400)
    (h3 : 0 ≤ (sy_i F 33).toInt ∧ (sy_i F 33).toInt < 401)
    (h4 : ((sy_ai F 39).getD (sy_i F 33).toNatClampNeg 0).toInt ≠ (sy_i F 82).toInt)
    (k : ∀ F1 : Nat → sy_d, (∀ j, j < 82 → j ≠ 34 → F1 j = F j) → F1 34 = .inl (.int ((1 : Int32))) → Q (some (.int ((0 : Int32)))) (sy_dh F1 X1 X2 (iv_H 3))) :
    hd_W Ls xs d jm_M40 Q (88, sy_dL F [some (.inl (.ref 30)), none, none, some (.inr (.inl 82)), none], sy_dS F [.inr (.inl 83), .inl (.ref 10)], sy_dh F X1 X2 (iv_H 3), 0, 0) := by
  refine hd_ret (s := 3) (nv := 84) (v := some (.inl (.int 0))) (uh := hd_ov (iv_id 0 iv_B0) [(34, .inl (.inl (.int 1)))]) (f := true) (sp := []) (d0 := 3) (O := [true, false, false, false]) (T := [(30, [.inr (.inl 33)], [.inr (.inl 39)])]) (P := [(4, .inl (.int 512), .inr (.inl 8)), (3, .inr (.inl 33), .inl (.int 0)), (3, .inl (.int 400), .inr (.inl 33)), (6, .inr (.inl 33), .inl (.ref 401)), (1, .inr (.inl 84), .inr (.inl 82))]) jm_ok40 (by decide +kernel) (by decide +kernel) hd F X1 X2 (fun F' hF hs => ?_)
  have b8 := hd_b (F := F) (F' := F') (k := 8) (hF 8 (by decide))
  have b33 := hd_b (F := F) (F' := F') (k := 33) (hF 33 (by decide))
  have a39 := hd_ba (F := F) (F' := F') (k := 39) (hF 39 (by decide))
  have t84 : sy_dv F' (.inr (.inl 84)) = .int ((sy_ai F 39).getD (sy_i F 33).toNatClampNeg 0) := hd_rd (hs 0 _ rfl) b33 a39
  have b82 := hd_b (F := F) (F' := F') (k := 82) (hF 82 (by decide))
  have hB' : iv_in F' iv_B0 := iv_in_eq hB (fun j hj => hF j (Nat.lt_of_lt_of_le hj (by decide +kernel)))
  refine ⟨List.forall_mem_cons.mpr ⟨hd_p4 rfl b8 (by have hc : ((512) : Int32).toInt = 512 := (by decide); omega), List.forall_mem_cons.mpr ⟨hd_p3 b33 rfl (by have hc : ((0) : Int32).toInt = 0 := (by decide); omega), List.forall_mem_cons.mpr ⟨hd_p3 rfl b33 (by have hc : ((400) : Int32).toInt = 400 := (by decide); omega), List.forall_mem_cons.mpr ⟨hd_pb b33 (by first | exact h3 | exact h3), List.forall_mem_cons.mpr ⟨hd_p1 t84 b82 h4, fun _ h => absurd h List.not_mem_nil⟩⟩⟩⟩⟩, ?_⟩
  refine k _ ?_ ?_
  · exact fun j hj hn => (hd_keep hB' (Nat.lt_of_lt_of_le hj (by decide +kernel)) (by simp; omega)).trans (hF j (Nat.lt_of_lt_of_le hj (by decide)))
  · exact hd_gi (x := .inl (.int 1)) (by decide +kernel) rfl
theorem k3pu_88_p3 {Ls : Nat} {xs : Nat → Int32} {d : Nat} {Q : Option Value → jm_h → Prop} (hd : 4 ≤ d) (F : Nat → sy_d) (X1 X2 : List jm_c) (hB : iv_in F iv_B0)
    (h0 : (sy_i F 8).toInt < 512)
    (h1 : 0 ≤ (sy_i F 8).toInt ∧ (sy_i F 8).toInt < 512)
    (h2 : 0 ≤ (sy_i F 33).toInt)
    (h3 : (sy_i F 33).toInt ≤ 400)
    (h4 : 0 ≤ (sy_i F 33).toInt ∧ (sy_i F 33).toInt < 401)
    (h5 : ((sy_ai F 39).getD (sy_i F 33).toNatClampNeg 0).toInt = (sy_i F 82).toInt)
    (h6 : (sy_i F 33).toInt < 400)
    (k : ∀ F1 : Nat → sy_d, (∀ j, j < 82 → j ≠ 8 ∧ j ≠ 17 ∧ j ≠ 33 → F1 j = F j) → F1 8 = .inl (.int ((sy_i F 8) + ((1 : Int32)))) → F1 17 = .inr (.inl (jm_upd (sy_ai F 17) (sy_i F 8).toNatClampNeg (sy_i F 83))) → F1 33 = .inl (.int ((sy_i F 33) + ((1 : Int32)))) → Q (some (.int ((1 : Int32)))) (sy_dh F1 X1 X2 (iv_H 3))) :
    hd_W Ls xs d jm_M40 Q (88, sy_dL F [some (.inl (.ref 30)), none, none, some (.inr (.inl 82)), none], sy_dS F [.inr (.inl 83), .inl (.ref 10)], sy_dh F X1 X2 (iv_H 3), 0, 0) := by
  refine hd_ret (s := 3) (nv := 84) (v := some (.inl (.int 1))) (uh := hd_ov (iv_id 0 iv_B0) [(8, .inl (.inr (.inl 85))), (17, .inr (.inr (.inl 84))), (33, .inl (.inr (.inl 87)))]) (f := true) (sp := []) (d0 := 3) (O := [false, false, false, true, true]) (T := [(40, [.inr (.inl 8), .inr (.inl 83)], [.inr (.inl 17)]), (0, [.inr (.inl 8), .inl (.int 1)], []), (30, [.inr (.inl 33)], [.inr (.inl 39)]), (0, [.inr (.inl 33), .inl (.int 1)], [])]) (P := [(5, .inl (.int 512), .inr (.inl 8)), (6, .inr (.inl 8), .inl (.ref 512)), (3, .inr (.inl 33), .inl (.int 0)), (3, .inl (.int 400), .inr (.inl 33)), (6, .inr (.inl 33), .inl (.ref 401)), (0, .inr (.inl 86), .inr (.inl 82)), (2, .inr (.inl 33), .inl (.int 400))]) jm_ok40 (by decide +kernel) (by decide +kernel) hd F X1 X2 (fun F' hF hs => ?_)
  have b8 := hd_b (F := F) (F' := F') (k := 8) (hF 8 (by decide))
  have b33 := hd_b (F := F) (F' := F') (k := 33) (hF 33 (by decide))
  have a39 := hd_ba (F := F) (F' := F') (k := 39) (hF 39 (by decide))
  have t86 : sy_dv F' (.inr (.inl 86)) = .int ((sy_ai F 39).getD (sy_i F 33).toNatClampNeg 0) := hd_rd (hs 2 _ rfl) b33 a39
  have b82 := hd_b (F := F) (F' := F') (k := 82) (hF 82 (by decide))
  have t85 : sy_dv F' (.inr (.inl 85)) = .int ((sy_i F 8) + ((1 : Int32))) := hd_o (hs 1 _ rfl) b8 rfl rfl
  have b83 := hd_b (F := F) (F' := F') (k := 83) (hF 83 (by decide))
  have a17 := hd_ba (F := F) (F' := F') (k := 17) (hF 17 (by decide))
  have t84 : sy_da F' (.inr (.inl 84)) = .inl (jm_upd (sy_ai F 17) (sy_i F 8).toNatClampNeg (sy_i F 83)) := hd_up (hs 0 _ rfl) b8 b83 a17
  have t87 : sy_dv F' (.inr (.inl 87)) = .int ((sy_i F 33) + ((1 : Int32))) := hd_o (hs 3 _ rfl) b33 rfl rfl
  have hB' : iv_in F' iv_B0 := iv_in_eq hB (fun j hj => hF j (Nat.lt_of_lt_of_le hj (by decide +kernel)))
  refine ⟨List.forall_mem_cons.mpr ⟨hd_p5 rfl b8 (by have hc : ((512) : Int32).toInt = 512 := (by decide); omega), List.forall_mem_cons.mpr ⟨hd_pb b8 (by first | exact h1 | exact h1), List.forall_mem_cons.mpr ⟨hd_p3 b33 rfl (by have hc : ((0) : Int32).toInt = 0 := (by decide); omega), List.forall_mem_cons.mpr ⟨hd_p3 rfl b33 (by have hc : ((400) : Int32).toInt = 400 := (by decide); omega), List.forall_mem_cons.mpr ⟨hd_pb b33 (by first | exact h4 | exact h4), List.forall_mem_cons.mpr ⟨hd_p0 t86 b82 h5, List.forall_mem_cons.mpr ⟨hd_p2 b33 rfl (by have hc : ((400) : Int32).toInt = 400 := (by decide); omega), fun _ h => absurd h List.not_mem_nil⟩⟩⟩⟩⟩⟩⟩, ?_⟩
  refine k _ ?_ ?_ ?_ ?_
  · exact fun j hj hn => (hd_keep hB' (Nat.lt_of_lt_of_le hj (by decide +kernel)) (by simp; omega)).trans (hF j (Nat.lt_of_lt_of_le hj (by decide)))
  · exact hd_gi (x := .inr (.inl 85)) (by decide +kernel) t85
  · exact hd_ga (a := .inr (.inl 84)) (by decide +kernel) t84
  · exact hd_gi (x := .inr (.inl 87)) (by decide +kernel) t87
theorem k3pu_88_p4 {Ls : Nat} {xs : Nat → Int32} {d : Nat} {Q : Option Value → jm_h → Prop} (hd : 4 ≤ d) (F : Nat → sy_d) (X1 X2 : List jm_c) (hB : iv_in F iv_B0)
    (h0 : (sy_i F 8).toInt < 512)
    (h1 : 0 ≤ (sy_i F 8).toInt ∧ (sy_i F 8).toInt < 512)
    (h2 : 0 ≤ (sy_i F 33).toInt)
    (h3 : (sy_i F 33).toInt ≤ 400)
    (h4 : 0 ≤ (sy_i F 33).toInt ∧ (sy_i F 33).toInt < 401)
    (h5 : ((sy_ai F 39).getD (sy_i F 33).toNatClampNeg 0).toInt = (sy_i F 82).toInt)
    (h6 : 400 ≤ (sy_i F 33).toInt)
    (k : ∀ F1 : Nat → sy_d, (∀ j, j < 82 → j ≠ 8 ∧ j ≠ 17 ∧ j ≠ 34 → F1 j = F j) → F1 8 = .inl (.int ((sy_i F 8) + ((1 : Int32)))) → F1 17 = .inr (.inl (jm_upd (sy_ai F 17) (sy_i F 8).toNatClampNeg (sy_i F 83))) → F1 34 = .inl (.int ((2 : Int32))) → Q (some (.int ((0 : Int32)))) (sy_dh F1 X1 X2 (iv_H 3))) :
    hd_W Ls xs d jm_M40 Q (88, sy_dL F [some (.inl (.ref 30)), none, none, some (.inr (.inl 82)), none], sy_dS F [.inr (.inl 83), .inl (.ref 10)], sy_dh F X1 X2 (iv_H 3), 0, 0) := by
  refine hd_ret (s := 3) (nv := 84) (v := some (.inl (.int 0))) (uh := hd_ov (iv_id 0 iv_B0) [(8, .inl (.inr (.inl 85))), (17, .inr (.inr (.inl 84))), (34, .inl (.inl (.int 2)))]) (f := true) (sp := []) (d0 := 3) (O := [false, false, false, true, false]) (T := [(40, [.inr (.inl 8), .inr (.inl 83)], [.inr (.inl 17)]), (0, [.inr (.inl 8), .inl (.int 1)], []), (30, [.inr (.inl 33)], [.inr (.inl 39)])]) (P := [(5, .inl (.int 512), .inr (.inl 8)), (6, .inr (.inl 8), .inl (.ref 512)), (3, .inr (.inl 33), .inl (.int 0)), (3, .inl (.int 400), .inr (.inl 33)), (6, .inr (.inl 33), .inl (.ref 401)), (0, .inr (.inl 86), .inr (.inl 82)), (3, .inr (.inl 33), .inl (.int 400))]) jm_ok40 (by decide +kernel) (by decide +kernel) hd F X1 X2 (fun F' hF hs => ?_)
  have b8 := hd_b (F := F) (F' := F') (k := 8) (hF 8 (by decide))
  have b33 := hd_b (F := F) (F' := F') (k := 33) (hF 33 (by decide))
  have a39 := hd_ba (F := F) (F' := F') (k := 39) (hF 39 (by decide))
  have t86 : sy_dv F' (.inr (.inl 86)) = .int ((sy_ai F 39).getD (sy_i F 33).toNatClampNeg 0) := hd_rd (hs 2 _ rfl) b33 a39
  have b82 := hd_b (F := F) (F' := F') (k := 82) (hF 82 (by decide))
  have t85 : sy_dv F' (.inr (.inl 85)) = .int ((sy_i F 8) + ((1 : Int32))) := hd_o (hs 1 _ rfl) b8 rfl rfl
  have b83 := hd_b (F := F) (F' := F') (k := 83) (hF 83 (by decide))
  have a17 := hd_ba (F := F) (F' := F') (k := 17) (hF 17 (by decide))
  have t84 : sy_da F' (.inr (.inl 84)) = .inl (jm_upd (sy_ai F 17) (sy_i F 8).toNatClampNeg (sy_i F 83)) := hd_up (hs 0 _ rfl) b8 b83 a17
  have hB' : iv_in F' iv_B0 := iv_in_eq hB (fun j hj => hF j (Nat.lt_of_lt_of_le hj (by decide +kernel)))
  refine ⟨List.forall_mem_cons.mpr ⟨hd_p5 rfl b8 (by have hc : ((512) : Int32).toInt = 512 := (by decide); omega), List.forall_mem_cons.mpr ⟨hd_pb b8 (by first | exact h1 | exact h1), List.forall_mem_cons.mpr ⟨hd_p3 b33 rfl (by have hc : ((0) : Int32).toInt = 0 := (by decide); omega), List.forall_mem_cons.mpr ⟨hd_p3 rfl b33 (by have hc : ((400) : Int32).toInt = 400 := (by decide); omega), List.forall_mem_cons.mpr ⟨hd_pb b33 (by first | exact h4 | exact h4), List.forall_mem_cons.mpr ⟨hd_p0 t86 b82 h5, List.forall_mem_cons.mpr ⟨hd_p3 b33 rfl (by have hc : ((400) : Int32).toInt = 400 := (by decide); omega), fun _ h => absurd h List.not_mem_nil⟩⟩⟩⟩⟩⟩⟩, ?_⟩
  refine k _ ?_ ?_ ?_ ?_
  · exact fun j hj hn => (hd_keep hB' (Nat.lt_of_lt_of_le hj (by decide +kernel)) (by simp; omega)).trans (hF j (Nat.lt_of_lt_of_le hj (by decide)))
  · exact hd_gi (x := .inr (.inl 85)) (by decide +kernel) t85
  · exact hd_ga (a := .inr (.inl 84)) (by decide +kernel) t84
  · exact hd_gi (x := .inl (.int 2)) (by decide +kernel) rfl
theorem k3pu_88_p5 {Ls : Nat} {xs : Nat → Int32} {d : Nat} {Q : Option Value → jm_h → Prop} (hd : 4 ≤ d) (F : Nat → sy_d) (X1 X2 : List jm_c) (hB : iv_in F iv_B0)
    (h0 : (sy_i F 8).toInt < 512)
    (h1 : 0 ≤ (sy_i F 8).toInt ∧ (sy_i F 8).toInt < 512)
    (h2 : 0 ≤ (sy_i F 33).toInt)
    (h3 : (sy_i F 33).toInt ≤ 400)
    (h4 : 0 ≤ (sy_i F 33).toInt ∧ (sy_i F 33).toInt < 401)
    (h5 : ((sy_ai F 39).getD (sy_i F 33).toNatClampNeg 0).toInt ≠ (sy_i F 82).toInt)
    (k : ∀ F1 : Nat → sy_d, (∀ j, j < 82 → j ≠ 8 ∧ j ≠ 17 ∧ j ≠ 34 → F1 j = F j) → F1 8 = .inl (.int ((sy_i F 8) + ((1 : Int32)))) → F1 17 = .inr (.inl (jm_upd (sy_ai F 17) (sy_i F 8).toNatClampNeg (sy_i F 83))) → F1 34 = .inl (.int ((1 : Int32))) → Q (some (.int ((0 : Int32)))) (sy_dh F1 X1 X2 (iv_H 3))) :
    hd_W Ls xs d jm_M40 Q (88, sy_dL F [some (.inl (.ref 30)), none, none, some (.inr (.inl 82)), none], sy_dS F [.inr (.inl 83), .inl (.ref 10)], sy_dh F X1 X2 (iv_H 3), 0, 0) := by
  refine hd_ret (s := 3) (nv := 84) (v := some (.inl (.int 0))) (uh := hd_ov (iv_id 0 iv_B0) [(8, .inl (.inr (.inl 85))), (17, .inr (.inr (.inl 84))), (34, .inl (.inl (.int 1)))]) (f := true) (sp := []) (d0 := 3) (O := [false, false, false, false]) (T := [(40, [.inr (.inl 8), .inr (.inl 83)], [.inr (.inl 17)]), (0, [.inr (.inl 8), .inl (.int 1)], []), (30, [.inr (.inl 33)], [.inr (.inl 39)])]) (P := [(5, .inl (.int 512), .inr (.inl 8)), (6, .inr (.inl 8), .inl (.ref 512)), (3, .inr (.inl 33), .inl (.int 0)), (3, .inl (.int 400), .inr (.inl 33)), (6, .inr (.inl 33), .inl (.ref 401)), (1, .inr (.inl 86), .inr (.inl 82))]) jm_ok40 (by decide +kernel) (by decide +kernel) hd F X1 X2 (fun F' hF hs => ?_)
  have b8 := hd_b (F := F) (F' := F') (k := 8) (hF 8 (by decide))
  have b33 := hd_b (F := F) (F' := F') (k := 33) (hF 33 (by decide))
  have a39 := hd_ba (F := F) (F' := F') (k := 39) (hF 39 (by decide))
  have t86 : sy_dv F' (.inr (.inl 86)) = .int ((sy_ai F 39).getD (sy_i F 33).toNatClampNeg 0) := hd_rd (hs 2 _ rfl) b33 a39
  have b82 := hd_b (F := F) (F' := F') (k := 82) (hF 82 (by decide))
  have t85 : sy_dv F' (.inr (.inl 85)) = .int ((sy_i F 8) + ((1 : Int32))) := hd_o (hs 1 _ rfl) b8 rfl rfl
  have b83 := hd_b (F := F) (F' := F') (k := 83) (hF 83 (by decide))
  have a17 := hd_ba (F := F) (F' := F') (k := 17) (hF 17 (by decide))
  have t84 : sy_da F' (.inr (.inl 84)) = .inl (jm_upd (sy_ai F 17) (sy_i F 8).toNatClampNeg (sy_i F 83)) := hd_up (hs 0 _ rfl) b8 b83 a17
  have hB' : iv_in F' iv_B0 := iv_in_eq hB (fun j hj => hF j (Nat.lt_of_lt_of_le hj (by decide +kernel)))
  refine ⟨List.forall_mem_cons.mpr ⟨hd_p5 rfl b8 (by have hc : ((512) : Int32).toInt = 512 := (by decide); omega), List.forall_mem_cons.mpr ⟨hd_pb b8 (by first | exact h1 | exact h1), List.forall_mem_cons.mpr ⟨hd_p3 b33 rfl (by have hc : ((0) : Int32).toInt = 0 := (by decide); omega), List.forall_mem_cons.mpr ⟨hd_p3 rfl b33 (by have hc : ((400) : Int32).toInt = 400 := (by decide); omega), List.forall_mem_cons.mpr ⟨hd_pb b33 (by first | exact h4 | exact h4), List.forall_mem_cons.mpr ⟨hd_p1 t86 b82 h5, fun _ h => absurd h List.not_mem_nil⟩⟩⟩⟩⟩⟩, ?_⟩
  refine k _ ?_ ?_ ?_ ?_
  · exact fun j hj hn => (hd_keep hB' (Nat.lt_of_lt_of_le hj (by decide +kernel)) (by simp; omega)).trans (hF j (Nat.lt_of_lt_of_le hj (by decide)))
  · exact hd_gi (x := .inr (.inl 85)) (by decide +kernel) t85
  · exact hd_ga (a := .inr (.inl 84)) (by decide +kernel) t84
  · exact hd_gi (x := .inl (.int 1)) (by decide +kernel) rfl
theorem k3pp_0_p0 {Ls : Nat} {xs : Nat → Int32} {d : Nat} {Q : Option Value → jm_h → Prop} (hd : 4 ≤ d) (F : Nat → sy_d) (X1 X2 : List jm_c) (hB : iv_in F iv_B0)
    (k : ∀ F1 : Nat → sy_d, (∀ j, j < 82 → True → F1 j = F j) → F1 82 = .inl (.int (sy_i F 82)) → F1 83 = .inl (.int (sy_i F 83)) → hd_W Ls xs d jm_M39 Q (3, sy_dL F1 [some (.inl (.ref 30)), some (.inr (.inl 82)), some (.inr (.inl 83)), none, none, none], sy_dS F1 [.inr (.inl 83), .inr (.inl 82), .inl (.ref 30)], sy_dh F1 X1 X2 (iv_H 3), 0, 0)) :
    hd_W Ls xs d jm_M39 Q (0, sy_dL F [some (.inl (.ref 30)), some (.inr (.inl 82)), some (.inr (.inl 83)), none, none, none], sy_dS F [], sy_dh F X1 X2 (iv_H 3), 0, 0) := by
  refine hd_run (s := 3) (nv := 84) (pc := 3) (L := [some (.inl (.ref 30)), some (.inr (.inl 82)), some (.inr (.inl 83)), none, none, none]) (S := [.inr (.inl 83), .inr (.inl 82), .inl (.ref 30)]) (uh := hd_ov (iv_id 0 iv_B0) []) (ul := [.inl (.inr (.inl 82)), .inl (.inr (.inl 83))]) (f := true) (sp := [3]) (d0 := 3) (O := []) (T := []) (P := []) jm_ok39 (by decide +kernel) (by decide +kernel) hd F X1 X2 (fun F' hF hs => ?_)
  have b82 := hd_b (F := F) (F' := F') (k := 82) (hF 82 (by decide))
  have b83 := hd_b (F := F) (F' := F') (k := 83) (hF 83 (by decide))
  have hB' : iv_in F' iv_B0 := iv_in_eq hB (fun j hj => hF j (Nat.lt_of_lt_of_le hj (by decide +kernel)))
  refine ⟨fun _ h => absurd h List.not_mem_nil, ?_⟩
  refine k _ ?_ ?_ ?_
  · exact fun j hj _ => (hd_keep hB' (Nat.lt_of_lt_of_le hj (by decide +kernel)) (by simp)).trans (hF j (Nat.lt_of_lt_of_le hj (by decide)))
  · exact hd_gi (x := .inr (.inl 82)) (by decide +kernel) b82
  · exact hd_gi (x := .inr (.inl 83)) (by decide +kernel) b83
theorem k3pp_6_p0 {Ls : Nat} {xs : Nat → Int32} {d : Nat} {Q : Option Value → jm_h → Prop} (hd : 4 ≤ d) (F : Nat → sy_d) (X1 X2 : List jm_c) (hB : iv_in F iv_B0)
    (h0 : 0 ≤ (sy_i F 33).toInt)
    (h1 : (sy_i F 33).toInt ≤ 400)
    (h2 : 0 ≤ (sy_i F 33).toInt ∧ (sy_i F 33).toInt < 401)
    (k : ∀ F1 : Nat → sy_d, (∀ j, j < 82 → True → F1 j = F j) → F1 82 = .inl (.int (sy_i F 82)) → F1 83 = .inl (.int (sy_i F 83)) → F1 84 = .inl (.int (sy_i F 84)) → F1 85 = .inl (.int ((sy_ai F 39).getD (sy_i F 33).toNatClampNeg 0)) → F1 86 = .inl (.int ((0 : Int32))) → hd_W Ls xs d jm_M39 Q (23, sy_dL F1 [some (.inl (.ref 30)), some (.inr (.inl 82)), some (.inr (.inl 83)), some (.inr (.inl 84)), some (.inr (.inl 85)), some (.inr (.inl 86))], sy_dS F1 [], sy_dh F1 X1 X2 (iv_H 3), 0, 0)) :
    hd_W Ls xs d jm_M39 Q (6, sy_dL F [some (.inl (.ref 30)), some (.inr (.inl 82)), some (.inr (.inl 83)), none, none, none], sy_dS F [.inr (.inl 84)], sy_dh F X1 X2 (iv_H 3), 0, 0) := by
  refine hd_run (s := 3) (nv := 85) (pc := 23) (L := [some (.inl (.ref 30)), some (.inr (.inl 82)), some (.inr (.inl 83)), some (.inr (.inl 84)), some (.inr (.inl 85)), some (.inr (.inl 86))]) (S := []) (uh := hd_ov (iv_id 0 iv_B0) []) (ul := [.inl (.inr (.inl 82)), .inl (.inr (.inl 83)), .inl (.inr (.inl 84)), .inl (.inr (.inl 85)), .inl (.inl (.int 0))]) (f := false) (sp := [23]) (d0 := 3) (O := [false, false]) (T := [(30, [.inr (.inl 33)], [.inr (.inl 39)])]) (P := [(3, .inr (.inl 33), .inl (.int 0)), (3, .inl (.int 400), .inr (.inl 33)), (6, .inr (.inl 33), .inl (.ref 401))]) jm_ok39 (by decide +kernel) (by decide +kernel) hd F X1 X2 (fun F' hF hs => ?_)
  have b33 := hd_b (F := F) (F' := F') (k := 33) (hF 33 (by decide))
  have b82 := hd_b (F := F) (F' := F') (k := 82) (hF 82 (by decide))
  have b83 := hd_b (F := F) (F' := F') (k := 83) (hF 83 (by decide))
  have b84 := hd_b (F := F) (F' := F') (k := 84) (hF 84 (by decide))
  have a39 := hd_ba (F := F) (F' := F') (k := 39) (hF 39 (by decide))
  have t85 : sy_dv F' (.inr (.inl 85)) = .int ((sy_ai F 39).getD (sy_i F 33).toNatClampNeg 0) := hd_rd (hs 0 _ rfl) b33 a39
  have hB' : iv_in F' iv_B0 := iv_in_eq hB (fun j hj => hF j (Nat.lt_of_lt_of_le hj (by decide +kernel)))
  refine ⟨List.forall_mem_cons.mpr ⟨hd_p3 b33 rfl (by have hc : ((0) : Int32).toInt = 0 := (by decide); omega), List.forall_mem_cons.mpr ⟨hd_p3 rfl b33 (by have hc : ((400) : Int32).toInt = 400 := (by decide); omega), List.forall_mem_cons.mpr ⟨hd_pb b33 (by first | exact h2 | exact h2), fun _ h => absurd h List.not_mem_nil⟩⟩⟩, ?_⟩
  refine k _ ?_ ?_ ?_ ?_ ?_ ?_
  · exact fun j hj _ => (hd_keep hB' (Nat.lt_of_lt_of_le hj (by decide +kernel)) (by simp)).trans (hF j (Nat.lt_of_lt_of_le hj (by decide)))
  · exact hd_gi (x := .inr (.inl 82)) (by decide +kernel) b82
  · exact hd_gi (x := .inr (.inl 83)) (by decide +kernel) b83
  · exact hd_gi (x := .inr (.inl 84)) (by decide +kernel) b84
  · exact hd_gi (x := .inr (.inl 85)) (by decide +kernel) t85
  · exact hd_gi (x := .inl (.int 0)) (by decide +kernel) rfl
theorem k3pp_23_p0 {Ls : Nat} {xs : Nat → Int32} {d : Nat} {Q : Option Value → jm_h → Prop} (hd : 4 ≤ d) (F : Nat → sy_d) (X1 X2 : List jm_c) (hB : iv_in F iv_B0)
    (h0 : 400 < (sy_i F 86).toInt)
    (h1 : (sy_i F 84).toInt = 0 ∨ (sy_i F 84).toInt = 1)
    (k : ∀ F1 : Nat → sy_d, (∀ j, j < 82 → True → F1 j = F j) → Q (some (.int (sy_i F 84))) (sy_dh F1 X1 X2 (iv_H 3))) :
    hd_W Ls xs d jm_M39 Q (23, sy_dL F [some (.inl (.ref 30)), some (.inr (.inl 82)), some (.inr (.inl 83)), some (.inr (.inl 84)), some (.inr (.inl 85)), some (.inr (.inl 86))], sy_dS F [], sy_dh F X1 X2 (iv_H 3), 0, 0) := by
  refine hd_ret (s := 3) (nv := 87) (v := some (.inr (.inl 84))) (uh := hd_ov (iv_id 0 iv_B0) []) (f := true) (sp := [23, 61]) (d0 := 3) (O := [true]) (T := []) (P := [(2, .inl (.int 400), .inr (.inl 86)), (6, .inr (.inl 84), .inl (.int 0))]) jm_ok39 (by decide +kernel) (by decide +kernel) hd F X1 X2 (fun F' hF hs => ?_)
  have b86 := hd_b (F := F) (F' := F') (k := 86) (hF 86 (by decide))
  have b84 := hd_b (F := F) (F' := F') (k := 84) (hF 84 (by decide))
  have hB' : iv_in F' iv_B0 := iv_in_eq hB (fun j hj => hF j (Nat.lt_of_lt_of_le hj (by decide +kernel)))
  have hk := k (sy_cm F' (hd_ov (iv_id 0 iv_B0) [] ++ [])) (fun j hj _ => (hd_keep hB' (Nat.lt_of_lt_of_le hj (by decide +kernel)) (by simp)).trans (hF j (Nat.lt_of_lt_of_le hj (by decide))))
  refine ⟨List.forall_mem_cons.mpr ⟨hd_p2 rfl b86 (by have hc : ((400) : Int32).toInt = 400 := (by decide); omega), List.forall_mem_cons.mpr ⟨hd_p6 b84 h1, fun _ h => absurd h List.not_mem_nil⟩⟩, ?_⟩
  show Q (some (sy_dv F' (.inr (.inl 84)))) _
  rw [b84]
  exact hk
theorem k3pp_23_p1 {Ls : Nat} {xs : Nat → Int32} {d : Nat} {Q : Option Value → jm_h → Prop} (hd : 4 ≤ d) (F : Nat → sy_d) (X1 X2 : List jm_c) (hB : iv_in F iv_B0)
    (h0 : (sy_i F 86).toInt ≤ 400)
    (h1 : (sy_i F 84).toInt = 0)
    (h2 : (sy_i F 84).toInt = 0 ∨ (sy_i F 84).toInt = 1)
    (k : ∀ F1 : Nat → sy_d, (∀ j, j < 82 → True → F1 j = F j) → Q (some (.int (sy_i F 84))) (sy_dh F1 X1 X2 (iv_H 3))) :
    hd_W Ls xs d jm_M39 Q (23, sy_dL F [some (.inl (.ref 30)), some (.inr (.inl 82)), some (.inr (.inl 83)), some (.inr (.inl 84)), some (.inr (.inl 85)), some (.inr (.inl 86))], sy_dS F [], sy_dh F X1 X2 (iv_H 3), 0, 0) := by
  refine hd_ret (s := 3) (nv := 87) (v := some (.inr (.inl 84))) (uh := hd_ov (iv_id 0 iv_B0) []) (f := true) (sp := [23, 61]) (d0 := 3) (O := [false, true]) (T := []) (P := [(3, .inl (.int 400), .inr (.inl 86)), (0, .inr (.inl 84), .inl (.int 0)), (6, .inr (.inl 84), .inl (.int 0))]) jm_ok39 (by decide +kernel) (by decide +kernel) hd F X1 X2 (fun F' hF hs => ?_)
  have b86 := hd_b (F := F) (F' := F') (k := 86) (hF 86 (by decide))
  have b84 := hd_b (F := F) (F' := F') (k := 84) (hF 84 (by decide))
  have hB' : iv_in F' iv_B0 := iv_in_eq hB (fun j hj => hF j (Nat.lt_of_lt_of_le hj (by decide +kernel)))
  have hk := k (sy_cm F' (hd_ov (iv_id 0 iv_B0) [] ++ [])) (fun j hj _ => (hd_keep hB' (Nat.lt_of_lt_of_le hj (by decide +kernel)) (by simp)).trans (hF j (Nat.lt_of_lt_of_le hj (by decide))))
  refine ⟨List.forall_mem_cons.mpr ⟨hd_p3 rfl b86 (by have hc : ((400) : Int32).toInt = 400 := (by decide); omega), List.forall_mem_cons.mpr ⟨hd_p0 b84 rfl (by have hc : ((0) : Int32).toInt = 0 := (by decide); omega), List.forall_mem_cons.mpr ⟨hd_p6 b84 h2, fun _ h => absurd h List.not_mem_nil⟩⟩⟩, ?_⟩
  show Q (some (sy_dv F' (.inr (.inl 84)))) _
  rw [b84]
  exact hk
theorem k3pp_23_p2 {Ls : Nat} {xs : Nat → Int32} {d : Nat} {Q : Option Value → jm_h → Prop} (hd : 4 ≤ d) (F : Nat → sy_d) (X1 X2 : List jm_c) (hB : iv_in F iv_B0)
    (h0 : (sy_i F 86).toInt ≤ 400)
    (h1 : (sy_i F 84).toInt ≠ 0)
    (h2 : (sy_i F 85).toInt = 42)
    (h3 : 0 ≤ (sy_i F 33).toInt)
    (h4 : (sy_i F 33).toInt ≤ 400)
    (h5 : 0 ≤ (sy_i F 33).toInt ∧ (sy_i F 33).toInt < 401)
    (h6 : ((sy_ai F 39).getD (sy_i F 33).toNatClampNeg 0).toInt = (sy_i F 85).toInt)
    (h7 : (sy_i F 33).toInt < 400)
    (k : ∀ F1 : Nat → sy_d, (∀ j, j < 82 → j ≠ 33 → F1 j = F j) → F1 33 = .inl (.int ((sy_i F 33) + ((1 : Int32)))) → F1 82 = .inl (.int (sy_i F 82)) → F1 83 = .inl (.int (sy_i F 83)) → F1 84 = .inl (.int (sy_i F 85)) → F1 85 = .inl (.int (sy_i F 86)) → hd_W Ls xs d jm_M39 Q (61, sy_dL F1 [some (.inl (.ref 30)), some (.inr (.inl 82)), some (.inr (.inl 83)), none, some (.inr (.inl 84)), some (.inr (.inl 85))], sy_dS F1 [.inr (.inl 83), .inr (.inl 82), .inl (.ref 30)], sy_dh F1 X1 X2 (iv_H 3), 0, 0)) :
    hd_W Ls xs d jm_M39 Q (23, sy_dL F [some (.inl (.ref 30)), some (.inr (.inl 82)), some (.inr (.inl 83)), some (.inr (.inl 84)), some (.inr (.inl 85)), some (.inr (.inl 86))], sy_dS F [], sy_dh F X1 X2 (iv_H 3), 0, 0) := by
  refine hd_run (s := 3) (nv := 87) (pc := 61) (L := [some (.inl (.ref 30)), some (.inr (.inl 82)), some (.inr (.inl 83)), none, some (.inr (.inl 84)), some (.inr (.inl 85))]) (S := [.inr (.inl 83), .inr (.inl 82), .inl (.ref 30)]) (uh := hd_ov (iv_id 0 iv_B0) [(33, .inl (.inr (.inl 88)))]) (ul := [.inl (.inr (.inl 82)), .inl (.inr (.inl 83)), .inl (.inr (.inl 85)), .inl (.inr (.inl 86))]) (f := true) (sp := [23, 61]) (d0 := 3) (O := [false, false, true, false, false, true, true]) (T := [(30, [.inr (.inl 33)], [.inr (.inl 39)]), (0, [.inr (.inl 33), .inl (.int 1)], [])]) (P := [(3, .inl (.int 400), .inr (.inl 86)), (1, .inr (.inl 84), .inl (.int 0)), (0, .inr (.inl 85), .inl (.int 42)), (3, .inr (.inl 33), .inl (.int 0)), (3, .inl (.int 400), .inr (.inl 33)), (6, .inr (.inl 33), .inl (.ref 401)), (0, .inr (.inl 87), .inr (.inl 85)), (2, .inr (.inl 33), .inl (.int 400))]) jm_ok39 (by decide +kernel) (by decide +kernel) hd F X1 X2 (fun F' hF hs => ?_)
  have b86 := hd_b (F := F) (F' := F') (k := 86) (hF 86 (by decide))
  have b84 := hd_b (F := F) (F' := F') (k := 84) (hF 84 (by decide))
  have b85 := hd_b (F := F) (F' := F') (k := 85) (hF 85 (by decide))
  have b33 := hd_b (F := F) (F' := F') (k := 33) (hF 33 (by decide))
  have a39 := hd_ba (F := F) (F' := F') (k := 39) (hF 39 (by decide))
  have t87 : sy_dv F' (.inr (.inl 87)) = .int ((sy_ai F 39).getD (sy_i F 33).toNatClampNeg 0) := hd_rd (hs 0 _ rfl) b33 a39
  have t88 : sy_dv F' (.inr (.inl 88)) = .int ((sy_i F 33) + ((1 : Int32))) := hd_o (hs 1 _ rfl) b33 rfl rfl
  have b82 := hd_b (F := F) (F' := F') (k := 82) (hF 82 (by decide))
  have b83 := hd_b (F := F) (F' := F') (k := 83) (hF 83 (by decide))
  have hB' : iv_in F' iv_B0 := iv_in_eq hB (fun j hj => hF j (Nat.lt_of_lt_of_le hj (by decide +kernel)))
  refine ⟨List.forall_mem_cons.mpr ⟨hd_p3 rfl b86 (by have hc : ((400) : Int32).toInt = 400 := (by decide); omega), List.forall_mem_cons.mpr ⟨hd_p1 b84 rfl (by have hc : ((0) : Int32).toInt = 0 := (by decide); omega), List.forall_mem_cons.mpr ⟨hd_p0 b85 rfl (by have hc : ((42) : Int32).toInt = 42 := (by decide); omega), List.forall_mem_cons.mpr ⟨hd_p3 b33 rfl (by have hc : ((0) : Int32).toInt = 0 := (by decide); omega), List.forall_mem_cons.mpr ⟨hd_p3 rfl b33 (by have hc : ((400) : Int32).toInt = 400 := (by decide); omega), List.forall_mem_cons.mpr ⟨hd_pb b33 (by first | exact h5 | exact h5), List.forall_mem_cons.mpr ⟨hd_p0 t87 b85 h6, List.forall_mem_cons.mpr ⟨hd_p2 b33 rfl (by have hc : ((400) : Int32).toInt = 400 := (by decide); omega), fun _ h => absurd h List.not_mem_nil⟩⟩⟩⟩⟩⟩⟩⟩, ?_⟩
  refine k _ ?_ ?_ ?_ ?_ ?_ ?_
  · exact fun j hj hn => (hd_keep hB' (Nat.lt_of_lt_of_le hj (by decide +kernel)) (by simp; omega)).trans (hF j (Nat.lt_of_lt_of_le hj (by decide)))
  · exact hd_gi (x := .inr (.inl 88)) (by decide +kernel) t88
  · exact hd_gi (x := .inr (.inl 82)) (by decide +kernel) b82
  · exact hd_gi (x := .inr (.inl 83)) (by decide +kernel) b83
  · exact hd_gi (x := .inr (.inl 85)) (by decide +kernel) b85
  · exact hd_gi (x := .inr (.inl 86)) (by decide +kernel) b86
theorem k3pp_23_p3 {Ls : Nat} {xs : Nat → Int32} {d : Nat} {Q : Option Value → jm_h → Prop} (hd : 4 ≤ d) (F : Nat → sy_d) (X1 X2 : List jm_c) (hB : iv_in F iv_B0)
    (h0 : (sy_i F 86).toInt ≤ 400)
    (h1 : (sy_i F 84).toInt ≠ 0)
    (h2 : (sy_i F 85).toInt = 42)
    (h3 : 0 ≤ (sy_i F 33).toInt)
    (h4 : (sy_i F 33).toInt ≤ 400)
    (h5 : 0 ≤ (sy_i F 33).toInt ∧ (sy_i F 33).toInt < 401)
    (h6 : ((sy_ai F 39).getD (sy_i F 33).toNatClampNeg 0).toInt = (sy_i F 85).toInt)
    (h7 : 400 ≤ (sy_i F 33).toInt)
    (h8 : (sy_i F 85).toInt = 42)
    (h9 : 512 ≤ (sy_i F 8).toInt)
    (h10 : 0 ≤ (sy_i F 33).toInt)
    (h11 : (sy_i F 33).toInt ≤ 400)
    (h12 : 0 ≤ (sy_i F 33).toInt ∧ (sy_i F 33).toInt < 401)
    (k : ∀ F1 : Nat → sy_d, (∀ j, j < 82 → j ≠ 34 → F1 j = F j) → F1 34 = .inl (.int ((2 : Int32))) → F1 82 = .inl (.int (sy_i F 82)) → F1 83 = .inl (.int (sy_i F 83)) → F1 84 = .inl (.int ((0 : Int32))) → F1 85 = .inl (.int ((sy_ai F 39).getD (sy_i F 33).toNatClampNeg 0)) → F1 86 = .inl (.int ((sy_i F 86) + ((1 : Int32)))) → hd_W Ls xs d jm_M39 Q (23, sy_dL F1 [some (.inl (.ref 30)), some (.inr (.inl 82)), some (.inr (.inl 83)), some (.inr (.inl 84)), some (.inr (.inl 85)), some (.inr (.inl 86))], sy_dS F1 [], sy_dh F1 X1 X2 (iv_H 3), 0, 0)) :
    hd_W Ls xs d jm_M39 Q (23, sy_dL F [some (.inl (.ref 30)), some (.inr (.inl 82)), some (.inr (.inl 83)), some (.inr (.inl 84)), some (.inr (.inl 85)), some (.inr (.inl 86))], sy_dS F [], sy_dh F X1 X2 (iv_H 3), 0, 0) := by
  refine hd_run (s := 3) (nv := 87) (pc := 23) (L := [some (.inl (.ref 30)), some (.inr (.inl 82)), some (.inr (.inl 83)), some (.inr (.inl 84)), some (.inr (.inl 85)), some (.inr (.inl 86))]) (S := []) (uh := hd_ov (iv_id 0 iv_B0) [(34, .inl (.inl (.int 2)))]) (ul := [.inl (.inr (.inl 82)), .inl (.inr (.inl 83)), .inl (.inl (.int 0)), .inl (.inr (.inl 88)), .inl (.inr (.inl 89))]) (f := true) (sp := [23, 61]) (d0 := 3) (O := [false, false, true, false, false, true, false, false, true, false, false]) (T := [(30, [.inr (.inl 33)], [.inr (.inl 39)]), (30, [.inr (.inl 33)], [.inr (.inl 39)]), (0, [.inr (.inl 86), .inl (.int 1)], [])]) (P := [(3, .inl (.int 400), .inr (.inl 86)), (1, .inr (.inl 84), .inl (.int 0)), (0, .inr (.inl 85), .inl (.int 42)), (3, .inr (.inl 33), .inl (.int 0)), (3, .inl (.int 400), .inr (.inl 33)), (6, .inr (.inl 33), .inl (.ref 401)), (0, .inr (.inl 87), .inr (.inl 85)), (3, .inr (.inl 33), .inl (.int 400)), (0, .inr (.inl 85), .inl (.int 42)), (4, .inl (.int 512), .inr (.inl 8)), (3, .inr (.inl 33), .inl (.int 0)), (3, .inl (.int 400), .inr (.inl 33)), (6, .inr (.inl 33), .inl (.ref 401))]) jm_ok39 (by decide +kernel) (by decide +kernel) hd F X1 X2 (fun F' hF hs => ?_)
  have b86 := hd_b (F := F) (F' := F') (k := 86) (hF 86 (by decide))
  have b84 := hd_b (F := F) (F' := F') (k := 84) (hF 84 (by decide))
  have b85 := hd_b (F := F) (F' := F') (k := 85) (hF 85 (by decide))
  have b33 := hd_b (F := F) (F' := F') (k := 33) (hF 33 (by decide))
  have a39 := hd_ba (F := F) (F' := F') (k := 39) (hF 39 (by decide))
  have t87 : sy_dv F' (.inr (.inl 87)) = .int ((sy_ai F 39).getD (sy_i F 33).toNatClampNeg 0) := hd_rd (hs 0 _ rfl) b33 a39
  have b8 := hd_b (F := F) (F' := F') (k := 8) (hF 8 (by decide))
  have b82 := hd_b (F := F) (F' := F') (k := 82) (hF 82 (by decide))
  have b83 := hd_b (F := F) (F' := F') (k := 83) (hF 83 (by decide))
  have t88 : sy_dv F' (.inr (.inl 88)) = .int ((sy_ai F 39).getD (sy_i F 33).toNatClampNeg 0) := hd_rd (hs 1 _ rfl) b33 a39
  have t89 : sy_dv F' (.inr (.inl 89)) = .int ((sy_i F 86) + ((1 : Int32))) := hd_o (hs 2 _ rfl) b86 rfl rfl
  have hB' : iv_in F' iv_B0 := iv_in_eq hB (fun j hj => hF j (Nat.lt_of_lt_of_le hj (by decide +kernel)))
  refine ⟨List.forall_mem_cons.mpr ⟨hd_p3 rfl b86 (by have hc : ((400) : Int32).toInt = 400 := (by decide); omega), List.forall_mem_cons.mpr ⟨hd_p1 b84 rfl (by have hc : ((0) : Int32).toInt = 0 := (by decide); omega), List.forall_mem_cons.mpr ⟨hd_p0 b85 rfl (by have hc : ((42) : Int32).toInt = 42 := (by decide); omega), List.forall_mem_cons.mpr ⟨hd_p3 b33 rfl (by have hc : ((0) : Int32).toInt = 0 := (by decide); omega), List.forall_mem_cons.mpr ⟨hd_p3 rfl b33 (by have hc : ((400) : Int32).toInt = 400 := (by decide); omega), List.forall_mem_cons.mpr ⟨hd_pb b33 (by first | exact h5 | exact h5), List.forall_mem_cons.mpr ⟨hd_p0 t87 b85 h6, List.forall_mem_cons.mpr ⟨hd_p3 b33 rfl (by have hc : ((400) : Int32).toInt = 400 := (by decide); omega), List.forall_mem_cons.mpr ⟨hd_p0 b85 rfl (by have hc : ((42) : Int32).toInt = 42 := (by decide); omega), List.forall_mem_cons.mpr ⟨hd_p4 rfl b8 (by have hc : ((512) : Int32).toInt = 512 := (by decide); omega), List.forall_mem_cons.mpr ⟨hd_p3 b33 rfl (by have hc : ((0) : Int32).toInt = 0 := (by decide); omega), List.forall_mem_cons.mpr ⟨hd_p3 rfl b33 (by have hc : ((400) : Int32).toInt = 400 := (by decide); omega), List.forall_mem_cons.mpr ⟨hd_pb b33 (by first | exact h12 | exact h12), fun _ h => absurd h List.not_mem_nil⟩⟩⟩⟩⟩⟩⟩⟩⟩⟩⟩⟩⟩, ?_⟩
  refine k _ ?_ ?_ ?_ ?_ ?_ ?_ ?_
  · exact fun j hj hn => (hd_keep hB' (Nat.lt_of_lt_of_le hj (by decide +kernel)) (by simp; omega)).trans (hF j (Nat.lt_of_lt_of_le hj (by decide)))
  · exact hd_gi (x := .inl (.int 2)) (by decide +kernel) rfl
  · exact hd_gi (x := .inr (.inl 82)) (by decide +kernel) b82
  · exact hd_gi (x := .inr (.inl 83)) (by decide +kernel) b83
  · exact hd_gi (x := .inl (.int 0)) (by decide +kernel) rfl
  · exact hd_gi (x := .inr (.inl 88)) (by decide +kernel) t88
  · exact hd_gi (x := .inr (.inl 89)) (by decide +kernel) t89
theorem k3pp_23_p4 {Ls : Nat} {xs : Nat → Int32} {d : Nat} {Q : Option Value → jm_h → Prop} (hd : 4 ≤ d) (F : Nat → sy_d) (X1 X2 : List jm_c) (hB : iv_in F iv_B0)
    (h0 : (sy_i F 86).toInt ≤ 400)
    (h1 : (sy_i F 84).toInt ≠ 0)
    (h2 : (sy_i F 85).toInt = 42)
    (h3 : 0 ≤ (sy_i F 33).toInt)
    (h4 : (sy_i F 33).toInt ≤ 400)
    (h5 : 0 ≤ (sy_i F 33).toInt ∧ (sy_i F 33).toInt < 401)
    (h6 : ((sy_ai F 39).getD (sy_i F 33).toNatClampNeg 0).toInt = (sy_i F 85).toInt)
    (h7 : 400 ≤ (sy_i F 33).toInt)
    (h8 : (sy_i F 85).toInt = 42)
    (h9 : (sy_i F 8).toInt < 512)
    (h10 : 0 ≤ (sy_i F 8).toInt ∧ (sy_i F 8).toInt < 512)
    (h11 : 0 ≤ (sy_i F 33).toInt)
    (h12 : (sy_i F 33).toInt ≤ 400)
    (h13 : 0 ≤ (sy_i F 33).toInt ∧ (sy_i F 33).toInt < 401)
    (k : ∀ F1 : Nat → sy_d, (∀ j, j < 82 → j ≠ 8 ∧ j ≠ 17 ∧ j ≠ 34 → F1 j = F j) → F1 8 = .inl (.int ((sy_i F 8) + ((1 : Int32)))) → F1 17 = .inr (.inl (jm_upd (sy_ai F 17) (sy_i F 8).toNatClampNeg (((-12) : Int32)))) → F1 34 = .inl (.int ((2 : Int32))) → F1 82 = .inl (.int (sy_i F 82)) → F1 83 = .inl (.int (sy_i F 83)) → F1 84 = .inl (.int ((0 : Int32))) → F1 85 = .inl (.int ((sy_ai F 39).getD (sy_i F 33).toNatClampNeg 0)) → F1 86 = .inl (.int ((sy_i F 86) + ((1 : Int32)))) → hd_W Ls xs d jm_M39 Q (23, sy_dL F1 [some (.inl (.ref 30)), some (.inr (.inl 82)), some (.inr (.inl 83)), some (.inr (.inl 84)), some (.inr (.inl 85)), some (.inr (.inl 86))], sy_dS F1 [], sy_dh F1 X1 X2 (iv_H 3), 0, 0)) :
    hd_W Ls xs d jm_M39 Q (23, sy_dL F [some (.inl (.ref 30)), some (.inr (.inl 82)), some (.inr (.inl 83)), some (.inr (.inl 84)), some (.inr (.inl 85)), some (.inr (.inl 86))], sy_dS F [], sy_dh F X1 X2 (iv_H 3), 0, 0) := by
  refine hd_run (s := 3) (nv := 87) (pc := 23) (L := [some (.inl (.ref 30)), some (.inr (.inl 82)), some (.inr (.inl 83)), some (.inr (.inl 84)), some (.inr (.inl 85)), some (.inr (.inl 86))]) (S := []) (uh := hd_ov (iv_id 0 iv_B0) [(8, .inl (.inr (.inl 89))), (17, .inr (.inr (.inl 88))), (34, .inl (.inl (.int 2)))]) (ul := [.inl (.inr (.inl 82)), .inl (.inr (.inl 83)), .inl (.inl (.int 0)), .inl (.inr (.inl 90)), .inl (.inr (.inl 91))]) (f := true) (sp := [23, 61]) (d0 := 3) (O := [false, false, true, false, false, true, false, false, false, false, false]) (T := [(30, [.inr (.inl 33)], [.inr (.inl 39)]), (40, [.inr (.inl 8), .inl (.int (-12))], [.inr (.inl 17)]), (0, [.inr (.inl 8), .inl (.int 1)], []), (30, [.inr (.inl 33)], [.inr (.inl 39)]), (0, [.inr (.inl 86), .inl (.int 1)], [])]) (P := [(3, .inl (.int 400), .inr (.inl 86)), (1, .inr (.inl 84), .inl (.int 0)), (0, .inr (.inl 85), .inl (.int 42)), (3, .inr (.inl 33), .inl (.int 0)), (3, .inl (.int 400), .inr (.inl 33)), (6, .inr (.inl 33), .inl (.ref 401)), (0, .inr (.inl 87), .inr (.inl 85)), (3, .inr (.inl 33), .inl (.int 400)), (0, .inr (.inl 85), .inl (.int 42)), (5, .inl (.int 512), .inr (.inl 8)), (6, .inr (.inl 8), .inl (.ref 512)), (3, .inr (.inl 33), .inl (.int 0)), (3, .inl (.int 400), .inr (.inl 33)), (6, .inr (.inl 33), .inl (.ref 401))]) jm_ok39 (by decide +kernel) (by decide +kernel) hd F X1 X2 (fun F' hF hs => ?_)
  have b86 := hd_b (F := F) (F' := F') (k := 86) (hF 86 (by decide))
  have b84 := hd_b (F := F) (F' := F') (k := 84) (hF 84 (by decide))
  have b85 := hd_b (F := F) (F' := F') (k := 85) (hF 85 (by decide))
  have b33 := hd_b (F := F) (F' := F') (k := 33) (hF 33 (by decide))
  have a39 := hd_ba (F := F) (F' := F') (k := 39) (hF 39 (by decide))
  have t87 : sy_dv F' (.inr (.inl 87)) = .int ((sy_ai F 39).getD (sy_i F 33).toNatClampNeg 0) := hd_rd (hs 0 _ rfl) b33 a39
  have b8 := hd_b (F := F) (F' := F') (k := 8) (hF 8 (by decide))
  have t89 : sy_dv F' (.inr (.inl 89)) = .int ((sy_i F 8) + ((1 : Int32))) := hd_o (hs 2 _ rfl) b8 rfl rfl
  have a17 := hd_ba (F := F) (F' := F') (k := 17) (hF 17 (by decide))
  have t88 : sy_da F' (.inr (.inl 88)) = .inl (jm_upd (sy_ai F 17) (sy_i F 8).toNatClampNeg (((-12) : Int32))) := hd_up (hs 1 _ rfl) b8 rfl a17
  have b82 := hd_b (F := F) (F' := F') (k := 82) (hF 82 (by decide))
  have b83 := hd_b (F := F) (F' := F') (k := 83) (hF 83 (by decide))
  have t90 : sy_dv F' (.inr (.inl 90)) = .int ((sy_ai F 39).getD (sy_i F 33).toNatClampNeg 0) := hd_rd (hs 3 _ rfl) b33 a39
  have t91 : sy_dv F' (.inr (.inl 91)) = .int ((sy_i F 86) + ((1 : Int32))) := hd_o (hs 4 _ rfl) b86 rfl rfl
  have hB' : iv_in F' iv_B0 := iv_in_eq hB (fun j hj => hF j (Nat.lt_of_lt_of_le hj (by decide +kernel)))
  refine ⟨List.forall_mem_cons.mpr ⟨hd_p3 rfl b86 (by have hc : ((400) : Int32).toInt = 400 := (by decide); omega), List.forall_mem_cons.mpr ⟨hd_p1 b84 rfl (by have hc : ((0) : Int32).toInt = 0 := (by decide); omega), List.forall_mem_cons.mpr ⟨hd_p0 b85 rfl (by have hc : ((42) : Int32).toInt = 42 := (by decide); omega), List.forall_mem_cons.mpr ⟨hd_p3 b33 rfl (by have hc : ((0) : Int32).toInt = 0 := (by decide); omega), List.forall_mem_cons.mpr ⟨hd_p3 rfl b33 (by have hc : ((400) : Int32).toInt = 400 := (by decide); omega), List.forall_mem_cons.mpr ⟨hd_pb b33 (by first | exact h5 | exact h5), List.forall_mem_cons.mpr ⟨hd_p0 t87 b85 h6, List.forall_mem_cons.mpr ⟨hd_p3 b33 rfl (by have hc : ((400) : Int32).toInt = 400 := (by decide); omega), List.forall_mem_cons.mpr ⟨hd_p0 b85 rfl (by have hc : ((42) : Int32).toInt = 42 := (by decide); omega), List.forall_mem_cons.mpr ⟨hd_p5 rfl b8 (by have hc : ((512) : Int32).toInt = 512 := (by decide); omega), List.forall_mem_cons.mpr ⟨hd_pb b8 (by first | exact h10 | exact h10), List.forall_mem_cons.mpr ⟨hd_p3 b33 rfl (by have hc : ((0) : Int32).toInt = 0 := (by decide); omega), List.forall_mem_cons.mpr ⟨hd_p3 rfl b33 (by have hc : ((400) : Int32).toInt = 400 := (by decide); omega), List.forall_mem_cons.mpr ⟨hd_pb b33 (by first | exact h13 | exact h13), fun _ h => absurd h List.not_mem_nil⟩⟩⟩⟩⟩⟩⟩⟩⟩⟩⟩⟩⟩⟩, ?_⟩
  refine k _ ?_ ?_ ?_ ?_ ?_ ?_ ?_ ?_ ?_
  · exact fun j hj hn => (hd_keep hB' (Nat.lt_of_lt_of_le hj (by decide +kernel)) (by simp; omega)).trans (hF j (Nat.lt_of_lt_of_le hj (by decide)))
  · exact hd_gi (x := .inr (.inl 89)) (by decide +kernel) t89
  · exact hd_ga (a := .inr (.inl 88)) (by decide +kernel) t88
  · exact hd_gi (x := .inl (.int 2)) (by decide +kernel) rfl
  · exact hd_gi (x := .inr (.inl 82)) (by decide +kernel) b82
  · exact hd_gi (x := .inr (.inl 83)) (by decide +kernel) b83
  · exact hd_gi (x := .inl (.int 0)) (by decide +kernel) rfl
  · exact hd_gi (x := .inr (.inl 90)) (by decide +kernel) t90
  · exact hd_gi (x := .inr (.inl 91)) (by decide +kernel) t91
theorem k3pp_23_p5 {Ls : Nat} {xs : Nat → Int32} {d : Nat} {Q : Option Value → jm_h → Prop} (hd : 4 ≤ d) (F : Nat → sy_d) (X1 X2 : List jm_c) (hB : iv_in F iv_B0)
    (h0 : (sy_i F 86).toInt ≤ 400)
    (h1 : (sy_i F 84).toInt ≠ 0)
    (h2 : (sy_i F 85).toInt = 42)
    (h3 : 0 ≤ (sy_i F 33).toInt)
    (h4 : (sy_i F 33).toInt ≤ 400)
    (h5 : 0 ≤ (sy_i F 33).toInt ∧ (sy_i F 33).toInt < 401)
    (h6 : ((sy_ai F 39).getD (sy_i F 33).toNatClampNeg 0).toInt ≠ (sy_i F 85).toInt)
    (h7 : (sy_i F 85).toInt = 42)
    (h8 : 512 ≤ (sy_i F 8).toInt)
    (h9 : 0 ≤ (sy_i F 33).toInt)
    (h10 : (sy_i F 33).toInt ≤ 400)
    (h11 : 0 ≤ (sy_i F 33).toInt ∧ (sy_i F 33).toInt < 401)
    (k : ∀ F1 : Nat → sy_d, (∀ j, j < 82 → j ≠ 34 → F1 j = F j) → F1 34 = .inl (.int ((1 : Int32))) → F1 82 = .inl (.int (sy_i F 82)) → F1 83 = .inl (.int (sy_i F 83)) → F1 84 = .inl (.int ((0 : Int32))) → F1 85 = .inl (.int ((sy_ai F 39).getD (sy_i F 33).toNatClampNeg 0)) → F1 86 = .inl (.int ((sy_i F 86) + ((1 : Int32)))) → hd_W Ls xs d jm_M39 Q (23, sy_dL F1 [some (.inl (.ref 30)), some (.inr (.inl 82)), some (.inr (.inl 83)), some (.inr (.inl 84)), some (.inr (.inl 85)), some (.inr (.inl 86))], sy_dS F1 [], sy_dh F1 X1 X2 (iv_H 3), 0, 0)) :
    hd_W Ls xs d jm_M39 Q (23, sy_dL F [some (.inl (.ref 30)), some (.inr (.inl 82)), some (.inr (.inl 83)), some (.inr (.inl 84)), some (.inr (.inl 85)), some (.inr (.inl 86))], sy_dS F [], sy_dh F X1 X2 (iv_H 3), 0, 0) := by
  refine hd_run (s := 3) (nv := 87) (pc := 23) (L := [some (.inl (.ref 30)), some (.inr (.inl 82)), some (.inr (.inl 83)), some (.inr (.inl 84)), some (.inr (.inl 85)), some (.inr (.inl 86))]) (S := []) (uh := hd_ov (iv_id 0 iv_B0) [(34, .inl (.inl (.int 1)))]) (ul := [.inl (.inr (.inl 82)), .inl (.inr (.inl 83)), .inl (.inl (.int 0)), .inl (.inr (.inl 88)), .inl (.inr (.inl 89))]) (f := true) (sp := [23, 61]) (d0 := 3) (O := [false, false, true, false, false, false, false, true, false, false]) (T := [(30, [.inr (.inl 33)], [.inr (.inl 39)]), (30, [.inr (.inl 33)], [.inr (.inl 39)]), (0, [.inr (.inl 86), .inl (.int 1)], [])]) (P := [(3, .inl (.int 400), .inr (.inl 86)), (1, .inr (.inl 84), .inl (.int 0)), (0, .inr (.inl 85), .inl (.int 42)), (3, .inr (.inl 33), .inl (.int 0)), (3, .inl (.int 400), .inr (.inl 33)), (6, .inr (.inl 33), .inl (.ref 401)), (1, .inr (.inl 87), .inr (.inl 85)), (0, .inr (.inl 85), .inl (.int 42)), (4, .inl (.int 512), .inr (.inl 8)), (3, .inr (.inl 33), .inl (.int 0)), (3, .inl (.int 400), .inr (.inl 33)), (6, .inr (.inl 33), .inl (.ref 401))]) jm_ok39 (by decide +kernel) (by decide +kernel) hd F X1 X2 (fun F' hF hs => ?_)
  have b86 := hd_b (F := F) (F' := F') (k := 86) (hF 86 (by decide))
  have b84 := hd_b (F := F) (F' := F') (k := 84) (hF 84 (by decide))
  have b85 := hd_b (F := F) (F' := F') (k := 85) (hF 85 (by decide))
  have b33 := hd_b (F := F) (F' := F') (k := 33) (hF 33 (by decide))
  have a39 := hd_ba (F := F) (F' := F') (k := 39) (hF 39 (by decide))
  have t87 : sy_dv F' (.inr (.inl 87)) = .int ((sy_ai F 39).getD (sy_i F 33).toNatClampNeg 0) := hd_rd (hs 0 _ rfl) b33 a39
  have b8 := hd_b (F := F) (F' := F') (k := 8) (hF 8 (by decide))
  have b82 := hd_b (F := F) (F' := F') (k := 82) (hF 82 (by decide))
  have b83 := hd_b (F := F) (F' := F') (k := 83) (hF 83 (by decide))
  have t88 : sy_dv F' (.inr (.inl 88)) = .int ((sy_ai F 39).getD (sy_i F 33).toNatClampNeg 0) := hd_rd (hs 1 _ rfl) b33 a39
  have t89 : sy_dv F' (.inr (.inl 89)) = .int ((sy_i F 86) + ((1 : Int32))) := hd_o (hs 2 _ rfl) b86 rfl rfl
  have hB' : iv_in F' iv_B0 := iv_in_eq hB (fun j hj => hF j (Nat.lt_of_lt_of_le hj (by decide +kernel)))
  refine ⟨List.forall_mem_cons.mpr ⟨hd_p3 rfl b86 (by have hc : ((400) : Int32).toInt = 400 := (by decide); omega), List.forall_mem_cons.mpr ⟨hd_p1 b84 rfl (by have hc : ((0) : Int32).toInt = 0 := (by decide); omega), List.forall_mem_cons.mpr ⟨hd_p0 b85 rfl (by have hc : ((42) : Int32).toInt = 42 := (by decide); omega), List.forall_mem_cons.mpr ⟨hd_p3 b33 rfl (by have hc : ((0) : Int32).toInt = 0 := (by decide); omega), List.forall_mem_cons.mpr ⟨hd_p3 rfl b33 (by have hc : ((400) : Int32).toInt = 400 := (by decide); omega), List.forall_mem_cons.mpr ⟨hd_pb b33 (by first | exact h5 | exact h5), List.forall_mem_cons.mpr ⟨hd_p1 t87 b85 h6, List.forall_mem_cons.mpr ⟨hd_p0 b85 rfl (by have hc : ((42) : Int32).toInt = 42 := (by decide); omega), List.forall_mem_cons.mpr ⟨hd_p4 rfl b8 (by have hc : ((512) : Int32).toInt = 512 := (by decide); omega), List.forall_mem_cons.mpr ⟨hd_p3 b33 rfl (by have hc : ((0) : Int32).toInt = 0 := (by decide); omega), List.forall_mem_cons.mpr ⟨hd_p3 rfl b33 (by have hc : ((400) : Int32).toInt = 400 := (by decide); omega), List.forall_mem_cons.mpr ⟨hd_pb b33 (by first | exact h11 | exact h11), fun _ h => absurd h List.not_mem_nil⟩⟩⟩⟩⟩⟩⟩⟩⟩⟩⟩⟩, ?_⟩
  refine k _ ?_ ?_ ?_ ?_ ?_ ?_ ?_
  · exact fun j hj hn => (hd_keep hB' (Nat.lt_of_lt_of_le hj (by decide +kernel)) (by simp; omega)).trans (hF j (Nat.lt_of_lt_of_le hj (by decide)))
  · exact hd_gi (x := .inl (.int 1)) (by decide +kernel) rfl
  · exact hd_gi (x := .inr (.inl 82)) (by decide +kernel) b82
  · exact hd_gi (x := .inr (.inl 83)) (by decide +kernel) b83
  · exact hd_gi (x := .inl (.int 0)) (by decide +kernel) rfl
  · exact hd_gi (x := .inr (.inl 88)) (by decide +kernel) t88
  · exact hd_gi (x := .inr (.inl 89)) (by decide +kernel) t89
theorem k3pp_23_p6 {Ls : Nat} {xs : Nat → Int32} {d : Nat} {Q : Option Value → jm_h → Prop} (hd : 4 ≤ d) (F : Nat → sy_d) (X1 X2 : List jm_c) (hB : iv_in F iv_B0)
    (h0 : (sy_i F 86).toInt ≤ 400)
    (h1 : (sy_i F 84).toInt ≠ 0)
    (h2 : (sy_i F 85).toInt = 42)
    (h3 : 0 ≤ (sy_i F 33).toInt)
    (h4 : (sy_i F 33).toInt ≤ 400)
    (h5 : 0 ≤ (sy_i F 33).toInt ∧ (sy_i F 33).toInt < 401)
    (h6 : ((sy_ai F 39).getD (sy_i F 33).toNatClampNeg 0).toInt ≠ (sy_i F 85).toInt)
    (h7 : (sy_i F 85).toInt = 42)
    (h8 : (sy_i F 8).toInt < 512)
    (h9 : 0 ≤ (sy_i F 8).toInt ∧ (sy_i F 8).toInt < 512)
    (h10 : 0 ≤ (sy_i F 33).toInt)
    (h11 : (sy_i F 33).toInt ≤ 400)
    (h12 : 0 ≤ (sy_i F 33).toInt ∧ (sy_i F 33).toInt < 401)
    (k : ∀ F1 : Nat → sy_d, (∀ j, j < 82 → j ≠ 8 ∧ j ≠ 17 ∧ j ≠ 34 → F1 j = F j) → F1 8 = .inl (.int ((sy_i F 8) + ((1 : Int32)))) → F1 17 = .inr (.inl (jm_upd (sy_ai F 17) (sy_i F 8).toNatClampNeg (((-12) : Int32)))) → F1 34 = .inl (.int ((1 : Int32))) → F1 82 = .inl (.int (sy_i F 82)) → F1 83 = .inl (.int (sy_i F 83)) → F1 84 = .inl (.int ((0 : Int32))) → F1 85 = .inl (.int ((sy_ai F 39).getD (sy_i F 33).toNatClampNeg 0)) → F1 86 = .inl (.int ((sy_i F 86) + ((1 : Int32)))) → hd_W Ls xs d jm_M39 Q (23, sy_dL F1 [some (.inl (.ref 30)), some (.inr (.inl 82)), some (.inr (.inl 83)), some (.inr (.inl 84)), some (.inr (.inl 85)), some (.inr (.inl 86))], sy_dS F1 [], sy_dh F1 X1 X2 (iv_H 3), 0, 0)) :
    hd_W Ls xs d jm_M39 Q (23, sy_dL F [some (.inl (.ref 30)), some (.inr (.inl 82)), some (.inr (.inl 83)), some (.inr (.inl 84)), some (.inr (.inl 85)), some (.inr (.inl 86))], sy_dS F [], sy_dh F X1 X2 (iv_H 3), 0, 0) := by
  refine hd_run (s := 3) (nv := 87) (pc := 23) (L := [some (.inl (.ref 30)), some (.inr (.inl 82)), some (.inr (.inl 83)), some (.inr (.inl 84)), some (.inr (.inl 85)), some (.inr (.inl 86))]) (S := []) (uh := hd_ov (iv_id 0 iv_B0) [(8, .inl (.inr (.inl 89))), (17, .inr (.inr (.inl 88))), (34, .inl (.inl (.int 1)))]) (ul := [.inl (.inr (.inl 82)), .inl (.inr (.inl 83)), .inl (.inl (.int 0)), .inl (.inr (.inl 90)), .inl (.inr (.inl 91))]) (f := true) (sp := [23, 61]) (d0 := 3) (O := [false, false, true, false, false, false, false, false, false, false]) (T := [(30, [.inr (.inl 33)], [.inr (.inl 39)]), (40, [.inr (.inl 8), .inl (.int (-12))], [.inr (.inl 17)]), (0, [.inr (.inl 8), .inl (.int 1)], []), (30, [.inr (.inl 33)], [.inr (.inl 39)]), (0, [.inr (.inl 86), .inl (.int 1)], [])]) (P := [(3, .inl (.int 400), .inr (.inl 86)), (1, .inr (.inl 84), .inl (.int 0)), (0, .inr (.inl 85), .inl (.int 42)), (3, .inr (.inl 33), .inl (.int 0)), (3, .inl (.int 400), .inr (.inl 33)), (6, .inr (.inl 33), .inl (.ref 401)), (1, .inr (.inl 87), .inr (.inl 85)), (0, .inr (.inl 85), .inl (.int 42)), (5, .inl (.int 512), .inr (.inl 8)), (6, .inr (.inl 8), .inl (.ref 512)), (3, .inr (.inl 33), .inl (.int 0)), (3, .inl (.int 400), .inr (.inl 33)), (6, .inr (.inl 33), .inl (.ref 401))]) jm_ok39 (by decide +kernel) (by decide +kernel) hd F X1 X2 (fun F' hF hs => ?_)
  have b86 := hd_b (F := F) (F' := F') (k := 86) (hF 86 (by decide))
  have b84 := hd_b (F := F) (F' := F') (k := 84) (hF 84 (by decide))
  have b85 := hd_b (F := F) (F' := F') (k := 85) (hF 85 (by decide))
  have b33 := hd_b (F := F) (F' := F') (k := 33) (hF 33 (by decide))
  have a39 := hd_ba (F := F) (F' := F') (k := 39) (hF 39 (by decide))
  have t87 : sy_dv F' (.inr (.inl 87)) = .int ((sy_ai F 39).getD (sy_i F 33).toNatClampNeg 0) := hd_rd (hs 0 _ rfl) b33 a39
  have b8 := hd_b (F := F) (F' := F') (k := 8) (hF 8 (by decide))
  have t89 : sy_dv F' (.inr (.inl 89)) = .int ((sy_i F 8) + ((1 : Int32))) := hd_o (hs 2 _ rfl) b8 rfl rfl
  have a17 := hd_ba (F := F) (F' := F') (k := 17) (hF 17 (by decide))
  have t88 : sy_da F' (.inr (.inl 88)) = .inl (jm_upd (sy_ai F 17) (sy_i F 8).toNatClampNeg (((-12) : Int32))) := hd_up (hs 1 _ rfl) b8 rfl a17
  have b82 := hd_b (F := F) (F' := F') (k := 82) (hF 82 (by decide))
  have b83 := hd_b (F := F) (F' := F') (k := 83) (hF 83 (by decide))
  have t90 : sy_dv F' (.inr (.inl 90)) = .int ((sy_ai F 39).getD (sy_i F 33).toNatClampNeg 0) := hd_rd (hs 3 _ rfl) b33 a39
  have t91 : sy_dv F' (.inr (.inl 91)) = .int ((sy_i F 86) + ((1 : Int32))) := hd_o (hs 4 _ rfl) b86 rfl rfl
  have hB' : iv_in F' iv_B0 := iv_in_eq hB (fun j hj => hF j (Nat.lt_of_lt_of_le hj (by decide +kernel)))
  refine ⟨List.forall_mem_cons.mpr ⟨hd_p3 rfl b86 (by have hc : ((400) : Int32).toInt = 400 := (by decide); omega), List.forall_mem_cons.mpr ⟨hd_p1 b84 rfl (by have hc : ((0) : Int32).toInt = 0 := (by decide); omega), List.forall_mem_cons.mpr ⟨hd_p0 b85 rfl (by have hc : ((42) : Int32).toInt = 42 := (by decide); omega), List.forall_mem_cons.mpr ⟨hd_p3 b33 rfl (by have hc : ((0) : Int32).toInt = 0 := (by decide); omega), List.forall_mem_cons.mpr ⟨hd_p3 rfl b33 (by have hc : ((400) : Int32).toInt = 400 := (by decide); omega), List.forall_mem_cons.mpr ⟨hd_pb b33 (by first | exact h5 | exact h5), List.forall_mem_cons.mpr ⟨hd_p1 t87 b85 h6, List.forall_mem_cons.mpr ⟨hd_p0 b85 rfl (by have hc : ((42) : Int32).toInt = 42 := (by decide); omega), List.forall_mem_cons.mpr ⟨hd_p5 rfl b8 (by have hc : ((512) : Int32).toInt = 512 := (by decide); omega), List.forall_mem_cons.mpr ⟨hd_pb b8 (by first | exact h9 | exact h9), List.forall_mem_cons.mpr ⟨hd_p3 b33 rfl (by have hc : ((0) : Int32).toInt = 0 := (by decide); omega), List.forall_mem_cons.mpr ⟨hd_p3 rfl b33 (by have hc : ((400) : Int32).toInt = 400 := (by decide); omega), List.forall_mem_cons.mpr ⟨hd_pb b33 (by first | exact h12 | exact h12), fun _ h => absurd h List.not_mem_nil⟩⟩⟩⟩⟩⟩⟩⟩⟩⟩⟩⟩⟩, ?_⟩
  refine k _ ?_ ?_ ?_ ?_ ?_ ?_ ?_ ?_ ?_
  · exact fun j hj hn => (hd_keep hB' (Nat.lt_of_lt_of_le hj (by decide +kernel)) (by simp; omega)).trans (hF j (Nat.lt_of_lt_of_le hj (by decide)))
  · exact hd_gi (x := .inr (.inl 89)) (by decide +kernel) t89
  · exact hd_ga (a := .inr (.inl 88)) (by decide +kernel) t88
  · exact hd_gi (x := .inl (.int 1)) (by decide +kernel) rfl
  · exact hd_gi (x := .inr (.inl 82)) (by decide +kernel) b82
  · exact hd_gi (x := .inr (.inl 83)) (by decide +kernel) b83
  · exact hd_gi (x := .inl (.int 0)) (by decide +kernel) rfl
  · exact hd_gi (x := .inr (.inl 90)) (by decide +kernel) t90
  · exact hd_gi (x := .inr (.inl 91)) (by decide +kernel) t91
theorem k3pp_23_p7 {Ls : Nat} {xs : Nat → Int32} {d : Nat} {Q : Option Value → jm_h → Prop} (hd : 4 ≤ d) (F : Nat → sy_d) (X1 X2 : List jm_c) (hB : iv_in F iv_B0)
    (h0 : (sy_i F 86).toInt ≤ 400)
    (h1 : (sy_i F 84).toInt ≠ 0)
    (h2 : (sy_i F 85).toInt ≠ 42)
    (h3 : (sy_i F 85).toInt ≠ 47)
    (h4 : (sy_i F 84).toInt = 0 ∨ (sy_i F 84).toInt = 1)
    (k : ∀ F1 : Nat → sy_d, (∀ j, j < 82 → True → F1 j = F j) → Q (some (.int (sy_i F 84))) (sy_dh F1 X1 X2 (iv_H 3))) :
    hd_W Ls xs d jm_M39 Q (23, sy_dL F [some (.inl (.ref 30)), some (.inr (.inl 82)), some (.inr (.inl 83)), some (.inr (.inl 84)), some (.inr (.inl 85)), some (.inr (.inl 86))], sy_dS F [], sy_dh F X1 X2 (iv_H 3), 0, 0) := by
  refine hd_ret (s := 3) (nv := 87) (v := some (.inr (.inl 84))) (uh := hd_ov (iv_id 0 iv_B0) []) (f := true) (sp := [23, 61]) (d0 := 3) (O := [false, false, false, true]) (T := []) (P := [(3, .inl (.int 400), .inr (.inl 86)), (1, .inr (.inl 84), .inl (.int 0)), (1, .inr (.inl 85), .inl (.int 42)), (1, .inr (.inl 85), .inl (.int 47)), (6, .inr (.inl 84), .inl (.int 0))]) jm_ok39 (by decide +kernel) (by decide +kernel) hd F X1 X2 (fun F' hF hs => ?_)
  have b86 := hd_b (F := F) (F' := F') (k := 86) (hF 86 (by decide))
  have b84 := hd_b (F := F) (F' := F') (k := 84) (hF 84 (by decide))
  have b85 := hd_b (F := F) (F' := F') (k := 85) (hF 85 (by decide))
  have hB' : iv_in F' iv_B0 := iv_in_eq hB (fun j hj => hF j (Nat.lt_of_lt_of_le hj (by decide +kernel)))
  have hk := k (sy_cm F' (hd_ov (iv_id 0 iv_B0) [] ++ [])) (fun j hj _ => (hd_keep hB' (Nat.lt_of_lt_of_le hj (by decide +kernel)) (by simp)).trans (hF j (Nat.lt_of_lt_of_le hj (by decide))))
  refine ⟨List.forall_mem_cons.mpr ⟨hd_p3 rfl b86 (by have hc : ((400) : Int32).toInt = 400 := (by decide); omega), List.forall_mem_cons.mpr ⟨hd_p1 b84 rfl (by have hc : ((0) : Int32).toInt = 0 := (by decide); omega), List.forall_mem_cons.mpr ⟨hd_p1 b85 rfl (by have hc : ((42) : Int32).toInt = 42 := (by decide); omega), List.forall_mem_cons.mpr ⟨hd_p1 b85 rfl (by have hc : ((47) : Int32).toInt = 47 := (by decide); omega), List.forall_mem_cons.mpr ⟨hd_p6 b84 h4, fun _ h => absurd h List.not_mem_nil⟩⟩⟩⟩⟩, ?_⟩
  show Q (some (sy_dv F' (.inr (.inl 84)))) _
  rw [b84]
  exact hk
theorem k3pp_23_p8 {Ls : Nat} {xs : Nat → Int32} {d : Nat} {Q : Option Value → jm_h → Prop} (hd : 4 ≤ d) (F : Nat → sy_d) (X1 X2 : List jm_c) (hB : iv_in F iv_B0)
    (h0 : (sy_i F 86).toInt ≤ 400)
    (h1 : (sy_i F 84).toInt ≠ 0)
    (h2 : (sy_i F 85).toInt ≠ 42)
    (h3 : (sy_i F 85).toInt = 47)
    (h4 : 0 ≤ (sy_i F 33).toInt)
    (h5 : (sy_i F 33).toInt ≤ 400)
    (h6 : 0 ≤ (sy_i F 33).toInt ∧ (sy_i F 33).toInt < 401)
    (h7 : ((sy_ai F 39).getD (sy_i F 33).toNatClampNeg 0).toInt = (sy_i F 85).toInt)
    (h8 : (sy_i F 33).toInt < 400)
    (k : ∀ F1 : Nat → sy_d, (∀ j, j < 82 → j ≠ 33 → F1 j = F j) → F1 33 = .inl (.int ((sy_i F 33) + ((1 : Int32)))) → F1 82 = .inl (.int (sy_i F 82)) → F1 83 = .inl (.int (sy_i F 83)) → F1 84 = .inl (.int (sy_i F 85)) → F1 85 = .inl (.int (sy_i F 86)) → hd_W Ls xs d jm_M39 Q (61, sy_dL F1 [some (.inl (.ref 30)), some (.inr (.inl 82)), some (.inr (.inl 83)), none, some (.inr (.inl 84)), some (.inr (.inl 85))], sy_dS F1 [.inr (.inl 83), .inr (.inl 82), .inl (.ref 30)], sy_dh F1 X1 X2 (iv_H 3), 0, 0)) :
    hd_W Ls xs d jm_M39 Q (23, sy_dL F [some (.inl (.ref 30)), some (.inr (.inl 82)), some (.inr (.inl 83)), some (.inr (.inl 84)), some (.inr (.inl 85)), some (.inr (.inl 86))], sy_dS F [], sy_dh F X1 X2 (iv_H 3), 0, 0) := by
  refine hd_run (s := 3) (nv := 87) (pc := 61) (L := [some (.inl (.ref 30)), some (.inr (.inl 82)), some (.inr (.inl 83)), none, some (.inr (.inl 84)), some (.inr (.inl 85))]) (S := [.inr (.inl 83), .inr (.inl 82), .inl (.ref 30)]) (uh := hd_ov (iv_id 0 iv_B0) [(33, .inl (.inr (.inl 88)))]) (ul := [.inl (.inr (.inl 82)), .inl (.inr (.inl 83)), .inl (.inr (.inl 85)), .inl (.inr (.inl 86))]) (f := true) (sp := [23, 61]) (d0 := 3) (O := [false, false, false, false, false, false, true, true]) (T := [(30, [.inr (.inl 33)], [.inr (.inl 39)]), (0, [.inr (.inl 33), .inl (.int 1)], [])]) (P := [(3, .inl (.int 400), .inr (.inl 86)), (1, .inr (.inl 84), .inl (.int 0)), (1, .inr (.inl 85), .inl (.int 42)), (0, .inr (.inl 85), .inl (.int 47)), (3, .inr (.inl 33), .inl (.int 0)), (3, .inl (.int 400), .inr (.inl 33)), (6, .inr (.inl 33), .inl (.ref 401)), (0, .inr (.inl 87), .inr (.inl 85)), (2, .inr (.inl 33), .inl (.int 400))]) jm_ok39 (by decide +kernel) (by decide +kernel) hd F X1 X2 (fun F' hF hs => ?_)
  have b86 := hd_b (F := F) (F' := F') (k := 86) (hF 86 (by decide))
  have b84 := hd_b (F := F) (F' := F') (k := 84) (hF 84 (by decide))
  have b85 := hd_b (F := F) (F' := F') (k := 85) (hF 85 (by decide))
  have b33 := hd_b (F := F) (F' := F') (k := 33) (hF 33 (by decide))
  have a39 := hd_ba (F := F) (F' := F') (k := 39) (hF 39 (by decide))
  have t87 : sy_dv F' (.inr (.inl 87)) = .int ((sy_ai F 39).getD (sy_i F 33).toNatClampNeg 0) := hd_rd (hs 0 _ rfl) b33 a39
  have t88 : sy_dv F' (.inr (.inl 88)) = .int ((sy_i F 33) + ((1 : Int32))) := hd_o (hs 1 _ rfl) b33 rfl rfl
  have b82 := hd_b (F := F) (F' := F') (k := 82) (hF 82 (by decide))
  have b83 := hd_b (F := F) (F' := F') (k := 83) (hF 83 (by decide))
  have hB' : iv_in F' iv_B0 := iv_in_eq hB (fun j hj => hF j (Nat.lt_of_lt_of_le hj (by decide +kernel)))
  refine ⟨List.forall_mem_cons.mpr ⟨hd_p3 rfl b86 (by have hc : ((400) : Int32).toInt = 400 := (by decide); omega), List.forall_mem_cons.mpr ⟨hd_p1 b84 rfl (by have hc : ((0) : Int32).toInt = 0 := (by decide); omega), List.forall_mem_cons.mpr ⟨hd_p1 b85 rfl (by have hc : ((42) : Int32).toInt = 42 := (by decide); omega), List.forall_mem_cons.mpr ⟨hd_p0 b85 rfl (by have hc : ((47) : Int32).toInt = 47 := (by decide); omega), List.forall_mem_cons.mpr ⟨hd_p3 b33 rfl (by have hc : ((0) : Int32).toInt = 0 := (by decide); omega), List.forall_mem_cons.mpr ⟨hd_p3 rfl b33 (by have hc : ((400) : Int32).toInt = 400 := (by decide); omega), List.forall_mem_cons.mpr ⟨hd_pb b33 (by first | exact h6 | exact h6), List.forall_mem_cons.mpr ⟨hd_p0 t87 b85 h7, List.forall_mem_cons.mpr ⟨hd_p2 b33 rfl (by have hc : ((400) : Int32).toInt = 400 := (by decide); omega), fun _ h => absurd h List.not_mem_nil⟩⟩⟩⟩⟩⟩⟩⟩⟩, ?_⟩
  refine k _ ?_ ?_ ?_ ?_ ?_ ?_
  · exact fun j hj hn => (hd_keep hB' (Nat.lt_of_lt_of_le hj (by decide +kernel)) (by simp; omega)).trans (hF j (Nat.lt_of_lt_of_le hj (by decide)))
  · exact hd_gi (x := .inr (.inl 88)) (by decide +kernel) t88
  · exact hd_gi (x := .inr (.inl 82)) (by decide +kernel) b82
  · exact hd_gi (x := .inr (.inl 83)) (by decide +kernel) b83
  · exact hd_gi (x := .inr (.inl 85)) (by decide +kernel) b85
  · exact hd_gi (x := .inr (.inl 86)) (by decide +kernel) b86
theorem k3pp_23_p9 {Ls : Nat} {xs : Nat → Int32} {d : Nat} {Q : Option Value → jm_h → Prop} (hd : 4 ≤ d) (F : Nat → sy_d) (X1 X2 : List jm_c) (hB : iv_in F iv_B0)
    (h0 : (sy_i F 86).toInt ≤ 400)
    (h1 : (sy_i F 84).toInt ≠ 0)
    (h2 : (sy_i F 85).toInt ≠ 42)
    (h3 : (sy_i F 85).toInt = 47)
    (h4 : 0 ≤ (sy_i F 33).toInt)
    (h5 : (sy_i F 33).toInt ≤ 400)
    (h6 : 0 ≤ (sy_i F 33).toInt ∧ (sy_i F 33).toInt < 401)
    (h7 : ((sy_ai F 39).getD (sy_i F 33).toNatClampNeg 0).toInt = (sy_i F 85).toInt)
    (h8 : 400 ≤ (sy_i F 33).toInt)
    (h9 : (sy_i F 85).toInt ≠ 42)
    (h10 : 512 ≤ (sy_i F 8).toInt)
    (h11 : 0 ≤ (sy_i F 33).toInt)
    (h12 : (sy_i F 33).toInt ≤ 400)
    (h13 : 0 ≤ (sy_i F 33).toInt ∧ (sy_i F 33).toInt < 401)
    (k : ∀ F1 : Nat → sy_d, (∀ j, j < 82 → j ≠ 34 → F1 j = F j) → F1 34 = .inl (.int ((2 : Int32))) → F1 82 = .inl (.int (sy_i F 82)) → F1 83 = .inl (.int (sy_i F 83)) → F1 84 = .inl (.int ((0 : Int32))) → F1 85 = .inl (.int ((sy_ai F 39).getD (sy_i F 33).toNatClampNeg 0)) → F1 86 = .inl (.int ((sy_i F 86) + ((1 : Int32)))) → hd_W Ls xs d jm_M39 Q (23, sy_dL F1 [some (.inl (.ref 30)), some (.inr (.inl 82)), some (.inr (.inl 83)), some (.inr (.inl 84)), some (.inr (.inl 85)), some (.inr (.inl 86))], sy_dS F1 [], sy_dh F1 X1 X2 (iv_H 3), 0, 0)) :
    hd_W Ls xs d jm_M39 Q (23, sy_dL F [some (.inl (.ref 30)), some (.inr (.inl 82)), some (.inr (.inl 83)), some (.inr (.inl 84)), some (.inr (.inl 85)), some (.inr (.inl 86))], sy_dS F [], sy_dh F X1 X2 (iv_H 3), 0, 0) := by
  refine hd_run (s := 3) (nv := 87) (pc := 23) (L := [some (.inl (.ref 30)), some (.inr (.inl 82)), some (.inr (.inl 83)), some (.inr (.inl 84)), some (.inr (.inl 85)), some (.inr (.inl 86))]) (S := []) (uh := hd_ov (iv_id 0 iv_B0) [(34, .inl (.inl (.int 2)))]) (ul := [.inl (.inr (.inl 82)), .inl (.inr (.inl 83)), .inl (.inl (.int 0)), .inl (.inr (.inl 88)), .inl (.inr (.inl 89))]) (f := true) (sp := [23, 61]) (d0 := 3) (O := [false, false, false, false, false, false, true, false, true, true, false, false]) (T := [(30, [.inr (.inl 33)], [.inr (.inl 39)]), (30, [.inr (.inl 33)], [.inr (.inl 39)]), (0, [.inr (.inl 86), .inl (.int 1)], [])]) (P := [(3, .inl (.int 400), .inr (.inl 86)), (1, .inr (.inl 84), .inl (.int 0)), (1, .inr (.inl 85), .inl (.int 42)), (0, .inr (.inl 85), .inl (.int 47)), (3, .inr (.inl 33), .inl (.int 0)), (3, .inl (.int 400), .inr (.inl 33)), (6, .inr (.inl 33), .inl (.ref 401)), (0, .inr (.inl 87), .inr (.inl 85)), (3, .inr (.inl 33), .inl (.int 400)), (1, .inr (.inl 85), .inl (.int 42)), (4, .inl (.int 512), .inr (.inl 8)), (3, .inr (.inl 33), .inl (.int 0)), (3, .inl (.int 400), .inr (.inl 33)), (6, .inr (.inl 33), .inl (.ref 401))]) jm_ok39 (by decide +kernel) (by decide +kernel) hd F X1 X2 (fun F' hF hs => ?_)
  have b86 := hd_b (F := F) (F' := F') (k := 86) (hF 86 (by decide))
  have b84 := hd_b (F := F) (F' := F') (k := 84) (hF 84 (by decide))
  have b85 := hd_b (F := F) (F' := F') (k := 85) (hF 85 (by decide))
  have b33 := hd_b (F := F) (F' := F') (k := 33) (hF 33 (by decide))
  have a39 := hd_ba (F := F) (F' := F') (k := 39) (hF 39 (by decide))
  have t87 : sy_dv F' (.inr (.inl 87)) = .int ((sy_ai F 39).getD (sy_i F 33).toNatClampNeg 0) := hd_rd (hs 0 _ rfl) b33 a39
  have b8 := hd_b (F := F) (F' := F') (k := 8) (hF 8 (by decide))
  have b82 := hd_b (F := F) (F' := F') (k := 82) (hF 82 (by decide))
  have b83 := hd_b (F := F) (F' := F') (k := 83) (hF 83 (by decide))
  have t88 : sy_dv F' (.inr (.inl 88)) = .int ((sy_ai F 39).getD (sy_i F 33).toNatClampNeg 0) := hd_rd (hs 1 _ rfl) b33 a39
  have t89 : sy_dv F' (.inr (.inl 89)) = .int ((sy_i F 86) + ((1 : Int32))) := hd_o (hs 2 _ rfl) b86 rfl rfl
  have hB' : iv_in F' iv_B0 := iv_in_eq hB (fun j hj => hF j (Nat.lt_of_lt_of_le hj (by decide +kernel)))
  refine ⟨List.forall_mem_cons.mpr ⟨hd_p3 rfl b86 (by have hc : ((400) : Int32).toInt = 400 := (by decide); omega), List.forall_mem_cons.mpr ⟨hd_p1 b84 rfl (by have hc : ((0) : Int32).toInt = 0 := (by decide); omega), List.forall_mem_cons.mpr ⟨hd_p1 b85 rfl (by have hc : ((42) : Int32).toInt = 42 := (by decide); omega), List.forall_mem_cons.mpr ⟨hd_p0 b85 rfl (by have hc : ((47) : Int32).toInt = 47 := (by decide); omega), List.forall_mem_cons.mpr ⟨hd_p3 b33 rfl (by have hc : ((0) : Int32).toInt = 0 := (by decide); omega), List.forall_mem_cons.mpr ⟨hd_p3 rfl b33 (by have hc : ((400) : Int32).toInt = 400 := (by decide); omega), List.forall_mem_cons.mpr ⟨hd_pb b33 (by first | exact h6 | exact h6), List.forall_mem_cons.mpr ⟨hd_p0 t87 b85 h7, List.forall_mem_cons.mpr ⟨hd_p3 b33 rfl (by have hc : ((400) : Int32).toInt = 400 := (by decide); omega), List.forall_mem_cons.mpr ⟨hd_p1 b85 rfl (by have hc : ((42) : Int32).toInt = 42 := (by decide); omega), List.forall_mem_cons.mpr ⟨hd_p4 rfl b8 (by have hc : ((512) : Int32).toInt = 512 := (by decide); omega), List.forall_mem_cons.mpr ⟨hd_p3 b33 rfl (by have hc : ((0) : Int32).toInt = 0 := (by decide); omega), List.forall_mem_cons.mpr ⟨hd_p3 rfl b33 (by have hc : ((400) : Int32).toInt = 400 := (by decide); omega), List.forall_mem_cons.mpr ⟨hd_pb b33 (by first | exact h13 | exact h13), fun _ h => absurd h List.not_mem_nil⟩⟩⟩⟩⟩⟩⟩⟩⟩⟩⟩⟩⟩⟩, ?_⟩
  refine k _ ?_ ?_ ?_ ?_ ?_ ?_ ?_
  · exact fun j hj hn => (hd_keep hB' (Nat.lt_of_lt_of_le hj (by decide +kernel)) (by simp; omega)).trans (hF j (Nat.lt_of_lt_of_le hj (by decide)))
  · exact hd_gi (x := .inl (.int 2)) (by decide +kernel) rfl
  · exact hd_gi (x := .inr (.inl 82)) (by decide +kernel) b82
  · exact hd_gi (x := .inr (.inl 83)) (by decide +kernel) b83
  · exact hd_gi (x := .inl (.int 0)) (by decide +kernel) rfl
  · exact hd_gi (x := .inr (.inl 88)) (by decide +kernel) t88
  · exact hd_gi (x := .inr (.inl 89)) (by decide +kernel) t89
theorem k3pp_23_p10 {Ls : Nat} {xs : Nat → Int32} {d : Nat} {Q : Option Value → jm_h → Prop} (hd : 4 ≤ d) (F : Nat → sy_d) (X1 X2 : List jm_c) (hB : iv_in F iv_B0)
    (h0 : (sy_i F 86).toInt ≤ 400)
    (h1 : (sy_i F 84).toInt ≠ 0)
    (h2 : (sy_i F 85).toInt ≠ 42)
    (h3 : (sy_i F 85).toInt = 47)
    (h4 : 0 ≤ (sy_i F 33).toInt)
    (h5 : (sy_i F 33).toInt ≤ 400)
    (h6 : 0 ≤ (sy_i F 33).toInt ∧ (sy_i F 33).toInt < 401)
    (h7 : ((sy_ai F 39).getD (sy_i F 33).toNatClampNeg 0).toInt = (sy_i F 85).toInt)
    (h8 : 400 ≤ (sy_i F 33).toInt)
    (h9 : (sy_i F 85).toInt ≠ 42)
    (h10 : (sy_i F 8).toInt < 512)
    (h11 : 0 ≤ (sy_i F 8).toInt ∧ (sy_i F 8).toInt < 512)
    (h12 : 0 ≤ (sy_i F 33).toInt)
    (h13 : (sy_i F 33).toInt ≤ 400)
    (h14 : 0 ≤ (sy_i F 33).toInt ∧ (sy_i F 33).toInt < 401)
    (k : ∀ F1 : Nat → sy_d, (∀ j, j < 82 → j ≠ 8 ∧ j ≠ 17 ∧ j ≠ 34 → F1 j = F j) → F1 8 = .inl (.int ((sy_i F 8) + ((1 : Int32)))) → F1 17 = .inr (.inl (jm_upd (sy_ai F 17) (sy_i F 8).toNatClampNeg (((-13) : Int32)))) → F1 34 = .inl (.int ((2 : Int32))) → F1 82 = .inl (.int (sy_i F 82)) → F1 83 = .inl (.int (sy_i F 83)) → F1 84 = .inl (.int ((0 : Int32))) → F1 85 = .inl (.int ((sy_ai F 39).getD (sy_i F 33).toNatClampNeg 0)) → F1 86 = .inl (.int ((sy_i F 86) + ((1 : Int32)))) → hd_W Ls xs d jm_M39 Q (23, sy_dL F1 [some (.inl (.ref 30)), some (.inr (.inl 82)), some (.inr (.inl 83)), some (.inr (.inl 84)), some (.inr (.inl 85)), some (.inr (.inl 86))], sy_dS F1 [], sy_dh F1 X1 X2 (iv_H 3), 0, 0)) :
    hd_W Ls xs d jm_M39 Q (23, sy_dL F [some (.inl (.ref 30)), some (.inr (.inl 82)), some (.inr (.inl 83)), some (.inr (.inl 84)), some (.inr (.inl 85)), some (.inr (.inl 86))], sy_dS F [], sy_dh F X1 X2 (iv_H 3), 0, 0) := by
  refine hd_run (s := 3) (nv := 87) (pc := 23) (L := [some (.inl (.ref 30)), some (.inr (.inl 82)), some (.inr (.inl 83)), some (.inr (.inl 84)), some (.inr (.inl 85)), some (.inr (.inl 86))]) (S := []) (uh := hd_ov (iv_id 0 iv_B0) [(8, .inl (.inr (.inl 89))), (17, .inr (.inr (.inl 88))), (34, .inl (.inl (.int 2)))]) (ul := [.inl (.inr (.inl 82)), .inl (.inr (.inl 83)), .inl (.inl (.int 0)), .inl (.inr (.inl 90)), .inl (.inr (.inl 91))]) (f := true) (sp := [23, 61]) (d0 := 3) (O := [false, false, false, false, false, false, true, false, true, false, false, false]) (T := [(30, [.inr (.inl 33)], [.inr (.inl 39)]), (40, [.inr (.inl 8), .inl (.int (-13))], [.inr (.inl 17)]), (0, [.inr (.inl 8), .inl (.int 1)], []), (30, [.inr (.inl 33)], [.inr (.inl 39)]), (0, [.inr (.inl 86), .inl (.int 1)], [])]) (P := [(3, .inl (.int 400), .inr (.inl 86)), (1, .inr (.inl 84), .inl (.int 0)), (1, .inr (.inl 85), .inl (.int 42)), (0, .inr (.inl 85), .inl (.int 47)), (3, .inr (.inl 33), .inl (.int 0)), (3, .inl (.int 400), .inr (.inl 33)), (6, .inr (.inl 33), .inl (.ref 401)), (0, .inr (.inl 87), .inr (.inl 85)), (3, .inr (.inl 33), .inl (.int 400)), (1, .inr (.inl 85), .inl (.int 42)), (5, .inl (.int 512), .inr (.inl 8)), (6, .inr (.inl 8), .inl (.ref 512)), (3, .inr (.inl 33), .inl (.int 0)), (3, .inl (.int 400), .inr (.inl 33)), (6, .inr (.inl 33), .inl (.ref 401))]) jm_ok39 (by decide +kernel) (by decide +kernel) hd F X1 X2 (fun F' hF hs => ?_)
  have b86 := hd_b (F := F) (F' := F') (k := 86) (hF 86 (by decide))
  have b84 := hd_b (F := F) (F' := F') (k := 84) (hF 84 (by decide))
  have b85 := hd_b (F := F) (F' := F') (k := 85) (hF 85 (by decide))
  have b33 := hd_b (F := F) (F' := F') (k := 33) (hF 33 (by decide))
  have a39 := hd_ba (F := F) (F' := F') (k := 39) (hF 39 (by decide))
  have t87 : sy_dv F' (.inr (.inl 87)) = .int ((sy_ai F 39).getD (sy_i F 33).toNatClampNeg 0) := hd_rd (hs 0 _ rfl) b33 a39
  have b8 := hd_b (F := F) (F' := F') (k := 8) (hF 8 (by decide))
  have t89 : sy_dv F' (.inr (.inl 89)) = .int ((sy_i F 8) + ((1 : Int32))) := hd_o (hs 2 _ rfl) b8 rfl rfl
  have a17 := hd_ba (F := F) (F' := F') (k := 17) (hF 17 (by decide))
  have t88 : sy_da F' (.inr (.inl 88)) = .inl (jm_upd (sy_ai F 17) (sy_i F 8).toNatClampNeg (((-13) : Int32))) := hd_up (hs 1 _ rfl) b8 rfl a17
  have b82 := hd_b (F := F) (F' := F') (k := 82) (hF 82 (by decide))
  have b83 := hd_b (F := F) (F' := F') (k := 83) (hF 83 (by decide))
  have t90 : sy_dv F' (.inr (.inl 90)) = .int ((sy_ai F 39).getD (sy_i F 33).toNatClampNeg 0) := hd_rd (hs 3 _ rfl) b33 a39
  have t91 : sy_dv F' (.inr (.inl 91)) = .int ((sy_i F 86) + ((1 : Int32))) := hd_o (hs 4 _ rfl) b86 rfl rfl
  have hB' : iv_in F' iv_B0 := iv_in_eq hB (fun j hj => hF j (Nat.lt_of_lt_of_le hj (by decide +kernel)))
  refine ⟨List.forall_mem_cons.mpr ⟨hd_p3 rfl b86 (by have hc : ((400) : Int32).toInt = 400 := (by decide); omega), List.forall_mem_cons.mpr ⟨hd_p1 b84 rfl (by have hc : ((0) : Int32).toInt = 0 := (by decide); omega), List.forall_mem_cons.mpr ⟨hd_p1 b85 rfl (by have hc : ((42) : Int32).toInt = 42 := (by decide); omega), List.forall_mem_cons.mpr ⟨hd_p0 b85 rfl (by have hc : ((47) : Int32).toInt = 47 := (by decide); omega), List.forall_mem_cons.mpr ⟨hd_p3 b33 rfl (by have hc : ((0) : Int32).toInt = 0 := (by decide); omega), List.forall_mem_cons.mpr ⟨hd_p3 rfl b33 (by have hc : ((400) : Int32).toInt = 400 := (by decide); omega), List.forall_mem_cons.mpr ⟨hd_pb b33 (by first | exact h6 | exact h6), List.forall_mem_cons.mpr ⟨hd_p0 t87 b85 h7, List.forall_mem_cons.mpr ⟨hd_p3 b33 rfl (by have hc : ((400) : Int32).toInt = 400 := (by decide); omega), List.forall_mem_cons.mpr ⟨hd_p1 b85 rfl (by have hc : ((42) : Int32).toInt = 42 := (by decide); omega), List.forall_mem_cons.mpr ⟨hd_p5 rfl b8 (by have hc : ((512) : Int32).toInt = 512 := (by decide); omega), List.forall_mem_cons.mpr ⟨hd_pb b8 (by first | exact h11 | exact h11), List.forall_mem_cons.mpr ⟨hd_p3 b33 rfl (by have hc : ((0) : Int32).toInt = 0 := (by decide); omega), List.forall_mem_cons.mpr ⟨hd_p3 rfl b33 (by have hc : ((400) : Int32).toInt = 400 := (by decide); omega), List.forall_mem_cons.mpr ⟨hd_pb b33 (by first | exact h14 | exact h14), fun _ h => absurd h List.not_mem_nil⟩⟩⟩⟩⟩⟩⟩⟩⟩⟩⟩⟩⟩⟩⟩, ?_⟩
  refine k _ ?_ ?_ ?_ ?_ ?_ ?_ ?_ ?_ ?_
  · exact fun j hj hn => (hd_keep hB' (Nat.lt_of_lt_of_le hj (by decide +kernel)) (by simp; omega)).trans (hF j (Nat.lt_of_lt_of_le hj (by decide)))
  · exact hd_gi (x := .inr (.inl 89)) (by decide +kernel) t89
  · exact hd_ga (a := .inr (.inl 88)) (by decide +kernel) t88
  · exact hd_gi (x := .inl (.int 2)) (by decide +kernel) rfl
  · exact hd_gi (x := .inr (.inl 82)) (by decide +kernel) b82
  · exact hd_gi (x := .inr (.inl 83)) (by decide +kernel) b83
  · exact hd_gi (x := .inl (.int 0)) (by decide +kernel) rfl
  · exact hd_gi (x := .inr (.inl 90)) (by decide +kernel) t90
  · exact hd_gi (x := .inr (.inl 91)) (by decide +kernel) t91
theorem k3pp_23_p11 {Ls : Nat} {xs : Nat → Int32} {d : Nat} {Q : Option Value → jm_h → Prop} (hd : 4 ≤ d) (F : Nat → sy_d) (X1 X2 : List jm_c) (hB : iv_in F iv_B0)
    (h0 : (sy_i F 86).toInt ≤ 400)
    (h1 : (sy_i F 84).toInt ≠ 0)
    (h2 : (sy_i F 85).toInt ≠ 42)
    (h3 : (sy_i F 85).toInt = 47)
    (h4 : 0 ≤ (sy_i F 33).toInt)
    (h5 : (sy_i F 33).toInt ≤ 400)
    (h6 : 0 ≤ (sy_i F 33).toInt ∧ (sy_i F 33).toInt < 401)
    (h7 : ((sy_ai F 39).getD (sy_i F 33).toNatClampNeg 0).toInt ≠ (sy_i F 85).toInt)
    (h8 : (sy_i F 85).toInt ≠ 42)
    (h9 : 512 ≤ (sy_i F 8).toInt)
    (h10 : 0 ≤ (sy_i F 33).toInt)
    (h11 : (sy_i F 33).toInt ≤ 400)
    (h12 : 0 ≤ (sy_i F 33).toInt ∧ (sy_i F 33).toInt < 401)
    (k : ∀ F1 : Nat → sy_d, (∀ j, j < 82 → j ≠ 34 → F1 j = F j) → F1 34 = .inl (.int ((1 : Int32))) → F1 82 = .inl (.int (sy_i F 82)) → F1 83 = .inl (.int (sy_i F 83)) → F1 84 = .inl (.int ((0 : Int32))) → F1 85 = .inl (.int ((sy_ai F 39).getD (sy_i F 33).toNatClampNeg 0)) → F1 86 = .inl (.int ((sy_i F 86) + ((1 : Int32)))) → hd_W Ls xs d jm_M39 Q (23, sy_dL F1 [some (.inl (.ref 30)), some (.inr (.inl 82)), some (.inr (.inl 83)), some (.inr (.inl 84)), some (.inr (.inl 85)), some (.inr (.inl 86))], sy_dS F1 [], sy_dh F1 X1 X2 (iv_H 3), 0, 0)) :
    hd_W Ls xs d jm_M39 Q (23, sy_dL F [some (.inl (.ref 30)), some (.inr (.inl 82)), some (.inr (.inl 83)), some (.inr (.inl 84)), some (.inr (.inl 85)), some (.inr (.inl 86))], sy_dS F [], sy_dh F X1 X2 (iv_H 3), 0, 0) := by
  refine hd_run (s := 3) (nv := 87) (pc := 23) (L := [some (.inl (.ref 30)), some (.inr (.inl 82)), some (.inr (.inl 83)), some (.inr (.inl 84)), some (.inr (.inl 85)), some (.inr (.inl 86))]) (S := []) (uh := hd_ov (iv_id 0 iv_B0) [(34, .inl (.inl (.int 1)))]) (ul := [.inl (.inr (.inl 82)), .inl (.inr (.inl 83)), .inl (.inl (.int 0)), .inl (.inr (.inl 88)), .inl (.inr (.inl 89))]) (f := true) (sp := [23, 61]) (d0 := 3) (O := [false, false, false, false, false, false, false, true, true, false, false]) (T := [(30, [.inr (.inl 33)], [.inr (.inl 39)]), (30, [.inr (.inl 33)], [.inr (.inl 39)]), (0, [.inr (.inl 86), .inl (.int 1)], [])]) (P := [(3, .inl (.int 400), .inr (.inl 86)), (1, .inr (.inl 84), .inl (.int 0)), (1, .inr (.inl 85), .inl (.int 42)), (0, .inr (.inl 85), .inl (.int 47)), (3, .inr (.inl 33), .inl (.int 0)), (3, .inl (.int 400), .inr (.inl 33)), (6, .inr (.inl 33), .inl (.ref 401)), (1, .inr (.inl 87), .inr (.inl 85)), (1, .inr (.inl 85), .inl (.int 42)), (4, .inl (.int 512), .inr (.inl 8)), (3, .inr (.inl 33), .inl (.int 0)), (3, .inl (.int 400), .inr (.inl 33)), (6, .inr (.inl 33), .inl (.ref 401))]) jm_ok39 (by decide +kernel) (by decide +kernel) hd F X1 X2 (fun F' hF hs => ?_)
  have b86 := hd_b (F := F) (F' := F') (k := 86) (hF 86 (by decide))
  have b84 := hd_b (F := F) (F' := F') (k := 84) (hF 84 (by decide))
  have b85 := hd_b (F := F) (F' := F') (k := 85) (hF 85 (by decide))
  have b33 := hd_b (F := F) (F' := F') (k := 33) (hF 33 (by decide))
  have a39 := hd_ba (F := F) (F' := F') (k := 39) (hF 39 (by decide))
  have t87 : sy_dv F' (.inr (.inl 87)) = .int ((sy_ai F 39).getD (sy_i F 33).toNatClampNeg 0) := hd_rd (hs 0 _ rfl) b33 a39
  have b8 := hd_b (F := F) (F' := F') (k := 8) (hF 8 (by decide))
  have b82 := hd_b (F := F) (F' := F') (k := 82) (hF 82 (by decide))
  have b83 := hd_b (F := F) (F' := F') (k := 83) (hF 83 (by decide))
  have t88 : sy_dv F' (.inr (.inl 88)) = .int ((sy_ai F 39).getD (sy_i F 33).toNatClampNeg 0) := hd_rd (hs 1 _ rfl) b33 a39
  have t89 : sy_dv F' (.inr (.inl 89)) = .int ((sy_i F 86) + ((1 : Int32))) := hd_o (hs 2 _ rfl) b86 rfl rfl
  have hB' : iv_in F' iv_B0 := iv_in_eq hB (fun j hj => hF j (Nat.lt_of_lt_of_le hj (by decide +kernel)))
  refine ⟨List.forall_mem_cons.mpr ⟨hd_p3 rfl b86 (by have hc : ((400) : Int32).toInt = 400 := (by decide); omega), List.forall_mem_cons.mpr ⟨hd_p1 b84 rfl (by have hc : ((0) : Int32).toInt = 0 := (by decide); omega), List.forall_mem_cons.mpr ⟨hd_p1 b85 rfl (by have hc : ((42) : Int32).toInt = 42 := (by decide); omega), List.forall_mem_cons.mpr ⟨hd_p0 b85 rfl (by have hc : ((47) : Int32).toInt = 47 := (by decide); omega), List.forall_mem_cons.mpr ⟨hd_p3 b33 rfl (by have hc : ((0) : Int32).toInt = 0 := (by decide); omega), List.forall_mem_cons.mpr ⟨hd_p3 rfl b33 (by have hc : ((400) : Int32).toInt = 400 := (by decide); omega), List.forall_mem_cons.mpr ⟨hd_pb b33 (by first | exact h6 | exact h6), List.forall_mem_cons.mpr ⟨hd_p1 t87 b85 h7, List.forall_mem_cons.mpr ⟨hd_p1 b85 rfl (by have hc : ((42) : Int32).toInt = 42 := (by decide); omega), List.forall_mem_cons.mpr ⟨hd_p4 rfl b8 (by have hc : ((512) : Int32).toInt = 512 := (by decide); omega), List.forall_mem_cons.mpr ⟨hd_p3 b33 rfl (by have hc : ((0) : Int32).toInt = 0 := (by decide); omega), List.forall_mem_cons.mpr ⟨hd_p3 rfl b33 (by have hc : ((400) : Int32).toInt = 400 := (by decide); omega), List.forall_mem_cons.mpr ⟨hd_pb b33 (by first | exact h12 | exact h12), fun _ h => absurd h List.not_mem_nil⟩⟩⟩⟩⟩⟩⟩⟩⟩⟩⟩⟩⟩, ?_⟩
  refine k _ ?_ ?_ ?_ ?_ ?_ ?_ ?_
  · exact fun j hj hn => (hd_keep hB' (Nat.lt_of_lt_of_le hj (by decide +kernel)) (by simp; omega)).trans (hF j (Nat.lt_of_lt_of_le hj (by decide)))
  · exact hd_gi (x := .inl (.int 1)) (by decide +kernel) rfl
  · exact hd_gi (x := .inr (.inl 82)) (by decide +kernel) b82
  · exact hd_gi (x := .inr (.inl 83)) (by decide +kernel) b83
  · exact hd_gi (x := .inl (.int 0)) (by decide +kernel) rfl
  · exact hd_gi (x := .inr (.inl 88)) (by decide +kernel) t88
  · exact hd_gi (x := .inr (.inl 89)) (by decide +kernel) t89
theorem k3pp_23_p12 {Ls : Nat} {xs : Nat → Int32} {d : Nat} {Q : Option Value → jm_h → Prop} (hd : 4 ≤ d) (F : Nat → sy_d) (X1 X2 : List jm_c) (hB : iv_in F iv_B0)
    (h0 : (sy_i F 86).toInt ≤ 400)
    (h1 : (sy_i F 84).toInt ≠ 0)
    (h2 : (sy_i F 85).toInt ≠ 42)
    (h3 : (sy_i F 85).toInt = 47)
    (h4 : 0 ≤ (sy_i F 33).toInt)
    (h5 : (sy_i F 33).toInt ≤ 400)
    (h6 : 0 ≤ (sy_i F 33).toInt ∧ (sy_i F 33).toInt < 401)
    (h7 : ((sy_ai F 39).getD (sy_i F 33).toNatClampNeg 0).toInt ≠ (sy_i F 85).toInt)
    (h8 : (sy_i F 85).toInt ≠ 42)
    (h9 : (sy_i F 8).toInt < 512)
    (h10 : 0 ≤ (sy_i F 8).toInt ∧ (sy_i F 8).toInt < 512)
    (h11 : 0 ≤ (sy_i F 33).toInt)
    (h12 : (sy_i F 33).toInt ≤ 400)
    (h13 : 0 ≤ (sy_i F 33).toInt ∧ (sy_i F 33).toInt < 401)
    (k : ∀ F1 : Nat → sy_d, (∀ j, j < 82 → j ≠ 8 ∧ j ≠ 17 ∧ j ≠ 34 → F1 j = F j) → F1 8 = .inl (.int ((sy_i F 8) + ((1 : Int32)))) → F1 17 = .inr (.inl (jm_upd (sy_ai F 17) (sy_i F 8).toNatClampNeg (((-13) : Int32)))) → F1 34 = .inl (.int ((1 : Int32))) → F1 82 = .inl (.int (sy_i F 82)) → F1 83 = .inl (.int (sy_i F 83)) → F1 84 = .inl (.int ((0 : Int32))) → F1 85 = .inl (.int ((sy_ai F 39).getD (sy_i F 33).toNatClampNeg 0)) → F1 86 = .inl (.int ((sy_i F 86) + ((1 : Int32)))) → hd_W Ls xs d jm_M39 Q (23, sy_dL F1 [some (.inl (.ref 30)), some (.inr (.inl 82)), some (.inr (.inl 83)), some (.inr (.inl 84)), some (.inr (.inl 85)), some (.inr (.inl 86))], sy_dS F1 [], sy_dh F1 X1 X2 (iv_H 3), 0, 0)) :
    hd_W Ls xs d jm_M39 Q (23, sy_dL F [some (.inl (.ref 30)), some (.inr (.inl 82)), some (.inr (.inl 83)), some (.inr (.inl 84)), some (.inr (.inl 85)), some (.inr (.inl 86))], sy_dS F [], sy_dh F X1 X2 (iv_H 3), 0, 0) := by
  refine hd_run (s := 3) (nv := 87) (pc := 23) (L := [some (.inl (.ref 30)), some (.inr (.inl 82)), some (.inr (.inl 83)), some (.inr (.inl 84)), some (.inr (.inl 85)), some (.inr (.inl 86))]) (S := []) (uh := hd_ov (iv_id 0 iv_B0) [(8, .inl (.inr (.inl 89))), (17, .inr (.inr (.inl 88))), (34, .inl (.inl (.int 1)))]) (ul := [.inl (.inr (.inl 82)), .inl (.inr (.inl 83)), .inl (.inl (.int 0)), .inl (.inr (.inl 90)), .inl (.inr (.inl 91))]) (f := true) (sp := [23, 61]) (d0 := 3) (O := [false, false, false, false, false, false, false, true, false, false, false]) (T := [(30, [.inr (.inl 33)], [.inr (.inl 39)]), (40, [.inr (.inl 8), .inl (.int (-13))], [.inr (.inl 17)]), (0, [.inr (.inl 8), .inl (.int 1)], []), (30, [.inr (.inl 33)], [.inr (.inl 39)]), (0, [.inr (.inl 86), .inl (.int 1)], [])]) (P := [(3, .inl (.int 400), .inr (.inl 86)), (1, .inr (.inl 84), .inl (.int 0)), (1, .inr (.inl 85), .inl (.int 42)), (0, .inr (.inl 85), .inl (.int 47)), (3, .inr (.inl 33), .inl (.int 0)), (3, .inl (.int 400), .inr (.inl 33)), (6, .inr (.inl 33), .inl (.ref 401)), (1, .inr (.inl 87), .inr (.inl 85)), (1, .inr (.inl 85), .inl (.int 42)), (5, .inl (.int 512), .inr (.inl 8)), (6, .inr (.inl 8), .inl (.ref 512)), (3, .inr (.inl 33), .inl (.int 0)), (3, .inl (.int 400), .inr (.inl 33)), (6, .inr (.inl 33), .inl (.ref 401))]) jm_ok39 (by decide +kernel) (by decide +kernel) hd F X1 X2 (fun F' hF hs => ?_)
  have b86 := hd_b (F := F) (F' := F') (k := 86) (hF 86 (by decide))
  have b84 := hd_b (F := F) (F' := F') (k := 84) (hF 84 (by decide))
  have b85 := hd_b (F := F) (F' := F') (k := 85) (hF 85 (by decide))
  have b33 := hd_b (F := F) (F' := F') (k := 33) (hF 33 (by decide))
  have a39 := hd_ba (F := F) (F' := F') (k := 39) (hF 39 (by decide))
  have t87 : sy_dv F' (.inr (.inl 87)) = .int ((sy_ai F 39).getD (sy_i F 33).toNatClampNeg 0) := hd_rd (hs 0 _ rfl) b33 a39
  have b8 := hd_b (F := F) (F' := F') (k := 8) (hF 8 (by decide))
  have t89 : sy_dv F' (.inr (.inl 89)) = .int ((sy_i F 8) + ((1 : Int32))) := hd_o (hs 2 _ rfl) b8 rfl rfl
  have a17 := hd_ba (F := F) (F' := F') (k := 17) (hF 17 (by decide))
  have t88 : sy_da F' (.inr (.inl 88)) = .inl (jm_upd (sy_ai F 17) (sy_i F 8).toNatClampNeg (((-13) : Int32))) := hd_up (hs 1 _ rfl) b8 rfl a17
  have b82 := hd_b (F := F) (F' := F') (k := 82) (hF 82 (by decide))
  have b83 := hd_b (F := F) (F' := F') (k := 83) (hF 83 (by decide))
  have t90 : sy_dv F' (.inr (.inl 90)) = .int ((sy_ai F 39).getD (sy_i F 33).toNatClampNeg 0) := hd_rd (hs 3 _ rfl) b33 a39
  have t91 : sy_dv F' (.inr (.inl 91)) = .int ((sy_i F 86) + ((1 : Int32))) := hd_o (hs 4 _ rfl) b86 rfl rfl
  have hB' : iv_in F' iv_B0 := iv_in_eq hB (fun j hj => hF j (Nat.lt_of_lt_of_le hj (by decide +kernel)))
  refine ⟨List.forall_mem_cons.mpr ⟨hd_p3 rfl b86 (by have hc : ((400) : Int32).toInt = 400 := (by decide); omega), List.forall_mem_cons.mpr ⟨hd_p1 b84 rfl (by have hc : ((0) : Int32).toInt = 0 := (by decide); omega), List.forall_mem_cons.mpr ⟨hd_p1 b85 rfl (by have hc : ((42) : Int32).toInt = 42 := (by decide); omega), List.forall_mem_cons.mpr ⟨hd_p0 b85 rfl (by have hc : ((47) : Int32).toInt = 47 := (by decide); omega), List.forall_mem_cons.mpr ⟨hd_p3 b33 rfl (by have hc : ((0) : Int32).toInt = 0 := (by decide); omega), List.forall_mem_cons.mpr ⟨hd_p3 rfl b33 (by have hc : ((400) : Int32).toInt = 400 := (by decide); omega), List.forall_mem_cons.mpr ⟨hd_pb b33 (by first | exact h6 | exact h6), List.forall_mem_cons.mpr ⟨hd_p1 t87 b85 h7, List.forall_mem_cons.mpr ⟨hd_p1 b85 rfl (by have hc : ((42) : Int32).toInt = 42 := (by decide); omega), List.forall_mem_cons.mpr ⟨hd_p5 rfl b8 (by have hc : ((512) : Int32).toInt = 512 := (by decide); omega), List.forall_mem_cons.mpr ⟨hd_pb b8 (by first | exact h10 | exact h10), List.forall_mem_cons.mpr ⟨hd_p3 b33 rfl (by have hc : ((0) : Int32).toInt = 0 := (by decide); omega), List.forall_mem_cons.mpr ⟨hd_p3 rfl b33 (by have hc : ((400) : Int32).toInt = 400 := (by decide); omega), List.forall_mem_cons.mpr ⟨hd_pb b33 (by first | exact h13 | exact h13), fun _ h => absurd h List.not_mem_nil⟩⟩⟩⟩⟩⟩⟩⟩⟩⟩⟩⟩⟩⟩, ?_⟩
  refine k _ ?_ ?_ ?_ ?_ ?_ ?_ ?_ ?_ ?_
  · exact fun j hj hn => (hd_keep hB' (Nat.lt_of_lt_of_le hj (by decide +kernel)) (by simp; omega)).trans (hF j (Nat.lt_of_lt_of_le hj (by decide)))
  · exact hd_gi (x := .inr (.inl 89)) (by decide +kernel) t89
  · exact hd_ga (a := .inr (.inl 88)) (by decide +kernel) t88
  · exact hd_gi (x := .inl (.int 1)) (by decide +kernel) rfl
  · exact hd_gi (x := .inr (.inl 82)) (by decide +kernel) b82
  · exact hd_gi (x := .inr (.inl 83)) (by decide +kernel) b83
  · exact hd_gi (x := .inl (.int 0)) (by decide +kernel) rfl
  · exact hd_gi (x := .inr (.inl 90)) (by decide +kernel) t90
  · exact hd_gi (x := .inr (.inl 91)) (by decide +kernel) t91
theorem k3pp_64_p0 {Ls : Nat} {xs : Nat → Int32} {d : Nat} {Q : Option Value → jm_h → Prop} (hd : 4 ≤ d) (F : Nat → sy_d) (X1 X2 : List jm_c) (hB : iv_in F iv_B0)
    (h0 : (sy_i F 86).toInt = 0)
    (h1 : (sy_i F 84).toInt ≠ 42)
    (h2 : 512 ≤ (sy_i F 8).toInt)
    (h3 : 0 ≤ (sy_i F 33).toInt)
    (h4 : (sy_i F 33).toInt ≤ 400)
    (h5 : 0 ≤ (sy_i F 33).toInt ∧ (sy_i F 33).toInt < 401)
    (k : ∀ F1 : Nat → sy_d, (∀ j, j < 82 → True → F1 j = F j) → F1 82 = .inl (.int (sy_i F 82)) → F1 83 = .inl (.int (sy_i F 83)) → F1 84 = .inl (.int ((0 : Int32))) → F1 85 = .inl (.int ((sy_ai F 39).getD (sy_i F 33).toNatClampNeg 0)) → F1 86 = .inl (.int ((sy_i F 85) + ((1 : Int32)))) → hd_W Ls xs d jm_M39 Q (23, sy_dL F1 [some (.inl (.ref 30)), some (.inr (.inl 82)), some (.inr (.inl 83)), some (.inr (.inl 84)), some (.inr (.inl 85)), some (.inr (.inl 86))], sy_dS F1 [], sy_dh F1 X1 X2 (iv_H 3), 0, 0)) :
    hd_W Ls xs d jm_M39 Q (64, sy_dL F [some (.inl (.ref 30)), some (.inr (.inl 82)), some (.inr (.inl 83)), none, some (.inr (.inl 84)), some (.inr (.inl 85))], sy_dS F [.inr (.inl 86)], sy_dh F X1 X2 (iv_H 3), 0, 0) := by
  refine hd_run (s := 3) (nv := 87) (pc := 23) (L := [some (.inl (.ref 30)), some (.inr (.inl 82)), some (.inr (.inl 83)), some (.inr (.inl 84)), some (.inr (.inl 85)), some (.inr (.inl 86))]) (S := []) (uh := hd_ov (iv_id 0 iv_B0) []) (ul := [.inl (.inr (.inl 82)), .inl (.inr (.inl 83)), .inl (.inl (.int 0)), .inl (.inr (.inl 87)), .inl (.inr (.inl 88))]) (f := false) (sp := [23]) (d0 := 3) (O := [true, true, true, false, false]) (T := [(30, [.inr (.inl 33)], [.inr (.inl 39)]), (0, [.inr (.inl 85), .inl (.int 1)], [])]) (P := [(0, .inr (.inl 86), .inl (.int 0)), (1, .inr (.inl 84), .inl (.int 42)), (4, .inl (.int 512), .inr (.inl 8)), (3, .inr (.inl 33), .inl (.int 0)), (3, .inl (.int 400), .inr (.inl 33)), (6, .inr (.inl 33), .inl (.ref 401))]) jm_ok39 (by decide +kernel) (by decide +kernel) hd F X1 X2 (fun F' hF hs => ?_)
  have b86 := hd_b (F := F) (F' := F') (k := 86) (hF 86 (by decide))
  have b84 := hd_b (F := F) (F' := F') (k := 84) (hF 84 (by decide))
  have b8 := hd_b (F := F) (F' := F') (k := 8) (hF 8 (by decide))
  have b33 := hd_b (F := F) (F' := F') (k := 33) (hF 33 (by decide))
  have b82 := hd_b (F := F) (F' := F') (k := 82) (hF 82 (by decide))
  have b83 := hd_b (F := F) (F' := F') (k := 83) (hF 83 (by decide))
  have a39 := hd_ba (F := F) (F' := F') (k := 39) (hF 39 (by decide))
  have t87 : sy_dv F' (.inr (.inl 87)) = .int ((sy_ai F 39).getD (sy_i F 33).toNatClampNeg 0) := hd_rd (hs 0 _ rfl) b33 a39
  have b85 := hd_b (F := F) (F' := F') (k := 85) (hF 85 (by decide))
  have t88 : sy_dv F' (.inr (.inl 88)) = .int ((sy_i F 85) + ((1 : Int32))) := hd_o (hs 1 _ rfl) b85 rfl rfl
  have hB' : iv_in F' iv_B0 := iv_in_eq hB (fun j hj => hF j (Nat.lt_of_lt_of_le hj (by decide +kernel)))
  refine ⟨List.forall_mem_cons.mpr ⟨hd_p0 b86 rfl (by have hc : ((0) : Int32).toInt = 0 := (by decide); omega), List.forall_mem_cons.mpr ⟨hd_p1 b84 rfl (by have hc : ((42) : Int32).toInt = 42 := (by decide); omega), List.forall_mem_cons.mpr ⟨hd_p4 rfl b8 (by have hc : ((512) : Int32).toInt = 512 := (by decide); omega), List.forall_mem_cons.mpr ⟨hd_p3 b33 rfl (by have hc : ((0) : Int32).toInt = 0 := (by decide); omega), List.forall_mem_cons.mpr ⟨hd_p3 rfl b33 (by have hc : ((400) : Int32).toInt = 400 := (by decide); omega), List.forall_mem_cons.mpr ⟨hd_pb b33 (by first | exact h5 | exact h5), fun _ h => absurd h List.not_mem_nil⟩⟩⟩⟩⟩⟩, ?_⟩
  refine k _ ?_ ?_ ?_ ?_ ?_ ?_
  · exact fun j hj _ => (hd_keep hB' (Nat.lt_of_lt_of_le hj (by decide +kernel)) (by simp)).trans (hF j (Nat.lt_of_lt_of_le hj (by decide)))
  · exact hd_gi (x := .inr (.inl 82)) (by decide +kernel) b82
  · exact hd_gi (x := .inr (.inl 83)) (by decide +kernel) b83
  · exact hd_gi (x := .inl (.int 0)) (by decide +kernel) rfl
  · exact hd_gi (x := .inr (.inl 87)) (by decide +kernel) t87
  · exact hd_gi (x := .inr (.inl 88)) (by decide +kernel) t88
theorem k3pp_64_p1 {Ls : Nat} {xs : Nat → Int32} {d : Nat} {Q : Option Value → jm_h → Prop} (hd : 4 ≤ d) (F : Nat → sy_d) (X1 X2 : List jm_c) (hB : iv_in F iv_B0)
    (h0 : (sy_i F 86).toInt = 0)
    (h1 : (sy_i F 84).toInt ≠ 42)
    (h2 : (sy_i F 8).toInt < 512)
    (h3 : 0 ≤ (sy_i F 8).toInt ∧ (sy_i F 8).toInt < 512)
    (h4 : 0 ≤ (sy_i F 33).toInt)
    (h5 : (sy_i F 33).toInt ≤ 400)
    (h6 : 0 ≤ (sy_i F 33).toInt ∧ (sy_i F 33).toInt < 401)
    (k : ∀ F1 : Nat → sy_d, (∀ j, j < 82 → j ≠ 8 ∧ j ≠ 17 → F1 j = F j) → F1 8 = .inl (.int ((sy_i F 8) + ((1 : Int32)))) → F1 17 = .inr (.inl (jm_upd (sy_ai F 17) (sy_i F 8).toNatClampNeg (((-13) : Int32)))) → F1 82 = .inl (.int (sy_i F 82)) → F1 83 = .inl (.int (sy_i F 83)) → F1 84 = .inl (.int ((0 : Int32))) → F1 85 = .inl (.int ((sy_ai F 39).getD (sy_i F 33).toNatClampNeg 0)) → F1 86 = .inl (.int ((sy_i F 85) + ((1 : Int32)))) → hd_W Ls xs d jm_M39 Q (23, sy_dL F1 [some (.inl (.ref 30)), some (.inr (.inl 82)), some (.inr (.inl 83)), some (.inr (.inl 84)), some (.inr (.inl 85)), some (.inr (.inl 86))], sy_dS F1 [], sy_dh F1 X1 X2 (iv_H 3), 0, 0)) :
    hd_W Ls xs d jm_M39 Q (64, sy_dL F [some (.inl (.ref 30)), some (.inr (.inl 82)), some (.inr (.inl 83)), none, some (.inr (.inl 84)), some (.inr (.inl 85))], sy_dS F [.inr (.inl 86)], sy_dh F X1 X2 (iv_H 3), 0, 0) := by
  refine hd_run (s := 3) (nv := 87) (pc := 23) (L := [some (.inl (.ref 30)), some (.inr (.inl 82)), some (.inr (.inl 83)), some (.inr (.inl 84)), some (.inr (.inl 85)), some (.inr (.inl 86))]) (S := []) (uh := hd_ov (iv_id 0 iv_B0) [(8, .inl (.inr (.inl 88))), (17, .inr (.inr (.inl 87)))]) (ul := [.inl (.inr (.inl 82)), .inl (.inr (.inl 83)), .inl (.inl (.int 0)), .inl (.inr (.inl 89)), .inl (.inr (.inl 90))]) (f := false) (sp := [23]) (d0 := 3) (O := [true, true, false, false, false]) (T := [(40, [.inr (.inl 8), .inl (.int (-13))], [.inr (.inl 17)]), (0, [.inr (.inl 8), .inl (.int 1)], []), (30, [.inr (.inl 33)], [.inr (.inl 39)]), (0, [.inr (.inl 85), .inl (.int 1)], [])]) (P := [(0, .inr (.inl 86), .inl (.int 0)), (1, .inr (.inl 84), .inl (.int 42)), (5, .inl (.int 512), .inr (.inl 8)), (6, .inr (.inl 8), .inl (.ref 512)), (3, .inr (.inl 33), .inl (.int 0)), (3, .inl (.int 400), .inr (.inl 33)), (6, .inr (.inl 33), .inl (.ref 401))]) jm_ok39 (by decide +kernel) (by decide +kernel) hd F X1 X2 (fun F' hF hs => ?_)
  have b86 := hd_b (F := F) (F' := F') (k := 86) (hF 86 (by decide))
  have b84 := hd_b (F := F) (F' := F') (k := 84) (hF 84 (by decide))
  have b8 := hd_b (F := F) (F' := F') (k := 8) (hF 8 (by decide))
  have b33 := hd_b (F := F) (F' := F') (k := 33) (hF 33 (by decide))
  have t88 : sy_dv F' (.inr (.inl 88)) = .int ((sy_i F 8) + ((1 : Int32))) := hd_o (hs 1 _ rfl) b8 rfl rfl
  have a17 := hd_ba (F := F) (F' := F') (k := 17) (hF 17 (by decide))
  have t87 : sy_da F' (.inr (.inl 87)) = .inl (jm_upd (sy_ai F 17) (sy_i F 8).toNatClampNeg (((-13) : Int32))) := hd_up (hs 0 _ rfl) b8 rfl a17
  have b82 := hd_b (F := F) (F' := F') (k := 82) (hF 82 (by decide))
  have b83 := hd_b (F := F) (F' := F') (k := 83) (hF 83 (by decide))
  have a39 := hd_ba (F := F) (F' := F') (k := 39) (hF 39 (by decide))
  have t89 : sy_dv F' (.inr (.inl 89)) = .int ((sy_ai F 39).getD (sy_i F 33).toNatClampNeg 0) := hd_rd (hs 2 _ rfl) b33 a39
  have b85 := hd_b (F := F) (F' := F') (k := 85) (hF 85 (by decide))
  have t90 : sy_dv F' (.inr (.inl 90)) = .int ((sy_i F 85) + ((1 : Int32))) := hd_o (hs 3 _ rfl) b85 rfl rfl
  have hB' : iv_in F' iv_B0 := iv_in_eq hB (fun j hj => hF j (Nat.lt_of_lt_of_le hj (by decide +kernel)))
  refine ⟨List.forall_mem_cons.mpr ⟨hd_p0 b86 rfl (by have hc : ((0) : Int32).toInt = 0 := (by decide); omega), List.forall_mem_cons.mpr ⟨hd_p1 b84 rfl (by have hc : ((42) : Int32).toInt = 42 := (by decide); omega), List.forall_mem_cons.mpr ⟨hd_p5 rfl b8 (by have hc : ((512) : Int32).toInt = 512 := (by decide); omega), List.forall_mem_cons.mpr ⟨hd_pb b8 (by first | exact h3 | exact h3), List.forall_mem_cons.mpr ⟨hd_p3 b33 rfl (by have hc : ((0) : Int32).toInt = 0 := (by decide); omega), List.forall_mem_cons.mpr ⟨hd_p3 rfl b33 (by have hc : ((400) : Int32).toInt = 400 := (by decide); omega), List.forall_mem_cons.mpr ⟨hd_pb b33 (by first | exact h6 | exact h6), fun _ h => absurd h List.not_mem_nil⟩⟩⟩⟩⟩⟩⟩, ?_⟩
  refine k _ ?_ ?_ ?_ ?_ ?_ ?_ ?_ ?_
  · exact fun j hj hn => (hd_keep hB' (Nat.lt_of_lt_of_le hj (by decide +kernel)) (by simp; omega)).trans (hF j (Nat.lt_of_lt_of_le hj (by decide)))
  · exact hd_gi (x := .inr (.inl 88)) (by decide +kernel) t88
  · exact hd_ga (a := .inr (.inl 87)) (by decide +kernel) t87
  · exact hd_gi (x := .inr (.inl 82)) (by decide +kernel) b82
  · exact hd_gi (x := .inr (.inl 83)) (by decide +kernel) b83
  · exact hd_gi (x := .inl (.int 0)) (by decide +kernel) rfl
  · exact hd_gi (x := .inr (.inl 89)) (by decide +kernel) t89
  · exact hd_gi (x := .inr (.inl 90)) (by decide +kernel) t90
theorem k3pp_64_p2 {Ls : Nat} {xs : Nat → Int32} {d : Nat} {Q : Option Value → jm_h → Prop} (hd : 4 ≤ d) (F : Nat → sy_d) (X1 X2 : List jm_c) (hB : iv_in F iv_B0)
    (h0 : (sy_i F 86).toInt = 0)
    (h1 : (sy_i F 84).toInt = 42)
    (h2 : 512 ≤ (sy_i F 8).toInt)
    (h3 : 0 ≤ (sy_i F 33).toInt)
    (h4 : (sy_i F 33).toInt ≤ 400)
    (h5 : 0 ≤ (sy_i F 33).toInt ∧ (sy_i F 33).toInt < 401)
    (k : ∀ F1 : Nat → sy_d, (∀ j, j < 82 → True → F1 j = F j) → F1 82 = .inl (.int (sy_i F 82)) → F1 83 = .inl (.int (sy_i F 83)) → F1 84 = .inl (.int ((0 : Int32))) → F1 85 = .inl (.int ((sy_ai F 39).getD (sy_i F 33).toNatClampNeg 0)) → F1 86 = .inl (.int ((sy_i F 85) + ((1 : Int32)))) → hd_W Ls xs d jm_M39 Q (23, sy_dL F1 [some (.inl (.ref 30)), some (.inr (.inl 82)), some (.inr (.inl 83)), some (.inr (.inl 84)), some (.inr (.inl 85)), some (.inr (.inl 86))], sy_dS F1 [], sy_dh F1 X1 X2 (iv_H 3), 0, 0)) :
    hd_W Ls xs d jm_M39 Q (64, sy_dL F [some (.inl (.ref 30)), some (.inr (.inl 82)), some (.inr (.inl 83)), none, some (.inr (.inl 84)), some (.inr (.inl 85))], sy_dS F [.inr (.inl 86)], sy_dh F X1 X2 (iv_H 3), 0, 0) := by
  refine hd_run (s := 3) (nv := 87) (pc := 23) (L := [some (.inl (.ref 30)), some (.inr (.inl 82)), some (.inr (.inl 83)), some (.inr (.inl 84)), some (.inr (.inl 85)), some (.inr (.inl 86))]) (S := []) (uh := hd_ov (iv_id 0 iv_B0) []) (ul := [.inl (.inr (.inl 82)), .inl (.inr (.inl 83)), .inl (.inl (.int 0)), .inl (.inr (.inl 87)), .inl (.inr (.inl 88))]) (f := false) (sp := [23]) (d0 := 3) (O := [true, false, true, false, false]) (T := [(30, [.inr (.inl 33)], [.inr (.inl 39)]), (0, [.inr (.inl 85), .inl (.int 1)], [])]) (P := [(0, .inr (.inl 86), .inl (.int 0)), (0, .inr (.inl 84), .inl (.int 42)), (4, .inl (.int 512), .inr (.inl 8)), (3, .inr (.inl 33), .inl (.int 0)), (3, .inl (.int 400), .inr (.inl 33)), (6, .inr (.inl 33), .inl (.ref 401))]) jm_ok39 (by decide +kernel) (by decide +kernel) hd F X1 X2 (fun F' hF hs => ?_)
  have b86 := hd_b (F := F) (F' := F') (k := 86) (hF 86 (by decide))
  have b84 := hd_b (F := F) (F' := F') (k := 84) (hF 84 (by decide))
  have b8 := hd_b (F := F) (F' := F') (k := 8) (hF 8 (by decide))
  have b33 := hd_b (F := F) (F' := F') (k := 33) (hF 33 (by decide))
  have b82 := hd_b (F := F) (F' := F') (k := 82) (hF 82 (by decide))
  have b83 := hd_b (F := F) (F' := F') (k := 83) (hF 83 (by decide))
  have a39 := hd_ba (F := F) (F' := F') (k := 39) (hF 39 (by decide))
  have t87 : sy_dv F' (.inr (.inl 87)) = .int ((sy_ai F 39).getD (sy_i F 33).toNatClampNeg 0) := hd_rd (hs 0 _ rfl) b33 a39
  have b85 := hd_b (F := F) (F' := F') (k := 85) (hF 85 (by decide))
  have t88 : sy_dv F' (.inr (.inl 88)) = .int ((sy_i F 85) + ((1 : Int32))) := hd_o (hs 1 _ rfl) b85 rfl rfl
  have hB' : iv_in F' iv_B0 := iv_in_eq hB (fun j hj => hF j (Nat.lt_of_lt_of_le hj (by decide +kernel)))
  refine ⟨List.forall_mem_cons.mpr ⟨hd_p0 b86 rfl (by have hc : ((0) : Int32).toInt = 0 := (by decide); omega), List.forall_mem_cons.mpr ⟨hd_p0 b84 rfl (by have hc : ((42) : Int32).toInt = 42 := (by decide); omega), List.forall_mem_cons.mpr ⟨hd_p4 rfl b8 (by have hc : ((512) : Int32).toInt = 512 := (by decide); omega), List.forall_mem_cons.mpr ⟨hd_p3 b33 rfl (by have hc : ((0) : Int32).toInt = 0 := (by decide); omega), List.forall_mem_cons.mpr ⟨hd_p3 rfl b33 (by have hc : ((400) : Int32).toInt = 400 := (by decide); omega), List.forall_mem_cons.mpr ⟨hd_pb b33 (by first | exact h5 | exact h5), fun _ h => absurd h List.not_mem_nil⟩⟩⟩⟩⟩⟩, ?_⟩
  refine k _ ?_ ?_ ?_ ?_ ?_ ?_
  · exact fun j hj _ => (hd_keep hB' (Nat.lt_of_lt_of_le hj (by decide +kernel)) (by simp)).trans (hF j (Nat.lt_of_lt_of_le hj (by decide)))
  · exact hd_gi (x := .inr (.inl 82)) (by decide +kernel) b82
  · exact hd_gi (x := .inr (.inl 83)) (by decide +kernel) b83
  · exact hd_gi (x := .inl (.int 0)) (by decide +kernel) rfl
  · exact hd_gi (x := .inr (.inl 87)) (by decide +kernel) t87
  · exact hd_gi (x := .inr (.inl 88)) (by decide +kernel) t88
theorem k3pp_64_p3 {Ls : Nat} {xs : Nat → Int32} {d : Nat} {Q : Option Value → jm_h → Prop} (hd : 4 ≤ d) (F : Nat → sy_d) (X1 X2 : List jm_c) (hB : iv_in F iv_B0)
    (h0 : (sy_i F 86).toInt = 0)
    (h1 : (sy_i F 84).toInt = 42)
    (h2 : (sy_i F 8).toInt < 512)
    (h3 : 0 ≤ (sy_i F 8).toInt ∧ (sy_i F 8).toInt < 512)
    (h4 : 0 ≤ (sy_i F 33).toInt)
    (h5 : (sy_i F 33).toInt ≤ 400)
    (h6 : 0 ≤ (sy_i F 33).toInt ∧ (sy_i F 33).toInt < 401)
    (k : ∀ F1 : Nat → sy_d, (∀ j, j < 82 → j ≠ 8 ∧ j ≠ 17 → F1 j = F j) → F1 8 = .inl (.int ((sy_i F 8) + ((1 : Int32)))) → F1 17 = .inr (.inl (jm_upd (sy_ai F 17) (sy_i F 8).toNatClampNeg (((-12) : Int32)))) → F1 82 = .inl (.int (sy_i F 82)) → F1 83 = .inl (.int (sy_i F 83)) → F1 84 = .inl (.int ((0 : Int32))) → F1 85 = .inl (.int ((sy_ai F 39).getD (sy_i F 33).toNatClampNeg 0)) → F1 86 = .inl (.int ((sy_i F 85) + ((1 : Int32)))) → hd_W Ls xs d jm_M39 Q (23, sy_dL F1 [some (.inl (.ref 30)), some (.inr (.inl 82)), some (.inr (.inl 83)), some (.inr (.inl 84)), some (.inr (.inl 85)), some (.inr (.inl 86))], sy_dS F1 [], sy_dh F1 X1 X2 (iv_H 3), 0, 0)) :
    hd_W Ls xs d jm_M39 Q (64, sy_dL F [some (.inl (.ref 30)), some (.inr (.inl 82)), some (.inr (.inl 83)), none, some (.inr (.inl 84)), some (.inr (.inl 85))], sy_dS F [.inr (.inl 86)], sy_dh F X1 X2 (iv_H 3), 0, 0) := by
  refine hd_run (s := 3) (nv := 87) (pc := 23) (L := [some (.inl (.ref 30)), some (.inr (.inl 82)), some (.inr (.inl 83)), some (.inr (.inl 84)), some (.inr (.inl 85)), some (.inr (.inl 86))]) (S := []) (uh := hd_ov (iv_id 0 iv_B0) [(8, .inl (.inr (.inl 88))), (17, .inr (.inr (.inl 87)))]) (ul := [.inl (.inr (.inl 82)), .inl (.inr (.inl 83)), .inl (.inl (.int 0)), .inl (.inr (.inl 89)), .inl (.inr (.inl 90))]) (f := false) (sp := [23]) (d0 := 3) (O := [true, false, false, false, false]) (T := [(40, [.inr (.inl 8), .inl (.int (-12))], [.inr (.inl 17)]), (0, [.inr (.inl 8), .inl (.int 1)], []), (30, [.inr (.inl 33)], [.inr (.inl 39)]), (0, [.inr (.inl 85), .inl (.int 1)], [])]) (P := [(0, .inr (.inl 86), .inl (.int 0)), (0, .inr (.inl 84), .inl (.int 42)), (5, .inl (.int 512), .inr (.inl 8)), (6, .inr (.inl 8), .inl (.ref 512)), (3, .inr (.inl 33), .inl (.int 0)), (3, .inl (.int 400), .inr (.inl 33)), (6, .inr (.inl 33), .inl (.ref 401))]) jm_ok39 (by decide +kernel) (by decide +kernel) hd F X1 X2 (fun F' hF hs => ?_)
  have b86 := hd_b (F := F) (F' := F') (k := 86) (hF 86 (by decide))
  have b84 := hd_b (F := F) (F' := F') (k := 84) (hF 84 (by decide))
  have b8 := hd_b (F := F) (F' := F') (k := 8) (hF 8 (by decide))
  have b33 := hd_b (F := F) (F' := F') (k := 33) (hF 33 (by decide))
  have t88 : sy_dv F' (.inr (.inl 88)) = .int ((sy_i F 8) + ((1 : Int32))) := hd_o (hs 1 _ rfl) b8 rfl rfl
  have a17 := hd_ba (F := F) (F' := F') (k := 17) (hF 17 (by decide))
  have t87 : sy_da F' (.inr (.inl 87)) = .inl (jm_upd (sy_ai F 17) (sy_i F 8).toNatClampNeg (((-12) : Int32))) := hd_up (hs 0 _ rfl) b8 rfl a17
  have b82 := hd_b (F := F) (F' := F') (k := 82) (hF 82 (by decide))
  have b83 := hd_b (F := F) (F' := F') (k := 83) (hF 83 (by decide))
  have a39 := hd_ba (F := F) (F' := F') (k := 39) (hF 39 (by decide))
  have t89 : sy_dv F' (.inr (.inl 89)) = .int ((sy_ai F 39).getD (sy_i F 33).toNatClampNeg 0) := hd_rd (hs 2 _ rfl) b33 a39
  have b85 := hd_b (F := F) (F' := F') (k := 85) (hF 85 (by decide))
  have t90 : sy_dv F' (.inr (.inl 90)) = .int ((sy_i F 85) + ((1 : Int32))) := hd_o (hs 3 _ rfl) b85 rfl rfl
  have hB' : iv_in F' iv_B0 := iv_in_eq hB (fun j hj => hF j (Nat.lt_of_lt_of_le hj (by decide +kernel)))
  refine ⟨List.forall_mem_cons.mpr ⟨hd_p0 b86 rfl (by have hc : ((0) : Int32).toInt = 0 := (by decide); omega), List.forall_mem_cons.mpr ⟨hd_p0 b84 rfl (by have hc : ((42) : Int32).toInt = 42 := (by decide); omega), List.forall_mem_cons.mpr ⟨hd_p5 rfl b8 (by have hc : ((512) : Int32).toInt = 512 := (by decide); omega), List.forall_mem_cons.mpr ⟨hd_pb b8 (by first | exact h3 | exact h3), List.forall_mem_cons.mpr ⟨hd_p3 b33 rfl (by have hc : ((0) : Int32).toInt = 0 := (by decide); omega), List.forall_mem_cons.mpr ⟨hd_p3 rfl b33 (by have hc : ((400) : Int32).toInt = 400 := (by decide); omega), List.forall_mem_cons.mpr ⟨hd_pb b33 (by first | exact h6 | exact h6), fun _ h => absurd h List.not_mem_nil⟩⟩⟩⟩⟩⟩⟩, ?_⟩
  refine k _ ?_ ?_ ?_ ?_ ?_ ?_ ?_ ?_
  · exact fun j hj hn => (hd_keep hB' (Nat.lt_of_lt_of_le hj (by decide +kernel)) (by simp; omega)).trans (hF j (Nat.lt_of_lt_of_le hj (by decide)))
  · exact hd_gi (x := .inr (.inl 88)) (by decide +kernel) t88
  · exact hd_ga (a := .inr (.inl 87)) (by decide +kernel) t87
  · exact hd_gi (x := .inr (.inl 82)) (by decide +kernel) b82
  · exact hd_gi (x := .inr (.inl 83)) (by decide +kernel) b83
  · exact hd_gi (x := .inl (.int 0)) (by decide +kernel) rfl
  · exact hd_gi (x := .inr (.inl 89)) (by decide +kernel) t89
  · exact hd_gi (x := .inr (.inl 90)) (by decide +kernel) t90
theorem k3pp_64_p4 {Ls : Nat} {xs : Nat → Int32} {d : Nat} {Q : Option Value → jm_h → Prop} (hd : 4 ≤ d) (F : Nat → sy_d) (X1 X2 : List jm_c) (hB : iv_in F iv_B0)
    (h0 : (sy_i F 86).toInt ≠ 0)
    (h1 : (sy_i F 84).toInt ≠ 42)
    (h2 : 512 ≤ (sy_i F 8).toInt)
    (h3 : 0 ≤ (sy_i F 33).toInt)
    (h4 : (sy_i F 33).toInt ≤ 400)
    (h5 : 0 ≤ (sy_i F 33).toInt ∧ (sy_i F 33).toInt < 401)
    (k : ∀ F1 : Nat → sy_d, (∀ j, j < 82 → True → F1 j = F j) → F1 82 = .inl (.int (sy_i F 82)) → F1 83 = .inl (.int (sy_i F 83)) → F1 84 = .inl (.int ((1 : Int32))) → F1 85 = .inl (.int ((sy_ai F 39).getD (sy_i F 33).toNatClampNeg 0)) → F1 86 = .inl (.int ((sy_i F 85) + ((1 : Int32)))) → hd_W Ls xs d jm_M39 Q (23, sy_dL F1 [some (.inl (.ref 30)), some (.inr (.inl 82)), some (.inr (.inl 83)), some (.inr (.inl 84)), some (.inr (.inl 85)), some (.inr (.inl 86))], sy_dS F1 [], sy_dh F1 X1 X2 (iv_H 3), 0, 0)) :
    hd_W Ls xs d jm_M39 Q (64, sy_dL F [some (.inl (.ref 30)), some (.inr (.inl 82)), some (.inr (.inl 83)), none, some (.inr (.inl 84)), some (.inr (.inl 85))], sy_dS F [.inr (.inl 86)], sy_dh F X1 X2 (iv_H 3), 0, 0) := by
  refine hd_run (s := 3) (nv := 87) (pc := 23) (L := [some (.inl (.ref 30)), some (.inr (.inl 82)), some (.inr (.inl 83)), some (.inr (.inl 84)), some (.inr (.inl 85)), some (.inr (.inl 86))]) (S := []) (uh := hd_ov (iv_id 0 iv_B0) []) (ul := [.inl (.inr (.inl 82)), .inl (.inr (.inl 83)), .inl (.inl (.int 1)), .inl (.inr (.inl 87)), .inl (.inr (.inl 88))]) (f := false) (sp := [23]) (d0 := 3) (O := [false, true, true, false, false]) (T := [(30, [.inr (.inl 33)], [.inr (.inl 39)]), (0, [.inr (.inl 85), .inl (.int 1)], [])]) (P := [(1, .inr (.inl 86), .inl (.int 0)), (1, .inr (.inl 84), .inl (.int 42)), (4, .inl (.int 512), .inr (.inl 8)), (3, .inr (.inl 33), .inl (.int 0)), (3, .inl (.int 400), .inr (.inl 33)), (6, .inr (.inl 33), .inl (.ref 401))]) jm_ok39 (by decide +kernel) (by decide +kernel) hd F X1 X2 (fun F' hF hs => ?_)
  have b86 := hd_b (F := F) (F' := F') (k := 86) (hF 86 (by decide))
  have b84 := hd_b (F := F) (F' := F') (k := 84) (hF 84 (by decide))
  have b8 := hd_b (F := F) (F' := F') (k := 8) (hF 8 (by decide))
  have b33 := hd_b (F := F) (F' := F') (k := 33) (hF 33 (by decide))
  have b82 := hd_b (F := F) (F' := F') (k := 82) (hF 82 (by decide))
  have b83 := hd_b (F := F) (F' := F') (k := 83) (hF 83 (by decide))
  have a39 := hd_ba (F := F) (F' := F') (k := 39) (hF 39 (by decide))
  have t87 : sy_dv F' (.inr (.inl 87)) = .int ((sy_ai F 39).getD (sy_i F 33).toNatClampNeg 0) := hd_rd (hs 0 _ rfl) b33 a39
  have b85 := hd_b (F := F) (F' := F') (k := 85) (hF 85 (by decide))
  have t88 : sy_dv F' (.inr (.inl 88)) = .int ((sy_i F 85) + ((1 : Int32))) := hd_o (hs 1 _ rfl) b85 rfl rfl
  have hB' : iv_in F' iv_B0 := iv_in_eq hB (fun j hj => hF j (Nat.lt_of_lt_of_le hj (by decide +kernel)))
  refine ⟨List.forall_mem_cons.mpr ⟨hd_p1 b86 rfl (by have hc : ((0) : Int32).toInt = 0 := (by decide); omega), List.forall_mem_cons.mpr ⟨hd_p1 b84 rfl (by have hc : ((42) : Int32).toInt = 42 := (by decide); omega), List.forall_mem_cons.mpr ⟨hd_p4 rfl b8 (by have hc : ((512) : Int32).toInt = 512 := (by decide); omega), List.forall_mem_cons.mpr ⟨hd_p3 b33 rfl (by have hc : ((0) : Int32).toInt = 0 := (by decide); omega), List.forall_mem_cons.mpr ⟨hd_p3 rfl b33 (by have hc : ((400) : Int32).toInt = 400 := (by decide); omega), List.forall_mem_cons.mpr ⟨hd_pb b33 (by first | exact h5 | exact h5), fun _ h => absurd h List.not_mem_nil⟩⟩⟩⟩⟩⟩, ?_⟩
  refine k _ ?_ ?_ ?_ ?_ ?_ ?_
  · exact fun j hj _ => (hd_keep hB' (Nat.lt_of_lt_of_le hj (by decide +kernel)) (by simp)).trans (hF j (Nat.lt_of_lt_of_le hj (by decide)))
  · exact hd_gi (x := .inr (.inl 82)) (by decide +kernel) b82
  · exact hd_gi (x := .inr (.inl 83)) (by decide +kernel) b83
  · exact hd_gi (x := .inl (.int 1)) (by decide +kernel) rfl
  · exact hd_gi (x := .inr (.inl 87)) (by decide +kernel) t87
  · exact hd_gi (x := .inr (.inl 88)) (by decide +kernel) t88
theorem k3pp_64_p5 {Ls : Nat} {xs : Nat → Int32} {d : Nat} {Q : Option Value → jm_h → Prop} (hd : 4 ≤ d) (F : Nat → sy_d) (X1 X2 : List jm_c) (hB : iv_in F iv_B0)
    (h0 : (sy_i F 86).toInt ≠ 0)
    (h1 : (sy_i F 84).toInt ≠ 42)
    (h2 : (sy_i F 8).toInt < 512)
    (h3 : 0 ≤ (sy_i F 8).toInt ∧ (sy_i F 8).toInt < 512)
    (h4 : 0 ≤ (sy_i F 33).toInt)
    (h5 : (sy_i F 33).toInt ≤ 400)
    (h6 : 0 ≤ (sy_i F 33).toInt ∧ (sy_i F 33).toInt < 401)
    (k : ∀ F1 : Nat → sy_d, (∀ j, j < 82 → j ≠ 8 ∧ j ≠ 17 → F1 j = F j) → F1 8 = .inl (.int ((sy_i F 8) + ((1 : Int32)))) → F1 17 = .inr (.inl (jm_upd (sy_ai F 17) (sy_i F 8).toNatClampNeg (((-13) : Int32)))) → F1 82 = .inl (.int (sy_i F 82)) → F1 83 = .inl (.int (sy_i F 83)) → F1 84 = .inl (.int ((1 : Int32))) → F1 85 = .inl (.int ((sy_ai F 39).getD (sy_i F 33).toNatClampNeg 0)) → F1 86 = .inl (.int ((sy_i F 85) + ((1 : Int32)))) → hd_W Ls xs d jm_M39 Q (23, sy_dL F1 [some (.inl (.ref 30)), some (.inr (.inl 82)), some (.inr (.inl 83)), some (.inr (.inl 84)), some (.inr (.inl 85)), some (.inr (.inl 86))], sy_dS F1 [], sy_dh F1 X1 X2 (iv_H 3), 0, 0)) :
    hd_W Ls xs d jm_M39 Q (64, sy_dL F [some (.inl (.ref 30)), some (.inr (.inl 82)), some (.inr (.inl 83)), none, some (.inr (.inl 84)), some (.inr (.inl 85))], sy_dS F [.inr (.inl 86)], sy_dh F X1 X2 (iv_H 3), 0, 0) := by
  refine hd_run (s := 3) (nv := 87) (pc := 23) (L := [some (.inl (.ref 30)), some (.inr (.inl 82)), some (.inr (.inl 83)), some (.inr (.inl 84)), some (.inr (.inl 85)), some (.inr (.inl 86))]) (S := []) (uh := hd_ov (iv_id 0 iv_B0) [(8, .inl (.inr (.inl 88))), (17, .inr (.inr (.inl 87)))]) (ul := [.inl (.inr (.inl 82)), .inl (.inr (.inl 83)), .inl (.inl (.int 1)), .inl (.inr (.inl 89)), .inl (.inr (.inl 90))]) (f := false) (sp := [23]) (d0 := 3) (O := [false, true, false, false, false]) (T := [(40, [.inr (.inl 8), .inl (.int (-13))], [.inr (.inl 17)]), (0, [.inr (.inl 8), .inl (.int 1)], []), (30, [.inr (.inl 33)], [.inr (.inl 39)]), (0, [.inr (.inl 85), .inl (.int 1)], [])]) (P := [(1, .inr (.inl 86), .inl (.int 0)), (1, .inr (.inl 84), .inl (.int 42)), (5, .inl (.int 512), .inr (.inl 8)), (6, .inr (.inl 8), .inl (.ref 512)), (3, .inr (.inl 33), .inl (.int 0)), (3, .inl (.int 400), .inr (.inl 33)), (6, .inr (.inl 33), .inl (.ref 401))]) jm_ok39 (by decide +kernel) (by decide +kernel) hd F X1 X2 (fun F' hF hs => ?_)
  have b86 := hd_b (F := F) (F' := F') (k := 86) (hF 86 (by decide))
  have b84 := hd_b (F := F) (F' := F') (k := 84) (hF 84 (by decide))
  have b8 := hd_b (F := F) (F' := F') (k := 8) (hF 8 (by decide))
  have b33 := hd_b (F := F) (F' := F') (k := 33) (hF 33 (by decide))
  have t88 : sy_dv F' (.inr (.inl 88)) = .int ((sy_i F 8) + ((1 : Int32))) := hd_o (hs 1 _ rfl) b8 rfl rfl
  have a17 := hd_ba (F := F) (F' := F') (k := 17) (hF 17 (by decide))
  have t87 : sy_da F' (.inr (.inl 87)) = .inl (jm_upd (sy_ai F 17) (sy_i F 8).toNatClampNeg (((-13) : Int32))) := hd_up (hs 0 _ rfl) b8 rfl a17
  have b82 := hd_b (F := F) (F' := F') (k := 82) (hF 82 (by decide))
  have b83 := hd_b (F := F) (F' := F') (k := 83) (hF 83 (by decide))
  have a39 := hd_ba (F := F) (F' := F') (k := 39) (hF 39 (by decide))
  have t89 : sy_dv F' (.inr (.inl 89)) = .int ((sy_ai F 39).getD (sy_i F 33).toNatClampNeg 0) := hd_rd (hs 2 _ rfl) b33 a39
  have b85 := hd_b (F := F) (F' := F') (k := 85) (hF 85 (by decide))
  have t90 : sy_dv F' (.inr (.inl 90)) = .int ((sy_i F 85) + ((1 : Int32))) := hd_o (hs 3 _ rfl) b85 rfl rfl
  have hB' : iv_in F' iv_B0 := iv_in_eq hB (fun j hj => hF j (Nat.lt_of_lt_of_le hj (by decide +kernel)))
  refine ⟨List.forall_mem_cons.mpr ⟨hd_p1 b86 rfl (by have hc : ((0) : Int32).toInt = 0 := (by decide); omega), List.forall_mem_cons.mpr ⟨hd_p1 b84 rfl (by have hc : ((42) : Int32).toInt = 42 := (by decide); omega), List.forall_mem_cons.mpr ⟨hd_p5 rfl b8 (by have hc : ((512) : Int32).toInt = 512 := (by decide); omega), List.forall_mem_cons.mpr ⟨hd_pb b8 (by first | exact h3 | exact h3), List.forall_mem_cons.mpr ⟨hd_p3 b33 rfl (by have hc : ((0) : Int32).toInt = 0 := (by decide); omega), List.forall_mem_cons.mpr ⟨hd_p3 rfl b33 (by have hc : ((400) : Int32).toInt = 400 := (by decide); omega), List.forall_mem_cons.mpr ⟨hd_pb b33 (by first | exact h6 | exact h6), fun _ h => absurd h List.not_mem_nil⟩⟩⟩⟩⟩⟩⟩, ?_⟩
  refine k _ ?_ ?_ ?_ ?_ ?_ ?_ ?_ ?_
  · exact fun j hj hn => (hd_keep hB' (Nat.lt_of_lt_of_le hj (by decide +kernel)) (by simp; omega)).trans (hF j (Nat.lt_of_lt_of_le hj (by decide)))
  · exact hd_gi (x := .inr (.inl 88)) (by decide +kernel) t88
  · exact hd_ga (a := .inr (.inl 87)) (by decide +kernel) t87
  · exact hd_gi (x := .inr (.inl 82)) (by decide +kernel) b82
  · exact hd_gi (x := .inr (.inl 83)) (by decide +kernel) b83
  · exact hd_gi (x := .inl (.int 1)) (by decide +kernel) rfl
  · exact hd_gi (x := .inr (.inl 89)) (by decide +kernel) t89
  · exact hd_gi (x := .inr (.inl 90)) (by decide +kernel) t90
theorem k3pp_64_p6 {Ls : Nat} {xs : Nat → Int32} {d : Nat} {Q : Option Value → jm_h → Prop} (hd : 4 ≤ d) (F : Nat → sy_d) (X1 X2 : List jm_c) (hB : iv_in F iv_B0)
    (h0 : (sy_i F 86).toInt ≠ 0)
    (h1 : (sy_i F 84).toInt = 42)
    (h2 : 512 ≤ (sy_i F 8).toInt)
    (h3 : 0 ≤ (sy_i F 33).toInt)
    (h4 : (sy_i F 33).toInt ≤ 400)
    (h5 : 0 ≤ (sy_i F 33).toInt ∧ (sy_i F 33).toInt < 401)
    (k : ∀ F1 : Nat → sy_d, (∀ j, j < 82 → True → F1 j = F j) → F1 82 = .inl (.int (sy_i F 82)) → F1 83 = .inl (.int (sy_i F 83)) → F1 84 = .inl (.int ((1 : Int32))) → F1 85 = .inl (.int ((sy_ai F 39).getD (sy_i F 33).toNatClampNeg 0)) → F1 86 = .inl (.int ((sy_i F 85) + ((1 : Int32)))) → hd_W Ls xs d jm_M39 Q (23, sy_dL F1 [some (.inl (.ref 30)), some (.inr (.inl 82)), some (.inr (.inl 83)), some (.inr (.inl 84)), some (.inr (.inl 85)), some (.inr (.inl 86))], sy_dS F1 [], sy_dh F1 X1 X2 (iv_H 3), 0, 0)) :
    hd_W Ls xs d jm_M39 Q (64, sy_dL F [some (.inl (.ref 30)), some (.inr (.inl 82)), some (.inr (.inl 83)), none, some (.inr (.inl 84)), some (.inr (.inl 85))], sy_dS F [.inr (.inl 86)], sy_dh F X1 X2 (iv_H 3), 0, 0) := by
  refine hd_run (s := 3) (nv := 87) (pc := 23) (L := [some (.inl (.ref 30)), some (.inr (.inl 82)), some (.inr (.inl 83)), some (.inr (.inl 84)), some (.inr (.inl 85)), some (.inr (.inl 86))]) (S := []) (uh := hd_ov (iv_id 0 iv_B0) []) (ul := [.inl (.inr (.inl 82)), .inl (.inr (.inl 83)), .inl (.inl (.int 1)), .inl (.inr (.inl 87)), .inl (.inr (.inl 88))]) (f := false) (sp := [23]) (d0 := 3) (O := [false, false, true, false, false]) (T := [(30, [.inr (.inl 33)], [.inr (.inl 39)]), (0, [.inr (.inl 85), .inl (.int 1)], [])]) (P := [(1, .inr (.inl 86), .inl (.int 0)), (0, .inr (.inl 84), .inl (.int 42)), (4, .inl (.int 512), .inr (.inl 8)), (3, .inr (.inl 33), .inl (.int 0)), (3, .inl (.int 400), .inr (.inl 33)), (6, .inr (.inl 33), .inl (.ref 401))]) jm_ok39 (by decide +kernel) (by decide +kernel) hd F X1 X2 (fun F' hF hs => ?_)
  have b86 := hd_b (F := F) (F' := F') (k := 86) (hF 86 (by decide))
  have b84 := hd_b (F := F) (F' := F') (k := 84) (hF 84 (by decide))
  have b8 := hd_b (F := F) (F' := F') (k := 8) (hF 8 (by decide))
  have b33 := hd_b (F := F) (F' := F') (k := 33) (hF 33 (by decide))
  have b82 := hd_b (F := F) (F' := F') (k := 82) (hF 82 (by decide))
  have b83 := hd_b (F := F) (F' := F') (k := 83) (hF 83 (by decide))
  have a39 := hd_ba (F := F) (F' := F') (k := 39) (hF 39 (by decide))
  have t87 : sy_dv F' (.inr (.inl 87)) = .int ((sy_ai F 39).getD (sy_i F 33).toNatClampNeg 0) := hd_rd (hs 0 _ rfl) b33 a39
  have b85 := hd_b (F := F) (F' := F') (k := 85) (hF 85 (by decide))
  have t88 : sy_dv F' (.inr (.inl 88)) = .int ((sy_i F 85) + ((1 : Int32))) := hd_o (hs 1 _ rfl) b85 rfl rfl
  have hB' : iv_in F' iv_B0 := iv_in_eq hB (fun j hj => hF j (Nat.lt_of_lt_of_le hj (by decide +kernel)))
  refine ⟨List.forall_mem_cons.mpr ⟨hd_p1 b86 rfl (by have hc : ((0) : Int32).toInt = 0 := (by decide); omega), List.forall_mem_cons.mpr ⟨hd_p0 b84 rfl (by have hc : ((42) : Int32).toInt = 42 := (by decide); omega), List.forall_mem_cons.mpr ⟨hd_p4 rfl b8 (by have hc : ((512) : Int32).toInt = 512 := (by decide); omega), List.forall_mem_cons.mpr ⟨hd_p3 b33 rfl (by have hc : ((0) : Int32).toInt = 0 := (by decide); omega), List.forall_mem_cons.mpr ⟨hd_p3 rfl b33 (by have hc : ((400) : Int32).toInt = 400 := (by decide); omega), List.forall_mem_cons.mpr ⟨hd_pb b33 (by first | exact h5 | exact h5), fun _ h => absurd h List.not_mem_nil⟩⟩⟩⟩⟩⟩, ?_⟩
  refine k _ ?_ ?_ ?_ ?_ ?_ ?_
  · exact fun j hj _ => (hd_keep hB' (Nat.lt_of_lt_of_le hj (by decide +kernel)) (by simp)).trans (hF j (Nat.lt_of_lt_of_le hj (by decide)))
  · exact hd_gi (x := .inr (.inl 82)) (by decide +kernel) b82
  · exact hd_gi (x := .inr (.inl 83)) (by decide +kernel) b83
  · exact hd_gi (x := .inl (.int 1)) (by decide +kernel) rfl
  · exact hd_gi (x := .inr (.inl 87)) (by decide +kernel) t87
  · exact hd_gi (x := .inr (.inl 88)) (by decide +kernel) t88
theorem k3pp_64_p7 {Ls : Nat} {xs : Nat → Int32} {d : Nat} {Q : Option Value → jm_h → Prop} (hd : 4 ≤ d) (F : Nat → sy_d) (X1 X2 : List jm_c) (hB : iv_in F iv_B0)
    (h0 : (sy_i F 86).toInt ≠ 0)
    (h1 : (sy_i F 84).toInt = 42)
    (h2 : (sy_i F 8).toInt < 512)
    (h3 : 0 ≤ (sy_i F 8).toInt ∧ (sy_i F 8).toInt < 512)
    (h4 : 0 ≤ (sy_i F 33).toInt)
    (h5 : (sy_i F 33).toInt ≤ 400)
    (h6 : 0 ≤ (sy_i F 33).toInt ∧ (sy_i F 33).toInt < 401)
    (k : ∀ F1 : Nat → sy_d, (∀ j, j < 82 → j ≠ 8 ∧ j ≠ 17 → F1 j = F j) → F1 8 = .inl (.int ((sy_i F 8) + ((1 : Int32)))) → F1 17 = .inr (.inl (jm_upd (sy_ai F 17) (sy_i F 8).toNatClampNeg (((-12) : Int32)))) → F1 82 = .inl (.int (sy_i F 82)) → F1 83 = .inl (.int (sy_i F 83)) → F1 84 = .inl (.int ((1 : Int32))) → F1 85 = .inl (.int ((sy_ai F 39).getD (sy_i F 33).toNatClampNeg 0)) → F1 86 = .inl (.int ((sy_i F 85) + ((1 : Int32)))) → hd_W Ls xs d jm_M39 Q (23, sy_dL F1 [some (.inl (.ref 30)), some (.inr (.inl 82)), some (.inr (.inl 83)), some (.inr (.inl 84)), some (.inr (.inl 85)), some (.inr (.inl 86))], sy_dS F1 [], sy_dh F1 X1 X2 (iv_H 3), 0, 0)) :
    hd_W Ls xs d jm_M39 Q (64, sy_dL F [some (.inl (.ref 30)), some (.inr (.inl 82)), some (.inr (.inl 83)), none, some (.inr (.inl 84)), some (.inr (.inl 85))], sy_dS F [.inr (.inl 86)], sy_dh F X1 X2 (iv_H 3), 0, 0) := by
  refine hd_run (s := 3) (nv := 87) (pc := 23) (L := [some (.inl (.ref 30)), some (.inr (.inl 82)), some (.inr (.inl 83)), some (.inr (.inl 84)), some (.inr (.inl 85)), some (.inr (.inl 86))]) (S := []) (uh := hd_ov (iv_id 0 iv_B0) [(8, .inl (.inr (.inl 88))), (17, .inr (.inr (.inl 87)))]) (ul := [.inl (.inr (.inl 82)), .inl (.inr (.inl 83)), .inl (.inl (.int 1)), .inl (.inr (.inl 89)), .inl (.inr (.inl 90))]) (f := false) (sp := [23]) (d0 := 3) (O := [false, false, false, false, false]) (T := [(40, [.inr (.inl 8), .inl (.int (-12))], [.inr (.inl 17)]), (0, [.inr (.inl 8), .inl (.int 1)], []), (30, [.inr (.inl 33)], [.inr (.inl 39)]), (0, [.inr (.inl 85), .inl (.int 1)], [])]) (P := [(1, .inr (.inl 86), .inl (.int 0)), (0, .inr (.inl 84), .inl (.int 42)), (5, .inl (.int 512), .inr (.inl 8)), (6, .inr (.inl 8), .inl (.ref 512)), (3, .inr (.inl 33), .inl (.int 0)), (3, .inl (.int 400), .inr (.inl 33)), (6, .inr (.inl 33), .inl (.ref 401))]) jm_ok39 (by decide +kernel) (by decide +kernel) hd F X1 X2 (fun F' hF hs => ?_)
  have b86 := hd_b (F := F) (F' := F') (k := 86) (hF 86 (by decide))
  have b84 := hd_b (F := F) (F' := F') (k := 84) (hF 84 (by decide))
  have b8 := hd_b (F := F) (F' := F') (k := 8) (hF 8 (by decide))
  have b33 := hd_b (F := F) (F' := F') (k := 33) (hF 33 (by decide))
  have t88 : sy_dv F' (.inr (.inl 88)) = .int ((sy_i F 8) + ((1 : Int32))) := hd_o (hs 1 _ rfl) b8 rfl rfl
  have a17 := hd_ba (F := F) (F' := F') (k := 17) (hF 17 (by decide))
  have t87 : sy_da F' (.inr (.inl 87)) = .inl (jm_upd (sy_ai F 17) (sy_i F 8).toNatClampNeg (((-12) : Int32))) := hd_up (hs 0 _ rfl) b8 rfl a17
  have b82 := hd_b (F := F) (F' := F') (k := 82) (hF 82 (by decide))
  have b83 := hd_b (F := F) (F' := F') (k := 83) (hF 83 (by decide))
  have a39 := hd_ba (F := F) (F' := F') (k := 39) (hF 39 (by decide))
  have t89 : sy_dv F' (.inr (.inl 89)) = .int ((sy_ai F 39).getD (sy_i F 33).toNatClampNeg 0) := hd_rd (hs 2 _ rfl) b33 a39
  have b85 := hd_b (F := F) (F' := F') (k := 85) (hF 85 (by decide))
  have t90 : sy_dv F' (.inr (.inl 90)) = .int ((sy_i F 85) + ((1 : Int32))) := hd_o (hs 3 _ rfl) b85 rfl rfl
  have hB' : iv_in F' iv_B0 := iv_in_eq hB (fun j hj => hF j (Nat.lt_of_lt_of_le hj (by decide +kernel)))
  refine ⟨List.forall_mem_cons.mpr ⟨hd_p1 b86 rfl (by have hc : ((0) : Int32).toInt = 0 := (by decide); omega), List.forall_mem_cons.mpr ⟨hd_p0 b84 rfl (by have hc : ((42) : Int32).toInt = 42 := (by decide); omega), List.forall_mem_cons.mpr ⟨hd_p5 rfl b8 (by have hc : ((512) : Int32).toInt = 512 := (by decide); omega), List.forall_mem_cons.mpr ⟨hd_pb b8 (by first | exact h3 | exact h3), List.forall_mem_cons.mpr ⟨hd_p3 b33 rfl (by have hc : ((0) : Int32).toInt = 0 := (by decide); omega), List.forall_mem_cons.mpr ⟨hd_p3 rfl b33 (by have hc : ((400) : Int32).toInt = 400 := (by decide); omega), List.forall_mem_cons.mpr ⟨hd_pb b33 (by first | exact h6 | exact h6), fun _ h => absurd h List.not_mem_nil⟩⟩⟩⟩⟩⟩⟩, ?_⟩
  refine k _ ?_ ?_ ?_ ?_ ?_ ?_ ?_ ?_
  · exact fun j hj hn => (hd_keep hB' (Nat.lt_of_lt_of_le hj (by decide +kernel)) (by simp; omega)).trans (hF j (Nat.lt_of_lt_of_le hj (by decide)))
  · exact hd_gi (x := .inr (.inl 88)) (by decide +kernel) t88
  · exact hd_ga (a := .inr (.inl 87)) (by decide +kernel) t87
  · exact hd_gi (x := .inr (.inl 82)) (by decide +kernel) b82
  · exact hd_gi (x := .inr (.inl 83)) (by decide +kernel) b83
  · exact hd_gi (x := .inl (.int 1)) (by decide +kernel) rfl
  · exact hd_gi (x := .inr (.inl 89)) (by decide +kernel) t89
  · exact hd_gi (x := .inr (.inl 90)) (by decide +kernel) t90
theorem k3ps_0_p0 {Ls : Nat} {xs : Nat → Int32} {d : Nat} {Q : Option Value → jm_h → Prop} (hd : 4 ≤ d) (F : Nat → sy_d) (X1 X2 : List jm_c) (hB : iv_in F iv_B0)
    (k : ∀ F1 : Nat → sy_d, (∀ j, j < 82 → True → F1 j = F j) → F1 82 = .inl (.int (sy_i F 82)) → F1 83 = .inl (.int (sy_i F 83)) → hd_W Ls xs d jm_M38 Q (3, sy_dL F1 [some (.inl (.ref 30)), some (.inr (.inl 82)), some (.inr (.inl 83)), none, none, none], sy_dS F1 [.inr (.inl 83), .inr (.inl 82), .inl (.ref 30)], sy_dh F1 X1 X2 (iv_H 3), 0, 0)) :
    hd_W Ls xs d jm_M38 Q (0, sy_dL F [some (.inl (.ref 30)), some (.inr (.inl 82)), some (.inr (.inl 83)), none, none, none], sy_dS F [], sy_dh F X1 X2 (iv_H 3), 0, 0) := by
  refine hd_run (s := 3) (nv := 84) (pc := 3) (L := [some (.inl (.ref 30)), some (.inr (.inl 82)), some (.inr (.inl 83)), none, none, none]) (S := [.inr (.inl 83), .inr (.inl 82), .inl (.ref 30)]) (uh := hd_ov (iv_id 0 iv_B0) []) (ul := [.inl (.inr (.inl 82)), .inl (.inr (.inl 83))]) (f := true) (sp := [3]) (d0 := 3) (O := []) (T := []) (P := []) jm_ok38 (by decide +kernel) (by decide +kernel) hd F X1 X2 (fun F' hF hs => ?_)
  have b82 := hd_b (F := F) (F' := F') (k := 82) (hF 82 (by decide))
  have b83 := hd_b (F := F) (F' := F') (k := 83) (hF 83 (by decide))
  have hB' : iv_in F' iv_B0 := iv_in_eq hB (fun j hj => hF j (Nat.lt_of_lt_of_le hj (by decide +kernel)))
  refine ⟨fun _ h => absurd h List.not_mem_nil, ?_⟩
  refine k _ ?_ ?_ ?_
  · exact fun j hj _ => (hd_keep hB' (Nat.lt_of_lt_of_le hj (by decide +kernel)) (by simp)).trans (hF j (Nat.lt_of_lt_of_le hj (by decide)))
  · exact hd_gi (x := .inr (.inl 82)) (by decide +kernel) b82
  · exact hd_gi (x := .inr (.inl 83)) (by decide +kernel) b83
theorem k3ps_6_p0 {Ls : Nat} {xs : Nat → Int32} {d : Nat} {Q : Option Value → jm_h → Prop} (hd : 4 ≤ d) (F : Nat → sy_d) (X1 X2 : List jm_c) (hB : iv_in F iv_B0)
    (h0 : 0 ≤ (sy_i F 33).toInt)
    (h1 : (sy_i F 33).toInt ≤ 400)
    (h2 : 0 ≤ (sy_i F 33).toInt ∧ (sy_i F 33).toInt < 401)
    (k : ∀ F1 : Nat → sy_d, (∀ j, j < 82 → True → F1 j = F j) → F1 82 = .inl (.int (sy_i F 82)) → F1 83 = .inl (.int (sy_i F 83)) → F1 84 = .inl (.int (sy_i F 84)) → F1 85 = .inl (.int ((sy_ai F 39).getD (sy_i F 33).toNatClampNeg 0)) → F1 86 = .inl (.int ((0 : Int32))) → hd_W Ls xs d jm_M38 Q (23, sy_dL F1 [some (.inl (.ref 30)), some (.inr (.inl 82)), some (.inr (.inl 83)), some (.inr (.inl 84)), some (.inr (.inl 85)), some (.inr (.inl 86))], sy_dS F1 [], sy_dh F1 X1 X2 (iv_H 3), 0, 0)) :
    hd_W Ls xs d jm_M38 Q (6, sy_dL F [some (.inl (.ref 30)), some (.inr (.inl 82)), some (.inr (.inl 83)), none, none, none], sy_dS F [.inr (.inl 84)], sy_dh F X1 X2 (iv_H 3), 0, 0) := by
  refine hd_run (s := 3) (nv := 85) (pc := 23) (L := [some (.inl (.ref 30)), some (.inr (.inl 82)), some (.inr (.inl 83)), some (.inr (.inl 84)), some (.inr (.inl 85)), some (.inr (.inl 86))]) (S := []) (uh := hd_ov (iv_id 0 iv_B0) []) (ul := [.inl (.inr (.inl 82)), .inl (.inr (.inl 83)), .inl (.inr (.inl 84)), .inl (.inr (.inl 85)), .inl (.inl (.int 0))]) (f := false) (sp := [23]) (d0 := 3) (O := [false, false]) (T := [(30, [.inr (.inl 33)], [.inr (.inl 39)])]) (P := [(3, .inr (.inl 33), .inl (.int 0)), (3, .inl (.int 400), .inr (.inl 33)), (6, .inr (.inl 33), .inl (.ref 401))]) jm_ok38 (by decide +kernel) (by decide +kernel) hd F X1 X2 (fun F' hF hs => ?_)
  have b33 := hd_b (F := F) (F' := F') (k := 33) (hF 33 (by decide))
  have b82 := hd_b (F := F) (F' := F') (k := 82) (hF 82 (by decide))
  have b83 := hd_b (F := F) (F' := F') (k := 83) (hF 83 (by decide))
  have b84 := hd_b (F := F) (F' := F') (k := 84) (hF 84 (by decide))
  have a39 := hd_ba (F := F) (F' := F') (k := 39) (hF 39 (by decide))
  have t85 : sy_dv F' (.inr (.inl 85)) = .int ((sy_ai F 39).getD (sy_i F 33).toNatClampNeg 0) := hd_rd (hs 0 _ rfl) b33 a39
  have hB' : iv_in F' iv_B0 := iv_in_eq hB (fun j hj => hF j (Nat.lt_of_lt_of_le hj (by decide +kernel)))
  refine ⟨List.forall_mem_cons.mpr ⟨hd_p3 b33 rfl (by have hc : ((0) : Int32).toInt = 0 := (by decide); omega), List.forall_mem_cons.mpr ⟨hd_p3 rfl b33 (by have hc : ((400) : Int32).toInt = 400 := (by decide); omega), List.forall_mem_cons.mpr ⟨hd_pb b33 (by first | exact h2 | exact h2), fun _ h => absurd h List.not_mem_nil⟩⟩⟩, ?_⟩
  refine k _ ?_ ?_ ?_ ?_ ?_ ?_
  · exact fun j hj _ => (hd_keep hB' (Nat.lt_of_lt_of_le hj (by decide +kernel)) (by simp)).trans (hF j (Nat.lt_of_lt_of_le hj (by decide)))
  · exact hd_gi (x := .inr (.inl 82)) (by decide +kernel) b82
  · exact hd_gi (x := .inr (.inl 83)) (by decide +kernel) b83
  · exact hd_gi (x := .inr (.inl 84)) (by decide +kernel) b84
  · exact hd_gi (x := .inr (.inl 85)) (by decide +kernel) t85
  · exact hd_gi (x := .inl (.int 0)) (by decide +kernel) rfl
theorem k3ps_23_p0 {Ls : Nat} {xs : Nat → Int32} {d : Nat} {Q : Option Value → jm_h → Prop} (hd : 4 ≤ d) (F : Nat → sy_d) (X1 X2 : List jm_c) (hB : iv_in F iv_B0)
    (h0 : 400 < (sy_i F 86).toInt)
    (h1 : (sy_i F 84).toInt = 0 ∨ (sy_i F 84).toInt = 1)
    (k : ∀ F1 : Nat → sy_d, (∀ j, j < 82 → True → F1 j = F j) → Q (some (.int (sy_i F 84))) (sy_dh F1 X1 X2 (iv_H 3))) :
    hd_W Ls xs d jm_M38 Q (23, sy_dL F [some (.inl (.ref 30)), some (.inr (.inl 82)), some (.inr (.inl 83)), some (.inr (.inl 84)), some (.inr (.inl 85)), some (.inr (.inl 86))], sy_dS F [], sy_dh F X1 X2 (iv_H 3), 0, 0) := by
  refine hd_ret (s := 3) (nv := 87) (v := some (.inr (.inl 84))) (uh := hd_ov (iv_id 0 iv_B0) []) (f := true) (sp := [23, 61]) (d0 := 3) (O := [true]) (T := []) (P := [(2, .inl (.int 400), .inr (.inl 86)), (6, .inr (.inl 84), .inl (.int 0))]) jm_ok38 (by decide +kernel) (by decide +kernel) hd F X1 X2 (fun F' hF hs => ?_)
  have b86 := hd_b (F := F) (F' := F') (k := 86) (hF 86 (by decide))
  have b84 := hd_b (F := F) (F' := F') (k := 84) (hF 84 (by decide))
  have hB' : iv_in F' iv_B0 := iv_in_eq hB (fun j hj => hF j (Nat.lt_of_lt_of_le hj (by decide +kernel)))
  have hk := k (sy_cm F' (hd_ov (iv_id 0 iv_B0) [] ++ [])) (fun j hj _ => (hd_keep hB' (Nat.lt_of_lt_of_le hj (by decide +kernel)) (by simp)).trans (hF j (Nat.lt_of_lt_of_le hj (by decide))))
  refine ⟨List.forall_mem_cons.mpr ⟨hd_p2 rfl b86 (by have hc : ((400) : Int32).toInt = 400 := (by decide); omega), List.forall_mem_cons.mpr ⟨hd_p6 b84 h1, fun _ h => absurd h List.not_mem_nil⟩⟩, ?_⟩
  show Q (some (sy_dv F' (.inr (.inl 84)))) _
  rw [b84]
  exact hk
theorem k3ps_23_p1 {Ls : Nat} {xs : Nat → Int32} {d : Nat} {Q : Option Value → jm_h → Prop} (hd : 4 ≤ d) (F : Nat → sy_d) (X1 X2 : List jm_c) (hB : iv_in F iv_B0)
    (h0 : (sy_i F 86).toInt ≤ 400)
    (h1 : (sy_i F 84).toInt = 0)
    (h2 : (sy_i F 84).toInt = 0 ∨ (sy_i F 84).toInt = 1)
    (k : ∀ F1 : Nat → sy_d, (∀ j, j < 82 → True → F1 j = F j) → Q (some (.int (sy_i F 84))) (sy_dh F1 X1 X2 (iv_H 3))) :
    hd_W Ls xs d jm_M38 Q (23, sy_dL F [some (.inl (.ref 30)), some (.inr (.inl 82)), some (.inr (.inl 83)), some (.inr (.inl 84)), some (.inr (.inl 85)), some (.inr (.inl 86))], sy_dS F [], sy_dh F X1 X2 (iv_H 3), 0, 0) := by
  refine hd_ret (s := 3) (nv := 87) (v := some (.inr (.inl 84))) (uh := hd_ov (iv_id 0 iv_B0) []) (f := true) (sp := [23, 61]) (d0 := 3) (O := [false, true]) (T := []) (P := [(3, .inl (.int 400), .inr (.inl 86)), (0, .inr (.inl 84), .inl (.int 0)), (6, .inr (.inl 84), .inl (.int 0))]) jm_ok38 (by decide +kernel) (by decide +kernel) hd F X1 X2 (fun F' hF hs => ?_)
  have b86 := hd_b (F := F) (F' := F') (k := 86) (hF 86 (by decide))
  have b84 := hd_b (F := F) (F' := F') (k := 84) (hF 84 (by decide))
  have hB' : iv_in F' iv_B0 := iv_in_eq hB (fun j hj => hF j (Nat.lt_of_lt_of_le hj (by decide +kernel)))
  have hk := k (sy_cm F' (hd_ov (iv_id 0 iv_B0) [] ++ [])) (fun j hj _ => (hd_keep hB' (Nat.lt_of_lt_of_le hj (by decide +kernel)) (by simp)).trans (hF j (Nat.lt_of_lt_of_le hj (by decide))))
  refine ⟨List.forall_mem_cons.mpr ⟨hd_p3 rfl b86 (by have hc : ((400) : Int32).toInt = 400 := (by decide); omega), List.forall_mem_cons.mpr ⟨hd_p0 b84 rfl (by have hc : ((0) : Int32).toInt = 0 := (by decide); omega), List.forall_mem_cons.mpr ⟨hd_p6 b84 h2, fun _ h => absurd h List.not_mem_nil⟩⟩⟩, ?_⟩
  show Q (some (sy_dv F' (.inr (.inl 84)))) _
  rw [b84]
  exact hk
theorem k3ps_23_p2 {Ls : Nat} {xs : Nat → Int32} {d : Nat} {Q : Option Value → jm_h → Prop} (hd : 4 ≤ d) (F : Nat → sy_d) (X1 X2 : List jm_c) (hB : iv_in F iv_B0)
    (h0 : (sy_i F 86).toInt ≤ 400)
    (h1 : (sy_i F 84).toInt ≠ 0)
    (h2 : (sy_i F 85).toInt = 43)
    (h3 : 0 ≤ (sy_i F 33).toInt)
    (h4 : (sy_i F 33).toInt ≤ 400)
    (h5 : 0 ≤ (sy_i F 33).toInt ∧ (sy_i F 33).toInt < 401)
    (h6 : ((sy_ai F 39).getD (sy_i F 33).toNatClampNeg 0).toInt = (sy_i F 85).toInt)
    (h7 : (sy_i F 33).toInt < 400)
    (k : ∀ F1 : Nat → sy_d, (∀ j, j < 82 → j ≠ 33 → F1 j = F j) → F1 33 = .inl (.int ((sy_i F 33) + ((1 : Int32)))) → F1 82 = .inl (.int (sy_i F 82)) → F1 83 = .inl (.int (sy_i F 83)) → F1 84 = .inl (.int (sy_i F 85)) → F1 85 = .inl (.int (sy_i F 86)) → hd_W Ls xs d jm_M38 Q (61, sy_dL F1 [some (.inl (.ref 30)), some (.inr (.inl 82)), some (.inr (.inl 83)), none, some (.inr (.inl 84)), some (.inr (.inl 85))], sy_dS F1 [.inr (.inl 83), .inr (.inl 82), .inl (.ref 30)], sy_dh F1 X1 X2 (iv_H 3), 0, 0)) :
    hd_W Ls xs d jm_M38 Q (23, sy_dL F [some (.inl (.ref 30)), some (.inr (.inl 82)), some (.inr (.inl 83)), some (.inr (.inl 84)), some (.inr (.inl 85)), some (.inr (.inl 86))], sy_dS F [], sy_dh F X1 X2 (iv_H 3), 0, 0) := by
  refine hd_run (s := 3) (nv := 87) (pc := 61) (L := [some (.inl (.ref 30)), some (.inr (.inl 82)), some (.inr (.inl 83)), none, some (.inr (.inl 84)), some (.inr (.inl 85))]) (S := [.inr (.inl 83), .inr (.inl 82), .inl (.ref 30)]) (uh := hd_ov (iv_id 0 iv_B0) [(33, .inl (.inr (.inl 88)))]) (ul := [.inl (.inr (.inl 82)), .inl (.inr (.inl 83)), .inl (.inr (.inl 85)), .inl (.inr (.inl 86))]) (f := true) (sp := [23, 61]) (d0 := 3) (O := [false, false, true, false, false, true, true]) (T := [(30, [.inr (.inl 33)], [.inr (.inl 39)]), (0, [.inr (.inl 33), .inl (.int 1)], [])]) (P := [(3, .inl (.int 400), .inr (.inl 86)), (1, .inr (.inl 84), .inl (.int 0)), (0, .inr (.inl 85), .inl (.int 43)), (3, .inr (.inl 33), .inl (.int 0)), (3, .inl (.int 400), .inr (.inl 33)), (6, .inr (.inl 33), .inl (.ref 401)), (0, .inr (.inl 87), .inr (.inl 85)), (2, .inr (.inl 33), .inl (.int 400))]) jm_ok38 (by decide +kernel) (by decide +kernel) hd F X1 X2 (fun F' hF hs => ?_)
  have b86 := hd_b (F := F) (F' := F') (k := 86) (hF 86 (by decide))
  have b84 := hd_b (F := F) (F' := F') (k := 84) (hF 84 (by decide))
  have b85 := hd_b (F := F) (F' := F') (k := 85) (hF 85 (by decide))
  have b33 := hd_b (F := F) (F' := F') (k := 33) (hF 33 (by decide))
  have a39 := hd_ba (F := F) (F' := F') (k := 39) (hF 39 (by decide))
  have t87 : sy_dv F' (.inr (.inl 87)) = .int ((sy_ai F 39).getD (sy_i F 33).toNatClampNeg 0) := hd_rd (hs 0 _ rfl) b33 a39
  have t88 : sy_dv F' (.inr (.inl 88)) = .int ((sy_i F 33) + ((1 : Int32))) := hd_o (hs 1 _ rfl) b33 rfl rfl
  have b82 := hd_b (F := F) (F' := F') (k := 82) (hF 82 (by decide))
  have b83 := hd_b (F := F) (F' := F') (k := 83) (hF 83 (by decide))
  have hB' : iv_in F' iv_B0 := iv_in_eq hB (fun j hj => hF j (Nat.lt_of_lt_of_le hj (by decide +kernel)))
  refine ⟨List.forall_mem_cons.mpr ⟨hd_p3 rfl b86 (by have hc : ((400) : Int32).toInt = 400 := (by decide); omega), List.forall_mem_cons.mpr ⟨hd_p1 b84 rfl (by have hc : ((0) : Int32).toInt = 0 := (by decide); omega), List.forall_mem_cons.mpr ⟨hd_p0 b85 rfl (by have hc : ((43) : Int32).toInt = 43 := (by decide); omega), List.forall_mem_cons.mpr ⟨hd_p3 b33 rfl (by have hc : ((0) : Int32).toInt = 0 := (by decide); omega), List.forall_mem_cons.mpr ⟨hd_p3 rfl b33 (by have hc : ((400) : Int32).toInt = 400 := (by decide); omega), List.forall_mem_cons.mpr ⟨hd_pb b33 (by first | exact h5 | exact h5), List.forall_mem_cons.mpr ⟨hd_p0 t87 b85 h6, List.forall_mem_cons.mpr ⟨hd_p2 b33 rfl (by have hc : ((400) : Int32).toInt = 400 := (by decide); omega), fun _ h => absurd h List.not_mem_nil⟩⟩⟩⟩⟩⟩⟩⟩, ?_⟩
  refine k _ ?_ ?_ ?_ ?_ ?_ ?_
  · exact fun j hj hn => (hd_keep hB' (Nat.lt_of_lt_of_le hj (by decide +kernel)) (by simp; omega)).trans (hF j (Nat.lt_of_lt_of_le hj (by decide)))
  · exact hd_gi (x := .inr (.inl 88)) (by decide +kernel) t88
  · exact hd_gi (x := .inr (.inl 82)) (by decide +kernel) b82
  · exact hd_gi (x := .inr (.inl 83)) (by decide +kernel) b83
  · exact hd_gi (x := .inr (.inl 85)) (by decide +kernel) b85
  · exact hd_gi (x := .inr (.inl 86)) (by decide +kernel) b86
theorem k3ps_23_p3 {Ls : Nat} {xs : Nat → Int32} {d : Nat} {Q : Option Value → jm_h → Prop} (hd : 4 ≤ d) (F : Nat → sy_d) (X1 X2 : List jm_c) (hB : iv_in F iv_B0)
    (h0 : (sy_i F 86).toInt ≤ 400)
    (h1 : (sy_i F 84).toInt ≠ 0)
    (h2 : (sy_i F 85).toInt = 43)
    (h3 : 0 ≤ (sy_i F 33).toInt)
    (h4 : (sy_i F 33).toInt ≤ 400)
    (h5 : 0 ≤ (sy_i F 33).toInt ∧ (sy_i F 33).toInt < 401)
    (h6 : ((sy_ai F 39).getD (sy_i F 33).toNatClampNeg 0).toInt = (sy_i F 85).toInt)
    (h7 : 400 ≤ (sy_i F 33).toInt)
    (h8 : (sy_i F 85).toInt = 43)
    (h9 : 512 ≤ (sy_i F 8).toInt)
    (h10 : 0 ≤ (sy_i F 33).toInt)
    (h11 : (sy_i F 33).toInt ≤ 400)
    (h12 : 0 ≤ (sy_i F 33).toInt ∧ (sy_i F 33).toInt < 401)
    (k : ∀ F1 : Nat → sy_d, (∀ j, j < 82 → j ≠ 34 → F1 j = F j) → F1 34 = .inl (.int ((2 : Int32))) → F1 82 = .inl (.int (sy_i F 82)) → F1 83 = .inl (.int (sy_i F 83)) → F1 84 = .inl (.int ((0 : Int32))) → F1 85 = .inl (.int ((sy_ai F 39).getD (sy_i F 33).toNatClampNeg 0)) → F1 86 = .inl (.int ((sy_i F 86) + ((1 : Int32)))) → hd_W Ls xs d jm_M38 Q (23, sy_dL F1 [some (.inl (.ref 30)), some (.inr (.inl 82)), some (.inr (.inl 83)), some (.inr (.inl 84)), some (.inr (.inl 85)), some (.inr (.inl 86))], sy_dS F1 [], sy_dh F1 X1 X2 (iv_H 3), 0, 0)) :
    hd_W Ls xs d jm_M38 Q (23, sy_dL F [some (.inl (.ref 30)), some (.inr (.inl 82)), some (.inr (.inl 83)), some (.inr (.inl 84)), some (.inr (.inl 85)), some (.inr (.inl 86))], sy_dS F [], sy_dh F X1 X2 (iv_H 3), 0, 0) := by
  refine hd_run (s := 3) (nv := 87) (pc := 23) (L := [some (.inl (.ref 30)), some (.inr (.inl 82)), some (.inr (.inl 83)), some (.inr (.inl 84)), some (.inr (.inl 85)), some (.inr (.inl 86))]) (S := []) (uh := hd_ov (iv_id 0 iv_B0) [(34, .inl (.inl (.int 2)))]) (ul := [.inl (.inr (.inl 82)), .inl (.inr (.inl 83)), .inl (.inl (.int 0)), .inl (.inr (.inl 88)), .inl (.inr (.inl 89))]) (f := true) (sp := [23, 61]) (d0 := 3) (O := [false, false, true, false, false, true, false, false, true, false, false]) (T := [(30, [.inr (.inl 33)], [.inr (.inl 39)]), (30, [.inr (.inl 33)], [.inr (.inl 39)]), (0, [.inr (.inl 86), .inl (.int 1)], [])]) (P := [(3, .inl (.int 400), .inr (.inl 86)), (1, .inr (.inl 84), .inl (.int 0)), (0, .inr (.inl 85), .inl (.int 43)), (3, .inr (.inl 33), .inl (.int 0)), (3, .inl (.int 400), .inr (.inl 33)), (6, .inr (.inl 33), .inl (.ref 401)), (0, .inr (.inl 87), .inr (.inl 85)), (3, .inr (.inl 33), .inl (.int 400)), (0, .inr (.inl 85), .inl (.int 43)), (4, .inl (.int 512), .inr (.inl 8)), (3, .inr (.inl 33), .inl (.int 0)), (3, .inl (.int 400), .inr (.inl 33)), (6, .inr (.inl 33), .inl (.ref 401))]) jm_ok38 (by decide +kernel) (by decide +kernel) hd F X1 X2 (fun F' hF hs => ?_)
  have b86 := hd_b (F := F) (F' := F') (k := 86) (hF 86 (by decide))
  have b84 := hd_b (F := F) (F' := F') (k := 84) (hF 84 (by decide))
  have b85 := hd_b (F := F) (F' := F') (k := 85) (hF 85 (by decide))
  have b33 := hd_b (F := F) (F' := F') (k := 33) (hF 33 (by decide))
  have a39 := hd_ba (F := F) (F' := F') (k := 39) (hF 39 (by decide))
  have t87 : sy_dv F' (.inr (.inl 87)) = .int ((sy_ai F 39).getD (sy_i F 33).toNatClampNeg 0) := hd_rd (hs 0 _ rfl) b33 a39
  have b8 := hd_b (F := F) (F' := F') (k := 8) (hF 8 (by decide))
  have b82 := hd_b (F := F) (F' := F') (k := 82) (hF 82 (by decide))
  have b83 := hd_b (F := F) (F' := F') (k := 83) (hF 83 (by decide))
  have t88 : sy_dv F' (.inr (.inl 88)) = .int ((sy_ai F 39).getD (sy_i F 33).toNatClampNeg 0) := hd_rd (hs 1 _ rfl) b33 a39
  have t89 : sy_dv F' (.inr (.inl 89)) = .int ((sy_i F 86) + ((1 : Int32))) := hd_o (hs 2 _ rfl) b86 rfl rfl
  have hB' : iv_in F' iv_B0 := iv_in_eq hB (fun j hj => hF j (Nat.lt_of_lt_of_le hj (by decide +kernel)))
  refine ⟨List.forall_mem_cons.mpr ⟨hd_p3 rfl b86 (by have hc : ((400) : Int32).toInt = 400 := (by decide); omega), List.forall_mem_cons.mpr ⟨hd_p1 b84 rfl (by have hc : ((0) : Int32).toInt = 0 := (by decide); omega), List.forall_mem_cons.mpr ⟨hd_p0 b85 rfl (by have hc : ((43) : Int32).toInt = 43 := (by decide); omega), List.forall_mem_cons.mpr ⟨hd_p3 b33 rfl (by have hc : ((0) : Int32).toInt = 0 := (by decide); omega), List.forall_mem_cons.mpr ⟨hd_p3 rfl b33 (by have hc : ((400) : Int32).toInt = 400 := (by decide); omega), List.forall_mem_cons.mpr ⟨hd_pb b33 (by first | exact h5 | exact h5), List.forall_mem_cons.mpr ⟨hd_p0 t87 b85 h6, List.forall_mem_cons.mpr ⟨hd_p3 b33 rfl (by have hc : ((400) : Int32).toInt = 400 := (by decide); omega), List.forall_mem_cons.mpr ⟨hd_p0 b85 rfl (by have hc : ((43) : Int32).toInt = 43 := (by decide); omega), List.forall_mem_cons.mpr ⟨hd_p4 rfl b8 (by have hc : ((512) : Int32).toInt = 512 := (by decide); omega), List.forall_mem_cons.mpr ⟨hd_p3 b33 rfl (by have hc : ((0) : Int32).toInt = 0 := (by decide); omega), List.forall_mem_cons.mpr ⟨hd_p3 rfl b33 (by have hc : ((400) : Int32).toInt = 400 := (by decide); omega), List.forall_mem_cons.mpr ⟨hd_pb b33 (by first | exact h12 | exact h12), fun _ h => absurd h List.not_mem_nil⟩⟩⟩⟩⟩⟩⟩⟩⟩⟩⟩⟩⟩, ?_⟩
  refine k _ ?_ ?_ ?_ ?_ ?_ ?_ ?_
  · exact fun j hj hn => (hd_keep hB' (Nat.lt_of_lt_of_le hj (by decide +kernel)) (by simp; omega)).trans (hF j (Nat.lt_of_lt_of_le hj (by decide)))
  · exact hd_gi (x := .inl (.int 2)) (by decide +kernel) rfl
  · exact hd_gi (x := .inr (.inl 82)) (by decide +kernel) b82
  · exact hd_gi (x := .inr (.inl 83)) (by decide +kernel) b83
  · exact hd_gi (x := .inl (.int 0)) (by decide +kernel) rfl
  · exact hd_gi (x := .inr (.inl 88)) (by decide +kernel) t88
  · exact hd_gi (x := .inr (.inl 89)) (by decide +kernel) t89
theorem k3ps_23_p4 {Ls : Nat} {xs : Nat → Int32} {d : Nat} {Q : Option Value → jm_h → Prop} (hd : 4 ≤ d) (F : Nat → sy_d) (X1 X2 : List jm_c) (hB : iv_in F iv_B0)
    (h0 : (sy_i F 86).toInt ≤ 400)
    (h1 : (sy_i F 84).toInt ≠ 0)
    (h2 : (sy_i F 85).toInt = 43)
    (h3 : 0 ≤ (sy_i F 33).toInt)
    (h4 : (sy_i F 33).toInt ≤ 400)
    (h5 : 0 ≤ (sy_i F 33).toInt ∧ (sy_i F 33).toInt < 401)
    (h6 : ((sy_ai F 39).getD (sy_i F 33).toNatClampNeg 0).toInt = (sy_i F 85).toInt)
    (h7 : 400 ≤ (sy_i F 33).toInt)
    (h8 : (sy_i F 85).toInt = 43)
    (h9 : (sy_i F 8).toInt < 512)
    (h10 : 0 ≤ (sy_i F 8).toInt ∧ (sy_i F 8).toInt < 512)
    (h11 : 0 ≤ (sy_i F 33).toInt)
    (h12 : (sy_i F 33).toInt ≤ 400)
    (h13 : 0 ≤ (sy_i F 33).toInt ∧ (sy_i F 33).toInt < 401)
    (k : ∀ F1 : Nat → sy_d, (∀ j, j < 82 → j ≠ 8 ∧ j ≠ 17 ∧ j ≠ 34 → F1 j = F j) → F1 8 = .inl (.int ((sy_i F 8) + ((1 : Int32)))) → F1 17 = .inr (.inl (jm_upd (sy_ai F 17) (sy_i F 8).toNatClampNeg (((-10) : Int32)))) → F1 34 = .inl (.int ((2 : Int32))) → F1 82 = .inl (.int (sy_i F 82)) → F1 83 = .inl (.int (sy_i F 83)) → F1 84 = .inl (.int ((0 : Int32))) → F1 85 = .inl (.int ((sy_ai F 39).getD (sy_i F 33).toNatClampNeg 0)) → F1 86 = .inl (.int ((sy_i F 86) + ((1 : Int32)))) → hd_W Ls xs d jm_M38 Q (23, sy_dL F1 [some (.inl (.ref 30)), some (.inr (.inl 82)), some (.inr (.inl 83)), some (.inr (.inl 84)), some (.inr (.inl 85)), some (.inr (.inl 86))], sy_dS F1 [], sy_dh F1 X1 X2 (iv_H 3), 0, 0)) :
    hd_W Ls xs d jm_M38 Q (23, sy_dL F [some (.inl (.ref 30)), some (.inr (.inl 82)), some (.inr (.inl 83)), some (.inr (.inl 84)), some (.inr (.inl 85)), some (.inr (.inl 86))], sy_dS F [], sy_dh F X1 X2 (iv_H 3), 0, 0) := by
  refine hd_run (s := 3) (nv := 87) (pc := 23) (L := [some (.inl (.ref 30)), some (.inr (.inl 82)), some (.inr (.inl 83)), some (.inr (.inl 84)), some (.inr (.inl 85)), some (.inr (.inl 86))]) (S := []) (uh := hd_ov (iv_id 0 iv_B0) [(8, .inl (.inr (.inl 89))), (17, .inr (.inr (.inl 88))), (34, .inl (.inl (.int 2)))]) (ul := [.inl (.inr (.inl 82)), .inl (.inr (.inl 83)), .inl (.inl (.int 0)), .inl (.inr (.inl 90)), .inl (.inr (.inl 91))]) (f := true) (sp := [23, 61]) (d0 := 3) (O := [false, false, true, false, false, true, false, false, false, false, false]) (T := [(30, [.inr (.inl 33)], [.inr (.inl 39)]), (40, [.inr (.inl 8), .inl (.int (-10))], [.inr (.inl 17)]), (0, [.inr (.inl 8), .inl (.int 1)], []), (30, [.inr (.inl 33)], [.inr (.inl 39)]), (0, [.inr (.inl 86), .inl (.int 1)], [])]) (P := [(3, .inl (.int 400), .inr (.inl 86)), (1, .inr (.inl 84), .inl (.int 0)), (0, .inr (.inl 85), .inl (.int 43)), (3, .inr (.inl 33), .inl (.int 0)), (3, .inl (.int 400), .inr (.inl 33)), (6, .inr (.inl 33), .inl (.ref 401)), (0, .inr (.inl 87), .inr (.inl 85)), (3, .inr (.inl 33), .inl (.int 400)), (0, .inr (.inl 85), .inl (.int 43)), (5, .inl (.int 512), .inr (.inl 8)), (6, .inr (.inl 8), .inl (.ref 512)), (3, .inr (.inl 33), .inl (.int 0)), (3, .inl (.int 400), .inr (.inl 33)), (6, .inr (.inl 33), .inl (.ref 401))]) jm_ok38 (by decide +kernel) (by decide +kernel) hd F X1 X2 (fun F' hF hs => ?_)
  have b86 := hd_b (F := F) (F' := F') (k := 86) (hF 86 (by decide))
  have b84 := hd_b (F := F) (F' := F') (k := 84) (hF 84 (by decide))
  have b85 := hd_b (F := F) (F' := F') (k := 85) (hF 85 (by decide))
  have b33 := hd_b (F := F) (F' := F') (k := 33) (hF 33 (by decide))
  have a39 := hd_ba (F := F) (F' := F') (k := 39) (hF 39 (by decide))
  have t87 : sy_dv F' (.inr (.inl 87)) = .int ((sy_ai F 39).getD (sy_i F 33).toNatClampNeg 0) := hd_rd (hs 0 _ rfl) b33 a39
  have b8 := hd_b (F := F) (F' := F') (k := 8) (hF 8 (by decide))
  have t89 : sy_dv F' (.inr (.inl 89)) = .int ((sy_i F 8) + ((1 : Int32))) := hd_o (hs 2 _ rfl) b8 rfl rfl
  have a17 := hd_ba (F := F) (F' := F') (k := 17) (hF 17 (by decide))
  have t88 : sy_da F' (.inr (.inl 88)) = .inl (jm_upd (sy_ai F 17) (sy_i F 8).toNatClampNeg (((-10) : Int32))) := hd_up (hs 1 _ rfl) b8 rfl a17
  have b82 := hd_b (F := F) (F' := F') (k := 82) (hF 82 (by decide))
  have b83 := hd_b (F := F) (F' := F') (k := 83) (hF 83 (by decide))
  have t90 : sy_dv F' (.inr (.inl 90)) = .int ((sy_ai F 39).getD (sy_i F 33).toNatClampNeg 0) := hd_rd (hs 3 _ rfl) b33 a39
  have t91 : sy_dv F' (.inr (.inl 91)) = .int ((sy_i F 86) + ((1 : Int32))) := hd_o (hs 4 _ rfl) b86 rfl rfl
  have hB' : iv_in F' iv_B0 := iv_in_eq hB (fun j hj => hF j (Nat.lt_of_lt_of_le hj (by decide +kernel)))
  refine ⟨List.forall_mem_cons.mpr ⟨hd_p3 rfl b86 (by have hc : ((400) : Int32).toInt = 400 := (by decide); omega), List.forall_mem_cons.mpr ⟨hd_p1 b84 rfl (by have hc : ((0) : Int32).toInt = 0 := (by decide); omega), List.forall_mem_cons.mpr ⟨hd_p0 b85 rfl (by have hc : ((43) : Int32).toInt = 43 := (by decide); omega), List.forall_mem_cons.mpr ⟨hd_p3 b33 rfl (by have hc : ((0) : Int32).toInt = 0 := (by decide); omega), List.forall_mem_cons.mpr ⟨hd_p3 rfl b33 (by have hc : ((400) : Int32).toInt = 400 := (by decide); omega), List.forall_mem_cons.mpr ⟨hd_pb b33 (by first | exact h5 | exact h5), List.forall_mem_cons.mpr ⟨hd_p0 t87 b85 h6, List.forall_mem_cons.mpr ⟨hd_p3 b33 rfl (by have hc : ((400) : Int32).toInt = 400 := (by decide); omega), List.forall_mem_cons.mpr ⟨hd_p0 b85 rfl (by have hc : ((43) : Int32).toInt = 43 := (by decide); omega), List.forall_mem_cons.mpr ⟨hd_p5 rfl b8 (by have hc : ((512) : Int32).toInt = 512 := (by decide); omega), List.forall_mem_cons.mpr ⟨hd_pb b8 (by first | exact h10 | exact h10), List.forall_mem_cons.mpr ⟨hd_p3 b33 rfl (by have hc : ((0) : Int32).toInt = 0 := (by decide); omega), List.forall_mem_cons.mpr ⟨hd_p3 rfl b33 (by have hc : ((400) : Int32).toInt = 400 := (by decide); omega), List.forall_mem_cons.mpr ⟨hd_pb b33 (by first | exact h13 | exact h13), fun _ h => absurd h List.not_mem_nil⟩⟩⟩⟩⟩⟩⟩⟩⟩⟩⟩⟩⟩⟩, ?_⟩
  refine k _ ?_ ?_ ?_ ?_ ?_ ?_ ?_ ?_ ?_
  · exact fun j hj hn => (hd_keep hB' (Nat.lt_of_lt_of_le hj (by decide +kernel)) (by simp; omega)).trans (hF j (Nat.lt_of_lt_of_le hj (by decide)))
  · exact hd_gi (x := .inr (.inl 89)) (by decide +kernel) t89
  · exact hd_ga (a := .inr (.inl 88)) (by decide +kernel) t88
  · exact hd_gi (x := .inl (.int 2)) (by decide +kernel) rfl
  · exact hd_gi (x := .inr (.inl 82)) (by decide +kernel) b82
  · exact hd_gi (x := .inr (.inl 83)) (by decide +kernel) b83
  · exact hd_gi (x := .inl (.int 0)) (by decide +kernel) rfl
  · exact hd_gi (x := .inr (.inl 90)) (by decide +kernel) t90
  · exact hd_gi (x := .inr (.inl 91)) (by decide +kernel) t91
theorem k3ps_23_p5 {Ls : Nat} {xs : Nat → Int32} {d : Nat} {Q : Option Value → jm_h → Prop} (hd : 4 ≤ d) (F : Nat → sy_d) (X1 X2 : List jm_c) (hB : iv_in F iv_B0)
    (h0 : (sy_i F 86).toInt ≤ 400)
    (h1 : (sy_i F 84).toInt ≠ 0)
    (h2 : (sy_i F 85).toInt = 43)
    (h3 : 0 ≤ (sy_i F 33).toInt)
    (h4 : (sy_i F 33).toInt ≤ 400)
    (h5 : 0 ≤ (sy_i F 33).toInt ∧ (sy_i F 33).toInt < 401)
    (h6 : ((sy_ai F 39).getD (sy_i F 33).toNatClampNeg 0).toInt ≠ (sy_i F 85).toInt)
    (h7 : (sy_i F 85).toInt = 43)
    (h8 : 512 ≤ (sy_i F 8).toInt)
    (h9 : 0 ≤ (sy_i F 33).toInt)
    (h10 : (sy_i F 33).toInt ≤ 400)
    (h11 : 0 ≤ (sy_i F 33).toInt ∧ (sy_i F 33).toInt < 401)
    (k : ∀ F1 : Nat → sy_d, (∀ j, j < 82 → j ≠ 34 → F1 j = F j) → F1 34 = .inl (.int ((1 : Int32))) → F1 82 = .inl (.int (sy_i F 82)) → F1 83 = .inl (.int (sy_i F 83)) → F1 84 = .inl (.int ((0 : Int32))) → F1 85 = .inl (.int ((sy_ai F 39).getD (sy_i F 33).toNatClampNeg 0)) → F1 86 = .inl (.int ((sy_i F 86) + ((1 : Int32)))) → hd_W Ls xs d jm_M38 Q (23, sy_dL F1 [some (.inl (.ref 30)), some (.inr (.inl 82)), some (.inr (.inl 83)), some (.inr (.inl 84)), some (.inr (.inl 85)), some (.inr (.inl 86))], sy_dS F1 [], sy_dh F1 X1 X2 (iv_H 3), 0, 0)) :
    hd_W Ls xs d jm_M38 Q (23, sy_dL F [some (.inl (.ref 30)), some (.inr (.inl 82)), some (.inr (.inl 83)), some (.inr (.inl 84)), some (.inr (.inl 85)), some (.inr (.inl 86))], sy_dS F [], sy_dh F X1 X2 (iv_H 3), 0, 0) := by
  refine hd_run (s := 3) (nv := 87) (pc := 23) (L := [some (.inl (.ref 30)), some (.inr (.inl 82)), some (.inr (.inl 83)), some (.inr (.inl 84)), some (.inr (.inl 85)), some (.inr (.inl 86))]) (S := []) (uh := hd_ov (iv_id 0 iv_B0) [(34, .inl (.inl (.int 1)))]) (ul := [.inl (.inr (.inl 82)), .inl (.inr (.inl 83)), .inl (.inl (.int 0)), .inl (.inr (.inl 88)), .inl (.inr (.inl 89))]) (f := true) (sp := [23, 61]) (d0 := 3) (O := [false, false, true, false, false, false, false, true, false, false]) (T := [(30, [.inr (.inl 33)], [.inr (.inl 39)]), (30, [.inr (.inl 33)], [.inr (.inl 39)]), (0, [.inr (.inl 86), .inl (.int 1)], [])]) (P := [(3, .inl (.int 400), .inr (.inl 86)), (1, .inr (.inl 84), .inl (.int 0)), (0, .inr (.inl 85), .inl (.int 43)), (3, .inr (.inl 33), .inl (.int 0)), (3, .inl (.int 400), .inr (.inl 33)), (6, .inr (.inl 33), .inl (.ref 401)), (1, .inr (.inl 87), .inr (.inl 85)), (0, .inr (.inl 85), .inl (.int 43)), (4, .inl (.int 512), .inr (.inl 8)), (3, .inr (.inl 33), .inl (.int 0)), (3, .inl (.int 400), .inr (.inl 33)), (6, .inr (.inl 33), .inl (.ref 401))]) jm_ok38 (by decide +kernel) (by decide +kernel) hd F X1 X2 (fun F' hF hs => ?_)
  have b86 := hd_b (F := F) (F' := F') (k := 86) (hF 86 (by decide))
  have b84 := hd_b (F := F) (F' := F') (k := 84) (hF 84 (by decide))
  have b85 := hd_b (F := F) (F' := F') (k := 85) (hF 85 (by decide))
  have b33 := hd_b (F := F) (F' := F') (k := 33) (hF 33 (by decide))
  have a39 := hd_ba (F := F) (F' := F') (k := 39) (hF 39 (by decide))
  have t87 : sy_dv F' (.inr (.inl 87)) = .int ((sy_ai F 39).getD (sy_i F 33).toNatClampNeg 0) := hd_rd (hs 0 _ rfl) b33 a39
  have b8 := hd_b (F := F) (F' := F') (k := 8) (hF 8 (by decide))
  have b82 := hd_b (F := F) (F' := F') (k := 82) (hF 82 (by decide))
  have b83 := hd_b (F := F) (F' := F') (k := 83) (hF 83 (by decide))
  have t88 : sy_dv F' (.inr (.inl 88)) = .int ((sy_ai F 39).getD (sy_i F 33).toNatClampNeg 0) := hd_rd (hs 1 _ rfl) b33 a39
  have t89 : sy_dv F' (.inr (.inl 89)) = .int ((sy_i F 86) + ((1 : Int32))) := hd_o (hs 2 _ rfl) b86 rfl rfl
  have hB' : iv_in F' iv_B0 := iv_in_eq hB (fun j hj => hF j (Nat.lt_of_lt_of_le hj (by decide +kernel)))
  refine ⟨List.forall_mem_cons.mpr ⟨hd_p3 rfl b86 (by have hc : ((400) : Int32).toInt = 400 := (by decide); omega), List.forall_mem_cons.mpr ⟨hd_p1 b84 rfl (by have hc : ((0) : Int32).toInt = 0 := (by decide); omega), List.forall_mem_cons.mpr ⟨hd_p0 b85 rfl (by have hc : ((43) : Int32).toInt = 43 := (by decide); omega), List.forall_mem_cons.mpr ⟨hd_p3 b33 rfl (by have hc : ((0) : Int32).toInt = 0 := (by decide); omega), List.forall_mem_cons.mpr ⟨hd_p3 rfl b33 (by have hc : ((400) : Int32).toInt = 400 := (by decide); omega), List.forall_mem_cons.mpr ⟨hd_pb b33 (by first | exact h5 | exact h5), List.forall_mem_cons.mpr ⟨hd_p1 t87 b85 h6, List.forall_mem_cons.mpr ⟨hd_p0 b85 rfl (by have hc : ((43) : Int32).toInt = 43 := (by decide); omega), List.forall_mem_cons.mpr ⟨hd_p4 rfl b8 (by have hc : ((512) : Int32).toInt = 512 := (by decide); omega), List.forall_mem_cons.mpr ⟨hd_p3 b33 rfl (by have hc : ((0) : Int32).toInt = 0 := (by decide); omega), List.forall_mem_cons.mpr ⟨hd_p3 rfl b33 (by have hc : ((400) : Int32).toInt = 400 := (by decide); omega), List.forall_mem_cons.mpr ⟨hd_pb b33 (by first | exact h11 | exact h11), fun _ h => absurd h List.not_mem_nil⟩⟩⟩⟩⟩⟩⟩⟩⟩⟩⟩⟩, ?_⟩
  refine k _ ?_ ?_ ?_ ?_ ?_ ?_ ?_
  · exact fun j hj hn => (hd_keep hB' (Nat.lt_of_lt_of_le hj (by decide +kernel)) (by simp; omega)).trans (hF j (Nat.lt_of_lt_of_le hj (by decide)))
  · exact hd_gi (x := .inl (.int 1)) (by decide +kernel) rfl
  · exact hd_gi (x := .inr (.inl 82)) (by decide +kernel) b82
  · exact hd_gi (x := .inr (.inl 83)) (by decide +kernel) b83
  · exact hd_gi (x := .inl (.int 0)) (by decide +kernel) rfl
  · exact hd_gi (x := .inr (.inl 88)) (by decide +kernel) t88
  · exact hd_gi (x := .inr (.inl 89)) (by decide +kernel) t89
theorem k3ps_23_p6 {Ls : Nat} {xs : Nat → Int32} {d : Nat} {Q : Option Value → jm_h → Prop} (hd : 4 ≤ d) (F : Nat → sy_d) (X1 X2 : List jm_c) (hB : iv_in F iv_B0)
    (h0 : (sy_i F 86).toInt ≤ 400)
    (h1 : (sy_i F 84).toInt ≠ 0)
    (h2 : (sy_i F 85).toInt = 43)
    (h3 : 0 ≤ (sy_i F 33).toInt)
    (h4 : (sy_i F 33).toInt ≤ 400)
    (h5 : 0 ≤ (sy_i F 33).toInt ∧ (sy_i F 33).toInt < 401)
    (h6 : ((sy_ai F 39).getD (sy_i F 33).toNatClampNeg 0).toInt ≠ (sy_i F 85).toInt)
    (h7 : (sy_i F 85).toInt = 43)
    (h8 : (sy_i F 8).toInt < 512)
    (h9 : 0 ≤ (sy_i F 8).toInt ∧ (sy_i F 8).toInt < 512)
    (h10 : 0 ≤ (sy_i F 33).toInt)
    (h11 : (sy_i F 33).toInt ≤ 400)
    (h12 : 0 ≤ (sy_i F 33).toInt ∧ (sy_i F 33).toInt < 401)
    (k : ∀ F1 : Nat → sy_d, (∀ j, j < 82 → j ≠ 8 ∧ j ≠ 17 ∧ j ≠ 34 → F1 j = F j) → F1 8 = .inl (.int ((sy_i F 8) + ((1 : Int32)))) → F1 17 = .inr (.inl (jm_upd (sy_ai F 17) (sy_i F 8).toNatClampNeg (((-10) : Int32)))) → F1 34 = .inl (.int ((1 : Int32))) → F1 82 = .inl (.int (sy_i F 82)) → F1 83 = .inl (.int (sy_i F 83)) → F1 84 = .inl (.int ((0 : Int32))) → F1 85 = .inl (.int ((sy_ai F 39).getD (sy_i F 33).toNatClampNeg 0)) → F1 86 = .inl (.int ((sy_i F 86) + ((1 : Int32)))) → hd_W Ls xs d jm_M38 Q (23, sy_dL F1 [some (.inl (.ref 30)), some (.inr (.inl 82)), some (.inr (.inl 83)), some (.inr (.inl 84)), some (.inr (.inl 85)), some (.inr (.inl 86))], sy_dS F1 [], sy_dh F1 X1 X2 (iv_H 3), 0, 0)) :
    hd_W Ls xs d jm_M38 Q (23, sy_dL F [some (.inl (.ref 30)), some (.inr (.inl 82)), some (.inr (.inl 83)), some (.inr (.inl 84)), some (.inr (.inl 85)), some (.inr (.inl 86))], sy_dS F [], sy_dh F X1 X2 (iv_H 3), 0, 0) := by
  refine hd_run (s := 3) (nv := 87) (pc := 23) (L := [some (.inl (.ref 30)), some (.inr (.inl 82)), some (.inr (.inl 83)), some (.inr (.inl 84)), some (.inr (.inl 85)), some (.inr (.inl 86))]) (S := []) (uh := hd_ov (iv_id 0 iv_B0) [(8, .inl (.inr (.inl 89))), (17, .inr (.inr (.inl 88))), (34, .inl (.inl (.int 1)))]) (ul := [.inl (.inr (.inl 82)), .inl (.inr (.inl 83)), .inl (.inl (.int 0)), .inl (.inr (.inl 90)), .inl (.inr (.inl 91))]) (f := true) (sp := [23, 61]) (d0 := 3) (O := [false, false, true, false, false, false, false, false, false, false]) (T := [(30, [.inr (.inl 33)], [.inr (.inl 39)]), (40, [.inr (.inl 8), .inl (.int (-10))], [.inr (.inl 17)]), (0, [.inr (.inl 8), .inl (.int 1)], []), (30, [.inr (.inl 33)], [.inr (.inl 39)]), (0, [.inr (.inl 86), .inl (.int 1)], [])]) (P := [(3, .inl (.int 400), .inr (.inl 86)), (1, .inr (.inl 84), .inl (.int 0)), (0, .inr (.inl 85), .inl (.int 43)), (3, .inr (.inl 33), .inl (.int 0)), (3, .inl (.int 400), .inr (.inl 33)), (6, .inr (.inl 33), .inl (.ref 401)), (1, .inr (.inl 87), .inr (.inl 85)), (0, .inr (.inl 85), .inl (.int 43)), (5, .inl (.int 512), .inr (.inl 8)), (6, .inr (.inl 8), .inl (.ref 512)), (3, .inr (.inl 33), .inl (.int 0)), (3, .inl (.int 400), .inr (.inl 33)), (6, .inr (.inl 33), .inl (.ref 401))]) jm_ok38 (by decide +kernel) (by decide +kernel) hd F X1 X2 (fun F' hF hs => ?_)
  have b86 := hd_b (F := F) (F' := F') (k := 86) (hF 86 (by decide))
  have b84 := hd_b (F := F) (F' := F') (k := 84) (hF 84 (by decide))
  have b85 := hd_b (F := F) (F' := F') (k := 85) (hF 85 (by decide))
  have b33 := hd_b (F := F) (F' := F') (k := 33) (hF 33 (by decide))
  have a39 := hd_ba (F := F) (F' := F') (k := 39) (hF 39 (by decide))
  have t87 : sy_dv F' (.inr (.inl 87)) = .int ((sy_ai F 39).getD (sy_i F 33).toNatClampNeg 0) := hd_rd (hs 0 _ rfl) b33 a39
  have b8 := hd_b (F := F) (F' := F') (k := 8) (hF 8 (by decide))
  have t89 : sy_dv F' (.inr (.inl 89)) = .int ((sy_i F 8) + ((1 : Int32))) := hd_o (hs 2 _ rfl) b8 rfl rfl
  have a17 := hd_ba (F := F) (F' := F') (k := 17) (hF 17 (by decide))
  have t88 : sy_da F' (.inr (.inl 88)) = .inl (jm_upd (sy_ai F 17) (sy_i F 8).toNatClampNeg (((-10) : Int32))) := hd_up (hs 1 _ rfl) b8 rfl a17
  have b82 := hd_b (F := F) (F' := F') (k := 82) (hF 82 (by decide))
  have b83 := hd_b (F := F) (F' := F') (k := 83) (hF 83 (by decide))
  have t90 : sy_dv F' (.inr (.inl 90)) = .int ((sy_ai F 39).getD (sy_i F 33).toNatClampNeg 0) := hd_rd (hs 3 _ rfl) b33 a39
  have t91 : sy_dv F' (.inr (.inl 91)) = .int ((sy_i F 86) + ((1 : Int32))) := hd_o (hs 4 _ rfl) b86 rfl rfl
  have hB' : iv_in F' iv_B0 := iv_in_eq hB (fun j hj => hF j (Nat.lt_of_lt_of_le hj (by decide +kernel)))
  refine ⟨List.forall_mem_cons.mpr ⟨hd_p3 rfl b86 (by have hc : ((400) : Int32).toInt = 400 := (by decide); omega), List.forall_mem_cons.mpr ⟨hd_p1 b84 rfl (by have hc : ((0) : Int32).toInt = 0 := (by decide); omega), List.forall_mem_cons.mpr ⟨hd_p0 b85 rfl (by have hc : ((43) : Int32).toInt = 43 := (by decide); omega), List.forall_mem_cons.mpr ⟨hd_p3 b33 rfl (by have hc : ((0) : Int32).toInt = 0 := (by decide); omega), List.forall_mem_cons.mpr ⟨hd_p3 rfl b33 (by have hc : ((400) : Int32).toInt = 400 := (by decide); omega), List.forall_mem_cons.mpr ⟨hd_pb b33 (by first | exact h5 | exact h5), List.forall_mem_cons.mpr ⟨hd_p1 t87 b85 h6, List.forall_mem_cons.mpr ⟨hd_p0 b85 rfl (by have hc : ((43) : Int32).toInt = 43 := (by decide); omega), List.forall_mem_cons.mpr ⟨hd_p5 rfl b8 (by have hc : ((512) : Int32).toInt = 512 := (by decide); omega), List.forall_mem_cons.mpr ⟨hd_pb b8 (by first | exact h9 | exact h9), List.forall_mem_cons.mpr ⟨hd_p3 b33 rfl (by have hc : ((0) : Int32).toInt = 0 := (by decide); omega), List.forall_mem_cons.mpr ⟨hd_p3 rfl b33 (by have hc : ((400) : Int32).toInt = 400 := (by decide); omega), List.forall_mem_cons.mpr ⟨hd_pb b33 (by first | exact h12 | exact h12), fun _ h => absurd h List.not_mem_nil⟩⟩⟩⟩⟩⟩⟩⟩⟩⟩⟩⟩⟩, ?_⟩
  refine k _ ?_ ?_ ?_ ?_ ?_ ?_ ?_ ?_ ?_
  · exact fun j hj hn => (hd_keep hB' (Nat.lt_of_lt_of_le hj (by decide +kernel)) (by simp; omega)).trans (hF j (Nat.lt_of_lt_of_le hj (by decide)))
  · exact hd_gi (x := .inr (.inl 89)) (by decide +kernel) t89
  · exact hd_ga (a := .inr (.inl 88)) (by decide +kernel) t88
  · exact hd_gi (x := .inl (.int 1)) (by decide +kernel) rfl
  · exact hd_gi (x := .inr (.inl 82)) (by decide +kernel) b82
  · exact hd_gi (x := .inr (.inl 83)) (by decide +kernel) b83
  · exact hd_gi (x := .inl (.int 0)) (by decide +kernel) rfl
  · exact hd_gi (x := .inr (.inl 90)) (by decide +kernel) t90
  · exact hd_gi (x := .inr (.inl 91)) (by decide +kernel) t91
theorem k3ps_23_p7 {Ls : Nat} {xs : Nat → Int32} {d : Nat} {Q : Option Value → jm_h → Prop} (hd : 4 ≤ d) (F : Nat → sy_d) (X1 X2 : List jm_c) (hB : iv_in F iv_B0)
    (h0 : (sy_i F 86).toInt ≤ 400)
    (h1 : (sy_i F 84).toInt ≠ 0)
    (h2 : (sy_i F 85).toInt ≠ 43)
    (h3 : (sy_i F 85).toInt ≠ 45)
    (h4 : (sy_i F 84).toInt = 0 ∨ (sy_i F 84).toInt = 1)
    (k : ∀ F1 : Nat → sy_d, (∀ j, j < 82 → True → F1 j = F j) → Q (some (.int (sy_i F 84))) (sy_dh F1 X1 X2 (iv_H 3))) :
    hd_W Ls xs d jm_M38 Q (23, sy_dL F [some (.inl (.ref 30)), some (.inr (.inl 82)), some (.inr (.inl 83)), some (.inr (.inl 84)), some (.inr (.inl 85)), some (.inr (.inl 86))], sy_dS F [], sy_dh F X1 X2 (iv_H 3), 0, 0) := by
  refine hd_ret (s := 3) (nv := 87) (v := some (.inr (.inl 84))) (uh := hd_ov (iv_id 0 iv_B0) []) (f := true) (sp := [23, 61]) (d0 := 3) (O := [false, false, false, true]) (T := []) (P := [(3, .inl (.int 400), .inr (.inl 86)), (1, .inr (.inl 84), .inl (.int 0)), (1, .inr (.inl 85), .inl (.int 43)), (1, .inr (.inl 85), .inl (.int 45)), (6, .inr (.inl 84), .inl (.int 0))]) jm_ok38 (by decide +kernel) (by decide +kernel) hd F X1 X2 (fun F' hF hs => ?_)
  have b86 := hd_b (F := F) (F' := F') (k := 86) (hF 86 (by decide))
  have b84 := hd_b (F := F) (F' := F') (k := 84) (hF 84 (by decide))
  have b85 := hd_b (F := F) (F' := F') (k := 85) (hF 85 (by decide))
  have hB' : iv_in F' iv_B0 := iv_in_eq hB (fun j hj => hF j (Nat.lt_of_lt_of_le hj (by decide +kernel)))
  have hk := k (sy_cm F' (hd_ov (iv_id 0 iv_B0) [] ++ [])) (fun j hj _ => (hd_keep hB' (Nat.lt_of_lt_of_le hj (by decide +kernel)) (by simp)).trans (hF j (Nat.lt_of_lt_of_le hj (by decide))))
  refine ⟨List.forall_mem_cons.mpr ⟨hd_p3 rfl b86 (by have hc : ((400) : Int32).toInt = 400 := (by decide); omega), List.forall_mem_cons.mpr ⟨hd_p1 b84 rfl (by have hc : ((0) : Int32).toInt = 0 := (by decide); omega), List.forall_mem_cons.mpr ⟨hd_p1 b85 rfl (by have hc : ((43) : Int32).toInt = 43 := (by decide); omega), List.forall_mem_cons.mpr ⟨hd_p1 b85 rfl (by have hc : ((45) : Int32).toInt = 45 := (by decide); omega), List.forall_mem_cons.mpr ⟨hd_p6 b84 h4, fun _ h => absurd h List.not_mem_nil⟩⟩⟩⟩⟩, ?_⟩
  show Q (some (sy_dv F' (.inr (.inl 84)))) _
  rw [b84]
  exact hk
theorem k3ps_23_p8 {Ls : Nat} {xs : Nat → Int32} {d : Nat} {Q : Option Value → jm_h → Prop} (hd : 4 ≤ d) (F : Nat → sy_d) (X1 X2 : List jm_c) (hB : iv_in F iv_B0)
    (h0 : (sy_i F 86).toInt ≤ 400)
    (h1 : (sy_i F 84).toInt ≠ 0)
    (h2 : (sy_i F 85).toInt ≠ 43)
    (h3 : (sy_i F 85).toInt = 45)
    (h4 : 0 ≤ (sy_i F 33).toInt)
    (h5 : (sy_i F 33).toInt ≤ 400)
    (h6 : 0 ≤ (sy_i F 33).toInt ∧ (sy_i F 33).toInt < 401)
    (h7 : ((sy_ai F 39).getD (sy_i F 33).toNatClampNeg 0).toInt = (sy_i F 85).toInt)
    (h8 : (sy_i F 33).toInt < 400)
    (k : ∀ F1 : Nat → sy_d, (∀ j, j < 82 → j ≠ 33 → F1 j = F j) → F1 33 = .inl (.int ((sy_i F 33) + ((1 : Int32)))) → F1 82 = .inl (.int (sy_i F 82)) → F1 83 = .inl (.int (sy_i F 83)) → F1 84 = .inl (.int (sy_i F 85)) → F1 85 = .inl (.int (sy_i F 86)) → hd_W Ls xs d jm_M38 Q (61, sy_dL F1 [some (.inl (.ref 30)), some (.inr (.inl 82)), some (.inr (.inl 83)), none, some (.inr (.inl 84)), some (.inr (.inl 85))], sy_dS F1 [.inr (.inl 83), .inr (.inl 82), .inl (.ref 30)], sy_dh F1 X1 X2 (iv_H 3), 0, 0)) :
    hd_W Ls xs d jm_M38 Q (23, sy_dL F [some (.inl (.ref 30)), some (.inr (.inl 82)), some (.inr (.inl 83)), some (.inr (.inl 84)), some (.inr (.inl 85)), some (.inr (.inl 86))], sy_dS F [], sy_dh F X1 X2 (iv_H 3), 0, 0) := by
  refine hd_run (s := 3) (nv := 87) (pc := 61) (L := [some (.inl (.ref 30)), some (.inr (.inl 82)), some (.inr (.inl 83)), none, some (.inr (.inl 84)), some (.inr (.inl 85))]) (S := [.inr (.inl 83), .inr (.inl 82), .inl (.ref 30)]) (uh := hd_ov (iv_id 0 iv_B0) [(33, .inl (.inr (.inl 88)))]) (ul := [.inl (.inr (.inl 82)), .inl (.inr (.inl 83)), .inl (.inr (.inl 85)), .inl (.inr (.inl 86))]) (f := true) (sp := [23, 61]) (d0 := 3) (O := [false, false, false, false, false, false, true, true]) (T := [(30, [.inr (.inl 33)], [.inr (.inl 39)]), (0, [.inr (.inl 33), .inl (.int 1)], [])]) (P := [(3, .inl (.int 400), .inr (.inl 86)), (1, .inr (.inl 84), .inl (.int 0)), (1, .inr (.inl 85), .inl (.int 43)), (0, .inr (.inl 85), .inl (.int 45)), (3, .inr (.inl 33), .inl (.int 0)), (3, .inl (.int 400), .inr (.inl 33)), (6, .inr (.inl 33), .inl (.ref 401)), (0, .inr (.inl 87), .inr (.inl 85)), (2, .inr (.inl 33), .inl (.int 400))]) jm_ok38 (by decide +kernel) (by decide +kernel) hd F X1 X2 (fun F' hF hs => ?_)
  have b86 := hd_b (F := F) (F' := F') (k := 86) (hF 86 (by decide))
  have b84 := hd_b (F := F) (F' := F') (k := 84) (hF 84 (by decide))
  have b85 := hd_b (F := F) (F' := F') (k := 85) (hF 85 (by decide))
  have b33 := hd_b (F := F) (F' := F') (k := 33) (hF 33 (by decide))
  have a39 := hd_ba (F := F) (F' := F') (k := 39) (hF 39 (by decide))
  have t87 : sy_dv F' (.inr (.inl 87)) = .int ((sy_ai F 39).getD (sy_i F 33).toNatClampNeg 0) := hd_rd (hs 0 _ rfl) b33 a39
  have t88 : sy_dv F' (.inr (.inl 88)) = .int ((sy_i F 33) + ((1 : Int32))) := hd_o (hs 1 _ rfl) b33 rfl rfl
  have b82 := hd_b (F := F) (F' := F') (k := 82) (hF 82 (by decide))
  have b83 := hd_b (F := F) (F' := F') (k := 83) (hF 83 (by decide))
  have hB' : iv_in F' iv_B0 := iv_in_eq hB (fun j hj => hF j (Nat.lt_of_lt_of_le hj (by decide +kernel)))
  refine ⟨List.forall_mem_cons.mpr ⟨hd_p3 rfl b86 (by have hc : ((400) : Int32).toInt = 400 := (by decide); omega), List.forall_mem_cons.mpr ⟨hd_p1 b84 rfl (by have hc : ((0) : Int32).toInt = 0 := (by decide); omega), List.forall_mem_cons.mpr ⟨hd_p1 b85 rfl (by have hc : ((43) : Int32).toInt = 43 := (by decide); omega), List.forall_mem_cons.mpr ⟨hd_p0 b85 rfl (by have hc : ((45) : Int32).toInt = 45 := (by decide); omega), List.forall_mem_cons.mpr ⟨hd_p3 b33 rfl (by have hc : ((0) : Int32).toInt = 0 := (by decide); omega), List.forall_mem_cons.mpr ⟨hd_p3 rfl b33 (by have hc : ((400) : Int32).toInt = 400 := (by decide); omega), List.forall_mem_cons.mpr ⟨hd_pb b33 (by first | exact h6 | exact h6), List.forall_mem_cons.mpr ⟨hd_p0 t87 b85 h7, List.forall_mem_cons.mpr ⟨hd_p2 b33 rfl (by have hc : ((400) : Int32).toInt = 400 := (by decide); omega), fun _ h => absurd h List.not_mem_nil⟩⟩⟩⟩⟩⟩⟩⟩⟩, ?_⟩
  refine k _ ?_ ?_ ?_ ?_ ?_ ?_
  · exact fun j hj hn => (hd_keep hB' (Nat.lt_of_lt_of_le hj (by decide +kernel)) (by simp; omega)).trans (hF j (Nat.lt_of_lt_of_le hj (by decide)))
  · exact hd_gi (x := .inr (.inl 88)) (by decide +kernel) t88
  · exact hd_gi (x := .inr (.inl 82)) (by decide +kernel) b82
  · exact hd_gi (x := .inr (.inl 83)) (by decide +kernel) b83
  · exact hd_gi (x := .inr (.inl 85)) (by decide +kernel) b85
  · exact hd_gi (x := .inr (.inl 86)) (by decide +kernel) b86
theorem k3ps_23_p9 {Ls : Nat} {xs : Nat → Int32} {d : Nat} {Q : Option Value → jm_h → Prop} (hd : 4 ≤ d) (F : Nat → sy_d) (X1 X2 : List jm_c) (hB : iv_in F iv_B0)
    (h0 : (sy_i F 86).toInt ≤ 400)
    (h1 : (sy_i F 84).toInt ≠ 0)
    (h2 : (sy_i F 85).toInt ≠ 43)
    (h3 : (sy_i F 85).toInt = 45)
    (h4 : 0 ≤ (sy_i F 33).toInt)
    (h5 : (sy_i F 33).toInt ≤ 400)
    (h6 : 0 ≤ (sy_i F 33).toInt ∧ (sy_i F 33).toInt < 401)
    (h7 : ((sy_ai F 39).getD (sy_i F 33).toNatClampNeg 0).toInt = (sy_i F 85).toInt)
    (h8 : 400 ≤ (sy_i F 33).toInt)
    (h9 : (sy_i F 85).toInt ≠ 43)
    (h10 : 512 ≤ (sy_i F 8).toInt)
    (h11 : 0 ≤ (sy_i F 33).toInt)
    (h12 : (sy_i F 33).toInt ≤ 400)
    (h13 : 0 ≤ (sy_i F 33).toInt ∧ (sy_i F 33).toInt < 401)
    (k : ∀ F1 : Nat → sy_d, (∀ j, j < 82 → j ≠ 34 → F1 j = F j) → F1 34 = .inl (.int ((2 : Int32))) → F1 82 = .inl (.int (sy_i F 82)) → F1 83 = .inl (.int (sy_i F 83)) → F1 84 = .inl (.int ((0 : Int32))) → F1 85 = .inl (.int ((sy_ai F 39).getD (sy_i F 33).toNatClampNeg 0)) → F1 86 = .inl (.int ((sy_i F 86) + ((1 : Int32)))) → hd_W Ls xs d jm_M38 Q (23, sy_dL F1 [some (.inl (.ref 30)), some (.inr (.inl 82)), some (.inr (.inl 83)), some (.inr (.inl 84)), some (.inr (.inl 85)), some (.inr (.inl 86))], sy_dS F1 [], sy_dh F1 X1 X2 (iv_H 3), 0, 0)) :
    hd_W Ls xs d jm_M38 Q (23, sy_dL F [some (.inl (.ref 30)), some (.inr (.inl 82)), some (.inr (.inl 83)), some (.inr (.inl 84)), some (.inr (.inl 85)), some (.inr (.inl 86))], sy_dS F [], sy_dh F X1 X2 (iv_H 3), 0, 0) := by
  refine hd_run (s := 3) (nv := 87) (pc := 23) (L := [some (.inl (.ref 30)), some (.inr (.inl 82)), some (.inr (.inl 83)), some (.inr (.inl 84)), some (.inr (.inl 85)), some (.inr (.inl 86))]) (S := []) (uh := hd_ov (iv_id 0 iv_B0) [(34, .inl (.inl (.int 2)))]) (ul := [.inl (.inr (.inl 82)), .inl (.inr (.inl 83)), .inl (.inl (.int 0)), .inl (.inr (.inl 88)), .inl (.inr (.inl 89))]) (f := true) (sp := [23, 61]) (d0 := 3) (O := [false, false, false, false, false, false, true, false, true, true, false, false]) (T := [(30, [.inr (.inl 33)], [.inr (.inl 39)]), (30, [.inr (.inl 33)], [.inr (.inl 39)]), (0, [.inr (.inl 86), .inl (.int 1)], [])]) (P := [(3, .inl (.int 400), .inr (.inl 86)), (1, .inr (.inl 84), .inl (.int 0)), (1, .inr (.inl 85), .inl (.int 43)), (0, .inr (.inl 85), .inl (.int 45)), (3, .inr (.inl 33), .inl (.int 0)), (3, .inl (.int 400), .inr (.inl 33)), (6, .inr (.inl 33), .inl (.ref 401)), (0, .inr (.inl 87), .inr (.inl 85)), (3, .inr (.inl 33), .inl (.int 400)), (1, .inr (.inl 85), .inl (.int 43)), (4, .inl (.int 512), .inr (.inl 8)), (3, .inr (.inl 33), .inl (.int 0)), (3, .inl (.int 400), .inr (.inl 33)), (6, .inr (.inl 33), .inl (.ref 401))]) jm_ok38 (by decide +kernel) (by decide +kernel) hd F X1 X2 (fun F' hF hs => ?_)
  have b86 := hd_b (F := F) (F' := F') (k := 86) (hF 86 (by decide))
  have b84 := hd_b (F := F) (F' := F') (k := 84) (hF 84 (by decide))
  have b85 := hd_b (F := F) (F' := F') (k := 85) (hF 85 (by decide))
  have b33 := hd_b (F := F) (F' := F') (k := 33) (hF 33 (by decide))
  have a39 := hd_ba (F := F) (F' := F') (k := 39) (hF 39 (by decide))
  have t87 : sy_dv F' (.inr (.inl 87)) = .int ((sy_ai F 39).getD (sy_i F 33).toNatClampNeg 0) := hd_rd (hs 0 _ rfl) b33 a39
  have b8 := hd_b (F := F) (F' := F') (k := 8) (hF 8 (by decide))
  have b82 := hd_b (F := F) (F' := F') (k := 82) (hF 82 (by decide))
  have b83 := hd_b (F := F) (F' := F') (k := 83) (hF 83 (by decide))
  have t88 : sy_dv F' (.inr (.inl 88)) = .int ((sy_ai F 39).getD (sy_i F 33).toNatClampNeg 0) := hd_rd (hs 1 _ rfl) b33 a39
  have t89 : sy_dv F' (.inr (.inl 89)) = .int ((sy_i F 86) + ((1 : Int32))) := hd_o (hs 2 _ rfl) b86 rfl rfl
  have hB' : iv_in F' iv_B0 := iv_in_eq hB (fun j hj => hF j (Nat.lt_of_lt_of_le hj (by decide +kernel)))
  refine ⟨List.forall_mem_cons.mpr ⟨hd_p3 rfl b86 (by have hc : ((400) : Int32).toInt = 400 := (by decide); omega), List.forall_mem_cons.mpr ⟨hd_p1 b84 rfl (by have hc : ((0) : Int32).toInt = 0 := (by decide); omega), List.forall_mem_cons.mpr ⟨hd_p1 b85 rfl (by have hc : ((43) : Int32).toInt = 43 := (by decide); omega), List.forall_mem_cons.mpr ⟨hd_p0 b85 rfl (by have hc : ((45) : Int32).toInt = 45 := (by decide); omega), List.forall_mem_cons.mpr ⟨hd_p3 b33 rfl (by have hc : ((0) : Int32).toInt = 0 := (by decide); omega), List.forall_mem_cons.mpr ⟨hd_p3 rfl b33 (by have hc : ((400) : Int32).toInt = 400 := (by decide); omega), List.forall_mem_cons.mpr ⟨hd_pb b33 (by first | exact h6 | exact h6), List.forall_mem_cons.mpr ⟨hd_p0 t87 b85 h7, List.forall_mem_cons.mpr ⟨hd_p3 b33 rfl (by have hc : ((400) : Int32).toInt = 400 := (by decide); omega), List.forall_mem_cons.mpr ⟨hd_p1 b85 rfl (by have hc : ((43) : Int32).toInt = 43 := (by decide); omega), List.forall_mem_cons.mpr ⟨hd_p4 rfl b8 (by have hc : ((512) : Int32).toInt = 512 := (by decide); omega), List.forall_mem_cons.mpr ⟨hd_p3 b33 rfl (by have hc : ((0) : Int32).toInt = 0 := (by decide); omega), List.forall_mem_cons.mpr ⟨hd_p3 rfl b33 (by have hc : ((400) : Int32).toInt = 400 := (by decide); omega), List.forall_mem_cons.mpr ⟨hd_pb b33 (by first | exact h13 | exact h13), fun _ h => absurd h List.not_mem_nil⟩⟩⟩⟩⟩⟩⟩⟩⟩⟩⟩⟩⟩⟩, ?_⟩
  refine k _ ?_ ?_ ?_ ?_ ?_ ?_ ?_
  · exact fun j hj hn => (hd_keep hB' (Nat.lt_of_lt_of_le hj (by decide +kernel)) (by simp; omega)).trans (hF j (Nat.lt_of_lt_of_le hj (by decide)))
  · exact hd_gi (x := .inl (.int 2)) (by decide +kernel) rfl
  · exact hd_gi (x := .inr (.inl 82)) (by decide +kernel) b82
  · exact hd_gi (x := .inr (.inl 83)) (by decide +kernel) b83
  · exact hd_gi (x := .inl (.int 0)) (by decide +kernel) rfl
  · exact hd_gi (x := .inr (.inl 88)) (by decide +kernel) t88
  · exact hd_gi (x := .inr (.inl 89)) (by decide +kernel) t89
theorem k3ps_23_p10 {Ls : Nat} {xs : Nat → Int32} {d : Nat} {Q : Option Value → jm_h → Prop} (hd : 4 ≤ d) (F : Nat → sy_d) (X1 X2 : List jm_c) (hB : iv_in F iv_B0)
    (h0 : (sy_i F 86).toInt ≤ 400)
    (h1 : (sy_i F 84).toInt ≠ 0)
    (h2 : (sy_i F 85).toInt ≠ 43)
    (h3 : (sy_i F 85).toInt = 45)
    (h4 : 0 ≤ (sy_i F 33).toInt)
    (h5 : (sy_i F 33).toInt ≤ 400)
    (h6 : 0 ≤ (sy_i F 33).toInt ∧ (sy_i F 33).toInt < 401)
    (h7 : ((sy_ai F 39).getD (sy_i F 33).toNatClampNeg 0).toInt = (sy_i F 85).toInt)
    (h8 : 400 ≤ (sy_i F 33).toInt)
    (h9 : (sy_i F 85).toInt ≠ 43)
    (h10 : (sy_i F 8).toInt < 512)
    (h11 : 0 ≤ (sy_i F 8).toInt ∧ (sy_i F 8).toInt < 512)
    (h12 : 0 ≤ (sy_i F 33).toInt)
    (h13 : (sy_i F 33).toInt ≤ 400)
    (h14 : 0 ≤ (sy_i F 33).toInt ∧ (sy_i F 33).toInt < 401)
    (k : ∀ F1 : Nat → sy_d, (∀ j, j < 82 → j ≠ 8 ∧ j ≠ 17 ∧ j ≠ 34 → F1 j = F j) → F1 8 = .inl (.int ((sy_i F 8) + ((1 : Int32)))) → F1 17 = .inr (.inl (jm_upd (sy_ai F 17) (sy_i F 8).toNatClampNeg (((-11) : Int32)))) → F1 34 = .inl (.int ((2 : Int32))) → F1 82 = .inl (.int (sy_i F 82)) → F1 83 = .inl (.int (sy_i F 83)) → F1 84 = .inl (.int ((0 : Int32))) → F1 85 = .inl (.int ((sy_ai F 39).getD (sy_i F 33).toNatClampNeg 0)) → F1 86 = .inl (.int ((sy_i F 86) + ((1 : Int32)))) → hd_W Ls xs d jm_M38 Q (23, sy_dL F1 [some (.inl (.ref 30)), some (.inr (.inl 82)), some (.inr (.inl 83)), some (.inr (.inl 84)), some (.inr (.inl 85)), some (.inr (.inl 86))], sy_dS F1 [], sy_dh F1 X1 X2 (iv_H 3), 0, 0)) :
    hd_W Ls xs d jm_M38 Q (23, sy_dL F [some (.inl (.ref 30)), some (.inr (.inl 82)), some (.inr (.inl 83)), some (.inr (.inl 84)), some (.inr (.inl 85)), some (.inr (.inl 86))], sy_dS F [], sy_dh F X1 X2 (iv_H 3), 0, 0) := by
  refine hd_run (s := 3) (nv := 87) (pc := 23) (L := [some (.inl (.ref 30)), some (.inr (.inl 82)), some (.inr (.inl 83)), some (.inr (.inl 84)), some (.inr (.inl 85)), some (.inr (.inl 86))]) (S := []) (uh := hd_ov (iv_id 0 iv_B0) [(8, .inl (.inr (.inl 89))), (17, .inr (.inr (.inl 88))), (34, .inl (.inl (.int 2)))]) (ul := [.inl (.inr (.inl 82)), .inl (.inr (.inl 83)), .inl (.inl (.int 0)), .inl (.inr (.inl 90)), .inl (.inr (.inl 91))]) (f := true) (sp := [23, 61]) (d0 := 3) (O := [false, false, false, false, false, false, true, false, true, false, false, false]) (T := [(30, [.inr (.inl 33)], [.inr (.inl 39)]), (40, [.inr (.inl 8), .inl (.int (-11))], [.inr (.inl 17)]), (0, [.inr (.inl 8), .inl (.int 1)], []), (30, [.inr (.inl 33)], [.inr (.inl 39)]), (0, [.inr (.inl 86), .inl (.int 1)], [])]) (P := [(3, .inl (.int 400), .inr (.inl 86)), (1, .inr (.inl 84), .inl (.int 0)), (1, .inr (.inl 85), .inl (.int 43)), (0, .inr (.inl 85), .inl (.int 45)), (3, .inr (.inl 33), .inl (.int 0)), (3, .inl (.int 400), .inr (.inl 33)), (6, .inr (.inl 33), .inl (.ref 401)), (0, .inr (.inl 87), .inr (.inl 85)), (3, .inr (.inl 33), .inl (.int 400)), (1, .inr (.inl 85), .inl (.int 43)), (5, .inl (.int 512), .inr (.inl 8)), (6, .inr (.inl 8), .inl (.ref 512)), (3, .inr (.inl 33), .inl (.int 0)), (3, .inl (.int 400), .inr (.inl 33)), (6, .inr (.inl 33), .inl (.ref 401))]) jm_ok38 (by decide +kernel) (by decide +kernel) hd F X1 X2 (fun F' hF hs => ?_)
  have b86 := hd_b (F := F) (F' := F') (k := 86) (hF 86 (by decide))
  have b84 := hd_b (F := F) (F' := F') (k := 84) (hF 84 (by decide))
  have b85 := hd_b (F := F) (F' := F') (k := 85) (hF 85 (by decide))
  have b33 := hd_b (F := F) (F' := F') (k := 33) (hF 33 (by decide))
  have a39 := hd_ba (F := F) (F' := F') (k := 39) (hF 39 (by decide))
  have t87 : sy_dv F' (.inr (.inl 87)) = .int ((sy_ai F 39).getD (sy_i F 33).toNatClampNeg 0) := hd_rd (hs 0 _ rfl) b33 a39
  have b8 := hd_b (F := F) (F' := F') (k := 8) (hF 8 (by decide))
  have t89 : sy_dv F' (.inr (.inl 89)) = .int ((sy_i F 8) + ((1 : Int32))) := hd_o (hs 2 _ rfl) b8 rfl rfl
  have a17 := hd_ba (F := F) (F' := F') (k := 17) (hF 17 (by decide))
  have t88 : sy_da F' (.inr (.inl 88)) = .inl (jm_upd (sy_ai F 17) (sy_i F 8).toNatClampNeg (((-11) : Int32))) := hd_up (hs 1 _ rfl) b8 rfl a17
  have b82 := hd_b (F := F) (F' := F') (k := 82) (hF 82 (by decide))
  have b83 := hd_b (F := F) (F' := F') (k := 83) (hF 83 (by decide))
  have t90 : sy_dv F' (.inr (.inl 90)) = .int ((sy_ai F 39).getD (sy_i F 33).toNatClampNeg 0) := hd_rd (hs 3 _ rfl) b33 a39
  have t91 : sy_dv F' (.inr (.inl 91)) = .int ((sy_i F 86) + ((1 : Int32))) := hd_o (hs 4 _ rfl) b86 rfl rfl
  have hB' : iv_in F' iv_B0 := iv_in_eq hB (fun j hj => hF j (Nat.lt_of_lt_of_le hj (by decide +kernel)))
  refine ⟨List.forall_mem_cons.mpr ⟨hd_p3 rfl b86 (by have hc : ((400) : Int32).toInt = 400 := (by decide); omega), List.forall_mem_cons.mpr ⟨hd_p1 b84 rfl (by have hc : ((0) : Int32).toInt = 0 := (by decide); omega), List.forall_mem_cons.mpr ⟨hd_p1 b85 rfl (by have hc : ((43) : Int32).toInt = 43 := (by decide); omega), List.forall_mem_cons.mpr ⟨hd_p0 b85 rfl (by have hc : ((45) : Int32).toInt = 45 := (by decide); omega), List.forall_mem_cons.mpr ⟨hd_p3 b33 rfl (by have hc : ((0) : Int32).toInt = 0 := (by decide); omega), List.forall_mem_cons.mpr ⟨hd_p3 rfl b33 (by have hc : ((400) : Int32).toInt = 400 := (by decide); omega), List.forall_mem_cons.mpr ⟨hd_pb b33 (by first | exact h6 | exact h6), List.forall_mem_cons.mpr ⟨hd_p0 t87 b85 h7, List.forall_mem_cons.mpr ⟨hd_p3 b33 rfl (by have hc : ((400) : Int32).toInt = 400 := (by decide); omega), List.forall_mem_cons.mpr ⟨hd_p1 b85 rfl (by have hc : ((43) : Int32).toInt = 43 := (by decide); omega), List.forall_mem_cons.mpr ⟨hd_p5 rfl b8 (by have hc : ((512) : Int32).toInt = 512 := (by decide); omega), List.forall_mem_cons.mpr ⟨hd_pb b8 (by first | exact h11 | exact h11), List.forall_mem_cons.mpr ⟨hd_p3 b33 rfl (by have hc : ((0) : Int32).toInt = 0 := (by decide); omega), List.forall_mem_cons.mpr ⟨hd_p3 rfl b33 (by have hc : ((400) : Int32).toInt = 400 := (by decide); omega), List.forall_mem_cons.mpr ⟨hd_pb b33 (by first | exact h14 | exact h14), fun _ h => absurd h List.not_mem_nil⟩⟩⟩⟩⟩⟩⟩⟩⟩⟩⟩⟩⟩⟩⟩, ?_⟩
  refine k _ ?_ ?_ ?_ ?_ ?_ ?_ ?_ ?_ ?_
  · exact fun j hj hn => (hd_keep hB' (Nat.lt_of_lt_of_le hj (by decide +kernel)) (by simp; omega)).trans (hF j (Nat.lt_of_lt_of_le hj (by decide)))
  · exact hd_gi (x := .inr (.inl 89)) (by decide +kernel) t89
  · exact hd_ga (a := .inr (.inl 88)) (by decide +kernel) t88
  · exact hd_gi (x := .inl (.int 2)) (by decide +kernel) rfl
  · exact hd_gi (x := .inr (.inl 82)) (by decide +kernel) b82
  · exact hd_gi (x := .inr (.inl 83)) (by decide +kernel) b83
  · exact hd_gi (x := .inl (.int 0)) (by decide +kernel) rfl
  · exact hd_gi (x := .inr (.inl 90)) (by decide +kernel) t90
  · exact hd_gi (x := .inr (.inl 91)) (by decide +kernel) t91
theorem k3ps_23_p11 {Ls : Nat} {xs : Nat → Int32} {d : Nat} {Q : Option Value → jm_h → Prop} (hd : 4 ≤ d) (F : Nat → sy_d) (X1 X2 : List jm_c) (hB : iv_in F iv_B0)
    (h0 : (sy_i F 86).toInt ≤ 400)
    (h1 : (sy_i F 84).toInt ≠ 0)
    (h2 : (sy_i F 85).toInt ≠ 43)
    (h3 : (sy_i F 85).toInt = 45)
    (h4 : 0 ≤ (sy_i F 33).toInt)
    (h5 : (sy_i F 33).toInt ≤ 400)
    (h6 : 0 ≤ (sy_i F 33).toInt ∧ (sy_i F 33).toInt < 401)
    (h7 : ((sy_ai F 39).getD (sy_i F 33).toNatClampNeg 0).toInt ≠ (sy_i F 85).toInt)
    (h8 : (sy_i F 85).toInt ≠ 43)
    (h9 : 512 ≤ (sy_i F 8).toInt)
    (h10 : 0 ≤ (sy_i F 33).toInt)
    (h11 : (sy_i F 33).toInt ≤ 400)
    (h12 : 0 ≤ (sy_i F 33).toInt ∧ (sy_i F 33).toInt < 401)
    (k : ∀ F1 : Nat → sy_d, (∀ j, j < 82 → j ≠ 34 → F1 j = F j) → F1 34 = .inl (.int ((1 : Int32))) → F1 82 = .inl (.int (sy_i F 82)) → F1 83 = .inl (.int (sy_i F 83)) → F1 84 = .inl (.int ((0 : Int32))) → F1 85 = .inl (.int ((sy_ai F 39).getD (sy_i F 33).toNatClampNeg 0)) → F1 86 = .inl (.int ((sy_i F 86) + ((1 : Int32)))) → hd_W Ls xs d jm_M38 Q (23, sy_dL F1 [some (.inl (.ref 30)), some (.inr (.inl 82)), some (.inr (.inl 83)), some (.inr (.inl 84)), some (.inr (.inl 85)), some (.inr (.inl 86))], sy_dS F1 [], sy_dh F1 X1 X2 (iv_H 3), 0, 0)) :
    hd_W Ls xs d jm_M38 Q (23, sy_dL F [some (.inl (.ref 30)), some (.inr (.inl 82)), some (.inr (.inl 83)), some (.inr (.inl 84)), some (.inr (.inl 85)), some (.inr (.inl 86))], sy_dS F [], sy_dh F X1 X2 (iv_H 3), 0, 0) := by
  refine hd_run (s := 3) (nv := 87) (pc := 23) (L := [some (.inl (.ref 30)), some (.inr (.inl 82)), some (.inr (.inl 83)), some (.inr (.inl 84)), some (.inr (.inl 85)), some (.inr (.inl 86))]) (S := []) (uh := hd_ov (iv_id 0 iv_B0) [(34, .inl (.inl (.int 1)))]) (ul := [.inl (.inr (.inl 82)), .inl (.inr (.inl 83)), .inl (.inl (.int 0)), .inl (.inr (.inl 88)), .inl (.inr (.inl 89))]) (f := true) (sp := [23, 61]) (d0 := 3) (O := [false, false, false, false, false, false, false, true, true, false, false]) (T := [(30, [.inr (.inl 33)], [.inr (.inl 39)]), (30, [.inr (.inl 33)], [.inr (.inl 39)]), (0, [.inr (.inl 86), .inl (.int 1)], [])]) (P := [(3, .inl (.int 400), .inr (.inl 86)), (1, .inr (.inl 84), .inl (.int 0)), (1, .inr (.inl 85), .inl (.int 43)), (0, .inr (.inl 85), .inl (.int 45)), (3, .inr (.inl 33), .inl (.int 0)), (3, .inl (.int 400), .inr (.inl 33)), (6, .inr (.inl 33), .inl (.ref 401)), (1, .inr (.inl 87), .inr (.inl 85)), (1, .inr (.inl 85), .inl (.int 43)), (4, .inl (.int 512), .inr (.inl 8)), (3, .inr (.inl 33), .inl (.int 0)), (3, .inl (.int 400), .inr (.inl 33)), (6, .inr (.inl 33), .inl (.ref 401))]) jm_ok38 (by decide +kernel) (by decide +kernel) hd F X1 X2 (fun F' hF hs => ?_)
  have b86 := hd_b (F := F) (F' := F') (k := 86) (hF 86 (by decide))
  have b84 := hd_b (F := F) (F' := F') (k := 84) (hF 84 (by decide))
  have b85 := hd_b (F := F) (F' := F') (k := 85) (hF 85 (by decide))
  have b33 := hd_b (F := F) (F' := F') (k := 33) (hF 33 (by decide))
  have a39 := hd_ba (F := F) (F' := F') (k := 39) (hF 39 (by decide))
  have t87 : sy_dv F' (.inr (.inl 87)) = .int ((sy_ai F 39).getD (sy_i F 33).toNatClampNeg 0) := hd_rd (hs 0 _ rfl) b33 a39
  have b8 := hd_b (F := F) (F' := F') (k := 8) (hF 8 (by decide))
  have b82 := hd_b (F := F) (F' := F') (k := 82) (hF 82 (by decide))
  have b83 := hd_b (F := F) (F' := F') (k := 83) (hF 83 (by decide))
  have t88 : sy_dv F' (.inr (.inl 88)) = .int ((sy_ai F 39).getD (sy_i F 33).toNatClampNeg 0) := hd_rd (hs 1 _ rfl) b33 a39
  have t89 : sy_dv F' (.inr (.inl 89)) = .int ((sy_i F 86) + ((1 : Int32))) := hd_o (hs 2 _ rfl) b86 rfl rfl
  have hB' : iv_in F' iv_B0 := iv_in_eq hB (fun j hj => hF j (Nat.lt_of_lt_of_le hj (by decide +kernel)))
  refine ⟨List.forall_mem_cons.mpr ⟨hd_p3 rfl b86 (by have hc : ((400) : Int32).toInt = 400 := (by decide); omega), List.forall_mem_cons.mpr ⟨hd_p1 b84 rfl (by have hc : ((0) : Int32).toInt = 0 := (by decide); omega), List.forall_mem_cons.mpr ⟨hd_p1 b85 rfl (by have hc : ((43) : Int32).toInt = 43 := (by decide); omega), List.forall_mem_cons.mpr ⟨hd_p0 b85 rfl (by have hc : ((45) : Int32).toInt = 45 := (by decide); omega), List.forall_mem_cons.mpr ⟨hd_p3 b33 rfl (by have hc : ((0) : Int32).toInt = 0 := (by decide); omega), List.forall_mem_cons.mpr ⟨hd_p3 rfl b33 (by have hc : ((400) : Int32).toInt = 400 := (by decide); omega), List.forall_mem_cons.mpr ⟨hd_pb b33 (by first | exact h6 | exact h6), List.forall_mem_cons.mpr ⟨hd_p1 t87 b85 h7, List.forall_mem_cons.mpr ⟨hd_p1 b85 rfl (by have hc : ((43) : Int32).toInt = 43 := (by decide); omega), List.forall_mem_cons.mpr ⟨hd_p4 rfl b8 (by have hc : ((512) : Int32).toInt = 512 := (by decide); omega), List.forall_mem_cons.mpr ⟨hd_p3 b33 rfl (by have hc : ((0) : Int32).toInt = 0 := (by decide); omega), List.forall_mem_cons.mpr ⟨hd_p3 rfl b33 (by have hc : ((400) : Int32).toInt = 400 := (by decide); omega), List.forall_mem_cons.mpr ⟨hd_pb b33 (by first | exact h12 | exact h12), fun _ h => absurd h List.not_mem_nil⟩⟩⟩⟩⟩⟩⟩⟩⟩⟩⟩⟩⟩, ?_⟩
  refine k _ ?_ ?_ ?_ ?_ ?_ ?_ ?_
  · exact fun j hj hn => (hd_keep hB' (Nat.lt_of_lt_of_le hj (by decide +kernel)) (by simp; omega)).trans (hF j (Nat.lt_of_lt_of_le hj (by decide)))
  · exact hd_gi (x := .inl (.int 1)) (by decide +kernel) rfl
  · exact hd_gi (x := .inr (.inl 82)) (by decide +kernel) b82
  · exact hd_gi (x := .inr (.inl 83)) (by decide +kernel) b83
  · exact hd_gi (x := .inl (.int 0)) (by decide +kernel) rfl
  · exact hd_gi (x := .inr (.inl 88)) (by decide +kernel) t88
  · exact hd_gi (x := .inr (.inl 89)) (by decide +kernel) t89
theorem k3ps_23_p12 {Ls : Nat} {xs : Nat → Int32} {d : Nat} {Q : Option Value → jm_h → Prop} (hd : 4 ≤ d) (F : Nat → sy_d) (X1 X2 : List jm_c) (hB : iv_in F iv_B0)
    (h0 : (sy_i F 86).toInt ≤ 400)
    (h1 : (sy_i F 84).toInt ≠ 0)
    (h2 : (sy_i F 85).toInt ≠ 43)
    (h3 : (sy_i F 85).toInt = 45)
    (h4 : 0 ≤ (sy_i F 33).toInt)
    (h5 : (sy_i F 33).toInt ≤ 400)
    (h6 : 0 ≤ (sy_i F 33).toInt ∧ (sy_i F 33).toInt < 401)
    (h7 : ((sy_ai F 39).getD (sy_i F 33).toNatClampNeg 0).toInt ≠ (sy_i F 85).toInt)
    (h8 : (sy_i F 85).toInt ≠ 43)
    (h9 : (sy_i F 8).toInt < 512)
    (h10 : 0 ≤ (sy_i F 8).toInt ∧ (sy_i F 8).toInt < 512)
    (h11 : 0 ≤ (sy_i F 33).toInt)
    (h12 : (sy_i F 33).toInt ≤ 400)
    (h13 : 0 ≤ (sy_i F 33).toInt ∧ (sy_i F 33).toInt < 401)
    (k : ∀ F1 : Nat → sy_d, (∀ j, j < 82 → j ≠ 8 ∧ j ≠ 17 ∧ j ≠ 34 → F1 j = F j) → F1 8 = .inl (.int ((sy_i F 8) + ((1 : Int32)))) → F1 17 = .inr (.inl (jm_upd (sy_ai F 17) (sy_i F 8).toNatClampNeg (((-11) : Int32)))) → F1 34 = .inl (.int ((1 : Int32))) → F1 82 = .inl (.int (sy_i F 82)) → F1 83 = .inl (.int (sy_i F 83)) → F1 84 = .inl (.int ((0 : Int32))) → F1 85 = .inl (.int ((sy_ai F 39).getD (sy_i F 33).toNatClampNeg 0)) → F1 86 = .inl (.int ((sy_i F 86) + ((1 : Int32)))) → hd_W Ls xs d jm_M38 Q (23, sy_dL F1 [some (.inl (.ref 30)), some (.inr (.inl 82)), some (.inr (.inl 83)), some (.inr (.inl 84)), some (.inr (.inl 85)), some (.inr (.inl 86))], sy_dS F1 [], sy_dh F1 X1 X2 (iv_H 3), 0, 0)) :
    hd_W Ls xs d jm_M38 Q (23, sy_dL F [some (.inl (.ref 30)), some (.inr (.inl 82)), some (.inr (.inl 83)), some (.inr (.inl 84)), some (.inr (.inl 85)), some (.inr (.inl 86))], sy_dS F [], sy_dh F X1 X2 (iv_H 3), 0, 0) := by
  refine hd_run (s := 3) (nv := 87) (pc := 23) (L := [some (.inl (.ref 30)), some (.inr (.inl 82)), some (.inr (.inl 83)), some (.inr (.inl 84)), some (.inr (.inl 85)), some (.inr (.inl 86))]) (S := []) (uh := hd_ov (iv_id 0 iv_B0) [(8, .inl (.inr (.inl 89))), (17, .inr (.inr (.inl 88))), (34, .inl (.inl (.int 1)))]) (ul := [.inl (.inr (.inl 82)), .inl (.inr (.inl 83)), .inl (.inl (.int 0)), .inl (.inr (.inl 90)), .inl (.inr (.inl 91))]) (f := true) (sp := [23, 61]) (d0 := 3) (O := [false, false, false, false, false, false, false, true, false, false, false]) (T := [(30, [.inr (.inl 33)], [.inr (.inl 39)]), (40, [.inr (.inl 8), .inl (.int (-11))], [.inr (.inl 17)]), (0, [.inr (.inl 8), .inl (.int 1)], []), (30, [.inr (.inl 33)], [.inr (.inl 39)]), (0, [.inr (.inl 86), .inl (.int 1)], [])]) (P := [(3, .inl (.int 400), .inr (.inl 86)), (1, .inr (.inl 84), .inl (.int 0)), (1, .inr (.inl 85), .inl (.int 43)), (0, .inr (.inl 85), .inl (.int 45)), (3, .inr (.inl 33), .inl (.int 0)), (3, .inl (.int 400), .inr (.inl 33)), (6, .inr (.inl 33), .inl (.ref 401)), (1, .inr (.inl 87), .inr (.inl 85)), (1, .inr (.inl 85), .inl (.int 43)), (5, .inl (.int 512), .inr (.inl 8)), (6, .inr (.inl 8), .inl (.ref 512)), (3, .inr (.inl 33), .inl (.int 0)), (3, .inl (.int 400), .inr (.inl 33)), (6, .inr (.inl 33), .inl (.ref 401))]) jm_ok38 (by decide +kernel) (by decide +kernel) hd F X1 X2 (fun F' hF hs => ?_)
  have b86 := hd_b (F := F) (F' := F') (k := 86) (hF 86 (by decide))
  have b84 := hd_b (F := F) (F' := F') (k := 84) (hF 84 (by decide))
  have b85 := hd_b (F := F) (F' := F') (k := 85) (hF 85 (by decide))
  have b33 := hd_b (F := F) (F' := F') (k := 33) (hF 33 (by decide))
  have a39 := hd_ba (F := F) (F' := F') (k := 39) (hF 39 (by decide))
  have t87 : sy_dv F' (.inr (.inl 87)) = .int ((sy_ai F 39).getD (sy_i F 33).toNatClampNeg 0) := hd_rd (hs 0 _ rfl) b33 a39
  have b8 := hd_b (F := F) (F' := F') (k := 8) (hF 8 (by decide))
  have t89 : sy_dv F' (.inr (.inl 89)) = .int ((sy_i F 8) + ((1 : Int32))) := hd_o (hs 2 _ rfl) b8 rfl rfl
  have a17 := hd_ba (F := F) (F' := F') (k := 17) (hF 17 (by decide))
  have t88 : sy_da F' (.inr (.inl 88)) = .inl (jm_upd (sy_ai F 17) (sy_i F 8).toNatClampNeg (((-11) : Int32))) := hd_up (hs 1 _ rfl) b8 rfl a17
  have b82 := hd_b (F := F) (F' := F') (k := 82) (hF 82 (by decide))
  have b83 := hd_b (F := F) (F' := F') (k := 83) (hF 83 (by decide))
  have t90 : sy_dv F' (.inr (.inl 90)) = .int ((sy_ai F 39).getD (sy_i F 33).toNatClampNeg 0) := hd_rd (hs 3 _ rfl) b33 a39
  have t91 : sy_dv F' (.inr (.inl 91)) = .int ((sy_i F 86) + ((1 : Int32))) := hd_o (hs 4 _ rfl) b86 rfl rfl
  have hB' : iv_in F' iv_B0 := iv_in_eq hB (fun j hj => hF j (Nat.lt_of_lt_of_le hj (by decide +kernel)))
  refine ⟨List.forall_mem_cons.mpr ⟨hd_p3 rfl b86 (by have hc : ((400) : Int32).toInt = 400 := (by decide); omega), List.forall_mem_cons.mpr ⟨hd_p1 b84 rfl (by have hc : ((0) : Int32).toInt = 0 := (by decide); omega), List.forall_mem_cons.mpr ⟨hd_p1 b85 rfl (by have hc : ((43) : Int32).toInt = 43 := (by decide); omega), List.forall_mem_cons.mpr ⟨hd_p0 b85 rfl (by have hc : ((45) : Int32).toInt = 45 := (by decide); omega), List.forall_mem_cons.mpr ⟨hd_p3 b33 rfl (by have hc : ((0) : Int32).toInt = 0 := (by decide); omega), List.forall_mem_cons.mpr ⟨hd_p3 rfl b33 (by have hc : ((400) : Int32).toInt = 400 := (by decide); omega), List.forall_mem_cons.mpr ⟨hd_pb b33 (by first | exact h6 | exact h6), List.forall_mem_cons.mpr ⟨hd_p1 t87 b85 h7, List.forall_mem_cons.mpr ⟨hd_p1 b85 rfl (by have hc : ((43) : Int32).toInt = 43 := (by decide); omega), List.forall_mem_cons.mpr ⟨hd_p5 rfl b8 (by have hc : ((512) : Int32).toInt = 512 := (by decide); omega), List.forall_mem_cons.mpr ⟨hd_pb b8 (by first | exact h10 | exact h10), List.forall_mem_cons.mpr ⟨hd_p3 b33 rfl (by have hc : ((0) : Int32).toInt = 0 := (by decide); omega), List.forall_mem_cons.mpr ⟨hd_p3 rfl b33 (by have hc : ((400) : Int32).toInt = 400 := (by decide); omega), List.forall_mem_cons.mpr ⟨hd_pb b33 (by first | exact h13 | exact h13), fun _ h => absurd h List.not_mem_nil⟩⟩⟩⟩⟩⟩⟩⟩⟩⟩⟩⟩⟩⟩, ?_⟩
  refine k _ ?_ ?_ ?_ ?_ ?_ ?_ ?_ ?_ ?_
  · exact fun j hj hn => (hd_keep hB' (Nat.lt_of_lt_of_le hj (by decide +kernel)) (by simp; omega)).trans (hF j (Nat.lt_of_lt_of_le hj (by decide)))
  · exact hd_gi (x := .inr (.inl 89)) (by decide +kernel) t89
  · exact hd_ga (a := .inr (.inl 88)) (by decide +kernel) t88
  · exact hd_gi (x := .inl (.int 1)) (by decide +kernel) rfl
  · exact hd_gi (x := .inr (.inl 82)) (by decide +kernel) b82
  · exact hd_gi (x := .inr (.inl 83)) (by decide +kernel) b83
  · exact hd_gi (x := .inl (.int 0)) (by decide +kernel) rfl
  · exact hd_gi (x := .inr (.inl 90)) (by decide +kernel) t90
  · exact hd_gi (x := .inr (.inl 91)) (by decide +kernel) t91
theorem k3ps_64_p0 {Ls : Nat} {xs : Nat → Int32} {d : Nat} {Q : Option Value → jm_h → Prop} (hd : 4 ≤ d) (F : Nat → sy_d) (X1 X2 : List jm_c) (hB : iv_in F iv_B0)
    (h0 : (sy_i F 86).toInt = 0)
    (h1 : (sy_i F 84).toInt ≠ 43)
    (h2 : 512 ≤ (sy_i F 8).toInt)
    (h3 : 0 ≤ (sy_i F 33).toInt)
    (h4 : (sy_i F 33).toInt ≤ 400)
    (h5 : 0 ≤ (sy_i F 33).toInt ∧ (sy_i F 33).toInt < 401)
    (k : ∀ F1 : Nat → sy_d, (∀ j, j < 82 → True → F1 j = F j) → F1 82 = .inl (.int (sy_i F 82)) → F1 83 = .inl (.int (sy_i F 83)) → F1 84 = .inl (.int ((0 : Int32))) → F1 85 = .inl (.int ((sy_ai F 39).getD (sy_i F 33).toNatClampNeg 0)) → F1 86 = .inl (.int ((sy_i F 85) + ((1 : Int32)))) → hd_W Ls xs d jm_M38 Q (23, sy_dL F1 [some (.inl (.ref 30)), some (.inr (.inl 82)), some (.inr (.inl 83)), some (.inr (.inl 84)), some (.inr (.inl 85)), some (.inr (.inl 86))], sy_dS F1 [], sy_dh F1 X1 X2 (iv_H 3), 0, 0)) :
    hd_W Ls xs d jm_M38 Q (64, sy_dL F [some (.inl (.ref 30)), some (.inr (.inl 82)), some (.inr (.inl 83)), none, some (.inr (.inl 84)), some (.inr (.inl 85))], sy_dS F [.inr (.inl 86)], sy_dh F X1 X2 (iv_H 3), 0, 0) := by
  refine hd_run (s := 3) (nv := 87) (pc := 23) (L := [some (.inl (.ref 30)), some (.inr (.inl 82)), some (.inr (.inl 83)), some (.inr (.inl 84)), some (.inr (.inl 85)), some (.inr (.inl 86))]) (S := []) (uh := hd_ov (iv_id 0 iv_B0) []) (ul := [.inl (.inr (.inl 82)), .inl (.inr (.inl 83)), .inl (.inl (.int 0)), .inl (.inr (.inl 87)), .inl (.inr (.inl 88))]) (f := false) (sp := [23]) (d0 := 3) (O := [true, true, true, false, false]) (T := [(30, [.inr (.inl 33)], [.inr (.inl 39)]), (0, [.inr (.inl 85), .inl (.int 1)], [])]) (P := [(0, .inr (.inl 86), .inl (.int 0)), (1, .inr (.inl 84), .inl (.int 43)), (4, .inl (.int 512), .inr (.inl 8)), (3, .inr (.inl 33), .inl (.int 0)), (3, .inl (.int 400), .inr (.inl 33)), (6, .inr (.inl 33), .inl (.ref 401))]) jm_ok38 (by decide +kernel) (by decide +kernel) hd F X1 X2 (fun F' hF hs => ?_)
  have b86 := hd_b (F := F) (F' := F') (k := 86) (hF 86 (by decide))
  have b84 := hd_b (F := F) (F' := F') (k := 84) (hF 84 (by decide))
  have b8 := hd_b (F := F) (F' := F') (k := 8) (hF 8 (by decide))
  have b33 := hd_b (F := F) (F' := F') (k := 33) (hF 33 (by decide))
  have b82 := hd_b (F := F) (F' := F') (k := 82) (hF 82 (by decide))
  have b83 := hd_b (F := F) (F' := F') (k := 83) (hF 83 (by decide))
  have a39 := hd_ba (F := F) (F' := F') (k := 39) (hF 39 (by decide))
  have t87 : sy_dv F' (.inr (.inl 87)) = .int ((sy_ai F 39).getD (sy_i F 33).toNatClampNeg 0) := hd_rd (hs 0 _ rfl) b33 a39
  have b85 := hd_b (F := F) (F' := F') (k := 85) (hF 85 (by decide))
  have t88 : sy_dv F' (.inr (.inl 88)) = .int ((sy_i F 85) + ((1 : Int32))) := hd_o (hs 1 _ rfl) b85 rfl rfl
  have hB' : iv_in F' iv_B0 := iv_in_eq hB (fun j hj => hF j (Nat.lt_of_lt_of_le hj (by decide +kernel)))
  refine ⟨List.forall_mem_cons.mpr ⟨hd_p0 b86 rfl (by have hc : ((0) : Int32).toInt = 0 := (by decide); omega), List.forall_mem_cons.mpr ⟨hd_p1 b84 rfl (by have hc : ((43) : Int32).toInt = 43 := (by decide); omega), List.forall_mem_cons.mpr ⟨hd_p4 rfl b8 (by have hc : ((512) : Int32).toInt = 512 := (by decide); omega), List.forall_mem_cons.mpr ⟨hd_p3 b33 rfl (by have hc : ((0) : Int32).toInt = 0 := (by decide); omega), List.forall_mem_cons.mpr ⟨hd_p3 rfl b33 (by have hc : ((400) : Int32).toInt = 400 := (by decide); omega), List.forall_mem_cons.mpr ⟨hd_pb b33 (by first | exact h5 | exact h5), fun _ h => absurd h List.not_mem_nil⟩⟩⟩⟩⟩⟩, ?_⟩
  refine k _ ?_ ?_ ?_ ?_ ?_ ?_
  · exact fun j hj _ => (hd_keep hB' (Nat.lt_of_lt_of_le hj (by decide +kernel)) (by simp)).trans (hF j (Nat.lt_of_lt_of_le hj (by decide)))
  · exact hd_gi (x := .inr (.inl 82)) (by decide +kernel) b82
  · exact hd_gi (x := .inr (.inl 83)) (by decide +kernel) b83
  · exact hd_gi (x := .inl (.int 0)) (by decide +kernel) rfl
  · exact hd_gi (x := .inr (.inl 87)) (by decide +kernel) t87
  · exact hd_gi (x := .inr (.inl 88)) (by decide +kernel) t88
theorem k3ps_64_p1 {Ls : Nat} {xs : Nat → Int32} {d : Nat} {Q : Option Value → jm_h → Prop} (hd : 4 ≤ d) (F : Nat → sy_d) (X1 X2 : List jm_c) (hB : iv_in F iv_B0)
    (h0 : (sy_i F 86).toInt = 0)
    (h1 : (sy_i F 84).toInt ≠ 43)
    (h2 : (sy_i F 8).toInt < 512)
    (h3 : 0 ≤ (sy_i F 8).toInt ∧ (sy_i F 8).toInt < 512)
    (h4 : 0 ≤ (sy_i F 33).toInt)
    (h5 : (sy_i F 33).toInt ≤ 400)
    (h6 : 0 ≤ (sy_i F 33).toInt ∧ (sy_i F 33).toInt < 401)
    (k : ∀ F1 : Nat → sy_d, (∀ j, j < 82 → j ≠ 8 ∧ j ≠ 17 → F1 j = F j) → F1 8 = .inl (.int ((sy_i F 8) + ((1 : Int32)))) → F1 17 = .inr (.inl (jm_upd (sy_ai F 17) (sy_i F 8).toNatClampNeg (((-11) : Int32)))) → F1 82 = .inl (.int (sy_i F 82)) → F1 83 = .inl (.int (sy_i F 83)) → F1 84 = .inl (.int ((0 : Int32))) → F1 85 = .inl (.int ((sy_ai F 39).getD (sy_i F 33).toNatClampNeg 0)) → F1 86 = .inl (.int ((sy_i F 85) + ((1 : Int32)))) → hd_W Ls xs d jm_M38 Q (23, sy_dL F1 [some (.inl (.ref 30)), some (.inr (.inl 82)), some (.inr (.inl 83)), some (.inr (.inl 84)), some (.inr (.inl 85)), some (.inr (.inl 86))], sy_dS F1 [], sy_dh F1 X1 X2 (iv_H 3), 0, 0)) :
    hd_W Ls xs d jm_M38 Q (64, sy_dL F [some (.inl (.ref 30)), some (.inr (.inl 82)), some (.inr (.inl 83)), none, some (.inr (.inl 84)), some (.inr (.inl 85))], sy_dS F [.inr (.inl 86)], sy_dh F X1 X2 (iv_H 3), 0, 0) := by
  refine hd_run (s := 3) (nv := 87) (pc := 23) (L := [some (.inl (.ref 30)), some (.inr (.inl 82)), some (.inr (.inl 83)), some (.inr (.inl 84)), some (.inr (.inl 85)), some (.inr (.inl 86))]) (S := []) (uh := hd_ov (iv_id 0 iv_B0) [(8, .inl (.inr (.inl 88))), (17, .inr (.inr (.inl 87)))]) (ul := [.inl (.inr (.inl 82)), .inl (.inr (.inl 83)), .inl (.inl (.int 0)), .inl (.inr (.inl 89)), .inl (.inr (.inl 90))]) (f := false) (sp := [23]) (d0 := 3) (O := [true, true, false, false, false]) (T := [(40, [.inr (.inl 8), .inl (.int (-11))], [.inr (.inl 17)]), (0, [.inr (.inl 8), .inl (.int 1)], []), (30, [.inr (.inl 33)], [.inr (.inl 39)]), (0, [.inr (.inl 85), .inl (.int 1)], [])]) (P := [(0, .inr (.inl 86), .inl (.int 0)), (1, .inr (.inl 84), .inl (.int 43)), (5, .inl (.int 512), .inr (.inl 8)), (6, .inr (.inl 8), .inl (.ref 512)), (3, .inr (.inl 33), .inl (.int 0)), (3, .inl (.int 400), .inr (.inl 33)), (6, .inr (.inl 33), .inl (.ref 401))]) jm_ok38 (by decide +kernel) (by decide +kernel) hd F X1 X2 (fun F' hF hs => ?_)
  have b86 := hd_b (F := F) (F' := F') (k := 86) (hF 86 (by decide))
  have b84 := hd_b (F := F) (F' := F') (k := 84) (hF 84 (by decide))
  have b8 := hd_b (F := F) (F' := F') (k := 8) (hF 8 (by decide))
  have b33 := hd_b (F := F) (F' := F') (k := 33) (hF 33 (by decide))
  have t88 : sy_dv F' (.inr (.inl 88)) = .int ((sy_i F 8) + ((1 : Int32))) := hd_o (hs 1 _ rfl) b8 rfl rfl
  have a17 := hd_ba (F := F) (F' := F') (k := 17) (hF 17 (by decide))
  have t87 : sy_da F' (.inr (.inl 87)) = .inl (jm_upd (sy_ai F 17) (sy_i F 8).toNatClampNeg (((-11) : Int32))) := hd_up (hs 0 _ rfl) b8 rfl a17
  have b82 := hd_b (F := F) (F' := F') (k := 82) (hF 82 (by decide))
  have b83 := hd_b (F := F) (F' := F') (k := 83) (hF 83 (by decide))
  have a39 := hd_ba (F := F) (F' := F') (k := 39) (hF 39 (by decide))
  have t89 : sy_dv F' (.inr (.inl 89)) = .int ((sy_ai F 39).getD (sy_i F 33).toNatClampNeg 0) := hd_rd (hs 2 _ rfl) b33 a39
  have b85 := hd_b (F := F) (F' := F') (k := 85) (hF 85 (by decide))
  have t90 : sy_dv F' (.inr (.inl 90)) = .int ((sy_i F 85) + ((1 : Int32))) := hd_o (hs 3 _ rfl) b85 rfl rfl
  have hB' : iv_in F' iv_B0 := iv_in_eq hB (fun j hj => hF j (Nat.lt_of_lt_of_le hj (by decide +kernel)))
  refine ⟨List.forall_mem_cons.mpr ⟨hd_p0 b86 rfl (by have hc : ((0) : Int32).toInt = 0 := (by decide); omega), List.forall_mem_cons.mpr ⟨hd_p1 b84 rfl (by have hc : ((43) : Int32).toInt = 43 := (by decide); omega), List.forall_mem_cons.mpr ⟨hd_p5 rfl b8 (by have hc : ((512) : Int32).toInt = 512 := (by decide); omega), List.forall_mem_cons.mpr ⟨hd_pb b8 (by first | exact h3 | exact h3), List.forall_mem_cons.mpr ⟨hd_p3 b33 rfl (by have hc : ((0) : Int32).toInt = 0 := (by decide); omega), List.forall_mem_cons.mpr ⟨hd_p3 rfl b33 (by have hc : ((400) : Int32).toInt = 400 := (by decide); omega), List.forall_mem_cons.mpr ⟨hd_pb b33 (by first | exact h6 | exact h6), fun _ h => absurd h List.not_mem_nil⟩⟩⟩⟩⟩⟩⟩, ?_⟩
  refine k _ ?_ ?_ ?_ ?_ ?_ ?_ ?_ ?_
  · exact fun j hj hn => (hd_keep hB' (Nat.lt_of_lt_of_le hj (by decide +kernel)) (by simp; omega)).trans (hF j (Nat.lt_of_lt_of_le hj (by decide)))
  · exact hd_gi (x := .inr (.inl 88)) (by decide +kernel) t88
  · exact hd_ga (a := .inr (.inl 87)) (by decide +kernel) t87
  · exact hd_gi (x := .inr (.inl 82)) (by decide +kernel) b82
  · exact hd_gi (x := .inr (.inl 83)) (by decide +kernel) b83
  · exact hd_gi (x := .inl (.int 0)) (by decide +kernel) rfl
  · exact hd_gi (x := .inr (.inl 89)) (by decide +kernel) t89
  · exact hd_gi (x := .inr (.inl 90)) (by decide +kernel) t90
theorem k3ps_64_p2 {Ls : Nat} {xs : Nat → Int32} {d : Nat} {Q : Option Value → jm_h → Prop} (hd : 4 ≤ d) (F : Nat → sy_d) (X1 X2 : List jm_c) (hB : iv_in F iv_B0)
    (h0 : (sy_i F 86).toInt = 0)
    (h1 : (sy_i F 84).toInt = 43)
    (h2 : 512 ≤ (sy_i F 8).toInt)
    (h3 : 0 ≤ (sy_i F 33).toInt)
    (h4 : (sy_i F 33).toInt ≤ 400)
    (h5 : 0 ≤ (sy_i F 33).toInt ∧ (sy_i F 33).toInt < 401)
    (k : ∀ F1 : Nat → sy_d, (∀ j, j < 82 → True → F1 j = F j) → F1 82 = .inl (.int (sy_i F 82)) → F1 83 = .inl (.int (sy_i F 83)) → F1 84 = .inl (.int ((0 : Int32))) → F1 85 = .inl (.int ((sy_ai F 39).getD (sy_i F 33).toNatClampNeg 0)) → F1 86 = .inl (.int ((sy_i F 85) + ((1 : Int32)))) → hd_W Ls xs d jm_M38 Q (23, sy_dL F1 [some (.inl (.ref 30)), some (.inr (.inl 82)), some (.inr (.inl 83)), some (.inr (.inl 84)), some (.inr (.inl 85)), some (.inr (.inl 86))], sy_dS F1 [], sy_dh F1 X1 X2 (iv_H 3), 0, 0)) :
    hd_W Ls xs d jm_M38 Q (64, sy_dL F [some (.inl (.ref 30)), some (.inr (.inl 82)), some (.inr (.inl 83)), none, some (.inr (.inl 84)), some (.inr (.inl 85))], sy_dS F [.inr (.inl 86)], sy_dh F X1 X2 (iv_H 3), 0, 0) := by
  refine hd_run (s := 3) (nv := 87) (pc := 23) (L := [some (.inl (.ref 30)), some (.inr (.inl 82)), some (.inr (.inl 83)), some (.inr (.inl 84)), some (.inr (.inl 85)), some (.inr (.inl 86))]) (S := []) (uh := hd_ov (iv_id 0 iv_B0) []) (ul := [.inl (.inr (.inl 82)), .inl (.inr (.inl 83)), .inl (.inl (.int 0)), .inl (.inr (.inl 87)), .inl (.inr (.inl 88))]) (f := false) (sp := [23]) (d0 := 3) (O := [true, false, true, false, false]) (T := [(30, [.inr (.inl 33)], [.inr (.inl 39)]), (0, [.inr (.inl 85), .inl (.int 1)], [])]) (P := [(0, .inr (.inl 86), .inl (.int 0)), (0, .inr (.inl 84), .inl (.int 43)), (4, .inl (.int 512), .inr (.inl 8)), (3, .inr (.inl 33), .inl (.int 0)), (3, .inl (.int 400), .inr (.inl 33)), (6, .inr (.inl 33), .inl (.ref 401))]) jm_ok38 (by decide +kernel) (by decide +kernel) hd F X1 X2 (fun F' hF hs => ?_)
  have b86 := hd_b (F := F) (F' := F') (k := 86) (hF 86 (by decide))
  have b84 := hd_b (F := F) (F' := F') (k := 84) (hF 84 (by decide))
  have b8 := hd_b (F := F) (F' := F') (k := 8) (hF 8 (by decide))
  have b33 := hd_b (F := F) (F' := F') (k := 33) (hF 33 (by decide))
  have b82 := hd_b (F := F) (F' := F') (k := 82) (hF 82 (by decide))
  have b83 := hd_b (F := F) (F' := F') (k := 83) (hF 83 (by decide))
  have a39 := hd_ba (F := F) (F' := F') (k := 39) (hF 39 (by decide))
  have t87 : sy_dv F' (.inr (.inl 87)) = .int ((sy_ai F 39).getD (sy_i F 33).toNatClampNeg 0) := hd_rd (hs 0 _ rfl) b33 a39
  have b85 := hd_b (F := F) (F' := F') (k := 85) (hF 85 (by decide))
  have t88 : sy_dv F' (.inr (.inl 88)) = .int ((sy_i F 85) + ((1 : Int32))) := hd_o (hs 1 _ rfl) b85 rfl rfl
  have hB' : iv_in F' iv_B0 := iv_in_eq hB (fun j hj => hF j (Nat.lt_of_lt_of_le hj (by decide +kernel)))
  refine ⟨List.forall_mem_cons.mpr ⟨hd_p0 b86 rfl (by have hc : ((0) : Int32).toInt = 0 := (by decide); omega), List.forall_mem_cons.mpr ⟨hd_p0 b84 rfl (by have hc : ((43) : Int32).toInt = 43 := (by decide); omega), List.forall_mem_cons.mpr ⟨hd_p4 rfl b8 (by have hc : ((512) : Int32).toInt = 512 := (by decide); omega), List.forall_mem_cons.mpr ⟨hd_p3 b33 rfl (by have hc : ((0) : Int32).toInt = 0 := (by decide); omega), List.forall_mem_cons.mpr ⟨hd_p3 rfl b33 (by have hc : ((400) : Int32).toInt = 400 := (by decide); omega), List.forall_mem_cons.mpr ⟨hd_pb b33 (by first | exact h5 | exact h5), fun _ h => absurd h List.not_mem_nil⟩⟩⟩⟩⟩⟩, ?_⟩
  refine k _ ?_ ?_ ?_ ?_ ?_ ?_
  · exact fun j hj _ => (hd_keep hB' (Nat.lt_of_lt_of_le hj (by decide +kernel)) (by simp)).trans (hF j (Nat.lt_of_lt_of_le hj (by decide)))
  · exact hd_gi (x := .inr (.inl 82)) (by decide +kernel) b82
  · exact hd_gi (x := .inr (.inl 83)) (by decide +kernel) b83
  · exact hd_gi (x := .inl (.int 0)) (by decide +kernel) rfl
  · exact hd_gi (x := .inr (.inl 87)) (by decide +kernel) t87
  · exact hd_gi (x := .inr (.inl 88)) (by decide +kernel) t88
theorem k3ps_64_p3 {Ls : Nat} {xs : Nat → Int32} {d : Nat} {Q : Option Value → jm_h → Prop} (hd : 4 ≤ d) (F : Nat → sy_d) (X1 X2 : List jm_c) (hB : iv_in F iv_B0)
    (h0 : (sy_i F 86).toInt = 0)
    (h1 : (sy_i F 84).toInt = 43)
    (h2 : (sy_i F 8).toInt < 512)
    (h3 : 0 ≤ (sy_i F 8).toInt ∧ (sy_i F 8).toInt < 512)
    (h4 : 0 ≤ (sy_i F 33).toInt)
    (h5 : (sy_i F 33).toInt ≤ 400)
    (h6 : 0 ≤ (sy_i F 33).toInt ∧ (sy_i F 33).toInt < 401)
    (k : ∀ F1 : Nat → sy_d, (∀ j, j < 82 → j ≠ 8 ∧ j ≠ 17 → F1 j = F j) → F1 8 = .inl (.int ((sy_i F 8) + ((1 : Int32)))) → F1 17 = .inr (.inl (jm_upd (sy_ai F 17) (sy_i F 8).toNatClampNeg (((-10) : Int32)))) → F1 82 = .inl (.int (sy_i F 82)) → F1 83 = .inl (.int (sy_i F 83)) → F1 84 = .inl (.int ((0 : Int32))) → F1 85 = .inl (.int ((sy_ai F 39).getD (sy_i F 33).toNatClampNeg 0)) → F1 86 = .inl (.int ((sy_i F 85) + ((1 : Int32)))) → hd_W Ls xs d jm_M38 Q (23, sy_dL F1 [some (.inl (.ref 30)), some (.inr (.inl 82)), some (.inr (.inl 83)), some (.inr (.inl 84)), some (.inr (.inl 85)), some (.inr (.inl 86))], sy_dS F1 [], sy_dh F1 X1 X2 (iv_H 3), 0, 0)) :
    hd_W Ls xs d jm_M38 Q (64, sy_dL F [some (.inl (.ref 30)), some (.inr (.inl 82)), some (.inr (.inl 83)), none, some (.inr (.inl 84)), some (.inr (.inl 85))], sy_dS F [.inr (.inl 86)], sy_dh F X1 X2 (iv_H 3), 0, 0) := by
  refine hd_run (s := 3) (nv := 87) (pc := 23) (L := [some (.inl (.ref 30)), some (.inr (.inl 82)), some (.inr (.inl 83)), some (.inr (.inl 84)), some (.inr (.inl 85)), some (.inr (.inl 86))]) (S := []) (uh := hd_ov (iv_id 0 iv_B0) [(8, .inl (.inr (.inl 88))), (17, .inr (.inr (.inl 87)))]) (ul := [.inl (.inr (.inl 82)), .inl (.inr (.inl 83)), .inl (.inl (.int 0)), .inl (.inr (.inl 89)), .inl (.inr (.inl 90))]) (f := false) (sp := [23]) (d0 := 3) (O := [true, false, false, false, false]) (T := [(40, [.inr (.inl 8), .inl (.int (-10))], [.inr (.inl 17)]), (0, [.inr (.inl 8), .inl (.int 1)], []), (30, [.inr (.inl 33)], [.inr (.inl 39)]), (0, [.inr (.inl 85), .inl (.int 1)], [])]) (P := [(0, .inr (.inl 86), .inl (.int 0)), (0, .inr (.inl 84), .inl (.int 43)), (5, .inl (.int 512), .inr (.inl 8)), (6, .inr (.inl 8), .inl (.ref 512)), (3, .inr (.inl 33), .inl (.int 0)), (3, .inl (.int 400), .inr (.inl 33)), (6, .inr (.inl 33), .inl (.ref 401))]) jm_ok38 (by decide +kernel) (by decide +kernel) hd F X1 X2 (fun F' hF hs => ?_)
  have b86 := hd_b (F := F) (F' := F') (k := 86) (hF 86 (by decide))
  have b84 := hd_b (F := F) (F' := F') (k := 84) (hF 84 (by decide))
  have b8 := hd_b (F := F) (F' := F') (k := 8) (hF 8 (by decide))
  have b33 := hd_b (F := F) (F' := F') (k := 33) (hF 33 (by decide))
  have t88 : sy_dv F' (.inr (.inl 88)) = .int ((sy_i F 8) + ((1 : Int32))) := hd_o (hs 1 _ rfl) b8 rfl rfl
  have a17 := hd_ba (F := F) (F' := F') (k := 17) (hF 17 (by decide))
  have t87 : sy_da F' (.inr (.inl 87)) = .inl (jm_upd (sy_ai F 17) (sy_i F 8).toNatClampNeg (((-10) : Int32))) := hd_up (hs 0 _ rfl) b8 rfl a17
  have b82 := hd_b (F := F) (F' := F') (k := 82) (hF 82 (by decide))
  have b83 := hd_b (F := F) (F' := F') (k := 83) (hF 83 (by decide))
  have a39 := hd_ba (F := F) (F' := F') (k := 39) (hF 39 (by decide))
  have t89 : sy_dv F' (.inr (.inl 89)) = .int ((sy_ai F 39).getD (sy_i F 33).toNatClampNeg 0) := hd_rd (hs 2 _ rfl) b33 a39
  have b85 := hd_b (F := F) (F' := F') (k := 85) (hF 85 (by decide))
  have t90 : sy_dv F' (.inr (.inl 90)) = .int ((sy_i F 85) + ((1 : Int32))) := hd_o (hs 3 _ rfl) b85 rfl rfl
  have hB' : iv_in F' iv_B0 := iv_in_eq hB (fun j hj => hF j (Nat.lt_of_lt_of_le hj (by decide +kernel)))
  refine ⟨List.forall_mem_cons.mpr ⟨hd_p0 b86 rfl (by have hc : ((0) : Int32).toInt = 0 := (by decide); omega), List.forall_mem_cons.mpr ⟨hd_p0 b84 rfl (by have hc : ((43) : Int32).toInt = 43 := (by decide); omega), List.forall_mem_cons.mpr ⟨hd_p5 rfl b8 (by have hc : ((512) : Int32).toInt = 512 := (by decide); omega), List.forall_mem_cons.mpr ⟨hd_pb b8 (by first | exact h3 | exact h3), List.forall_mem_cons.mpr ⟨hd_p3 b33 rfl (by have hc : ((0) : Int32).toInt = 0 := (by decide); omega), List.forall_mem_cons.mpr ⟨hd_p3 rfl b33 (by have hc : ((400) : Int32).toInt = 400 := (by decide); omega), List.forall_mem_cons.mpr ⟨hd_pb b33 (by first | exact h6 | exact h6), fun _ h => absurd h List.not_mem_nil⟩⟩⟩⟩⟩⟩⟩, ?_⟩
  refine k _ ?_ ?_ ?_ ?_ ?_ ?_ ?_ ?_
  · exact fun j hj hn => (hd_keep hB' (Nat.lt_of_lt_of_le hj (by decide +kernel)) (by simp; omega)).trans (hF j (Nat.lt_of_lt_of_le hj (by decide)))
  · exact hd_gi (x := .inr (.inl 88)) (by decide +kernel) t88
  · exact hd_ga (a := .inr (.inl 87)) (by decide +kernel) t87
  · exact hd_gi (x := .inr (.inl 82)) (by decide +kernel) b82
  · exact hd_gi (x := .inr (.inl 83)) (by decide +kernel) b83
  · exact hd_gi (x := .inl (.int 0)) (by decide +kernel) rfl
  · exact hd_gi (x := .inr (.inl 89)) (by decide +kernel) t89
  · exact hd_gi (x := .inr (.inl 90)) (by decide +kernel) t90
theorem k3ps_64_p4 {Ls : Nat} {xs : Nat → Int32} {d : Nat} {Q : Option Value → jm_h → Prop} (hd : 4 ≤ d) (F : Nat → sy_d) (X1 X2 : List jm_c) (hB : iv_in F iv_B0)
    (h0 : (sy_i F 86).toInt ≠ 0)
    (h1 : (sy_i F 84).toInt ≠ 43)
    (h2 : 512 ≤ (sy_i F 8).toInt)
    (h3 : 0 ≤ (sy_i F 33).toInt)
    (h4 : (sy_i F 33).toInt ≤ 400)
    (h5 : 0 ≤ (sy_i F 33).toInt ∧ (sy_i F 33).toInt < 401)
    (k : ∀ F1 : Nat → sy_d, (∀ j, j < 82 → True → F1 j = F j) → F1 82 = .inl (.int (sy_i F 82)) → F1 83 = .inl (.int (sy_i F 83)) → F1 84 = .inl (.int ((1 : Int32))) → F1 85 = .inl (.int ((sy_ai F 39).getD (sy_i F 33).toNatClampNeg 0)) → F1 86 = .inl (.int ((sy_i F 85) + ((1 : Int32)))) → hd_W Ls xs d jm_M38 Q (23, sy_dL F1 [some (.inl (.ref 30)), some (.inr (.inl 82)), some (.inr (.inl 83)), some (.inr (.inl 84)), some (.inr (.inl 85)), some (.inr (.inl 86))], sy_dS F1 [], sy_dh F1 X1 X2 (iv_H 3), 0, 0)) :
    hd_W Ls xs d jm_M38 Q (64, sy_dL F [some (.inl (.ref 30)), some (.inr (.inl 82)), some (.inr (.inl 83)), none, some (.inr (.inl 84)), some (.inr (.inl 85))], sy_dS F [.inr (.inl 86)], sy_dh F X1 X2 (iv_H 3), 0, 0) := by
  refine hd_run (s := 3) (nv := 87) (pc := 23) (L := [some (.inl (.ref 30)), some (.inr (.inl 82)), some (.inr (.inl 83)), some (.inr (.inl 84)), some (.inr (.inl 85)), some (.inr (.inl 86))]) (S := []) (uh := hd_ov (iv_id 0 iv_B0) []) (ul := [.inl (.inr (.inl 82)), .inl (.inr (.inl 83)), .inl (.inl (.int 1)), .inl (.inr (.inl 87)), .inl (.inr (.inl 88))]) (f := false) (sp := [23]) (d0 := 3) (O := [false, true, true, false, false]) (T := [(30, [.inr (.inl 33)], [.inr (.inl 39)]), (0, [.inr (.inl 85), .inl (.int 1)], [])]) (P := [(1, .inr (.inl 86), .inl (.int 0)), (1, .inr (.inl 84), .inl (.int 43)), (4, .inl (.int 512), .inr (.inl 8)), (3, .inr (.inl 33), .inl (.int 0)), (3, .inl (.int 400), .inr (.inl 33)), (6, .inr (.inl 33), .inl (.ref 401))]) jm_ok38 (by decide +kernel) (by decide +kernel) hd F X1 X2 (fun F' hF hs => ?_)
  have b86 := hd_b (F := F) (F' := F') (k := 86) (hF 86 (by decide))
  have b84 := hd_b (F := F) (F' := F') (k := 84) (hF 84 (by decide))
  have b8 := hd_b (F := F) (F' := F') (k := 8) (hF 8 (by decide))
  have b33 := hd_b (F := F) (F' := F') (k := 33) (hF 33 (by decide))
  have b82 := hd_b (F := F) (F' := F') (k := 82) (hF 82 (by decide))
  have b83 := hd_b (F := F) (F' := F') (k := 83) (hF 83 (by decide))
  have a39 := hd_ba (F := F) (F' := F') (k := 39) (hF 39 (by decide))
  have t87 : sy_dv F' (.inr (.inl 87)) = .int ((sy_ai F 39).getD (sy_i F 33).toNatClampNeg 0) := hd_rd (hs 0 _ rfl) b33 a39
  have b85 := hd_b (F := F) (F' := F') (k := 85) (hF 85 (by decide))
  have t88 : sy_dv F' (.inr (.inl 88)) = .int ((sy_i F 85) + ((1 : Int32))) := hd_o (hs 1 _ rfl) b85 rfl rfl
  have hB' : iv_in F' iv_B0 := iv_in_eq hB (fun j hj => hF j (Nat.lt_of_lt_of_le hj (by decide +kernel)))
  refine ⟨List.forall_mem_cons.mpr ⟨hd_p1 b86 rfl (by have hc : ((0) : Int32).toInt = 0 := (by decide); omega), List.forall_mem_cons.mpr ⟨hd_p1 b84 rfl (by have hc : ((43) : Int32).toInt = 43 := (by decide); omega), List.forall_mem_cons.mpr ⟨hd_p4 rfl b8 (by have hc : ((512) : Int32).toInt = 512 := (by decide); omega), List.forall_mem_cons.mpr ⟨hd_p3 b33 rfl (by have hc : ((0) : Int32).toInt = 0 := (by decide); omega), List.forall_mem_cons.mpr ⟨hd_p3 rfl b33 (by have hc : ((400) : Int32).toInt = 400 := (by decide); omega), List.forall_mem_cons.mpr ⟨hd_pb b33 (by first | exact h5 | exact h5), fun _ h => absurd h List.not_mem_nil⟩⟩⟩⟩⟩⟩, ?_⟩
  refine k _ ?_ ?_ ?_ ?_ ?_ ?_
  · exact fun j hj _ => (hd_keep hB' (Nat.lt_of_lt_of_le hj (by decide +kernel)) (by simp)).trans (hF j (Nat.lt_of_lt_of_le hj (by decide)))
  · exact hd_gi (x := .inr (.inl 82)) (by decide +kernel) b82
  · exact hd_gi (x := .inr (.inl 83)) (by decide +kernel) b83
  · exact hd_gi (x := .inl (.int 1)) (by decide +kernel) rfl
  · exact hd_gi (x := .inr (.inl 87)) (by decide +kernel) t87
  · exact hd_gi (x := .inr (.inl 88)) (by decide +kernel) t88
theorem k3ps_64_p5 {Ls : Nat} {xs : Nat → Int32} {d : Nat} {Q : Option Value → jm_h → Prop} (hd : 4 ≤ d) (F : Nat → sy_d) (X1 X2 : List jm_c) (hB : iv_in F iv_B0)
    (h0 : (sy_i F 86).toInt ≠ 0)
    (h1 : (sy_i F 84).toInt ≠ 43)
    (h2 : (sy_i F 8).toInt < 512)
    (h3 : 0 ≤ (sy_i F 8).toInt ∧ (sy_i F 8).toInt < 512)
    (h4 : 0 ≤ (sy_i F 33).toInt)
    (h5 : (sy_i F 33).toInt ≤ 400)
    (h6 : 0 ≤ (sy_i F 33).toInt ∧ (sy_i F 33).toInt < 401)
    (k : ∀ F1 : Nat → sy_d, (∀ j, j < 82 → j ≠ 8 ∧ j ≠ 17 → F1 j = F j) → F1 8 = .inl (.int ((sy_i F 8) + ((1 : Int32)))) → F1 17 = .inr (.inl (jm_upd (sy_ai F 17) (sy_i F 8).toNatClampNeg (((-11) : Int32)))) → F1 82 = .inl (.int (sy_i F 82)) → F1 83 = .inl (.int (sy_i F 83)) → F1 84 = .inl (.int ((1 : Int32))) → F1 85 = .inl (.int ((sy_ai F 39).getD (sy_i F 33).toNatClampNeg 0)) → F1 86 = .inl (.int ((sy_i F 85) + ((1 : Int32)))) → hd_W Ls xs d jm_M38 Q (23, sy_dL F1 [some (.inl (.ref 30)), some (.inr (.inl 82)), some (.inr (.inl 83)), some (.inr (.inl 84)), some (.inr (.inl 85)), some (.inr (.inl 86))], sy_dS F1 [], sy_dh F1 X1 X2 (iv_H 3), 0, 0)) :
    hd_W Ls xs d jm_M38 Q (64, sy_dL F [some (.inl (.ref 30)), some (.inr (.inl 82)), some (.inr (.inl 83)), none, some (.inr (.inl 84)), some (.inr (.inl 85))], sy_dS F [.inr (.inl 86)], sy_dh F X1 X2 (iv_H 3), 0, 0) := by
  refine hd_run (s := 3) (nv := 87) (pc := 23) (L := [some (.inl (.ref 30)), some (.inr (.inl 82)), some (.inr (.inl 83)), some (.inr (.inl 84)), some (.inr (.inl 85)), some (.inr (.inl 86))]) (S := []) (uh := hd_ov (iv_id 0 iv_B0) [(8, .inl (.inr (.inl 88))), (17, .inr (.inr (.inl 87)))]) (ul := [.inl (.inr (.inl 82)), .inl (.inr (.inl 83)), .inl (.inl (.int 1)), .inl (.inr (.inl 89)), .inl (.inr (.inl 90))]) (f := false) (sp := [23]) (d0 := 3) (O := [false, true, false, false, false]) (T := [(40, [.inr (.inl 8), .inl (.int (-11))], [.inr (.inl 17)]), (0, [.inr (.inl 8), .inl (.int 1)], []), (30, [.inr (.inl 33)], [.inr (.inl 39)]), (0, [.inr (.inl 85), .inl (.int 1)], [])]) (P := [(1, .inr (.inl 86), .inl (.int 0)), (1, .inr (.inl 84), .inl (.int 43)), (5, .inl (.int 512), .inr (.inl 8)), (6, .inr (.inl 8), .inl (.ref 512)), (3, .inr (.inl 33), .inl (.int 0)), (3, .inl (.int 400), .inr (.inl 33)), (6, .inr (.inl 33), .inl (.ref 401))]) jm_ok38 (by decide +kernel) (by decide +kernel) hd F X1 X2 (fun F' hF hs => ?_)
  have b86 := hd_b (F := F) (F' := F') (k := 86) (hF 86 (by decide))
  have b84 := hd_b (F := F) (F' := F') (k := 84) (hF 84 (by decide))
  have b8 := hd_b (F := F) (F' := F') (k := 8) (hF 8 (by decide))
  have b33 := hd_b (F := F) (F' := F') (k := 33) (hF 33 (by decide))
  have t88 : sy_dv F' (.inr (.inl 88)) = .int ((sy_i F 8) + ((1 : Int32))) := hd_o (hs 1 _ rfl) b8 rfl rfl
  have a17 := hd_ba (F := F) (F' := F') (k := 17) (hF 17 (by decide))
  have t87 : sy_da F' (.inr (.inl 87)) = .inl (jm_upd (sy_ai F 17) (sy_i F 8).toNatClampNeg (((-11) : Int32))) := hd_up (hs 0 _ rfl) b8 rfl a17
  have b82 := hd_b (F := F) (F' := F') (k := 82) (hF 82 (by decide))
  have b83 := hd_b (F := F) (F' := F') (k := 83) (hF 83 (by decide))
  have a39 := hd_ba (F := F) (F' := F') (k := 39) (hF 39 (by decide))
  have t89 : sy_dv F' (.inr (.inl 89)) = .int ((sy_ai F 39).getD (sy_i F 33).toNatClampNeg 0) := hd_rd (hs 2 _ rfl) b33 a39
  have b85 := hd_b (F := F) (F' := F') (k := 85) (hF 85 (by decide))
  have t90 : sy_dv F' (.inr (.inl 90)) = .int ((sy_i F 85) + ((1 : Int32))) := hd_o (hs 3 _ rfl) b85 rfl rfl
  have hB' : iv_in F' iv_B0 := iv_in_eq hB (fun j hj => hF j (Nat.lt_of_lt_of_le hj (by decide +kernel)))
  refine ⟨List.forall_mem_cons.mpr ⟨hd_p1 b86 rfl (by have hc : ((0) : Int32).toInt = 0 := (by decide); omega), List.forall_mem_cons.mpr ⟨hd_p1 b84 rfl (by have hc : ((43) : Int32).toInt = 43 := (by decide); omega), List.forall_mem_cons.mpr ⟨hd_p5 rfl b8 (by have hc : ((512) : Int32).toInt = 512 := (by decide); omega), List.forall_mem_cons.mpr ⟨hd_pb b8 (by first | exact h3 | exact h3), List.forall_mem_cons.mpr ⟨hd_p3 b33 rfl (by have hc : ((0) : Int32).toInt = 0 := (by decide); omega), List.forall_mem_cons.mpr ⟨hd_p3 rfl b33 (by have hc : ((400) : Int32).toInt = 400 := (by decide); omega), List.forall_mem_cons.mpr ⟨hd_pb b33 (by first | exact h6 | exact h6), fun _ h => absurd h List.not_mem_nil⟩⟩⟩⟩⟩⟩⟩, ?_⟩
  refine k _ ?_ ?_ ?_ ?_ ?_ ?_ ?_ ?_
  · exact fun j hj hn => (hd_keep hB' (Nat.lt_of_lt_of_le hj (by decide +kernel)) (by simp; omega)).trans (hF j (Nat.lt_of_lt_of_le hj (by decide)))
  · exact hd_gi (x := .inr (.inl 88)) (by decide +kernel) t88
  · exact hd_ga (a := .inr (.inl 87)) (by decide +kernel) t87
  · exact hd_gi (x := .inr (.inl 82)) (by decide +kernel) b82
  · exact hd_gi (x := .inr (.inl 83)) (by decide +kernel) b83
  · exact hd_gi (x := .inl (.int 1)) (by decide +kernel) rfl
  · exact hd_gi (x := .inr (.inl 89)) (by decide +kernel) t89
  · exact hd_gi (x := .inr (.inl 90)) (by decide +kernel) t90
theorem k3ps_64_p6 {Ls : Nat} {xs : Nat → Int32} {d : Nat} {Q : Option Value → jm_h → Prop} (hd : 4 ≤ d) (F : Nat → sy_d) (X1 X2 : List jm_c) (hB : iv_in F iv_B0)
    (h0 : (sy_i F 86).toInt ≠ 0)
    (h1 : (sy_i F 84).toInt = 43)
    (h2 : 512 ≤ (sy_i F 8).toInt)
    (h3 : 0 ≤ (sy_i F 33).toInt)
    (h4 : (sy_i F 33).toInt ≤ 400)
    (h5 : 0 ≤ (sy_i F 33).toInt ∧ (sy_i F 33).toInt < 401)
    (k : ∀ F1 : Nat → sy_d, (∀ j, j < 82 → True → F1 j = F j) → F1 82 = .inl (.int (sy_i F 82)) → F1 83 = .inl (.int (sy_i F 83)) → F1 84 = .inl (.int ((1 : Int32))) → F1 85 = .inl (.int ((sy_ai F 39).getD (sy_i F 33).toNatClampNeg 0)) → F1 86 = .inl (.int ((sy_i F 85) + ((1 : Int32)))) → hd_W Ls xs d jm_M38 Q (23, sy_dL F1 [some (.inl (.ref 30)), some (.inr (.inl 82)), some (.inr (.inl 83)), some (.inr (.inl 84)), some (.inr (.inl 85)), some (.inr (.inl 86))], sy_dS F1 [], sy_dh F1 X1 X2 (iv_H 3), 0, 0)) :
    hd_W Ls xs d jm_M38 Q (64, sy_dL F [some (.inl (.ref 30)), some (.inr (.inl 82)), some (.inr (.inl 83)), none, some (.inr (.inl 84)), some (.inr (.inl 85))], sy_dS F [.inr (.inl 86)], sy_dh F X1 X2 (iv_H 3), 0, 0) := by
  refine hd_run (s := 3) (nv := 87) (pc := 23) (L := [some (.inl (.ref 30)), some (.inr (.inl 82)), some (.inr (.inl 83)), some (.inr (.inl 84)), some (.inr (.inl 85)), some (.inr (.inl 86))]) (S := []) (uh := hd_ov (iv_id 0 iv_B0) []) (ul := [.inl (.inr (.inl 82)), .inl (.inr (.inl 83)), .inl (.inl (.int 1)), .inl (.inr (.inl 87)), .inl (.inr (.inl 88))]) (f := false) (sp := [23]) (d0 := 3) (O := [false, false, true, false, false]) (T := [(30, [.inr (.inl 33)], [.inr (.inl 39)]), (0, [.inr (.inl 85), .inl (.int 1)], [])]) (P := [(1, .inr (.inl 86), .inl (.int 0)), (0, .inr (.inl 84), .inl (.int 43)), (4, .inl (.int 512), .inr (.inl 8)), (3, .inr (.inl 33), .inl (.int 0)), (3, .inl (.int 400), .inr (.inl 33)), (6, .inr (.inl 33), .inl (.ref 401))]) jm_ok38 (by decide +kernel) (by decide +kernel) hd F X1 X2 (fun F' hF hs => ?_)
  have b86 := hd_b (F := F) (F' := F') (k := 86) (hF 86 (by decide))
  have b84 := hd_b (F := F) (F' := F') (k := 84) (hF 84 (by decide))
  have b8 := hd_b (F := F) (F' := F') (k := 8) (hF 8 (by decide))
  have b33 := hd_b (F := F) (F' := F') (k := 33) (hF 33 (by decide))
  have b82 := hd_b (F := F) (F' := F') (k := 82) (hF 82 (by decide))
  have b83 := hd_b (F := F) (F' := F') (k := 83) (hF 83 (by decide))
  have a39 := hd_ba (F := F) (F' := F') (k := 39) (hF 39 (by decide))
  have t87 : sy_dv F' (.inr (.inl 87)) = .int ((sy_ai F 39).getD (sy_i F 33).toNatClampNeg 0) := hd_rd (hs 0 _ rfl) b33 a39
  have b85 := hd_b (F := F) (F' := F') (k := 85) (hF 85 (by decide))
  have t88 : sy_dv F' (.inr (.inl 88)) = .int ((sy_i F 85) + ((1 : Int32))) := hd_o (hs 1 _ rfl) b85 rfl rfl
  have hB' : iv_in F' iv_B0 := iv_in_eq hB (fun j hj => hF j (Nat.lt_of_lt_of_le hj (by decide +kernel)))
  refine ⟨List.forall_mem_cons.mpr ⟨hd_p1 b86 rfl (by have hc : ((0) : Int32).toInt = 0 := (by decide); omega), List.forall_mem_cons.mpr ⟨hd_p0 b84 rfl (by have hc : ((43) : Int32).toInt = 43 := (by decide); omega), List.forall_mem_cons.mpr ⟨hd_p4 rfl b8 (by have hc : ((512) : Int32).toInt = 512 := (by decide); omega), List.forall_mem_cons.mpr ⟨hd_p3 b33 rfl (by have hc : ((0) : Int32).toInt = 0 := (by decide); omega), List.forall_mem_cons.mpr ⟨hd_p3 rfl b33 (by have hc : ((400) : Int32).toInt = 400 := (by decide); omega), List.forall_mem_cons.mpr ⟨hd_pb b33 (by first | exact h5 | exact h5), fun _ h => absurd h List.not_mem_nil⟩⟩⟩⟩⟩⟩, ?_⟩
  refine k _ ?_ ?_ ?_ ?_ ?_ ?_
  · exact fun j hj _ => (hd_keep hB' (Nat.lt_of_lt_of_le hj (by decide +kernel)) (by simp)).trans (hF j (Nat.lt_of_lt_of_le hj (by decide)))
  · exact hd_gi (x := .inr (.inl 82)) (by decide +kernel) b82
  · exact hd_gi (x := .inr (.inl 83)) (by decide +kernel) b83
  · exact hd_gi (x := .inl (.int 1)) (by decide +kernel) rfl
  · exact hd_gi (x := .inr (.inl 87)) (by decide +kernel) t87
  · exact hd_gi (x := .inr (.inl 88)) (by decide +kernel) t88
theorem k3ps_64_p7 {Ls : Nat} {xs : Nat → Int32} {d : Nat} {Q : Option Value → jm_h → Prop} (hd : 4 ≤ d) (F : Nat → sy_d) (X1 X2 : List jm_c) (hB : iv_in F iv_B0)
    (h0 : (sy_i F 86).toInt ≠ 0)
    (h1 : (sy_i F 84).toInt = 43)
    (h2 : (sy_i F 8).toInt < 512)
    (h3 : 0 ≤ (sy_i F 8).toInt ∧ (sy_i F 8).toInt < 512)
    (h4 : 0 ≤ (sy_i F 33).toInt)
    (h5 : (sy_i F 33).toInt ≤ 400)
    (h6 : 0 ≤ (sy_i F 33).toInt ∧ (sy_i F 33).toInt < 401)
    (k : ∀ F1 : Nat → sy_d, (∀ j, j < 82 → j ≠ 8 ∧ j ≠ 17 → F1 j = F j) → F1 8 = .inl (.int ((sy_i F 8) + ((1 : Int32)))) → F1 17 = .inr (.inl (jm_upd (sy_ai F 17) (sy_i F 8).toNatClampNeg (((-10) : Int32)))) → F1 82 = .inl (.int (sy_i F 82)) → F1 83 = .inl (.int (sy_i F 83)) → F1 84 = .inl (.int ((1 : Int32))) → F1 85 = .inl (.int ((sy_ai F 39).getD (sy_i F 33).toNatClampNeg 0)) → F1 86 = .inl (.int ((sy_i F 85) + ((1 : Int32)))) → hd_W Ls xs d jm_M38 Q (23, sy_dL F1 [some (.inl (.ref 30)), some (.inr (.inl 82)), some (.inr (.inl 83)), some (.inr (.inl 84)), some (.inr (.inl 85)), some (.inr (.inl 86))], sy_dS F1 [], sy_dh F1 X1 X2 (iv_H 3), 0, 0)) :
    hd_W Ls xs d jm_M38 Q (64, sy_dL F [some (.inl (.ref 30)), some (.inr (.inl 82)), some (.inr (.inl 83)), none, some (.inr (.inl 84)), some (.inr (.inl 85))], sy_dS F [.inr (.inl 86)], sy_dh F X1 X2 (iv_H 3), 0, 0) := by
  refine hd_run (s := 3) (nv := 87) (pc := 23) (L := [some (.inl (.ref 30)), some (.inr (.inl 82)), some (.inr (.inl 83)), some (.inr (.inl 84)), some (.inr (.inl 85)), some (.inr (.inl 86))]) (S := []) (uh := hd_ov (iv_id 0 iv_B0) [(8, .inl (.inr (.inl 88))), (17, .inr (.inr (.inl 87)))]) (ul := [.inl (.inr (.inl 82)), .inl (.inr (.inl 83)), .inl (.inl (.int 1)), .inl (.inr (.inl 89)), .inl (.inr (.inl 90))]) (f := false) (sp := [23]) (d0 := 3) (O := [false, false, false, false, false]) (T := [(40, [.inr (.inl 8), .inl (.int (-10))], [.inr (.inl 17)]), (0, [.inr (.inl 8), .inl (.int 1)], []), (30, [.inr (.inl 33)], [.inr (.inl 39)]), (0, [.inr (.inl 85), .inl (.int 1)], [])]) (P := [(1, .inr (.inl 86), .inl (.int 0)), (0, .inr (.inl 84), .inl (.int 43)), (5, .inl (.int 512), .inr (.inl 8)), (6, .inr (.inl 8), .inl (.ref 512)), (3, .inr (.inl 33), .inl (.int 0)), (3, .inl (.int 400), .inr (.inl 33)), (6, .inr (.inl 33), .inl (.ref 401))]) jm_ok38 (by decide +kernel) (by decide +kernel) hd F X1 X2 (fun F' hF hs => ?_)
  have b86 := hd_b (F := F) (F' := F') (k := 86) (hF 86 (by decide))
  have b84 := hd_b (F := F) (F' := F') (k := 84) (hF 84 (by decide))
  have b8 := hd_b (F := F) (F' := F') (k := 8) (hF 8 (by decide))
  have b33 := hd_b (F := F) (F' := F') (k := 33) (hF 33 (by decide))
  have t88 : sy_dv F' (.inr (.inl 88)) = .int ((sy_i F 8) + ((1 : Int32))) := hd_o (hs 1 _ rfl) b8 rfl rfl
  have a17 := hd_ba (F := F) (F' := F') (k := 17) (hF 17 (by decide))
  have t87 : sy_da F' (.inr (.inl 87)) = .inl (jm_upd (sy_ai F 17) (sy_i F 8).toNatClampNeg (((-10) : Int32))) := hd_up (hs 0 _ rfl) b8 rfl a17
  have b82 := hd_b (F := F) (F' := F') (k := 82) (hF 82 (by decide))
  have b83 := hd_b (F := F) (F' := F') (k := 83) (hF 83 (by decide))
  have a39 := hd_ba (F := F) (F' := F') (k := 39) (hF 39 (by decide))
  have t89 : sy_dv F' (.inr (.inl 89)) = .int ((sy_ai F 39).getD (sy_i F 33).toNatClampNeg 0) := hd_rd (hs 2 _ rfl) b33 a39
  have b85 := hd_b (F := F) (F' := F') (k := 85) (hF 85 (by decide))
  have t90 : sy_dv F' (.inr (.inl 90)) = .int ((sy_i F 85) + ((1 : Int32))) := hd_o (hs 3 _ rfl) b85 rfl rfl
  have hB' : iv_in F' iv_B0 := iv_in_eq hB (fun j hj => hF j (Nat.lt_of_lt_of_le hj (by decide +kernel)))
  refine ⟨List.forall_mem_cons.mpr ⟨hd_p1 b86 rfl (by have hc : ((0) : Int32).toInt = 0 := (by decide); omega), List.forall_mem_cons.mpr ⟨hd_p0 b84 rfl (by have hc : ((43) : Int32).toInt = 43 := (by decide); omega), List.forall_mem_cons.mpr ⟨hd_p5 rfl b8 (by have hc : ((512) : Int32).toInt = 512 := (by decide); omega), List.forall_mem_cons.mpr ⟨hd_pb b8 (by first | exact h3 | exact h3), List.forall_mem_cons.mpr ⟨hd_p3 b33 rfl (by have hc : ((0) : Int32).toInt = 0 := (by decide); omega), List.forall_mem_cons.mpr ⟨hd_p3 rfl b33 (by have hc : ((400) : Int32).toInt = 400 := (by decide); omega), List.forall_mem_cons.mpr ⟨hd_pb b33 (by first | exact h6 | exact h6), fun _ h => absurd h List.not_mem_nil⟩⟩⟩⟩⟩⟩⟩, ?_⟩
  refine k _ ?_ ?_ ?_ ?_ ?_ ?_ ?_ ?_
  · exact fun j hj hn => (hd_keep hB' (Nat.lt_of_lt_of_le hj (by decide +kernel)) (by simp; omega)).trans (hF j (Nat.lt_of_lt_of_le hj (by decide)))
  · exact hd_gi (x := .inr (.inl 88)) (by decide +kernel) t88
  · exact hd_ga (a := .inr (.inl 87)) (by decide +kernel) t87
  · exact hd_gi (x := .inr (.inl 82)) (by decide +kernel) b82
  · exact hd_gi (x := .inr (.inl 83)) (by decide +kernel) b83
  · exact hd_gi (x := .inl (.int 1)) (by decide +kernel) rfl
  · exact hd_gi (x := .inr (.inl 89)) (by decide +kernel) t89
  · exact hd_gi (x := .inr (.inl 90)) (by decide +kernel) t90
end
section
/-! ===== the class parses expressions ===== -/
noncomputable def pR (W : List Nat) (E : Int → Prop) (d : Nat) (x : Int32) (F F' : Nat → sy_d) : Prop := gc W F F' ∧ tg F ≤ tg F' ∧ ((x = 0 ∧ eX (kg F) (tg F) d 0 = .inl ((sy_i F' 34).toInt, tg F')) ∨ (x = 1 ∧ eX (kg F) (tg F) d 0 = eX (kg F) (tg F') d 1 ∧ tg F < tg F' ∧ ¬ E (kg F (tg F'))))
theorem pR_src {W : List Nat} {E : Int → Prop} {d : Nat} {x : Int32} {F F0 F' : Nat → sy_d} (h : pR W E d x F0 F') (e : ∀ q, q < 82 → F0 q = F q) : pR W E d x F F' := by
  obtain ⟨h1, h2⟩ := h
  rw [kg_eq (e 39 (by decide)), tg_eq (nz_fi (e 33 (by decide)))] at h2
  exact ⟨h1.src e, h2.1, h2.2⟩
theorem pR_dst {W : List Nat} {E : Int → Prop} {d : Nat} {x : Int32} {F F' F2 : Nat → sy_d} (h : pR W E d x F F') (e : ∀ q, q < 82 → F2 q = F' q) : pR W E d x F F2 := by
  have i33 := nz_fi (e 33 (by decide))
  refine ⟨h.1.dst e, ?_⟩
  rw [nz_fi (e 34 (by decide)), tg_eq i33]
  exact h.2
def E0 : Int → Prop := fun _ => False
def E1 : Int → Prop := fun k => k = 10 ∨ k = 15
def E2 : Int → Prop := fun k => k = 8 ∨ k = 9 ∨ k = 10 ∨ k = 15
theorem jx_i32 {F : Nat → sy_d} (hJ : jx_ok F) {j : Nat} (h : ((sy_ai F 39).getD j 0).toInt = 24) : 0 ≤ (((sy_al F 41).getD j 0).toInt32).toInt ∧ (((sy_al F 41).getD j 0).toInt32).toInt ≤ 9999 := by
  obtain ⟨a, b⟩ := hJ j (Int32.toInt_inj.mp (by rw [h]; decide))
  rw [Int64.toInt_toInt32]
  have : ((sy_al F 41).getD j 0).toInt.bmod (2 ^ 32) = ((sy_al F 41).getD j 0).toInt := Int.bmod_eq_of_le (by omega) (by omega)
  rw [this]
  exact ⟨a, b⟩
noncomputable def k0_W : List Nat := [33, 34, 23, 32]
section P0
variable {Ls : Nat} {xs : Nat → Int32} (X1 X2 : List jm_c)
noncomputable def k0uT (Ls : Nat) (xs : Nat → Int32) (X1 X2 : List jm_c) (m : Nat) : Prop := ∀ (F : Nat → sy_d) (a b : Int32), iv_in F iv_B0 → jx_ok F → 0 ≤ a.toInt → a.toInt ≤ 5 → b.toInt = 6 - m → jm_T Ls xs (4 + 3 * m) jm_M40 [.ref 30, .int a, .int b] (sy_dh F X1 X2 (iv_H 0)) 0 0 (fun v G => ∃ (x : Int32) (F' : Nat → sy_d), v = some (.int x) ∧ G = sy_dh F' X1 X2 (iv_H 0) ∧ pR k0_W E0 b.toInt.toNat x F F')
noncomputable def k0pT (Ls : Nat) (xs : Nat → Int32) (X1 X2 : List jm_c) (m : Nat) : Prop := ∀ (F : Nat → sy_d) (a b : Int32), iv_in F iv_B0 → jx_ok F → 0 ≤ a.toInt → a.toInt ≤ 5 → b.toInt = 6 - m → jm_T Ls xs (5 + 3 * m) jm_M39 [.ref 30, .int a, .int b] (sy_dh F X1 X2 (iv_H 0)) 0 0 (fun v G => ∃ (x : Int32) (F' : Nat → sy_d), v = some (.int x) ∧ G = sy_dh F' X1 X2 (iv_H 0) ∧ pR k0_W E1 b.toInt.toNat x F F')
noncomputable def k0sT (Ls : Nat) (xs : Nat → Int32) (X1 X2 : List jm_c) (m : Nat) : Prop := ∀ (F : Nat → sy_d) (a b : Int32), iv_in F iv_B0 → jx_ok F → 0 ≤ a.toInt → a.toInt ≤ 5 → b.toInt = 6 - m → jm_T Ls xs (6 + 3 * m) jm_M38 [.ref 30, .int a, .int b] (sy_dh F X1 X2 (iv_H 0)) 0 0 (fun v G => ∃ (x : Int32) (F' : Nat → sy_d), v = some (.int x) ∧ G = sy_dh F' X1 X2 (iv_H 0) ∧ pR k0_W E2 b.toInt.toNat x F F')
/-- at the loop's head -/
noncomputable def k0ppI (F0 F : Nat → sy_d) (d : Nat) : Prop := gc k0_W F0 F ∧ (sy_i F 82).toInt = (sy_i F0 82).toInt ∧ (sy_i F 83).toInt = (sy_i F0 83).toInt ∧ (sy_i F 85).toInt = ((sy_ai F 39).getD (sy_i F 33).toInt.toNat 0).toInt ∧ 0 ≤ (sy_i F 86).toInt ∧ ((sy_i F 84 = 0 ∧ (sy_i F 86).toInt + tg F0 ≤ tg F ∧ eX (kg F0) (tg F0) d 0 = .inl ((sy_i F 34).toInt, tg F)) ∨ (sy_i F 84 = 1 ∧ (sy_i F 86).toInt + 1 + tg F0 ≤ tg F ∧ eX (kg F0) (tg F0) d 0 = eX (kg F0) (tg F) d 1 ∧ ¬ E0 (kg F0 (tg F))))
/-- at the loop's head -/
noncomputable def k0psI (F0 F : Nat → sy_d) (d : Nat) : Prop := gc k0_W F0 F ∧ (sy_i F 82).toInt = (sy_i F0 82).toInt ∧ (sy_i F 83).toInt = (sy_i F0 83).toInt ∧ (sy_i F 85).toInt = ((sy_ai F 39).getD (sy_i F 33).toInt.toNat 0).toInt ∧ 0 ≤ (sy_i F 86).toInt ∧ ((sy_i F 84 = 0 ∧ (sy_i F 86).toInt + tg F0 ≤ tg F ∧ eX (kg F0) (tg F0) d 0 = .inl ((sy_i F 34).toInt, tg F)) ∨ (sy_i F 84 = 1 ∧ (sy_i F 86).toInt + 1 + tg F0 ≤ tg F ∧ eX (kg F0) (tg F0) d 0 = eX (kg F0) (tg F) d 1 ∧ ¬ E1 (kg F0 (tg F))))
end P0
noncomputable def k3_W : List Nat := [33, 34, 8, 17]
section P3
variable {Ls : Nat} {xs : Nat → Int32} (X1 X2 : List jm_c)
noncomputable def k3uT (Ls : Nat) (xs : Nat → Int32) (X1 X2 : List jm_c) (m : Nat) : Prop := ∀ (F : Nat → sy_d) (a b : Int32), iv_in F iv_B0 → jx_ok F → 0 ≤ a.toInt → a.toInt ≤ 5 → b.toInt = 6 - m → jm_T Ls xs (4 + 3 * m) jm_M40 [.ref 30, .int a, .int b] (sy_dh F X1 X2 (iv_H 3)) 0 0 (fun v G => ∃ (x : Int32) (F' : Nat → sy_d), v = some (.int x) ∧ G = sy_dh F' X1 X2 (iv_H 3) ∧ pR k3_W E0 b.toInt.toNat x F F')
noncomputable def k3pT (Ls : Nat) (xs : Nat → Int32) (X1 X2 : List jm_c) (m : Nat) : Prop := ∀ (F : Nat → sy_d) (a b : Int32), iv_in F iv_B0 → jx_ok F → 0 ≤ a.toInt → a.toInt ≤ 5 → b.toInt = 6 - m → jm_T Ls xs (5 + 3 * m) jm_M39 [.ref 30, .int a, .int b] (sy_dh F X1 X2 (iv_H 3)) 0 0 (fun v G => ∃ (x : Int32) (F' : Nat → sy_d), v = some (.int x) ∧ G = sy_dh F' X1 X2 (iv_H 3) ∧ pR k3_W E1 b.toInt.toNat x F F')
noncomputable def k3sT (Ls : Nat) (xs : Nat → Int32) (X1 X2 : List jm_c) (m : Nat) : Prop := ∀ (F : Nat → sy_d) (a b : Int32), iv_in F iv_B0 → jx_ok F → 0 ≤ a.toInt → a.toInt ≤ 5 → b.toInt = 6 - m → jm_T Ls xs (6 + 3 * m) jm_M38 [.ref 30, .int a, .int b] (sy_dh F X1 X2 (iv_H 3)) 0 0 (fun v G => ∃ (x : Int32) (F' : Nat → sy_d), v = some (.int x) ∧ G = sy_dh F' X1 X2 (iv_H 3) ∧ pR k3_W E2 b.toInt.toNat x F F')
/-- at the loop's head -/
noncomputable def k3ppI (F0 F : Nat → sy_d) (d : Nat) : Prop := gc k3_W F0 F ∧ (sy_i F 82).toInt = (sy_i F0 82).toInt ∧ (sy_i F 83).toInt = (sy_i F0 83).toInt ∧ (sy_i F 85).toInt = ((sy_ai F 39).getD (sy_i F 33).toInt.toNat 0).toInt ∧ 0 ≤ (sy_i F 86).toInt ∧ ((sy_i F 84 = 0 ∧ (sy_i F 86).toInt + tg F0 ≤ tg F ∧ eX (kg F0) (tg F0) d 0 = .inl ((sy_i F 34).toInt, tg F)) ∨ (sy_i F 84 = 1 ∧ (sy_i F 86).toInt + 1 + tg F0 ≤ tg F ∧ eX (kg F0) (tg F0) d 0 = eX (kg F0) (tg F) d 1 ∧ ¬ E0 (kg F0 (tg F))))
/-- at the loop's head -/
noncomputable def k3psI (F0 F : Nat → sy_d) (d : Nat) : Prop := gc k3_W F0 F ∧ (sy_i F 82).toInt = (sy_i F0 82).toInt ∧ (sy_i F 83).toInt = (sy_i F0 83).toInt ∧ (sy_i F 85).toInt = ((sy_ai F 39).getD (sy_i F 33).toInt.toNat 0).toInt ∧ 0 ≤ (sy_i F 86).toInt ∧ ((sy_i F 84 = 0 ∧ (sy_i F 86).toInt + tg F0 ≤ tg F ∧ eX (kg F0) (tg F0) d 0 = .inl ((sy_i F 34).toInt, tg F)) ∨ (sy_i F 84 = 1 ∧ (sy_i F 86).toInt + 1 + tg F0 ≤ tg F ∧ eX (kg F0) (tg F0) d 0 = eX (kg F0) (tg F) d 1 ∧ ¬ E1 (kg F0 (tg F))))
end P3
end
section
/-! ===== the class parses laws, way by way (shape 0) ===== -/
theorem k0pi_0_p0 {Ls : Nat} {xs : Nat → Int32} {d : Nat} {Q : Option Value → jm_h → Prop} (hd : 4 ≤ d) (F : Nat → sy_d) (X1 X2 : List jm_c) (hB : iv_in F iv_B0)
    (k : ∀ F1 : Nat → sy_d, (∀ j, j < 82 → True → F1 j = F j) → F1 82 = .inl (.int (sy_i F 82)) → hd_W Ls xs d jm_M37 Q (3, sy_dL F1 [some (.inl (.ref 30)), some (.inr (.inl 82)), none, none], sy_dS F1 [.inl (.int 11), .inl (.ref 30)], sy_dh F1 X1 X2 (iv_H 0), 0, 0)) :
    hd_W Ls xs d jm_M37 Q (0, sy_dL F [some (.inl (.ref 30)), some (.inr (.inl 82)), none, none], sy_dS F [], sy_dh F X1 X2 (iv_H 0), 0, 0) := by
  refine hd_run (s := 0) (nv := 83) (pc := 3) (L := [some (.inl (.ref 30)), some (.inr (.inl 82)), none, none]) (S := [.inl (.int 11), .inl (.ref 30)]) (uh := hd_ov (iv_id 0 iv_B0) []) (ul := [.inl (.inr (.inl 82))]) (f := true) (sp := [3]) (d0 := 3) (O := []) (T := []) (P := []) jm_ok37 (by decide +kernel) (by decide +kernel) hd F X1 X2 (fun F' hF hs => ?_)
  have b82 := hd_b (F := F) (F' := F') (k := 82) (hF 82 (by decide))
  have hB' : iv_in F' iv_B0 := iv_in_eq hB (fun j hj => hF j (Nat.lt_of_lt_of_le hj (by decide +kernel)))
  refine ⟨fun _ h => absurd h List.not_mem_nil, ?_⟩
  refine k _ ?_ ?_
  · exact fun j hj _ => (hd_keep hB' (Nat.lt_of_lt_of_le hj (by decide +kernel)) (by simp)).trans (hF j (Nat.lt_of_lt_of_le hj (by decide)))
  · exact hd_gi (x := .inr (.inl 82)) (by decide +kernel) b82
theorem k0pi_6_p0 {Ls : Nat} {xs : Nat → Int32} {d : Nat} {Q : Option Value → jm_h → Prop} (hd : 4 ≤ d) (F : Nat → sy_d) (X1 X2 : List jm_c) (hB : iv_in F iv_B0)
    (h0 : (sy_i F 83).toInt = 0)
    (k : ∀ F1 : Nat → sy_d, (∀ j, j < 82 → True → F1 j = F j) → Q (some (.int ((0 : Int32)))) (sy_dh F1 X1 X2 (iv_H 0))) :
    hd_W Ls xs d jm_M37 Q (6, sy_dL F [some (.inl (.ref 30)), some (.inr (.inl 82)), none, none], sy_dS F [.inr (.inl 83)], sy_dh F X1 X2 (iv_H 0), 0, 0) := by
  refine hd_ret (s := 0) (nv := 84) (v := some (.inl (.int 0))) (uh := hd_ov (iv_id 0 iv_B0) []) (f := false) (sp := [12]) (d0 := 3) (O := [true]) (T := []) (P := [(0, .inr (.inl 83), .inl (.int 0))]) jm_ok37 (by decide +kernel) (by decide +kernel) hd F X1 X2 (fun F' hF hs => ?_)
  have b83 := hd_b (F := F) (F' := F') (k := 83) (hF 83 (by decide))
  have hB' : iv_in F' iv_B0 := iv_in_eq hB (fun j hj => hF j (Nat.lt_of_lt_of_le hj (by decide +kernel)))
  refine ⟨List.forall_mem_cons.mpr ⟨hd_p0 b83 rfl (by have hc : ((0) : Int32).toInt = 0 := (by decide); omega), fun _ h => absurd h List.not_mem_nil⟩, ?_⟩
  refine k _ ?_
  · exact fun j hj _ => (hd_keep hB' (Nat.lt_of_lt_of_le hj (by decide +kernel)) (by simp)).trans (hF j (Nat.lt_of_lt_of_le hj (by decide)))
theorem k0pi_6_p1 {Ls : Nat} {xs : Nat → Int32} {d : Nat} {Q : Option Value → jm_h → Prop} (hd : 4 ≤ d) (F : Nat → sy_d) (X1 X2 : List jm_c) (hB : iv_in F iv_B0)
    (h0 : (sy_i F 83).toInt ≠ 0)
    (k : ∀ F1 : Nat → sy_d, (∀ j, j < 82 → True → F1 j = F j) → F1 82 = .inl (.int (sy_i F 82)) → hd_W Ls xs d jm_M37 Q (12, sy_dL F1 [some (.inl (.ref 30)), some (.inr (.inl 82)), none, none], sy_dS F1 [.inl (.int 0), .inr (.inl 82), .inl (.ref 30)], sy_dh F1 X1 X2 (iv_H 0), 0, 0)) :
    hd_W Ls xs d jm_M37 Q (6, sy_dL F [some (.inl (.ref 30)), some (.inr (.inl 82)), none, none], sy_dS F [.inr (.inl 83)], sy_dh F X1 X2 (iv_H 0), 0, 0) := by
  refine hd_run (s := 0) (nv := 84) (pc := 12) (L := [some (.inl (.ref 30)), some (.inr (.inl 82)), none, none]) (S := [.inl (.int 0), .inr (.inl 82), .inl (.ref 30)]) (uh := hd_ov (iv_id 0 iv_B0) []) (ul := [.inl (.inr (.inl 82))]) (f := false) (sp := [12]) (d0 := 3) (O := [false]) (T := []) (P := [(1, .inr (.inl 83), .inl (.int 0))]) jm_ok37 (by decide +kernel) (by decide +kernel) hd F X1 X2 (fun F' hF hs => ?_)
  have b83 := hd_b (F := F) (F' := F') (k := 83) (hF 83 (by decide))
  have b82 := hd_b (F := F) (F' := F') (k := 82) (hF 82 (by decide))
  have hB' : iv_in F' iv_B0 := iv_in_eq hB (fun j hj => hF j (Nat.lt_of_lt_of_le hj (by decide +kernel)))
  refine ⟨List.forall_mem_cons.mpr ⟨hd_p1 b83 rfl (by have hc : ((0) : Int32).toInt = 0 := (by decide); omega), fun _ h => absurd h List.not_mem_nil⟩, ?_⟩
  refine k _ ?_ ?_
  · exact fun j hj _ => (hd_keep hB' (Nat.lt_of_lt_of_le hj (by decide +kernel)) (by simp)).trans (hF j (Nat.lt_of_lt_of_le hj (by decide)))
  · exact hd_gi (x := .inr (.inl 82)) (by decide +kernel) b82
theorem k0pi_15_p0 {Ls : Nat} {xs : Nat → Int32} {d : Nat} {Q : Option Value → jm_h → Prop} (hd : 4 ≤ d) (F : Nat → sy_d) (X1 X2 : List jm_c) (hB : iv_in F iv_B0)
    (h0 : (sy_i F 83).toInt = 0)
    (k : ∀ F1 : Nat → sy_d, (∀ j, j < 82 → True → F1 j = F j) → Q (some (.int ((0 : Int32)))) (sy_dh F1 X1 X2 (iv_H 0))) :
    hd_W Ls xs d jm_M37 Q (15, sy_dL F [some (.inl (.ref 30)), some (.inr (.inl 82)), none, none], sy_dS F [.inr (.inl 83)], sy_dh F X1 X2 (iv_H 0), 0, 0) := by
  refine hd_ret (s := 0) (nv := 84) (v := some (.inl (.int 0))) (uh := hd_ov (iv_id 0 iv_B0) []) (f := false) (sp := [21]) (d0 := 3) (O := [true]) (T := []) (P := [(0, .inr (.inl 83), .inl (.int 0))]) jm_ok37 (by decide +kernel) (by decide +kernel) hd F X1 X2 (fun F' hF hs => ?_)
  have b83 := hd_b (F := F) (F' := F') (k := 83) (hF 83 (by decide))
  have hB' : iv_in F' iv_B0 := iv_in_eq hB (fun j hj => hF j (Nat.lt_of_lt_of_le hj (by decide +kernel)))
  refine ⟨List.forall_mem_cons.mpr ⟨hd_p0 b83 rfl (by have hc : ((0) : Int32).toInt = 0 := (by decide); omega), fun _ h => absurd h List.not_mem_nil⟩, ?_⟩
  refine k _ ?_
  · exact fun j hj _ => (hd_keep hB' (Nat.lt_of_lt_of_le hj (by decide +kernel)) (by simp)).trans (hF j (Nat.lt_of_lt_of_le hj (by decide)))
theorem k0pi_15_p1 {Ls : Nat} {xs : Nat → Int32} {d : Nat} {Q : Option Value → jm_h → Prop} (hd : 4 ≤ d) (F : Nat → sy_d) (X1 X2 : List jm_c) (hB : iv_in F iv_B0)
    (h0 : (sy_i F 83).toInt ≠ 0)
    (k : ∀ F1 : Nat → sy_d, (∀ j, j < 82 → True → F1 j = F j) → F1 82 = .inl (.int (sy_i F 82)) → hd_W Ls xs d jm_M37 Q (21, sy_dL F1 [some (.inl (.ref 30)), some (.inr (.inl 82)), none, none], sy_dS F1 [.inl (.int 60), .inl (.ref 30)], sy_dh F1 X1 X2 (iv_H 0), 0, 0)) :
    hd_W Ls xs d jm_M37 Q (15, sy_dL F [some (.inl (.ref 30)), some (.inr (.inl 82)), none, none], sy_dS F [.inr (.inl 83)], sy_dh F X1 X2 (iv_H 0), 0, 0) := by
  refine hd_run (s := 0) (nv := 84) (pc := 21) (L := [some (.inl (.ref 30)), some (.inr (.inl 82)), none, none]) (S := [.inl (.int 60), .inl (.ref 30)]) (uh := hd_ov (iv_id 0 iv_B0) []) (ul := [.inl (.inr (.inl 82))]) (f := false) (sp := [21]) (d0 := 3) (O := [false]) (T := []) (P := [(1, .inr (.inl 83), .inl (.int 0))]) jm_ok37 (by decide +kernel) (by decide +kernel) hd F X1 X2 (fun F' hF hs => ?_)
  have b83 := hd_b (F := F) (F' := F') (k := 83) (hF 83 (by decide))
  have b82 := hd_b (F := F) (F' := F') (k := 82) (hF 82 (by decide))
  have hB' : iv_in F' iv_B0 := iv_in_eq hB (fun j hj => hF j (Nat.lt_of_lt_of_le hj (by decide +kernel)))
  refine ⟨List.forall_mem_cons.mpr ⟨hd_p1 b83 rfl (by have hc : ((0) : Int32).toInt = 0 := (by decide); omega), fun _ h => absurd h List.not_mem_nil⟩, ?_⟩
  refine k _ ?_ ?_
  · exact fun j hj _ => (hd_keep hB' (Nat.lt_of_lt_of_le hj (by decide +kernel)) (by simp)).trans (hF j (Nat.lt_of_lt_of_le hj (by decide)))
  · exact hd_gi (x := .inr (.inl 82)) (by decide +kernel) b82
theorem k0pi_24_p0 {Ls : Nat} {xs : Nat → Int32} {d : Nat} {Q : Option Value → jm_h → Prop} (hd : 4 ≤ d) (F : Nat → sy_d) (X1 X2 : List jm_c) (hB : iv_in F iv_B0)
    (h0 : (sy_i F 83).toInt = 0)
    (k : ∀ F1 : Nat → sy_d, (∀ j, j < 82 → True → F1 j = F j) → Q (some (.int ((0 : Int32)))) (sy_dh F1 X1 X2 (iv_H 0))) :
    hd_W Ls xs d jm_M37 Q (24, sy_dL F [some (.inl (.ref 30)), some (.inr (.inl 82)), none, none], sy_dS F [.inr (.inl 83)], sy_dh F X1 X2 (iv_H 0), 0, 0) := by
  refine hd_ret (s := 0) (nv := 84) (v := some (.inl (.int 0))) (uh := hd_ov (iv_id 0 iv_B0) []) (f := false) (sp := [30]) (d0 := 3) (O := [true]) (T := []) (P := [(0, .inr (.inl 83), .inl (.int 0))]) jm_ok37 (by decide +kernel) (by decide +kernel) hd F X1 X2 (fun F' hF hs => ?_)
  have b83 := hd_b (F := F) (F' := F') (k := 83) (hF 83 (by decide))
  have hB' : iv_in F' iv_B0 := iv_in_eq hB (fun j hj => hF j (Nat.lt_of_lt_of_le hj (by decide +kernel)))
  refine ⟨List.forall_mem_cons.mpr ⟨hd_p0 b83 rfl (by have hc : ((0) : Int32).toInt = 0 := (by decide); omega), fun _ h => absurd h List.not_mem_nil⟩, ?_⟩
  refine k _ ?_
  · exact fun j hj _ => (hd_keep hB' (Nat.lt_of_lt_of_le hj (by decide +kernel)) (by simp)).trans (hF j (Nat.lt_of_lt_of_le hj (by decide)))
theorem k0pi_24_p1 {Ls : Nat} {xs : Nat → Int32} {d : Nat} {Q : Option Value → jm_h → Prop} (hd : 4 ≤ d) (F : Nat → sy_d) (X1 X2 : List jm_c) (hB : iv_in F iv_B0)
    (h0 : (sy_i F 83).toInt ≠ 0)
    (k : ∀ F1 : Nat → sy_d, (∀ j, j < 82 → True → F1 j = F j) → F1 82 = .inl (.int (sy_i F 82)) → hd_W Ls xs d jm_M37 Q (30, sy_dL F1 [some (.inl (.ref 30)), some (.inr (.inl 82)), none, none], sy_dS F1 [.inl (.int 0), .inr (.inl 82), .inl (.ref 30)], sy_dh F1 X1 X2 (iv_H 0), 0, 0)) :
    hd_W Ls xs d jm_M37 Q (24, sy_dL F [some (.inl (.ref 30)), some (.inr (.inl 82)), none, none], sy_dS F [.inr (.inl 83)], sy_dh F X1 X2 (iv_H 0), 0, 0) := by
  refine hd_run (s := 0) (nv := 84) (pc := 30) (L := [some (.inl (.ref 30)), some (.inr (.inl 82)), none, none]) (S := [.inl (.int 0), .inr (.inl 82), .inl (.ref 30)]) (uh := hd_ov (iv_id 0 iv_B0) []) (ul := [.inl (.inr (.inl 82))]) (f := false) (sp := [30]) (d0 := 3) (O := [false]) (T := []) (P := [(1, .inr (.inl 83), .inl (.int 0))]) jm_ok37 (by decide +kernel) (by decide +kernel) hd F X1 X2 (fun F' hF hs => ?_)
  have b83 := hd_b (F := F) (F' := F') (k := 83) (hF 83 (by decide))
  have b82 := hd_b (F := F) (F' := F') (k := 82) (hF 82 (by decide))
  have hB' : iv_in F' iv_B0 := iv_in_eq hB (fun j hj => hF j (Nat.lt_of_lt_of_le hj (by decide +kernel)))
  refine ⟨List.forall_mem_cons.mpr ⟨hd_p1 b83 rfl (by have hc : ((0) : Int32).toInt = 0 := (by decide); omega), fun _ h => absurd h List.not_mem_nil⟩, ?_⟩
  refine k _ ?_ ?_
  · exact fun j hj _ => (hd_keep hB' (Nat.lt_of_lt_of_le hj (by decide +kernel)) (by simp)).trans (hF j (Nat.lt_of_lt_of_le hj (by decide)))
  · exact hd_gi (x := .inr (.inl 82)) (by decide +kernel) b82
theorem k0pi_33_p0 {Ls : Nat} {xs : Nat → Int32} {d : Nat} {Q : Option Value → jm_h → Prop} (hd : 4 ≤ d) (F : Nat → sy_d) (X1 X2 : List jm_c) (hB : iv_in F iv_B0)
    (h0 : (sy_i F 83).toInt = 0)
    (k : ∀ F1 : Nat → sy_d, (∀ j, j < 82 → True → F1 j = F j) → Q (some (.int ((0 : Int32)))) (sy_dh F1 X1 X2 (iv_H 0))) :
    hd_W Ls xs d jm_M37 Q (33, sy_dL F [some (.inl (.ref 30)), some (.inr (.inl 82)), none, none], sy_dS F [.inr (.inl 83)], sy_dh F X1 X2 (iv_H 0), 0, 0) := by
  refine hd_ret (s := 0) (nv := 84) (v := some (.inl (.int 0))) (uh := hd_ov (iv_id 0 iv_B0) []) (f := false) (sp := [39]) (d0 := 3) (O := [true]) (T := []) (P := [(0, .inr (.inl 83), .inl (.int 0))]) jm_ok37 (by decide +kernel) (by decide +kernel) hd F X1 X2 (fun F' hF hs => ?_)
  have b83 := hd_b (F := F) (F' := F') (k := 83) (hF 83 (by decide))
  have hB' : iv_in F' iv_B0 := iv_in_eq hB (fun j hj => hF j (Nat.lt_of_lt_of_le hj (by decide +kernel)))
  refine ⟨List.forall_mem_cons.mpr ⟨hd_p0 b83 rfl (by have hc : ((0) : Int32).toInt = 0 := (by decide); omega), fun _ h => absurd h List.not_mem_nil⟩, ?_⟩
  refine k _ ?_
  · exact fun j hj _ => (hd_keep hB' (Nat.lt_of_lt_of_le hj (by decide +kernel)) (by simp)).trans (hF j (Nat.lt_of_lt_of_le hj (by decide)))
theorem k0pi_33_p1 {Ls : Nat} {xs : Nat → Int32} {d : Nat} {Q : Option Value → jm_h → Prop} (hd : 4 ≤ d) (F : Nat → sy_d) (X1 X2 : List jm_c) (hB : iv_in F iv_B0)
    (h0 : (sy_i F 83).toInt ≠ 0)
    (k : ∀ F1 : Nat → sy_d, (∀ j, j < 82 → True → F1 j = F j) → F1 82 = .inl (.int (sy_i F 82)) → hd_W Ls xs d jm_M37 Q (39, sy_dL F1 [some (.inl (.ref 30)), some (.inr (.inl 82)), none, none], sy_dS F1 [.inl (.int 12), .inl (.ref 30)], sy_dh F1 X1 X2 (iv_H 0), 0, 0)) :
    hd_W Ls xs d jm_M37 Q (33, sy_dL F [some (.inl (.ref 30)), some (.inr (.inl 82)), none, none], sy_dS F [.inr (.inl 83)], sy_dh F X1 X2 (iv_H 0), 0, 0) := by
  refine hd_run (s := 0) (nv := 84) (pc := 39) (L := [some (.inl (.ref 30)), some (.inr (.inl 82)), none, none]) (S := [.inl (.int 12), .inl (.ref 30)]) (uh := hd_ov (iv_id 0 iv_B0) []) (ul := [.inl (.inr (.inl 82))]) (f := false) (sp := [39]) (d0 := 3) (O := [false]) (T := []) (P := [(1, .inr (.inl 83), .inl (.int 0))]) jm_ok37 (by decide +kernel) (by decide +kernel) hd F X1 X2 (fun F' hF hs => ?_)
  have b83 := hd_b (F := F) (F' := F') (k := 83) (hF 83 (by decide))
  have b82 := hd_b (F := F) (F' := F') (k := 82) (hF 82 (by decide))
  have hB' : iv_in F' iv_B0 := iv_in_eq hB (fun j hj => hF j (Nat.lt_of_lt_of_le hj (by decide +kernel)))
  refine ⟨List.forall_mem_cons.mpr ⟨hd_p1 b83 rfl (by have hc : ((0) : Int32).toInt = 0 := (by decide); omega), fun _ h => absurd h List.not_mem_nil⟩, ?_⟩
  refine k _ ?_ ?_
  · exact fun j hj _ => (hd_keep hB' (Nat.lt_of_lt_of_le hj (by decide +kernel)) (by simp)).trans (hF j (Nat.lt_of_lt_of_le hj (by decide)))
  · exact hd_gi (x := .inr (.inl 82)) (by decide +kernel) b82
theorem k0pi_42_p0 {Ls : Nat} {xs : Nat → Int32} {d : Nat} {Q : Option Value → jm_h → Prop} (hd : 4 ≤ d) (F : Nat → sy_d) (X1 X2 : List jm_c) (hB : iv_in F iv_B0)
    (h0 : (sy_i F 83).toInt = 0)
    (k : ∀ F1 : Nat → sy_d, (∀ j, j < 82 → True → F1 j = F j) → Q (some (.int ((0 : Int32)))) (sy_dh F1 X1 X2 (iv_H 0))) :
    hd_W Ls xs d jm_M37 Q (42, sy_dL F [some (.inl (.ref 30)), some (.inr (.inl 82)), none, none], sy_dS F [.inr (.inl 83)], sy_dh F X1 X2 (iv_H 0), 0, 0) := by
  refine hd_ret (s := 0) (nv := 84) (v := some (.inl (.int 0))) (uh := hd_ov (iv_id 0 iv_B0) []) (f := false) (sp := [85]) (d0 := 3) (O := [true]) (T := []) (P := [(0, .inr (.inl 83), .inl (.int 0))]) jm_ok37 (by decide +kernel) (by decide +kernel) hd F X1 X2 (fun F' hF hs => ?_)
  have b83 := hd_b (F := F) (F' := F') (k := 83) (hF 83 (by decide))
  have hB' : iv_in F' iv_B0 := iv_in_eq hB (fun j hj => hF j (Nat.lt_of_lt_of_le hj (by decide +kernel)))
  refine ⟨List.forall_mem_cons.mpr ⟨hd_p0 b83 rfl (by have hc : ((0) : Int32).toInt = 0 := (by decide); omega), fun _ h => absurd h List.not_mem_nil⟩, ?_⟩
  refine k _ ?_
  · exact fun j hj _ => (hd_keep hB' (Nat.lt_of_lt_of_le hj (by decide +kernel)) (by simp)).trans (hF j (Nat.lt_of_lt_of_le hj (by decide)))
theorem k0pi_42_p1 {Ls : Nat} {xs : Nat → Int32} {d : Nat} {Q : Option Value → jm_h → Prop} (hd : 4 ≤ d) (F : Nat → sy_d) (X1 X2 : List jm_c) (hB : iv_in F iv_B0)
    (h0 : (sy_i F 83).toInt ≠ 0)
    (h1 : 512 ≤ (sy_i F 23).toInt)
    (h2 : 512 ≤ (sy_i F 23).toInt)
    (k : ∀ F1 : Nat → sy_d, (∀ j, j < 82 → True → F1 j = F j) → F1 82 = .inl (.int (sy_i F 82)) → F1 83 = .inl (.int (sy_i F 23)) → hd_W Ls xs d jm_M37 Q (85, sy_dL F1 [some (.inl (.ref 30)), some (.inr (.inl 82)), none, some (.inr (.inl 83))], sy_dS F1 [.inl (.int 0), .inr (.inl 82), .inl (.ref 30)], sy_dh F1 X1 X2 (iv_H 0), 0, 0)) :
    hd_W Ls xs d jm_M37 Q (42, sy_dL F [some (.inl (.ref 30)), some (.inr (.inl 82)), none, none], sy_dS F [.inr (.inl 83)], sy_dh F X1 X2 (iv_H 0), 0, 0) := by
  refine hd_run (s := 0) (nv := 84) (pc := 85) (L := [some (.inl (.ref 30)), some (.inr (.inl 82)), none, some (.inr (.inl 83))]) (S := [.inl (.int 0), .inr (.inl 82), .inl (.ref 30)]) (uh := hd_ov (iv_id 0 iv_B0) []) (ul := [.inl (.inr (.inl 82)), .inl (.inr (.inl 23))]) (f := false) (sp := [85]) (d0 := 3) (O := [false, true, true]) (T := []) (P := [(1, .inr (.inl 83), .inl (.int 0)), (4, .inl (.int 512), .inr (.inl 23)), (4, .inl (.int 512), .inr (.inl 23))]) jm_ok37 (by decide +kernel) (by decide +kernel) hd F X1 X2 (fun F' hF hs => ?_)
  have b83 := hd_b (F := F) (F' := F') (k := 83) (hF 83 (by decide))
  have b23 := hd_b (F := F) (F' := F') (k := 23) (hF 23 (by decide))
  have b82 := hd_b (F := F) (F' := F') (k := 82) (hF 82 (by decide))
  have hB' : iv_in F' iv_B0 := iv_in_eq hB (fun j hj => hF j (Nat.lt_of_lt_of_le hj (by decide +kernel)))
  refine ⟨List.forall_mem_cons.mpr ⟨hd_p1 b83 rfl (by have hc : ((0) : Int32).toInt = 0 := (by decide); omega), List.forall_mem_cons.mpr ⟨hd_p4 rfl b23 (by have hc : ((512) : Int32).toInt = 512 := (by decide); omega), List.forall_mem_cons.mpr ⟨hd_p4 rfl b23 (by have hc : ((512) : Int32).toInt = 512 := (by decide); omega), fun _ h => absurd h List.not_mem_nil⟩⟩⟩, ?_⟩
  refine k _ ?_ ?_ ?_
  · exact fun j hj _ => (hd_keep hB' (Nat.lt_of_lt_of_le hj (by decide +kernel)) (by simp)).trans (hF j (Nat.lt_of_lt_of_le hj (by decide)))
  · exact hd_gi (x := .inr (.inl 82)) (by decide +kernel) b82
  · exact hd_gi (x := .inr (.inl 23)) (by decide +kernel) b23
theorem k0pi_42_p2 {Ls : Nat} {xs : Nat → Int32} {d : Nat} {Q : Option Value → jm_h → Prop} (hd : 4 ≤ d) (F : Nat → sy_d) (X1 X2 : List jm_c) (hB : iv_in F iv_B0)
    (h0 : (sy_i F 83).toInt ≠ 0)
    (h1 : (sy_i F 23).toInt < 512)
    (h2 : 0 ≤ (sy_i F 23).toInt ∧ (sy_i F 23).toInt < 512)
    (h3 : 512 ≤ ((sy_i F 23) + ((1 : Int32))).toInt)
    (k : ∀ F1 : Nat → sy_d, (∀ j, j < 82 → j ≠ 23 ∧ j ≠ 32 → F1 j = F j) → F1 23 = .inl (.int ((sy_i F 23) + ((1 : Int32)))) → F1 32 = .inr (.inl (jm_upd (sy_ai F 32) (sy_i F 23).toNatClampNeg (((-15) : Int32)))) → F1 82 = .inl (.int (sy_i F 82)) → F1 83 = .inl (.int ((sy_i F 23) + ((1 : Int32)))) → hd_W Ls xs d jm_M37 Q (85, sy_dL F1 [some (.inl (.ref 30)), some (.inr (.inl 82)), none, some (.inr (.inl 83))], sy_dS F1 [.inl (.int 0), .inr (.inl 82), .inl (.ref 30)], sy_dh F1 X1 X2 (iv_H 0), 0, 0)) :
    hd_W Ls xs d jm_M37 Q (42, sy_dL F [some (.inl (.ref 30)), some (.inr (.inl 82)), none, none], sy_dS F [.inr (.inl 83)], sy_dh F X1 X2 (iv_H 0), 0, 0) := by
  refine hd_run (s := 0) (nv := 84) (pc := 85) (L := [some (.inl (.ref 30)), some (.inr (.inl 82)), none, some (.inr (.inl 83))]) (S := [.inl (.int 0), .inr (.inl 82), .inl (.ref 30)]) (uh := hd_ov (iv_id 0 iv_B0) [(23, .inl (.inr (.inl 85))), (32, .inr (.inr (.inl 84)))]) (ul := [.inl (.inr (.inl 82)), .inl (.inr (.inl 85))]) (f := false) (sp := [85]) (d0 := 3) (O := [false, false, true]) (T := [(40, [.inr (.inl 23), .inl (.int (-15))], [.inr (.inl 32)]), (0, [.inr (.inl 23), .inl (.int 1)], [])]) (P := [(1, .inr (.inl 83), .inl (.int 0)), (5, .inl (.int 512), .inr (.inl 23)), (6, .inr (.inl 23), .inl (.ref 512)), (4, .inl (.int 512), .inr (.inl 85))]) jm_ok37 (by decide +kernel) (by decide +kernel) hd F X1 X2 (fun F' hF hs => ?_)
  have b83 := hd_b (F := F) (F' := F') (k := 83) (hF 83 (by decide))
  have b23 := hd_b (F := F) (F' := F') (k := 23) (hF 23 (by decide))
  have t85 : sy_dv F' (.inr (.inl 85)) = .int ((sy_i F 23) + ((1 : Int32))) := hd_o (hs 1 _ rfl) b23 rfl rfl
  have a32 := hd_ba (F := F) (F' := F') (k := 32) (hF 32 (by decide))
  have t84 : sy_da F' (.inr (.inl 84)) = .inl (jm_upd (sy_ai F 32) (sy_i F 23).toNatClampNeg (((-15) : Int32))) := hd_up (hs 0 _ rfl) b23 rfl a32
  have b82 := hd_b (F := F) (F' := F') (k := 82) (hF 82 (by decide))
  have hB' : iv_in F' iv_B0 := iv_in_eq hB (fun j hj => hF j (Nat.lt_of_lt_of_le hj (by decide +kernel)))
  refine ⟨List.forall_mem_cons.mpr ⟨hd_p1 b83 rfl (by have hc : ((0) : Int32).toInt = 0 := (by decide); omega), List.forall_mem_cons.mpr ⟨hd_p5 rfl b23 (by have hc : ((512) : Int32).toInt = 512 := (by decide); omega), List.forall_mem_cons.mpr ⟨hd_pb b23 (by first | exact h2 | exact h2), List.forall_mem_cons.mpr ⟨hd_p4 rfl t85 (by have hc : ((512) : Int32).toInt = 512 := (by decide); omega), fun _ h => absurd h List.not_mem_nil⟩⟩⟩⟩, ?_⟩
  refine k _ ?_ ?_ ?_ ?_ ?_
  · exact fun j hj hn => (hd_keep hB' (Nat.lt_of_lt_of_le hj (by decide +kernel)) (by simp; omega)).trans (hF j (Nat.lt_of_lt_of_le hj (by decide)))
  · exact hd_gi (x := .inr (.inl 85)) (by decide +kernel) t85
  · exact hd_ga (a := .inr (.inl 84)) (by decide +kernel) t84
  · exact hd_gi (x := .inr (.inl 82)) (by decide +kernel) b82
  · exact hd_gi (x := .inr (.inl 85)) (by decide +kernel) t85
theorem k0pi_42_p3 {Ls : Nat} {xs : Nat → Int32} {d : Nat} {Q : Option Value → jm_h → Prop} (hd : 4 ≤ d) (F : Nat → sy_d) (X1 X2 : List jm_c) (hB : iv_in F iv_B0)
    (h0 : (sy_i F 83).toInt ≠ 0)
    (h1 : (sy_i F 23).toInt < 512)
    (h2 : 0 ≤ (sy_i F 23).toInt ∧ (sy_i F 23).toInt < 512)
    (h3 : ((sy_i F 23) + ((1 : Int32))).toInt < 512)
    (h4 : 0 ≤ ((sy_i F 23) + ((1 : Int32))).toInt ∧ ((sy_i F 23) + ((1 : Int32))).toInt < 512)
    (k : ∀ F1 : Nat → sy_d, (∀ j, j < 82 → j ≠ 23 ∧ j ≠ 32 → F1 j = F j) → F1 23 = .inl (.int (((sy_i F 23) + ((1 : Int32))) + ((1 : Int32)))) → F1 32 = .inr (.inl (jm_upd (jm_upd (sy_ai F 32) (sy_i F 23).toNatClampNeg (((-15) : Int32))) ((sy_i F 23) + ((1 : Int32))).toNatClampNeg ((0 : Int32)))) → F1 82 = .inl (.int (sy_i F 82)) → F1 83 = .inl (.int ((sy_i F 23) + ((1 : Int32)))) → hd_W Ls xs d jm_M37 Q (85, sy_dL F1 [some (.inl (.ref 30)), some (.inr (.inl 82)), none, some (.inr (.inl 83))], sy_dS F1 [.inl (.int 0), .inr (.inl 82), .inl (.ref 30)], sy_dh F1 X1 X2 (iv_H 0), 0, 0)) :
    hd_W Ls xs d jm_M37 Q (42, sy_dL F [some (.inl (.ref 30)), some (.inr (.inl 82)), none, none], sy_dS F [.inr (.inl 83)], sy_dh F X1 X2 (iv_H 0), 0, 0) := by
  refine hd_run (s := 0) (nv := 84) (pc := 85) (L := [some (.inl (.ref 30)), some (.inr (.inl 82)), none, some (.inr (.inl 83))]) (S := [.inl (.int 0), .inr (.inl 82), .inl (.ref 30)]) (uh := hd_ov (iv_id 0 iv_B0) [(23, .inl (.inr (.inl 87))), (32, .inr (.inr (.inl 86)))]) (ul := [.inl (.inr (.inl 82)), .inl (.inr (.inl 85))]) (f := false) (sp := [85]) (d0 := 3) (O := [false, false, false]) (T := [(40, [.inr (.inl 23), .inl (.int (-15))], [.inr (.inl 32)]), (0, [.inr (.inl 23), .inl (.int 1)], []), (40, [.inr (.inl 85), .inl (.int 0)], [.inr (.inl 84)]), (0, [.inr (.inl 85), .inl (.int 1)], [])]) (P := [(1, .inr (.inl 83), .inl (.int 0)), (5, .inl (.int 512), .inr (.inl 23)), (6, .inr (.inl 23), .inl (.ref 512)), (5, .inl (.int 512), .inr (.inl 85)), (6, .inr (.inl 85), .inl (.ref 512))]) jm_ok37 (by decide +kernel) (by decide +kernel) hd F X1 X2 (fun F' hF hs => ?_)
  have b83 := hd_b (F := F) (F' := F') (k := 83) (hF 83 (by decide))
  have b23 := hd_b (F := F) (F' := F') (k := 23) (hF 23 (by decide))
  have t85 : sy_dv F' (.inr (.inl 85)) = .int ((sy_i F 23) + ((1 : Int32))) := hd_o (hs 1 _ rfl) b23 rfl rfl
  have t87 : sy_dv F' (.inr (.inl 87)) = .int (((sy_i F 23) + ((1 : Int32))) + ((1 : Int32))) := hd_o (hs 3 _ rfl) t85 rfl rfl
  have a32 := hd_ba (F := F) (F' := F') (k := 32) (hF 32 (by decide))
  have t84 : sy_da F' (.inr (.inl 84)) = .inl (jm_upd (sy_ai F 32) (sy_i F 23).toNatClampNeg (((-15) : Int32))) := hd_up (hs 0 _ rfl) b23 rfl a32
  have t86 : sy_da F' (.inr (.inl 86)) = .inl (jm_upd (jm_upd (sy_ai F 32) (sy_i F 23).toNatClampNeg (((-15) : Int32))) ((sy_i F 23) + ((1 : Int32))).toNatClampNeg ((0 : Int32))) := hd_up (hs 2 _ rfl) t85 rfl t84
  have b82 := hd_b (F := F) (F' := F') (k := 82) (hF 82 (by decide))
  have hB' : iv_in F' iv_B0 := iv_in_eq hB (fun j hj => hF j (Nat.lt_of_lt_of_le hj (by decide +kernel)))
  refine ⟨List.forall_mem_cons.mpr ⟨hd_p1 b83 rfl (by have hc : ((0) : Int32).toInt = 0 := (by decide); omega), List.forall_mem_cons.mpr ⟨hd_p5 rfl b23 (by have hc : ((512) : Int32).toInt = 512 := (by decide); omega), List.forall_mem_cons.mpr ⟨hd_pb b23 (by first | exact h2 | exact h2), List.forall_mem_cons.mpr ⟨hd_p5 rfl t85 (by have hc : ((512) : Int32).toInt = 512 := (by decide); omega), List.forall_mem_cons.mpr ⟨hd_pb t85 (by first | exact h4 | exact h4), fun _ h => absurd h List.not_mem_nil⟩⟩⟩⟩⟩, ?_⟩
  refine k _ ?_ ?_ ?_ ?_ ?_
  · exact fun j hj hn => (hd_keep hB' (Nat.lt_of_lt_of_le hj (by decide +kernel)) (by simp; omega)).trans (hF j (Nat.lt_of_lt_of_le hj (by decide)))
  · exact hd_gi (x := .inr (.inl 87)) (by decide +kernel) t87
  · exact hd_ga (a := .inr (.inl 86)) (by decide +kernel) t86
  · exact hd_gi (x := .inr (.inl 82)) (by decide +kernel) b82
  · exact hd_gi (x := .inr (.inl 85)) (by decide +kernel) t85
theorem k0pi_88_p0 {Ls : Nat} {xs : Nat → Int32} {d : Nat} {Q : Option Value → jm_h → Prop} (hd : 4 ≤ d) (F : Nat → sy_d) (X1 X2 : List jm_c) (hB : iv_in F iv_B0)
    (h0 : (sy_i F 84).toInt = 0)
    (k : ∀ F1 : Nat → sy_d, (∀ j, j < 82 → True → F1 j = F j) → Q (some (.int ((0 : Int32)))) (sy_dh F1 X1 X2 (iv_H 0))) :
    hd_W Ls xs d jm_M37 Q (88, sy_dL F [some (.inl (.ref 30)), some (.inr (.inl 82)), none, some (.inr (.inl 83))], sy_dS F [.inr (.inl 84)], sy_dh F X1 X2 (iv_H 0), 0, 0) := by
  refine hd_ret (s := 0) (nv := 85) (v := some (.inl (.int 0))) (uh := hd_ov (iv_id 0 iv_B0) []) (f := false) (sp := [94]) (d0 := 3) (O := [true]) (T := []) (P := [(0, .inr (.inl 84), .inl (.int 0))]) jm_ok37 (by decide +kernel) (by decide +kernel) hd F X1 X2 (fun F' hF hs => ?_)
  have b84 := hd_b (F := F) (F' := F') (k := 84) (hF 84 (by decide))
  have hB' : iv_in F' iv_B0 := iv_in_eq hB (fun j hj => hF j (Nat.lt_of_lt_of_le hj (by decide +kernel)))
  refine ⟨List.forall_mem_cons.mpr ⟨hd_p0 b84 rfl (by have hc : ((0) : Int32).toInt = 0 := (by decide); omega), fun _ h => absurd h List.not_mem_nil⟩, ?_⟩
  refine k _ ?_
  · exact fun j hj _ => (hd_keep hB' (Nat.lt_of_lt_of_le hj (by decide +kernel)) (by simp)).trans (hF j (Nat.lt_of_lt_of_le hj (by decide)))
theorem k0pi_88_p1 {Ls : Nat} {xs : Nat → Int32} {d : Nat} {Q : Option Value → jm_h → Prop} (hd : 4 ≤ d) (F : Nat → sy_d) (X1 X2 : List jm_c) (hB : iv_in F iv_B0)
    (h0 : (sy_i F 84).toInt ≠ 0)
    (k : ∀ F1 : Nat → sy_d, (∀ j, j < 82 → True → F1 j = F j) → F1 82 = .inl (.int (sy_i F 82)) → F1 83 = .inl (.int (sy_i F 83)) → hd_W Ls xs d jm_M37 Q (94, sy_dL F1 [some (.inl (.ref 30)), some (.inr (.inl 82)), none, some (.inr (.inl 83))], sy_dS F1 [.inl (.int 13), .inl (.ref 30)], sy_dh F1 X1 X2 (iv_H 0), 0, 0)) :
    hd_W Ls xs d jm_M37 Q (88, sy_dL F [some (.inl (.ref 30)), some (.inr (.inl 82)), none, some (.inr (.inl 83))], sy_dS F [.inr (.inl 84)], sy_dh F X1 X2 (iv_H 0), 0, 0) := by
  refine hd_run (s := 0) (nv := 85) (pc := 94) (L := [some (.inl (.ref 30)), some (.inr (.inl 82)), none, some (.inr (.inl 83))]) (S := [.inl (.int 13), .inl (.ref 30)]) (uh := hd_ov (iv_id 0 iv_B0) []) (ul := [.inl (.inr (.inl 82)), .inl (.inr (.inl 83))]) (f := false) (sp := [94]) (d0 := 3) (O := [false]) (T := []) (P := [(1, .inr (.inl 84), .inl (.int 0))]) jm_ok37 (by decide +kernel) (by decide +kernel) hd F X1 X2 (fun F' hF hs => ?_)
  have b84 := hd_b (F := F) (F' := F') (k := 84) (hF 84 (by decide))
  have b82 := hd_b (F := F) (F' := F') (k := 82) (hF 82 (by decide))
  have b83 := hd_b (F := F) (F' := F') (k := 83) (hF 83 (by decide))
  have hB' : iv_in F' iv_B0 := iv_in_eq hB (fun j hj => hF j (Nat.lt_of_lt_of_le hj (by decide +kernel)))
  refine ⟨List.forall_mem_cons.mpr ⟨hd_p1 b84 rfl (by have hc : ((0) : Int32).toInt = 0 := (by decide); omega), fun _ h => absurd h List.not_mem_nil⟩, ?_⟩
  refine k _ ?_ ?_ ?_
  · exact fun j hj _ => (hd_keep hB' (Nat.lt_of_lt_of_le hj (by decide +kernel)) (by simp)).trans (hF j (Nat.lt_of_lt_of_le hj (by decide)))
  · exact hd_gi (x := .inr (.inl 82)) (by decide +kernel) b82
  · exact hd_gi (x := .inr (.inl 83)) (by decide +kernel) b83
theorem k0pi_97_p0 {Ls : Nat} {xs : Nat → Int32} {d : Nat} {Q : Option Value → jm_h → Prop} (hd : 4 ≤ d) (F : Nat → sy_d) (X1 X2 : List jm_c) (hB : iv_in F iv_B0)
    (h0 : (sy_i F 84).toInt ≠ 0)
    (h1 : 512 ≤ (sy_i F 23).toInt)
    (h2 : 0 ≤ (sy_i F 83).toInt)
    (h3 : 512 ≤ (sy_i F 83).toInt)
    (k : ∀ F1 : Nat → sy_d, (∀ j, j < 82 → True → F1 j = F j) → Q (some (.int ((1 : Int32)))) (sy_dh F1 X1 X2 (iv_H 0))) :
    hd_W Ls xs d jm_M37 Q (97, sy_dL F [some (.inl (.ref 30)), some (.inr (.inl 82)), none, some (.inr (.inl 83))], sy_dS F [.inr (.inl 84)], sy_dh F X1 X2 (iv_H 0), 0, 0) := by
  refine hd_ret (s := 0) (nv := 85) (v := some (.inl (.int 1))) (uh := hd_ov (iv_id 0 iv_B0) []) (f := false) (sp := []) (d0 := 3) (O := [true, true, false, true]) (T := []) (P := [(1, .inr (.inl 84), .inl (.int 0)), (4, .inl (.int 512), .inr (.inl 23)), (3, .inr (.inl 83), .inl (.int 0)), (4, .inl (.int 512), .inr (.inl 83))]) jm_ok37 (by decide +kernel) (by decide +kernel) hd F X1 X2 (fun F' hF hs => ?_)
  have b84 := hd_b (F := F) (F' := F') (k := 84) (hF 84 (by decide))
  have b23 := hd_b (F := F) (F' := F') (k := 23) (hF 23 (by decide))
  have b83 := hd_b (F := F) (F' := F') (k := 83) (hF 83 (by decide))
  have hB' : iv_in F' iv_B0 := iv_in_eq hB (fun j hj => hF j (Nat.lt_of_lt_of_le hj (by decide +kernel)))
  refine ⟨List.forall_mem_cons.mpr ⟨hd_p1 b84 rfl (by have hc : ((0) : Int32).toInt = 0 := (by decide); omega), List.forall_mem_cons.mpr ⟨hd_p4 rfl b23 (by have hc : ((512) : Int32).toInt = 512 := (by decide); omega), List.forall_mem_cons.mpr ⟨hd_p3 b83 rfl (by have hc : ((0) : Int32).toInt = 0 := (by decide); omega), List.forall_mem_cons.mpr ⟨hd_p4 rfl b83 (by have hc : ((512) : Int32).toInt = 512 := (by decide); omega), fun _ h => absurd h List.not_mem_nil⟩⟩⟩⟩, ?_⟩
  refine k _ ?_
  · exact fun j hj _ => (hd_keep hB' (Nat.lt_of_lt_of_le hj (by decide +kernel)) (by simp)).trans (hF j (Nat.lt_of_lt_of_le hj (by decide)))
theorem k0pi_97_p1 {Ls : Nat} {xs : Nat → Int32} {d : Nat} {Q : Option Value → jm_h → Prop} (hd : 4 ≤ d) (F : Nat → sy_d) (X1 X2 : List jm_c) (hB : iv_in F iv_B0)
    (h0 : (sy_i F 84).toInt ≠ 0)
    (h1 : 512 ≤ (sy_i F 23).toInt)
    (h2 : 0 ≤ (sy_i F 83).toInt)
    (h3 : (sy_i F 83).toInt < 512)
    (h4 : 0 ≤ (sy_i F 83).toInt ∧ (sy_i F 83).toInt < 512)
    (k : ∀ F1 : Nat → sy_d, (∀ j, j < 82 → j ≠ 32 → F1 j = F j) → F1 32 = .inr (.inl (jm_upd (sy_ai F 32) (sy_i F 83).toNatClampNeg (sy_i F 23))) → Q (some (.int ((1 : Int32)))) (sy_dh F1 X1 X2 (iv_H 0))) :
    hd_W Ls xs d jm_M37 Q (97, sy_dL F [some (.inl (.ref 30)), some (.inr (.inl 82)), none, some (.inr (.inl 83))], sy_dS F [.inr (.inl 84)], sy_dh F X1 X2 (iv_H 0), 0, 0) := by
  refine hd_ret (s := 0) (nv := 85) (v := some (.inl (.int 1))) (uh := hd_ov (iv_id 0 iv_B0) [(32, .inr (.inr (.inl 85)))]) (f := false) (sp := []) (d0 := 3) (O := [true, true, false, false]) (T := [(40, [.inr (.inl 83), .inr (.inl 23)], [.inr (.inl 32)])]) (P := [(1, .inr (.inl 84), .inl (.int 0)), (4, .inl (.int 512), .inr (.inl 23)), (3, .inr (.inl 83), .inl (.int 0)), (5, .inl (.int 512), .inr (.inl 83)), (6, .inr (.inl 83), .inl (.ref 512))]) jm_ok37 (by decide +kernel) (by decide +kernel) hd F X1 X2 (fun F' hF hs => ?_)
  have b84 := hd_b (F := F) (F' := F') (k := 84) (hF 84 (by decide))
  have b23 := hd_b (F := F) (F' := F') (k := 23) (hF 23 (by decide))
  have b83 := hd_b (F := F) (F' := F') (k := 83) (hF 83 (by decide))
  have a32 := hd_ba (F := F) (F' := F') (k := 32) (hF 32 (by decide))
  have t85 : sy_da F' (.inr (.inl 85)) = .inl (jm_upd (sy_ai F 32) (sy_i F 83).toNatClampNeg (sy_i F 23)) := hd_up (hs 0 _ rfl) b83 b23 a32
  have hB' : iv_in F' iv_B0 := iv_in_eq hB (fun j hj => hF j (Nat.lt_of_lt_of_le hj (by decide +kernel)))
  refine ⟨List.forall_mem_cons.mpr ⟨hd_p1 b84 rfl (by have hc : ((0) : Int32).toInt = 0 := (by decide); omega), List.forall_mem_cons.mpr ⟨hd_p4 rfl b23 (by have hc : ((512) : Int32).toInt = 512 := (by decide); omega), List.forall_mem_cons.mpr ⟨hd_p3 b83 rfl (by have hc : ((0) : Int32).toInt = 0 := (by decide); omega), List.forall_mem_cons.mpr ⟨hd_p5 rfl b83 (by have hc : ((512) : Int32).toInt = 512 := (by decide); omega), List.forall_mem_cons.mpr ⟨hd_pb b83 (by first | exact h4 | exact h4), fun _ h => absurd h List.not_mem_nil⟩⟩⟩⟩⟩, ?_⟩
  refine k _ ?_ ?_
  · exact fun j hj hn => (hd_keep hB' (Nat.lt_of_lt_of_le hj (by decide +kernel)) (by simp; omega)).trans (hF j (Nat.lt_of_lt_of_le hj (by decide)))
  · exact hd_ga (a := .inr (.inl 85)) (by decide +kernel) t85
theorem k0pi_97_p2 {Ls : Nat} {xs : Nat → Int32} {d : Nat} {Q : Option Value → jm_h → Prop} (hd : 4 ≤ d) (F : Nat → sy_d) (X1 X2 : List jm_c) (hB : iv_in F iv_B0)
    (h0 : (sy_i F 84).toInt ≠ 0)
    (h1 : (sy_i F 23).toInt < 512)
    (h2 : 0 ≤ (sy_i F 23).toInt ∧ (sy_i F 23).toInt < 512)
    (h3 : 0 ≤ (sy_i F 83).toInt)
    (h4 : 512 ≤ (sy_i F 83).toInt)
    (k : ∀ F1 : Nat → sy_d, (∀ j, j < 82 → j ≠ 23 ∧ j ≠ 32 → F1 j = F j) → F1 23 = .inl (.int ((sy_i F 23) + ((1 : Int32)))) → F1 32 = .inr (.inl (jm_upd (sy_ai F 32) (sy_i F 23).toNatClampNeg (((-14) : Int32)))) → Q (some (.int ((1 : Int32)))) (sy_dh F1 X1 X2 (iv_H 0))) :
    hd_W Ls xs d jm_M37 Q (97, sy_dL F [some (.inl (.ref 30)), some (.inr (.inl 82)), none, some (.inr (.inl 83))], sy_dS F [.inr (.inl 84)], sy_dh F X1 X2 (iv_H 0), 0, 0) := by
  refine hd_ret (s := 0) (nv := 85) (v := some (.inl (.int 1))) (uh := hd_ov (iv_id 0 iv_B0) [(23, .inl (.inr (.inl 86))), (32, .inr (.inr (.inl 85)))]) (f := false) (sp := []) (d0 := 3) (O := [true, false, false, true]) (T := [(40, [.inr (.inl 23), .inl (.int (-14))], [.inr (.inl 32)]), (0, [.inr (.inl 23), .inl (.int 1)], [])]) (P := [(1, .inr (.inl 84), .inl (.int 0)), (5, .inl (.int 512), .inr (.inl 23)), (6, .inr (.inl 23), .inl (.ref 512)), (3, .inr (.inl 83), .inl (.int 0)), (4, .inl (.int 512), .inr (.inl 83))]) jm_ok37 (by decide +kernel) (by decide +kernel) hd F X1 X2 (fun F' hF hs => ?_)
  have b84 := hd_b (F := F) (F' := F') (k := 84) (hF 84 (by decide))
  have b23 := hd_b (F := F) (F' := F') (k := 23) (hF 23 (by decide))
  have b83 := hd_b (F := F) (F' := F') (k := 83) (hF 83 (by decide))
  have t86 : sy_dv F' (.inr (.inl 86)) = .int ((sy_i F 23) + ((1 : Int32))) := hd_o (hs 1 _ rfl) b23 rfl rfl
  have a32 := hd_ba (F := F) (F' := F') (k := 32) (hF 32 (by decide))
  have t85 : sy_da F' (.inr (.inl 85)) = .inl (jm_upd (sy_ai F 32) (sy_i F 23).toNatClampNeg (((-14) : Int32))) := hd_up (hs 0 _ rfl) b23 rfl a32
  have hB' : iv_in F' iv_B0 := iv_in_eq hB (fun j hj => hF j (Nat.lt_of_lt_of_le hj (by decide +kernel)))
  refine ⟨List.forall_mem_cons.mpr ⟨hd_p1 b84 rfl (by have hc : ((0) : Int32).toInt = 0 := (by decide); omega), List.forall_mem_cons.mpr ⟨hd_p5 rfl b23 (by have hc : ((512) : Int32).toInt = 512 := (by decide); omega), List.forall_mem_cons.mpr ⟨hd_pb b23 (by first | exact h2 | exact h2), List.forall_mem_cons.mpr ⟨hd_p3 b83 rfl (by have hc : ((0) : Int32).toInt = 0 := (by decide); omega), List.forall_mem_cons.mpr ⟨hd_p4 rfl b83 (by have hc : ((512) : Int32).toInt = 512 := (by decide); omega), fun _ h => absurd h List.not_mem_nil⟩⟩⟩⟩⟩, ?_⟩
  refine k _ ?_ ?_ ?_
  · exact fun j hj hn => (hd_keep hB' (Nat.lt_of_lt_of_le hj (by decide +kernel)) (by simp; omega)).trans (hF j (Nat.lt_of_lt_of_le hj (by decide)))
  · exact hd_gi (x := .inr (.inl 86)) (by decide +kernel) t86
  · exact hd_ga (a := .inr (.inl 85)) (by decide +kernel) t85
theorem k0pi_97_p3 {Ls : Nat} {xs : Nat → Int32} {d : Nat} {Q : Option Value → jm_h → Prop} (hd : 4 ≤ d) (F : Nat → sy_d) (X1 X2 : List jm_c) (hB : iv_in F iv_B0)
    (h0 : (sy_i F 84).toInt ≠ 0)
    (h1 : (sy_i F 23).toInt < 512)
    (h2 : 0 ≤ (sy_i F 23).toInt ∧ (sy_i F 23).toInt < 512)
    (h3 : 0 ≤ (sy_i F 83).toInt)
    (h4 : (sy_i F 83).toInt < 512)
    (h5 : 0 ≤ (sy_i F 83).toInt ∧ (sy_i F 83).toInt < 512)
    (k : ∀ F1 : Nat → sy_d, (∀ j, j < 82 → j ≠ 23 ∧ j ≠ 32 → F1 j = F j) → F1 23 = .inl (.int ((sy_i F 23) + ((1 : Int32)))) → F1 32 = .inr (.inl (jm_upd (jm_upd (sy_ai F 32) (sy_i F 23).toNatClampNeg (((-14) : Int32))) (sy_i F 83).toNatClampNeg ((sy_i F 23) + ((1 : Int32))))) → Q (some (.int ((1 : Int32)))) (sy_dh F1 X1 X2 (iv_H 0))) :
    hd_W Ls xs d jm_M37 Q (97, sy_dL F [some (.inl (.ref 30)), some (.inr (.inl 82)), none, some (.inr (.inl 83))], sy_dS F [.inr (.inl 84)], sy_dh F X1 X2 (iv_H 0), 0, 0) := by
  refine hd_ret (s := 0) (nv := 85) (v := some (.inl (.int 1))) (uh := hd_ov (iv_id 0 iv_B0) [(23, .inl (.inr (.inl 86))), (32, .inr (.inr (.inl 87)))]) (f := false) (sp := []) (d0 := 3) (O := [true, false, false, false]) (T := [(40, [.inr (.inl 23), .inl (.int (-14))], [.inr (.inl 32)]), (0, [.inr (.inl 23), .inl (.int 1)], []), (40, [.inr (.inl 83), .inr (.inl 86)], [.inr (.inl 85)])]) (P := [(1, .inr (.inl 84), .inl (.int 0)), (5, .inl (.int 512), .inr (.inl 23)), (6, .inr (.inl 23), .inl (.ref 512)), (3, .inr (.inl 83), .inl (.int 0)), (5, .inl (.int 512), .inr (.inl 83)), (6, .inr (.inl 83), .inl (.ref 512))]) jm_ok37 (by decide +kernel) (by decide +kernel) hd F X1 X2 (fun F' hF hs => ?_)
  have b84 := hd_b (F := F) (F' := F') (k := 84) (hF 84 (by decide))
  have b23 := hd_b (F := F) (F' := F') (k := 23) (hF 23 (by decide))
  have b83 := hd_b (F := F) (F' := F') (k := 83) (hF 83 (by decide))
  have t86 : sy_dv F' (.inr (.inl 86)) = .int ((sy_i F 23) + ((1 : Int32))) := hd_o (hs 1 _ rfl) b23 rfl rfl
  have a32 := hd_ba (F := F) (F' := F') (k := 32) (hF 32 (by decide))
  have t85 : sy_da F' (.inr (.inl 85)) = .inl (jm_upd (sy_ai F 32) (sy_i F 23).toNatClampNeg (((-14) : Int32))) := hd_up (hs 0 _ rfl) b23 rfl a32
  have t87 : sy_da F' (.inr (.inl 87)) = .inl (jm_upd (jm_upd (sy_ai F 32) (sy_i F 23).toNatClampNeg (((-14) : Int32))) (sy_i F 83).toNatClampNeg ((sy_i F 23) + ((1 : Int32)))) := hd_up (hs 2 _ rfl) b83 t86 t85
  have hB' : iv_in F' iv_B0 := iv_in_eq hB (fun j hj => hF j (Nat.lt_of_lt_of_le hj (by decide +kernel)))
  refine ⟨List.forall_mem_cons.mpr ⟨hd_p1 b84 rfl (by have hc : ((0) : Int32).toInt = 0 := (by decide); omega), List.forall_mem_cons.mpr ⟨hd_p5 rfl b23 (by have hc : ((512) : Int32).toInt = 512 := (by decide); omega), List.forall_mem_cons.mpr ⟨hd_pb b23 (by first | exact h2 | exact h2), List.forall_mem_cons.mpr ⟨hd_p3 b83 rfl (by have hc : ((0) : Int32).toInt = 0 := (by decide); omega), List.forall_mem_cons.mpr ⟨hd_p5 rfl b83 (by have hc : ((512) : Int32).toInt = 512 := (by decide); omega), List.forall_mem_cons.mpr ⟨hd_pb b83 (by first | exact h5 | exact h5), fun _ h => absurd h List.not_mem_nil⟩⟩⟩⟩⟩⟩, ?_⟩
  refine k _ ?_ ?_ ?_
  · exact fun j hj hn => (hd_keep hB' (Nat.lt_of_lt_of_le hj (by decide +kernel)) (by simp; omega)).trans (hF j (Nat.lt_of_lt_of_le hj (by decide)))
  · exact hd_gi (x := .inr (.inl 86)) (by decide +kernel) t86
  · exact hd_ga (a := .inr (.inl 87)) (by decide +kernel) t87
theorem k0pi_97_p4 {Ls : Nat} {xs : Nat → Int32} {d : Nat} {Q : Option Value → jm_h → Prop} (hd : 4 ≤ d) (F : Nat → sy_d) (X1 X2 : List jm_c) (hB : iv_in F iv_B0)
    (h0 : (sy_i F 84).toInt = 0)
    (k : ∀ F1 : Nat → sy_d, (∀ j, j < 82 → True → F1 j = F j) → Q (some (.int ((0 : Int32)))) (sy_dh F1 X1 X2 (iv_H 0))) :
    hd_W Ls xs d jm_M37 Q (97, sy_dL F [some (.inl (.ref 30)), some (.inr (.inl 82)), none, some (.inr (.inl 83))], sy_dS F [.inr (.inl 84)], sy_dh F X1 X2 (iv_H 0), 0, 0) := by
  refine hd_ret (s := 0) (nv := 85) (v := some (.inl (.int 0))) (uh := hd_ov (iv_id 0 iv_B0) []) (f := false) (sp := []) (d0 := 3) (O := [false]) (T := []) (P := [(0, .inr (.inl 84), .inl (.int 0))]) jm_ok37 (by decide +kernel) (by decide +kernel) hd F X1 X2 (fun F' hF hs => ?_)
  have b84 := hd_b (F := F) (F' := F') (k := 84) (hF 84 (by decide))
  have hB' : iv_in F' iv_B0 := iv_in_eq hB (fun j hj => hF j (Nat.lt_of_lt_of_le hj (by decide +kernel)))
  refine ⟨List.forall_mem_cons.mpr ⟨hd_p0 b84 rfl (by have hc : ((0) : Int32).toInt = 0 := (by decide); omega), fun _ h => absurd h List.not_mem_nil⟩, ?_⟩
  refine k _ ?_
  · exact fun j hj _ => (hd_keep hB' (Nat.lt_of_lt_of_le hj (by decide +kernel)) (by simp)).trans (hF j (Nat.lt_of_lt_of_le hj (by decide)))
theorem k0pl_0_p0 {Ls : Nat} {xs : Nat → Int32} {d : Nat} {Q : Option Value → jm_h → Prop} (hd : 4 ≤ d) (F : Nat → sy_d) (X1 X2 : List jm_c) (hB : iv_in F iv_B0)
    (k : ∀ F1 : Nat → sy_d, (∀ j, j < 82 → True → F1 j = F j) → F1 82 = .inl (.int (sy_i F 82)) → F1 83 = .inl (.int (sy_i F 83)) → hd_W Ls xs d jm_M36 Q (2, sy_dL F1 [some (.inl (.ref 30)), some (.inr (.inl 82)), some (.inr (.inl 83)), none, none], sy_dS F1 [.inr (.inl 82), .inl (.ref 30)], sy_dh F1 X1 X2 (iv_H 0), 0, 0)) :
    hd_W Ls xs d jm_M36 Q (0, sy_dL F [some (.inl (.ref 30)), some (.inr (.inl 82)), some (.inr (.inl 83)), none, none], sy_dS F [], sy_dh F X1 X2 (iv_H 0), 0, 0) := by
  refine hd_run (s := 0) (nv := 84) (pc := 2) (L := [some (.inl (.ref 30)), some (.inr (.inl 82)), some (.inr (.inl 83)), none, none]) (S := [.inr (.inl 82), .inl (.ref 30)]) (uh := hd_ov (iv_id 0 iv_B0) []) (ul := [.inl (.inr (.inl 82)), .inl (.inr (.inl 83))]) (f := true) (sp := [2]) (d0 := 3) (O := []) (T := []) (P := []) jm_ok36 (by decide +kernel) (by decide +kernel) hd F X1 X2 (fun F' hF hs => ?_)
  have b82 := hd_b (F := F) (F' := F') (k := 82) (hF 82 (by decide))
  have b83 := hd_b (F := F) (F' := F') (k := 83) (hF 83 (by decide))
  have hB' : iv_in F' iv_B0 := iv_in_eq hB (fun j hj => hF j (Nat.lt_of_lt_of_le hj (by decide +kernel)))
  refine ⟨fun _ h => absurd h List.not_mem_nil, ?_⟩
  refine k _ ?_ ?_ ?_
  · exact fun j hj _ => (hd_keep hB' (Nat.lt_of_lt_of_le hj (by decide +kernel)) (by simp)).trans (hF j (Nat.lt_of_lt_of_le hj (by decide)))
  · exact hd_gi (x := .inr (.inl 82)) (by decide +kernel) b82
  · exact hd_gi (x := .inr (.inl 83)) (by decide +kernel) b83
theorem k0pl_5_p0 {Ls : Nat} {xs : Nat → Int32} {d : Nat} {Q : Option Value → jm_h → Prop} (hd : 4 ≤ d) (F : Nat → sy_d) (X1 X2 : List jm_c) (hB : iv_in F iv_B0)
    (h0 : (sy_i F 84).toInt = 0)
    (k : ∀ F1 : Nat → sy_d, (∀ j, j < 82 → True → F1 j = F j) → Q (some (.int ((0 : Int32)))) (sy_dh F1 X1 X2 (iv_H 0))) :
    hd_W Ls xs d jm_M36 Q (5, sy_dL F [some (.inl (.ref 30)), some (.inr (.inl 82)), some (.inr (.inl 83)), none, none], sy_dS F [.inr (.inl 84)], sy_dh F X1 X2 (iv_H 0), 0, 0) := by
  refine hd_ret (s := 0) (nv := 85) (v := some (.inl (.int 0))) (uh := hd_ov (iv_id 0 iv_B0) []) (f := false) (sp := [11]) (d0 := 3) (O := [true]) (T := []) (P := [(0, .inr (.inl 84), .inl (.int 0))]) jm_ok36 (by decide +kernel) (by decide +kernel) hd F X1 X2 (fun F' hF hs => ?_)
  have b84 := hd_b (F := F) (F' := F') (k := 84) (hF 84 (by decide))
  have hB' : iv_in F' iv_B0 := iv_in_eq hB (fun j hj => hF j (Nat.lt_of_lt_of_le hj (by decide +kernel)))
  refine ⟨List.forall_mem_cons.mpr ⟨hd_p0 b84 rfl (by have hc : ((0) : Int32).toInt = 0 := (by decide); omega), fun _ h => absurd h List.not_mem_nil⟩, ?_⟩
  refine k _ ?_
  · exact fun j hj _ => (hd_keep hB' (Nat.lt_of_lt_of_le hj (by decide +kernel)) (by simp)).trans (hF j (Nat.lt_of_lt_of_le hj (by decide)))
theorem k0pl_5_p1 {Ls : Nat} {xs : Nat → Int32} {d : Nat} {Q : Option Value → jm_h → Prop} (hd : 4 ≤ d) (F : Nat → sy_d) (X1 X2 : List jm_c) (hB : iv_in F iv_B0)
    (h0 : (sy_i F 84).toInt ≠ 0)
    (k : ∀ F1 : Nat → sy_d, (∀ j, j < 82 → True → F1 j = F j) → F1 82 = .inl (.int (sy_i F 82)) → F1 83 = .inl (.int (sy_i F 83)) → hd_W Ls xs d jm_M36 Q (11, sy_dL F1 [some (.inl (.ref 30)), some (.inr (.inl 82)), some (.inr (.inl 83)), none, none], sy_dS F1 [.inl (.int 61), .inl (.ref 30)], sy_dh F1 X1 X2 (iv_H 0), 0, 0)) :
    hd_W Ls xs d jm_M36 Q (5, sy_dL F [some (.inl (.ref 30)), some (.inr (.inl 82)), some (.inr (.inl 83)), none, none], sy_dS F [.inr (.inl 84)], sy_dh F X1 X2 (iv_H 0), 0, 0) := by
  refine hd_run (s := 0) (nv := 85) (pc := 11) (L := [some (.inl (.ref 30)), some (.inr (.inl 82)), some (.inr (.inl 83)), none, none]) (S := [.inl (.int 61), .inl (.ref 30)]) (uh := hd_ov (iv_id 0 iv_B0) []) (ul := [.inl (.inr (.inl 82)), .inl (.inr (.inl 83))]) (f := false) (sp := [11]) (d0 := 3) (O := [false]) (T := []) (P := [(1, .inr (.inl 84), .inl (.int 0))]) jm_ok36 (by decide +kernel) (by decide +kernel) hd F X1 X2 (fun F' hF hs => ?_)
  have b84 := hd_b (F := F) (F' := F') (k := 84) (hF 84 (by decide))
  have b82 := hd_b (F := F) (F' := F') (k := 82) (hF 82 (by decide))
  have b83 := hd_b (F := F) (F' := F') (k := 83) (hF 83 (by decide))
  have hB' : iv_in F' iv_B0 := iv_in_eq hB (fun j hj => hF j (Nat.lt_of_lt_of_le hj (by decide +kernel)))
  refine ⟨List.forall_mem_cons.mpr ⟨hd_p1 b84 rfl (by have hc : ((0) : Int32).toInt = 0 := (by decide); omega), fun _ h => absurd h List.not_mem_nil⟩, ?_⟩
  refine k _ ?_ ?_ ?_
  · exact fun j hj _ => (hd_keep hB' (Nat.lt_of_lt_of_le hj (by decide +kernel)) (by simp)).trans (hF j (Nat.lt_of_lt_of_le hj (by decide)))
  · exact hd_gi (x := .inr (.inl 82)) (by decide +kernel) b82
  · exact hd_gi (x := .inr (.inl 83)) (by decide +kernel) b83
theorem k0pl_14_p0 {Ls : Nat} {xs : Nat → Int32} {d : Nat} {Q : Option Value → jm_h → Prop} (hd : 4 ≤ d) (F : Nat → sy_d) (X1 X2 : List jm_c) (hB : iv_in F iv_B0)
    (h0 : (sy_i F 84).toInt ≠ 0)
    (k : ∀ F1 : Nat → sy_d, (∀ j, j < 82 → True → F1 j = F j) → F1 82 = .inl (.int (sy_i F 83)) → F1 83 = .inl (.int (sy_i F 23)) → F1 84 = .inl (.int ((0 : Int32))) → hd_W Ls xs d jm_M36 Q (30, sy_dL F1 [some (.inl (.ref 30)), none, some (.inr (.inl 82)), some (.inr (.inl 83)), some (.inr (.inl 84))], sy_dS F1 [], sy_dh F1 X1 X2 (iv_H 0), 0, 0)) :
    hd_W Ls xs d jm_M36 Q (14, sy_dL F [some (.inl (.ref 30)), some (.inr (.inl 82)), some (.inr (.inl 83)), none, none], sy_dS F [.inr (.inl 84)], sy_dh F X1 X2 (iv_H 0), 0, 0) := by
  refine hd_run (s := 0) (nv := 85) (pc := 30) (L := [some (.inl (.ref 30)), none, some (.inr (.inl 82)), some (.inr (.inl 83)), some (.inr (.inl 84))]) (S := []) (uh := hd_ov (iv_id 0 iv_B0) []) (ul := [.inl (.inr (.inl 83)), .inl (.inr (.inl 23)), .inl (.inl (.int 0))]) (f := false) (sp := [30]) (d0 := 3) (O := [true]) (T := []) (P := [(1, .inr (.inl 84), .inl (.int 0))]) jm_ok36 (by decide +kernel) (by decide +kernel) hd F X1 X2 (fun F' hF hs => ?_)
  have b84 := hd_b (F := F) (F' := F') (k := 84) (hF 84 (by decide))
  have b83 := hd_b (F := F) (F' := F') (k := 83) (hF 83 (by decide))
  have b23 := hd_b (F := F) (F' := F') (k := 23) (hF 23 (by decide))
  have hB' : iv_in F' iv_B0 := iv_in_eq hB (fun j hj => hF j (Nat.lt_of_lt_of_le hj (by decide +kernel)))
  refine ⟨List.forall_mem_cons.mpr ⟨hd_p1 b84 rfl (by have hc : ((0) : Int32).toInt = 0 := (by decide); omega), fun _ h => absurd h List.not_mem_nil⟩, ?_⟩
  refine k _ ?_ ?_ ?_ ?_
  · exact fun j hj _ => (hd_keep hB' (Nat.lt_of_lt_of_le hj (by decide +kernel)) (by simp)).trans (hF j (Nat.lt_of_lt_of_le hj (by decide)))
  · exact hd_gi (x := .inr (.inl 83)) (by decide +kernel) b83
  · exact hd_gi (x := .inr (.inl 23)) (by decide +kernel) b23
  · exact hd_gi (x := .inl (.int 0)) (by decide +kernel) rfl
theorem k0pl_14_p1 {Ls : Nat} {xs : Nat → Int32} {d : Nat} {Q : Option Value → jm_h → Prop} (hd : 4 ≤ d) (F : Nat → sy_d) (X1 X2 : List jm_c) (hB : iv_in F iv_B0)
    (h0 : (sy_i F 84).toInt = 0)
    (k : ∀ F1 : Nat → sy_d, (∀ j, j < 82 → True → F1 j = F j) → Q (some (.int ((0 : Int32)))) (sy_dh F1 X1 X2 (iv_H 0))) :
    hd_W Ls xs d jm_M36 Q (14, sy_dL F [some (.inl (.ref 30)), some (.inr (.inl 82)), some (.inr (.inl 83)), none, none], sy_dS F [.inr (.inl 84)], sy_dh F X1 X2 (iv_H 0), 0, 0) := by
  refine hd_ret (s := 0) (nv := 85) (v := some (.inl (.int 0))) (uh := hd_ov (iv_id 0 iv_B0) []) (f := false) (sp := [30]) (d0 := 3) (O := [false]) (T := []) (P := [(0, .inr (.inl 84), .inl (.int 0))]) jm_ok36 (by decide +kernel) (by decide +kernel) hd F X1 X2 (fun F' hF hs => ?_)
  have b84 := hd_b (F := F) (F' := F') (k := 84) (hF 84 (by decide))
  have hB' : iv_in F' iv_B0 := iv_in_eq hB (fun j hj => hF j (Nat.lt_of_lt_of_le hj (by decide +kernel)))
  refine ⟨List.forall_mem_cons.mpr ⟨hd_p0 b84 rfl (by have hc : ((0) : Int32).toInt = 0 := (by decide); omega), fun _ h => absurd h List.not_mem_nil⟩, ?_⟩
  refine k _ ?_
  · exact fun j hj _ => (hd_keep hB' (Nat.lt_of_lt_of_le hj (by decide +kernel)) (by simp)).trans (hF j (Nat.lt_of_lt_of_le hj (by decide)))
theorem k0pl_30_p0 {Ls : Nat} {xs : Nat → Int32} {d : Nat} {Q : Option Value → jm_h → Prop} (hd : 4 ≤ d) (F : Nat → sy_d) (X1 X2 : List jm_c) (hB : iv_in F iv_B0)
    (h0 : 4 < (sy_i F 84).toInt)
    (k : ∀ F1 : Nat → sy_d, (∀ j, j < 82 → True → F1 j = F j) → F1 82 = .inl (.int (sy_i F 82)) → F1 83 = .inl (.int (sy_i F 83)) → hd_W Ls xs d jm_M36 Q (83, sy_dL F1 [some (.inl (.ref 30)), none, some (.inr (.inl 82)), some (.inr (.inl 83)), none], sy_dS F1 [.inl (.int 0), .inr (.inl 82), .inl (.ref 30)], sy_dh F1 X1 X2 (iv_H 0), 0, 0)) :
    hd_W Ls xs d jm_M36 Q (30, sy_dL F [some (.inl (.ref 30)), none, some (.inr (.inl 82)), some (.inr (.inl 83)), some (.inr (.inl 84))], sy_dS F [], sy_dh F X1 X2 (iv_H 0), 0, 0) := by
  refine hd_run (s := 0) (nv := 85) (pc := 83) (L := [some (.inl (.ref 30)), none, some (.inr (.inl 82)), some (.inr (.inl 83)), none]) (S := [.inl (.int 0), .inr (.inl 82), .inl (.ref 30)]) (uh := hd_ov (iv_id 0 iv_B0) []) (ul := [.inl (.inr (.inl 82)), .inl (.inr (.inl 83))]) (f := true) (sp := [66, 83]) (d0 := 3) (O := [true]) (T := []) (P := [(2, .inl (.int 4), .inr (.inl 84))]) jm_ok36 (by decide +kernel) (by decide +kernel) hd F X1 X2 (fun F' hF hs => ?_)
  have b84 := hd_b (F := F) (F' := F') (k := 84) (hF 84 (by decide))
  have b82 := hd_b (F := F) (F' := F') (k := 82) (hF 82 (by decide))
  have b83 := hd_b (F := F) (F' := F') (k := 83) (hF 83 (by decide))
  have hB' : iv_in F' iv_B0 := iv_in_eq hB (fun j hj => hF j (Nat.lt_of_lt_of_le hj (by decide +kernel)))
  refine ⟨List.forall_mem_cons.mpr ⟨hd_p2 rfl b84 (by have hc : ((4) : Int32).toInt = 4 := (by decide); omega), fun _ h => absurd h List.not_mem_nil⟩, ?_⟩
  refine k _ ?_ ?_ ?_
  · exact fun j hj _ => (hd_keep hB' (Nat.lt_of_lt_of_le hj (by decide +kernel)) (by simp)).trans (hF j (Nat.lt_of_lt_of_le hj (by decide)))
  · exact hd_gi (x := .inr (.inl 82)) (by decide +kernel) b82
  · exact hd_gi (x := .inr (.inl 83)) (by decide +kernel) b83
theorem k0pl_30_p1 {Ls : Nat} {xs : Nat → Int32} {d : Nat} {Q : Option Value → jm_h → Prop} (hd : 4 ≤ d) (F : Nat → sy_d) (X1 X2 : List jm_c) (hB : iv_in F iv_B0)
    (h0 : (sy_i F 84).toInt ≤ 4)
    (h1 : 0 ≤ (sy_i F 33).toInt)
    (h2 : (sy_i F 33).toInt ≤ 400)
    (h3 : 0 ≤ (sy_i F 33).toInt ∧ (sy_i F 33).toInt < 401)
    (h4 : ((sy_ai F 39).getD (sy_i F 33).toNatClampNeg 0).toInt ≠ 11)
    (k : ∀ F1 : Nat → sy_d, (∀ j, j < 82 → True → F1 j = F j) → F1 82 = .inl (.int (sy_i F 82)) → F1 83 = .inl (.int (sy_i F 83)) → hd_W Ls xs d jm_M36 Q (83, sy_dL F1 [some (.inl (.ref 30)), none, some (.inr (.inl 82)), some (.inr (.inl 83)), none], sy_dS F1 [.inl (.int 0), .inr (.inl 82), .inl (.ref 30)], sy_dh F1 X1 X2 (iv_H 0), 0, 0)) :
    hd_W Ls xs d jm_M36 Q (30, sy_dL F [some (.inl (.ref 30)), none, some (.inr (.inl 82)), some (.inr (.inl 83)), some (.inr (.inl 84))], sy_dS F [], sy_dh F X1 X2 (iv_H 0), 0, 0) := by
  refine hd_run (s := 0) (nv := 85) (pc := 83) (L := [some (.inl (.ref 30)), none, some (.inr (.inl 82)), some (.inr (.inl 83)), none]) (S := [.inl (.int 0), .inr (.inl 82), .inl (.ref 30)]) (uh := hd_ov (iv_id 0 iv_B0) []) (ul := [.inl (.inr (.inl 82)), .inl (.inr (.inl 83))]) (f := true) (sp := [66, 83]) (d0 := 3) (O := [false, false, false, true]) (T := [(30, [.inr (.inl 33)], [.inr (.inl 39)])]) (P := [(3, .inl (.int 4), .inr (.inl 84)), (3, .inr (.inl 33), .inl (.int 0)), (3, .inl (.int 400), .inr (.inl 33)), (6, .inr (.inl 33), .inl (.ref 401)), (1, .inr (.inl 85), .inl (.int 11))]) jm_ok36 (by decide +kernel) (by decide +kernel) hd F X1 X2 (fun F' hF hs => ?_)
  have b84 := hd_b (F := F) (F' := F') (k := 84) (hF 84 (by decide))
  have b33 := hd_b (F := F) (F' := F') (k := 33) (hF 33 (by decide))
  have a39 := hd_ba (F := F) (F' := F') (k := 39) (hF 39 (by decide))
  have t85 : sy_dv F' (.inr (.inl 85)) = .int ((sy_ai F 39).getD (sy_i F 33).toNatClampNeg 0) := hd_rd (hs 0 _ rfl) b33 a39
  have b82 := hd_b (F := F) (F' := F') (k := 82) (hF 82 (by decide))
  have b83 := hd_b (F := F) (F' := F') (k := 83) (hF 83 (by decide))
  have hB' : iv_in F' iv_B0 := iv_in_eq hB (fun j hj => hF j (Nat.lt_of_lt_of_le hj (by decide +kernel)))
  refine ⟨List.forall_mem_cons.mpr ⟨hd_p3 rfl b84 (by have hc : ((4) : Int32).toInt = 4 := (by decide); omega), List.forall_mem_cons.mpr ⟨hd_p3 b33 rfl (by have hc : ((0) : Int32).toInt = 0 := (by decide); omega), List.forall_mem_cons.mpr ⟨hd_p3 rfl b33 (by have hc : ((400) : Int32).toInt = 400 := (by decide); omega), List.forall_mem_cons.mpr ⟨hd_pb b33 (by first | exact h3 | exact h3), List.forall_mem_cons.mpr ⟨hd_p1 t85 rfl (by have hc : ((11) : Int32).toInt = 11 := (by decide); omega), fun _ h => absurd h List.not_mem_nil⟩⟩⟩⟩⟩, ?_⟩
  refine k _ ?_ ?_ ?_
  · exact fun j hj _ => (hd_keep hB' (Nat.lt_of_lt_of_le hj (by decide +kernel)) (by simp)).trans (hF j (Nat.lt_of_lt_of_le hj (by decide)))
  · exact hd_gi (x := .inr (.inl 82)) (by decide +kernel) b82
  · exact hd_gi (x := .inr (.inl 83)) (by decide +kernel) b83
theorem k0pl_30_p2 {Ls : Nat} {xs : Nat → Int32} {d : Nat} {Q : Option Value → jm_h → Prop} (hd : 4 ≤ d) (F : Nat → sy_d) (X1 X2 : List jm_c) (hB : iv_in F iv_B0)
    (h0 : (sy_i F 84).toInt ≤ 4)
    (h1 : 0 ≤ (sy_i F 33).toInt)
    (h2 : (sy_i F 33).toInt ≤ 400)
    (h3 : 0 ≤ (sy_i F 33).toInt ∧ (sy_i F 33).toInt < 401)
    (h4 : ((sy_ai F 39).getD (sy_i F 33).toNatClampNeg 0).toInt = 11)
    (h5 : (sy_i F 84).toInt < 4)
    (k : ∀ F1 : Nat → sy_d, (∀ j, j < 82 → True → F1 j = F j) → F1 82 = .inl (.int (sy_i F 82)) → F1 83 = .inl (.int (sy_i F 83)) → F1 84 = .inl (.int (sy_i F 84)) → hd_W Ls xs d jm_M36 Q (66, sy_dL F1 [some (.inl (.ref 30)), none, some (.inr (.inl 82)), some (.inr (.inl 83)), some (.inr (.inl 84))], sy_dS F1 [.inr (.inl 82), .inl (.ref 30)], sy_dh F1 X1 X2 (iv_H 0), 0, 0)) :
    hd_W Ls xs d jm_M36 Q (30, sy_dL F [some (.inl (.ref 30)), none, some (.inr (.inl 82)), some (.inr (.inl 83)), some (.inr (.inl 84))], sy_dS F [], sy_dh F X1 X2 (iv_H 0), 0, 0) := by
  refine hd_run (s := 0) (nv := 85) (pc := 66) (L := [some (.inl (.ref 30)), none, some (.inr (.inl 82)), some (.inr (.inl 83)), some (.inr (.inl 84))]) (S := [.inr (.inl 82), .inl (.ref 30)]) (uh := hd_ov (iv_id 0 iv_B0) []) (ul := [.inl (.inr (.inl 82)), .inl (.inr (.inl 83)), .inl (.inr (.inl 84))]) (f := true) (sp := [66, 83]) (d0 := 3) (O := [false, false, false, false, true]) (T := [(30, [.inr (.inl 33)], [.inr (.inl 39)])]) (P := [(3, .inl (.int 4), .inr (.inl 84)), (3, .inr (.inl 33), .inl (.int 0)), (3, .inl (.int 400), .inr (.inl 33)), (6, .inr (.inl 33), .inl (.ref 401)), (0, .inr (.inl 85), .inl (.int 11)), (2, .inr (.inl 84), .inl (.int 4))]) jm_ok36 (by decide +kernel) (by decide +kernel) hd F X1 X2 (fun F' hF hs => ?_)
  have b84 := hd_b (F := F) (F' := F') (k := 84) (hF 84 (by decide))
  have b33 := hd_b (F := F) (F' := F') (k := 33) (hF 33 (by decide))
  have a39 := hd_ba (F := F) (F' := F') (k := 39) (hF 39 (by decide))
  have t85 : sy_dv F' (.inr (.inl 85)) = .int ((sy_ai F 39).getD (sy_i F 33).toNatClampNeg 0) := hd_rd (hs 0 _ rfl) b33 a39
  have b82 := hd_b (F := F) (F' := F') (k := 82) (hF 82 (by decide))
  have b83 := hd_b (F := F) (F' := F') (k := 83) (hF 83 (by decide))
  have hB' : iv_in F' iv_B0 := iv_in_eq hB (fun j hj => hF j (Nat.lt_of_lt_of_le hj (by decide +kernel)))
  refine ⟨List.forall_mem_cons.mpr ⟨hd_p3 rfl b84 (by have hc : ((4) : Int32).toInt = 4 := (by decide); omega), List.forall_mem_cons.mpr ⟨hd_p3 b33 rfl (by have hc : ((0) : Int32).toInt = 0 := (by decide); omega), List.forall_mem_cons.mpr ⟨hd_p3 rfl b33 (by have hc : ((400) : Int32).toInt = 400 := (by decide); omega), List.forall_mem_cons.mpr ⟨hd_pb b33 (by first | exact h3 | exact h3), List.forall_mem_cons.mpr ⟨hd_p0 t85 rfl (by have hc : ((11) : Int32).toInt = 11 := (by decide); omega), List.forall_mem_cons.mpr ⟨hd_p2 b84 rfl (by have hc : ((4) : Int32).toInt = 4 := (by decide); omega), fun _ h => absurd h List.not_mem_nil⟩⟩⟩⟩⟩⟩, ?_⟩
  refine k _ ?_ ?_ ?_ ?_
  · exact fun j hj _ => (hd_keep hB' (Nat.lt_of_lt_of_le hj (by decide +kernel)) (by simp)).trans (hF j (Nat.lt_of_lt_of_le hj (by decide)))
  · exact hd_gi (x := .inr (.inl 82)) (by decide +kernel) b82
  · exact hd_gi (x := .inr (.inl 83)) (by decide +kernel) b83
  · exact hd_gi (x := .inr (.inl 84)) (by decide +kernel) b84
theorem k0pl_30_p3 {Ls : Nat} {xs : Nat → Int32} {d : Nat} {Q : Option Value → jm_h → Prop} (hd : 4 ≤ d) (F : Nat → sy_d) (X1 X2 : List jm_c) (hB : iv_in F iv_B0)
    (h0 : (sy_i F 84).toInt ≤ 4)
    (h1 : 0 ≤ (sy_i F 33).toInt)
    (h2 : (sy_i F 33).toInt ≤ 400)
    (h3 : 0 ≤ (sy_i F 33).toInt ∧ (sy_i F 33).toInt < 401)
    (h4 : ((sy_ai F 39).getD (sy_i F 33).toNatClampNeg 0).toInt = 11)
    (h5 : 4 ≤ (sy_i F 84).toInt)
    (k : ∀ F1 : Nat → sy_d, (∀ j, j < 82 → j ≠ 34 → F1 j = F j) → F1 34 = .inl (.int ((2 : Int32))) → Q (some (.int ((0 : Int32)))) (sy_dh F1 X1 X2 (iv_H 0))) :
    hd_W Ls xs d jm_M36 Q (30, sy_dL F [some (.inl (.ref 30)), none, some (.inr (.inl 82)), some (.inr (.inl 83)), some (.inr (.inl 84))], sy_dS F [], sy_dh F X1 X2 (iv_H 0), 0, 0) := by
  refine hd_ret (s := 0) (nv := 85) (v := some (.inl (.int 0))) (uh := hd_ov (iv_id 0 iv_B0) [(34, .inl (.inl (.int 2)))]) (f := true) (sp := [66, 83]) (d0 := 3) (O := [false, false, false, false, false]) (T := [(30, [.inr (.inl 33)], [.inr (.inl 39)])]) (P := [(3, .inl (.int 4), .inr (.inl 84)), (3, .inr (.inl 33), .inl (.int 0)), (3, .inl (.int 400), .inr (.inl 33)), (6, .inr (.inl 33), .inl (.ref 401)), (0, .inr (.inl 85), .inl (.int 11)), (3, .inr (.inl 84), .inl (.int 4))]) jm_ok36 (by decide +kernel) (by decide +kernel) hd F X1 X2 (fun F' hF hs => ?_)
  have b84 := hd_b (F := F) (F' := F') (k := 84) (hF 84 (by decide))
  have b33 := hd_b (F := F) (F' := F') (k := 33) (hF 33 (by decide))
  have a39 := hd_ba (F := F) (F' := F') (k := 39) (hF 39 (by decide))
  have t85 : sy_dv F' (.inr (.inl 85)) = .int ((sy_ai F 39).getD (sy_i F 33).toNatClampNeg 0) := hd_rd (hs 0 _ rfl) b33 a39
  have hB' : iv_in F' iv_B0 := iv_in_eq hB (fun j hj => hF j (Nat.lt_of_lt_of_le hj (by decide +kernel)))
  refine ⟨List.forall_mem_cons.mpr ⟨hd_p3 rfl b84 (by have hc : ((4) : Int32).toInt = 4 := (by decide); omega), List.forall_mem_cons.mpr ⟨hd_p3 b33 rfl (by have hc : ((0) : Int32).toInt = 0 := (by decide); omega), List.forall_mem_cons.mpr ⟨hd_p3 rfl b33 (by have hc : ((400) : Int32).toInt = 400 := (by decide); omega), List.forall_mem_cons.mpr ⟨hd_pb b33 (by first | exact h3 | exact h3), List.forall_mem_cons.mpr ⟨hd_p0 t85 rfl (by have hc : ((11) : Int32).toInt = 11 := (by decide); omega), List.forall_mem_cons.mpr ⟨hd_p3 b84 rfl (by have hc : ((4) : Int32).toInt = 4 := (by decide); omega), fun _ h => absurd h List.not_mem_nil⟩⟩⟩⟩⟩⟩, ?_⟩
  refine k _ ?_ ?_
  · exact fun j hj hn => (hd_keep hB' (Nat.lt_of_lt_of_le hj (by decide +kernel)) (by simp; omega)).trans (hF j (Nat.lt_of_lt_of_le hj (by decide)))
  · exact hd_gi (x := .inl (.int 2)) (by decide +kernel) rfl
theorem k0pl_69_p0 {Ls : Nat} {xs : Nat → Int32} {d : Nat} {Q : Option Value → jm_h → Prop} (hd : 4 ≤ d) (F : Nat → sy_d) (X1 X2 : List jm_c) (hB : iv_in F iv_B0)
    (h0 : (sy_i F 85).toInt ≠ 0)
    (k : ∀ F1 : Nat → sy_d, (∀ j, j < 82 → True → F1 j = F j) → F1 82 = .inl (.int (sy_i F 82)) → F1 83 = .inl (.int (sy_i F 83)) → F1 84 = .inl (.int ((sy_i F 84) + ((1 : Int32)))) → hd_W Ls xs d jm_M36 Q (30, sy_dL F1 [some (.inl (.ref 30)), none, some (.inr (.inl 82)), some (.inr (.inl 83)), some (.inr (.inl 84))], sy_dS F1 [], sy_dh F1 X1 X2 (iv_H 0), 0, 0)) :
    hd_W Ls xs d jm_M36 Q (69, sy_dL F [some (.inl (.ref 30)), none, some (.inr (.inl 82)), some (.inr (.inl 83)), some (.inr (.inl 84))], sy_dS F [.inr (.inl 85)], sy_dh F X1 X2 (iv_H 0), 0, 0) := by
  refine hd_run (s := 0) (nv := 86) (pc := 30) (L := [some (.inl (.ref 30)), none, some (.inr (.inl 82)), some (.inr (.inl 83)), some (.inr (.inl 84))]) (S := []) (uh := hd_ov (iv_id 0 iv_B0) []) (ul := [.inl (.inr (.inl 82)), .inl (.inr (.inl 83)), .inl (.inr (.inl 86))]) (f := false) (sp := [30]) (d0 := 3) (O := [true]) (T := [(0, [.inr (.inl 84), .inl (.int 1)], [])]) (P := [(1, .inr (.inl 85), .inl (.int 0))]) jm_ok36 (by decide +kernel) (by decide +kernel) hd F X1 X2 (fun F' hF hs => ?_)
  have b85 := hd_b (F := F) (F' := F') (k := 85) (hF 85 (by decide))
  have b82 := hd_b (F := F) (F' := F') (k := 82) (hF 82 (by decide))
  have b83 := hd_b (F := F) (F' := F') (k := 83) (hF 83 (by decide))
  have b84 := hd_b (F := F) (F' := F') (k := 84) (hF 84 (by decide))
  have t86 : sy_dv F' (.inr (.inl 86)) = .int ((sy_i F 84) + ((1 : Int32))) := hd_o (hs 0 _ rfl) b84 rfl rfl
  have hB' : iv_in F' iv_B0 := iv_in_eq hB (fun j hj => hF j (Nat.lt_of_lt_of_le hj (by decide +kernel)))
  refine ⟨List.forall_mem_cons.mpr ⟨hd_p1 b85 rfl (by have hc : ((0) : Int32).toInt = 0 := (by decide); omega), fun _ h => absurd h List.not_mem_nil⟩, ?_⟩
  refine k _ ?_ ?_ ?_ ?_
  · exact fun j hj _ => (hd_keep hB' (Nat.lt_of_lt_of_le hj (by decide +kernel)) (by simp)).trans (hF j (Nat.lt_of_lt_of_le hj (by decide)))
  · exact hd_gi (x := .inr (.inl 82)) (by decide +kernel) b82
  · exact hd_gi (x := .inr (.inl 83)) (by decide +kernel) b83
  · exact hd_gi (x := .inr (.inl 86)) (by decide +kernel) t86
theorem k0pl_69_p1 {Ls : Nat} {xs : Nat → Int32} {d : Nat} {Q : Option Value → jm_h → Prop} (hd : 4 ≤ d) (F : Nat → sy_d) (X1 X2 : List jm_c) (hB : iv_in F iv_B0)
    (h0 : (sy_i F 85).toInt = 0)
    (k : ∀ F1 : Nat → sy_d, (∀ j, j < 82 → True → F1 j = F j) → Q (some (.int ((0 : Int32)))) (sy_dh F1 X1 X2 (iv_H 0))) :
    hd_W Ls xs d jm_M36 Q (69, sy_dL F [some (.inl (.ref 30)), none, some (.inr (.inl 82)), some (.inr (.inl 83)), some (.inr (.inl 84))], sy_dS F [.inr (.inl 85)], sy_dh F X1 X2 (iv_H 0), 0, 0) := by
  refine hd_ret (s := 0) (nv := 86) (v := some (.inl (.int 0))) (uh := hd_ov (iv_id 0 iv_B0) []) (f := false) (sp := [30]) (d0 := 3) (O := [false]) (T := []) (P := [(0, .inr (.inl 85), .inl (.int 0))]) jm_ok36 (by decide +kernel) (by decide +kernel) hd F X1 X2 (fun F' hF hs => ?_)
  have b85 := hd_b (F := F) (F' := F') (k := 85) (hF 85 (by decide))
  have hB' : iv_in F' iv_B0 := iv_in_eq hB (fun j hj => hF j (Nat.lt_of_lt_of_le hj (by decide +kernel)))
  refine ⟨List.forall_mem_cons.mpr ⟨hd_p0 b85 rfl (by have hc : ((0) : Int32).toInt = 0 := (by decide); omega), fun _ h => absurd h List.not_mem_nil⟩, ?_⟩
  refine k _ ?_
  · exact fun j hj _ => (hd_keep hB' (Nat.lt_of_lt_of_le hj (by decide +kernel)) (by simp)).trans (hF j (Nat.lt_of_lt_of_le hj (by decide)))
theorem k0pl_86_p0 {Ls : Nat} {xs : Nat → Int32} {d : Nat} {Q : Option Value → jm_h → Prop} (hd : 4 ≤ d) (F : Nat → sy_d) (X1 X2 : List jm_c) (hB : iv_in F iv_B0)
    (h0 : (sy_i F 84).toInt = 0)
    (k : ∀ F1 : Nat → sy_d, (∀ j, j < 82 → True → F1 j = F j) → Q (some (.int ((0 : Int32)))) (sy_dh F1 X1 X2 (iv_H 0))) :
    hd_W Ls xs d jm_M36 Q (86, sy_dL F [some (.inl (.ref 30)), none, some (.inr (.inl 82)), some (.inr (.inl 83)), none], sy_dS F [.inr (.inl 84)], sy_dh F X1 X2 (iv_H 0), 0, 0) := by
  refine hd_ret (s := 0) (nv := 85) (v := some (.inl (.int 0))) (uh := hd_ov (iv_id 0 iv_B0) []) (f := false) (sp := [92]) (d0 := 3) (O := [true]) (T := []) (P := [(0, .inr (.inl 84), .inl (.int 0))]) jm_ok36 (by decide +kernel) (by decide +kernel) hd F X1 X2 (fun F' hF hs => ?_)
  have b84 := hd_b (F := F) (F' := F') (k := 84) (hF 84 (by decide))
  have hB' : iv_in F' iv_B0 := iv_in_eq hB (fun j hj => hF j (Nat.lt_of_lt_of_le hj (by decide +kernel)))
  refine ⟨List.forall_mem_cons.mpr ⟨hd_p0 b84 rfl (by have hc : ((0) : Int32).toInt = 0 := (by decide); omega), fun _ h => absurd h List.not_mem_nil⟩, ?_⟩
  refine k _ ?_
  · exact fun j hj _ => (hd_keep hB' (Nat.lt_of_lt_of_le hj (by decide +kernel)) (by simp)).trans (hF j (Nat.lt_of_lt_of_le hj (by decide)))
theorem k0pl_86_p1 {Ls : Nat} {xs : Nat → Int32} {d : Nat} {Q : Option Value → jm_h → Prop} (hd : 4 ≤ d) (F : Nat → sy_d) (X1 X2 : List jm_c) (hB : iv_in F iv_B0)
    (h0 : (sy_i F 84).toInt ≠ 0)
    (k : ∀ F1 : Nat → sy_d, (∀ j, j < 82 → True → F1 j = F j) → F1 82 = .inl (.int (sy_i F 82)) → F1 83 = .inl (.int (sy_i F 83)) → hd_W Ls xs d jm_M36 Q (92, sy_dL F1 [some (.inl (.ref 30)), none, some (.inr (.inl 82)), some (.inr (.inl 83)), none], sy_dS F1 [.inl (.int 59), .inl (.ref 30)], sy_dh F1 X1 X2 (iv_H 0), 0, 0)) :
    hd_W Ls xs d jm_M36 Q (86, sy_dL F [some (.inl (.ref 30)), none, some (.inr (.inl 82)), some (.inr (.inl 83)), none], sy_dS F [.inr (.inl 84)], sy_dh F X1 X2 (iv_H 0), 0, 0) := by
  refine hd_run (s := 0) (nv := 85) (pc := 92) (L := [some (.inl (.ref 30)), none, some (.inr (.inl 82)), some (.inr (.inl 83)), none]) (S := [.inl (.int 59), .inl (.ref 30)]) (uh := hd_ov (iv_id 0 iv_B0) []) (ul := [.inl (.inr (.inl 82)), .inl (.inr (.inl 83))]) (f := false) (sp := [92]) (d0 := 3) (O := [false]) (T := []) (P := [(1, .inr (.inl 84), .inl (.int 0))]) jm_ok36 (by decide +kernel) (by decide +kernel) hd F X1 X2 (fun F' hF hs => ?_)
  have b84 := hd_b (F := F) (F' := F') (k := 84) (hF 84 (by decide))
  have b82 := hd_b (F := F) (F' := F') (k := 82) (hF 82 (by decide))
  have b83 := hd_b (F := F) (F' := F') (k := 83) (hF 83 (by decide))
  have hB' : iv_in F' iv_B0 := iv_in_eq hB (fun j hj => hF j (Nat.lt_of_lt_of_le hj (by decide +kernel)))
  refine ⟨List.forall_mem_cons.mpr ⟨hd_p1 b84 rfl (by have hc : ((0) : Int32).toInt = 0 := (by decide); omega), fun _ h => absurd h List.not_mem_nil⟩, ?_⟩
  refine k _ ?_ ?_ ?_
  · exact fun j hj _ => (hd_keep hB' (Nat.lt_of_lt_of_le hj (by decide +kernel)) (by simp)).trans (hF j (Nat.lt_of_lt_of_le hj (by decide)))
  · exact hd_gi (x := .inr (.inl 82)) (by decide +kernel) b82
  · exact hd_gi (x := .inr (.inl 83)) (by decide +kernel) b83
theorem k0pl_95_p0 {Ls : Nat} {xs : Nat → Int32} {d : Nat} {Q : Option Value → jm_h → Prop} (hd : 4 ≤ d) (F : Nat → sy_d) (X1 X2 : List jm_c) (hB : iv_in F iv_B0)
    (h0 : (sy_i F 84).toInt ≠ 0)
    (h1 : 512 ≤ (sy_i F 23).toInt)
    (h2 : 0 ≤ (sy_i F 82).toInt ∧ (sy_i F 82).toInt < 6)
    (k : ∀ F1 : Nat → sy_d, (∀ j, j < 82 → j ≠ 31 → F1 j = F j) → F1 31 = .inr (.inl (jm_upd (sy_ai F 31) (sy_i F 82).toNatClampNeg (sy_i F 83))) → Q (some (.int ((1 : Int32)))) (sy_dh F1 X1 X2 (iv_H 0))) :
    hd_W Ls xs d jm_M36 Q (95, sy_dL F [some (.inl (.ref 30)), none, some (.inr (.inl 82)), some (.inr (.inl 83)), none], sy_dS F [.inr (.inl 84)], sy_dh F X1 X2 (iv_H 0), 0, 0) := by
  refine hd_ret (s := 0) (nv := 85) (v := some (.inl (.int 1))) (uh := hd_ov (iv_id 0 iv_B0) [(31, .inr (.inr (.inl 85)))]) (f := false) (sp := []) (d0 := 3) (O := [true, true]) (T := [(40, [.inr (.inl 82), .inr (.inl 83)], [.inr (.inl 31)])]) (P := [(1, .inr (.inl 84), .inl (.int 0)), (4, .inl (.int 512), .inr (.inl 23)), (6, .inr (.inl 82), .inl (.ref 6))]) jm_ok36 (by decide +kernel) (by decide +kernel) hd F X1 X2 (fun F' hF hs => ?_)
  have b84 := hd_b (F := F) (F' := F') (k := 84) (hF 84 (by decide))
  have b23 := hd_b (F := F) (F' := F') (k := 23) (hF 23 (by decide))
  have b82 := hd_b (F := F) (F' := F') (k := 82) (hF 82 (by decide))
  have b83 := hd_b (F := F) (F' := F') (k := 83) (hF 83 (by decide))
  have a31 := hd_ba (F := F) (F' := F') (k := 31) (hF 31 (by decide))
  have t85 : sy_da F' (.inr (.inl 85)) = .inl (jm_upd (sy_ai F 31) (sy_i F 82).toNatClampNeg (sy_i F 83)) := hd_up (hs 0 _ rfl) b82 b83 a31
  have hB' : iv_in F' iv_B0 := iv_in_eq hB (fun j hj => hF j (Nat.lt_of_lt_of_le hj (by decide +kernel)))
  refine ⟨List.forall_mem_cons.mpr ⟨hd_p1 b84 rfl (by have hc : ((0) : Int32).toInt = 0 := (by decide); omega), List.forall_mem_cons.mpr ⟨hd_p4 rfl b23 (by have hc : ((512) : Int32).toInt = 512 := (by decide); omega), List.forall_mem_cons.mpr ⟨hd_pb b82 (by first | exact h2 | exact h2), fun _ h => absurd h List.not_mem_nil⟩⟩⟩, ?_⟩
  refine k _ ?_ ?_
  · exact fun j hj hn => (hd_keep hB' (Nat.lt_of_lt_of_le hj (by decide +kernel)) (by simp; omega)).trans (hF j (Nat.lt_of_lt_of_le hj (by decide)))
  · exact hd_ga (a := .inr (.inl 85)) (by decide +kernel) t85
theorem k0pl_95_p1 {Ls : Nat} {xs : Nat → Int32} {d : Nat} {Q : Option Value → jm_h → Prop} (hd : 4 ≤ d) (F : Nat → sy_d) (X1 X2 : List jm_c) (hB : iv_in F iv_B0)
    (h0 : (sy_i F 84).toInt ≠ 0)
    (h1 : (sy_i F 23).toInt < 512)
    (h2 : 0 ≤ (sy_i F 23).toInt ∧ (sy_i F 23).toInt < 512)
    (h3 : 0 ≤ (sy_i F 82).toInt ∧ (sy_i F 82).toInt < 6)
    (k : ∀ F1 : Nat → sy_d, (∀ j, j < 82 → j ≠ 23 ∧ j ≠ 31 ∧ j ≠ 32 → F1 j = F j) → F1 23 = .inl (.int ((sy_i F 23) + ((1 : Int32)))) → F1 31 = .inr (.inl (jm_upd (sy_ai F 31) (sy_i F 82).toNatClampNeg (sy_i F 83))) → F1 32 = .inr (.inl (jm_upd (sy_ai F 32) (sy_i F 23).toNatClampNeg (((-14) : Int32)))) → Q (some (.int ((1 : Int32)))) (sy_dh F1 X1 X2 (iv_H 0))) :
    hd_W Ls xs d jm_M36 Q (95, sy_dL F [some (.inl (.ref 30)), none, some (.inr (.inl 82)), some (.inr (.inl 83)), none], sy_dS F [.inr (.inl 84)], sy_dh F X1 X2 (iv_H 0), 0, 0) := by
  refine hd_ret (s := 0) (nv := 85) (v := some (.inl (.int 1))) (uh := hd_ov (iv_id 0 iv_B0) [(23, .inl (.inr (.inl 86))), (31, .inr (.inr (.inl 87))), (32, .inr (.inr (.inl 85)))]) (f := false) (sp := []) (d0 := 3) (O := [true, false]) (T := [(40, [.inr (.inl 23), .inl (.int (-14))], [.inr (.inl 32)]), (0, [.inr (.inl 23), .inl (.int 1)], []), (40, [.inr (.inl 82), .inr (.inl 83)], [.inr (.inl 31)])]) (P := [(1, .inr (.inl 84), .inl (.int 0)), (5, .inl (.int 512), .inr (.inl 23)), (6, .inr (.inl 23), .inl (.ref 512)), (6, .inr (.inl 82), .inl (.ref 6))]) jm_ok36 (by decide +kernel) (by decide +kernel) hd F X1 X2 (fun F' hF hs => ?_)
  have b84 := hd_b (F := F) (F' := F') (k := 84) (hF 84 (by decide))
  have b23 := hd_b (F := F) (F' := F') (k := 23) (hF 23 (by decide))
  have b82 := hd_b (F := F) (F' := F') (k := 82) (hF 82 (by decide))
  have t86 : sy_dv F' (.inr (.inl 86)) = .int ((sy_i F 23) + ((1 : Int32))) := hd_o (hs 1 _ rfl) b23 rfl rfl
  have b83 := hd_b (F := F) (F' := F') (k := 83) (hF 83 (by decide))
  have a31 := hd_ba (F := F) (F' := F') (k := 31) (hF 31 (by decide))
  have t87 : sy_da F' (.inr (.inl 87)) = .inl (jm_upd (sy_ai F 31) (sy_i F 82).toNatClampNeg (sy_i F 83)) := hd_up (hs 2 _ rfl) b82 b83 a31
  have a32 := hd_ba (F := F) (F' := F') (k := 32) (hF 32 (by decide))
  have t85 : sy_da F' (.inr (.inl 85)) = .inl (jm_upd (sy_ai F 32) (sy_i F 23).toNatClampNeg (((-14) : Int32))) := hd_up (hs 0 _ rfl) b23 rfl a32
  have hB' : iv_in F' iv_B0 := iv_in_eq hB (fun j hj => hF j (Nat.lt_of_lt_of_le hj (by decide +kernel)))
  refine ⟨List.forall_mem_cons.mpr ⟨hd_p1 b84 rfl (by have hc : ((0) : Int32).toInt = 0 := (by decide); omega), List.forall_mem_cons.mpr ⟨hd_p5 rfl b23 (by have hc : ((512) : Int32).toInt = 512 := (by decide); omega), List.forall_mem_cons.mpr ⟨hd_pb b23 (by first | exact h2 | exact h2), List.forall_mem_cons.mpr ⟨hd_pb b82 (by first | exact h3 | exact h3), fun _ h => absurd h List.not_mem_nil⟩⟩⟩⟩, ?_⟩
  refine k _ ?_ ?_ ?_ ?_
  · exact fun j hj hn => (hd_keep hB' (Nat.lt_of_lt_of_le hj (by decide +kernel)) (by simp; omega)).trans (hF j (Nat.lt_of_lt_of_le hj (by decide)))
  · exact hd_gi (x := .inr (.inl 86)) (by decide +kernel) t86
  · exact hd_ga (a := .inr (.inl 87)) (by decide +kernel) t87
  · exact hd_ga (a := .inr (.inl 85)) (by decide +kernel) t85
theorem k0pl_95_p2 {Ls : Nat} {xs : Nat → Int32} {d : Nat} {Q : Option Value → jm_h → Prop} (hd : 4 ≤ d) (F : Nat → sy_d) (X1 X2 : List jm_c) (hB : iv_in F iv_B0)
    (h0 : (sy_i F 84).toInt = 0)
    (k : ∀ F1 : Nat → sy_d, (∀ j, j < 82 → True → F1 j = F j) → Q (some (.int ((0 : Int32)))) (sy_dh F1 X1 X2 (iv_H 0))) :
    hd_W Ls xs d jm_M36 Q (95, sy_dL F [some (.inl (.ref 30)), none, some (.inr (.inl 82)), some (.inr (.inl 83)), none], sy_dS F [.inr (.inl 84)], sy_dh F X1 X2 (iv_H 0), 0, 0) := by
  refine hd_ret (s := 0) (nv := 85) (v := some (.inl (.int 0))) (uh := hd_ov (iv_id 0 iv_B0) []) (f := false) (sp := []) (d0 := 3) (O := [false]) (T := []) (P := [(0, .inr (.inl 84), .inl (.int 0))]) jm_ok36 (by decide +kernel) (by decide +kernel) hd F X1 X2 (fun F' hF hs => ?_)
  have b84 := hd_b (F := F) (F' := F') (k := 84) (hF 84 (by decide))
  have hB' : iv_in F' iv_B0 := iv_in_eq hB (fun j hj => hF j (Nat.lt_of_lt_of_le hj (by decide +kernel)))
  refine ⟨List.forall_mem_cons.mpr ⟨hd_p0 b84 rfl (by have hc : ((0) : Int32).toInt = 0 := (by decide); omega), fun _ h => absurd h List.not_mem_nil⟩, ?_⟩
  refine k _ ?_
  · exact fun j hj _ => (hd_keep hB' (Nat.lt_of_lt_of_le hj (by decide +kernel)) (by simp)).trans (hF j (Nat.lt_of_lt_of_le hj (by decide)))
end
section
/-! ===== the class parses laws, way by way (shape 3) ===== -/
theorem k3pi_0_p0 {Ls : Nat} {xs : Nat → Int32} {d : Nat} {Q : Option Value → jm_h → Prop} (hd : 4 ≤ d) (F : Nat → sy_d) (X1 X2 : List jm_c) (hB : iv_in F iv_B0)
    (k : ∀ F1 : Nat → sy_d, (∀ j, j < 82 → True → F1 j = F j) → F1 82 = .inl (.int (sy_i F 82)) → hd_W Ls xs d jm_M37 Q (3, sy_dL F1 [some (.inl (.ref 30)), some (.inr (.inl 82)), none, none], sy_dS F1 [.inl (.int 11), .inl (.ref 30)], sy_dh F1 X1 X2 (iv_H 3), 0, 0)) :
    hd_W Ls xs d jm_M37 Q (0, sy_dL F [some (.inl (.ref 30)), some (.inr (.inl 82)), none, none], sy_dS F [], sy_dh F X1 X2 (iv_H 3), 0, 0) := by
  refine hd_run (s := 3) (nv := 83) (pc := 3) (L := [some (.inl (.ref 30)), some (.inr (.inl 82)), none, none]) (S := [.inl (.int 11), .inl (.ref 30)]) (uh := hd_ov (iv_id 0 iv_B0) []) (ul := [.inl (.inr (.inl 82))]) (f := true) (sp := [3]) (d0 := 3) (O := []) (T := []) (P := []) jm_ok37 (by decide +kernel) (by decide +kernel) hd F X1 X2 (fun F' hF hs => ?_)
  have b82 := hd_b (F := F) (F' := F') (k := 82) (hF 82 (by decide))
  have hB' : iv_in F' iv_B0 := iv_in_eq hB (fun j hj => hF j (Nat.lt_of_lt_of_le hj (by decide +kernel)))
  refine ⟨fun _ h => absurd h List.not_mem_nil, ?_⟩
  refine k _ ?_ ?_
  · exact fun j hj _ => (hd_keep hB' (Nat.lt_of_lt_of_le hj (by decide +kernel)) (by simp)).trans (hF j (Nat.lt_of_lt_of_le hj (by decide)))
  · exact hd_gi (x := .inr (.inl 82)) (by decide +kernel) b82
theorem k3pi_6_p0 {Ls : Nat} {xs : Nat → Int32} {d : Nat} {Q : Option Value → jm_h → Prop} (hd : 4 ≤ d) (F : Nat → sy_d) (X1 X2 : List jm_c) (hB : iv_in F iv_B0)
    (h0 : (sy_i F 83).toInt = 0)
    (k : ∀ F1 : Nat → sy_d, (∀ j, j < 82 → True → F1 j = F j) → Q (some (.int ((0 : Int32)))) (sy_dh F1 X1 X2 (iv_H 3))) :
    hd_W Ls xs d jm_M37 Q (6, sy_dL F [some (.inl (.ref 30)), some (.inr (.inl 82)), none, none], sy_dS F [.inr (.inl 83)], sy_dh F X1 X2 (iv_H 3), 0, 0) := by
  refine hd_ret (s := 3) (nv := 84) (v := some (.inl (.int 0))) (uh := hd_ov (iv_id 0 iv_B0) []) (f := false) (sp := [12]) (d0 := 3) (O := [true]) (T := []) (P := [(0, .inr (.inl 83), .inl (.int 0))]) jm_ok37 (by decide +kernel) (by decide +kernel) hd F X1 X2 (fun F' hF hs => ?_)
  have b83 := hd_b (F := F) (F' := F') (k := 83) (hF 83 (by decide))
  have hB' : iv_in F' iv_B0 := iv_in_eq hB (fun j hj => hF j (Nat.lt_of_lt_of_le hj (by decide +kernel)))
  refine ⟨List.forall_mem_cons.mpr ⟨hd_p0 b83 rfl (by have hc : ((0) : Int32).toInt = 0 := (by decide); omega), fun _ h => absurd h List.not_mem_nil⟩, ?_⟩
  refine k _ ?_
  · exact fun j hj _ => (hd_keep hB' (Nat.lt_of_lt_of_le hj (by decide +kernel)) (by simp)).trans (hF j (Nat.lt_of_lt_of_le hj (by decide)))
theorem k3pi_6_p1 {Ls : Nat} {xs : Nat → Int32} {d : Nat} {Q : Option Value → jm_h → Prop} (hd : 4 ≤ d) (F : Nat → sy_d) (X1 X2 : List jm_c) (hB : iv_in F iv_B0)
    (h0 : (sy_i F 83).toInt ≠ 0)
    (k : ∀ F1 : Nat → sy_d, (∀ j, j < 82 → True → F1 j = F j) → F1 82 = .inl (.int (sy_i F 82)) → hd_W Ls xs d jm_M37 Q (12, sy_dL F1 [some (.inl (.ref 30)), some (.inr (.inl 82)), none, none], sy_dS F1 [.inl (.int 0), .inr (.inl 82), .inl (.ref 30)], sy_dh F1 X1 X2 (iv_H 3), 0, 0)) :
    hd_W Ls xs d jm_M37 Q (6, sy_dL F [some (.inl (.ref 30)), some (.inr (.inl 82)), none, none], sy_dS F [.inr (.inl 83)], sy_dh F X1 X2 (iv_H 3), 0, 0) := by
  refine hd_run (s := 3) (nv := 84) (pc := 12) (L := [some (.inl (.ref 30)), some (.inr (.inl 82)), none, none]) (S := [.inl (.int 0), .inr (.inl 82), .inl (.ref 30)]) (uh := hd_ov (iv_id 0 iv_B0) []) (ul := [.inl (.inr (.inl 82))]) (f := false) (sp := [12]) (d0 := 3) (O := [false]) (T := []) (P := [(1, .inr (.inl 83), .inl (.int 0))]) jm_ok37 (by decide +kernel) (by decide +kernel) hd F X1 X2 (fun F' hF hs => ?_)
  have b83 := hd_b (F := F) (F' := F') (k := 83) (hF 83 (by decide))
  have b82 := hd_b (F := F) (F' := F') (k := 82) (hF 82 (by decide))
  have hB' : iv_in F' iv_B0 := iv_in_eq hB (fun j hj => hF j (Nat.lt_of_lt_of_le hj (by decide +kernel)))
  refine ⟨List.forall_mem_cons.mpr ⟨hd_p1 b83 rfl (by have hc : ((0) : Int32).toInt = 0 := (by decide); omega), fun _ h => absurd h List.not_mem_nil⟩, ?_⟩
  refine k _ ?_ ?_
  · exact fun j hj _ => (hd_keep hB' (Nat.lt_of_lt_of_le hj (by decide +kernel)) (by simp)).trans (hF j (Nat.lt_of_lt_of_le hj (by decide)))
  · exact hd_gi (x := .inr (.inl 82)) (by decide +kernel) b82
theorem k3pi_15_p0 {Ls : Nat} {xs : Nat → Int32} {d : Nat} {Q : Option Value → jm_h → Prop} (hd : 4 ≤ d) (F : Nat → sy_d) (X1 X2 : List jm_c) (hB : iv_in F iv_B0)
    (h0 : (sy_i F 83).toInt = 0)
    (k : ∀ F1 : Nat → sy_d, (∀ j, j < 82 → True → F1 j = F j) → Q (some (.int ((0 : Int32)))) (sy_dh F1 X1 X2 (iv_H 3))) :
    hd_W Ls xs d jm_M37 Q (15, sy_dL F [some (.inl (.ref 30)), some (.inr (.inl 82)), none, none], sy_dS F [.inr (.inl 83)], sy_dh F X1 X2 (iv_H 3), 0, 0) := by
  refine hd_ret (s := 3) (nv := 84) (v := some (.inl (.int 0))) (uh := hd_ov (iv_id 0 iv_B0) []) (f := false) (sp := [21]) (d0 := 3) (O := [true]) (T := []) (P := [(0, .inr (.inl 83), .inl (.int 0))]) jm_ok37 (by decide +kernel) (by decide +kernel) hd F X1 X2 (fun F' hF hs => ?_)
  have b83 := hd_b (F := F) (F' := F') (k := 83) (hF 83 (by decide))
  have hB' : iv_in F' iv_B0 := iv_in_eq hB (fun j hj => hF j (Nat.lt_of_lt_of_le hj (by decide +kernel)))
  refine ⟨List.forall_mem_cons.mpr ⟨hd_p0 b83 rfl (by have hc : ((0) : Int32).toInt = 0 := (by decide); omega), fun _ h => absurd h List.not_mem_nil⟩, ?_⟩
  refine k _ ?_
  · exact fun j hj _ => (hd_keep hB' (Nat.lt_of_lt_of_le hj (by decide +kernel)) (by simp)).trans (hF j (Nat.lt_of_lt_of_le hj (by decide)))
theorem k3pi_15_p1 {Ls : Nat} {xs : Nat → Int32} {d : Nat} {Q : Option Value → jm_h → Prop} (hd : 4 ≤ d) (F : Nat → sy_d) (X1 X2 : List jm_c) (hB : iv_in F iv_B0)
    (h0 : (sy_i F 83).toInt ≠ 0)
    (k : ∀ F1 : Nat → sy_d, (∀ j, j < 82 → True → F1 j = F j) → F1 82 = .inl (.int (sy_i F 82)) → hd_W Ls xs d jm_M37 Q (21, sy_dL F1 [some (.inl (.ref 30)), some (.inr (.inl 82)), none, none], sy_dS F1 [.inl (.int 60), .inl (.ref 30)], sy_dh F1 X1 X2 (iv_H 3), 0, 0)) :
    hd_W Ls xs d jm_M37 Q (15, sy_dL F [some (.inl (.ref 30)), some (.inr (.inl 82)), none, none], sy_dS F [.inr (.inl 83)], sy_dh F X1 X2 (iv_H 3), 0, 0) := by
  refine hd_run (s := 3) (nv := 84) (pc := 21) (L := [some (.inl (.ref 30)), some (.inr (.inl 82)), none, none]) (S := [.inl (.int 60), .inl (.ref 30)]) (uh := hd_ov (iv_id 0 iv_B0) []) (ul := [.inl (.inr (.inl 82))]) (f := false) (sp := [21]) (d0 := 3) (O := [false]) (T := []) (P := [(1, .inr (.inl 83), .inl (.int 0))]) jm_ok37 (by decide +kernel) (by decide +kernel) hd F X1 X2 (fun F' hF hs => ?_)
  have b83 := hd_b (F := F) (F' := F') (k := 83) (hF 83 (by decide))
  have b82 := hd_b (F := F) (F' := F') (k := 82) (hF 82 (by decide))
  have hB' : iv_in F' iv_B0 := iv_in_eq hB (fun j hj => hF j (Nat.lt_of_lt_of_le hj (by decide +kernel)))
  refine ⟨List.forall_mem_cons.mpr ⟨hd_p1 b83 rfl (by have hc : ((0) : Int32).toInt = 0 := (by decide); omega), fun _ h => absurd h List.not_mem_nil⟩, ?_⟩
  refine k _ ?_ ?_
  · exact fun j hj _ => (hd_keep hB' (Nat.lt_of_lt_of_le hj (by decide +kernel)) (by simp)).trans (hF j (Nat.lt_of_lt_of_le hj (by decide)))
  · exact hd_gi (x := .inr (.inl 82)) (by decide +kernel) b82
theorem k3pi_24_p0 {Ls : Nat} {xs : Nat → Int32} {d : Nat} {Q : Option Value → jm_h → Prop} (hd : 4 ≤ d) (F : Nat → sy_d) (X1 X2 : List jm_c) (hB : iv_in F iv_B0)
    (h0 : (sy_i F 83).toInt = 0)
    (k : ∀ F1 : Nat → sy_d, (∀ j, j < 82 → True → F1 j = F j) → Q (some (.int ((0 : Int32)))) (sy_dh F1 X1 X2 (iv_H 3))) :
    hd_W Ls xs d jm_M37 Q (24, sy_dL F [some (.inl (.ref 30)), some (.inr (.inl 82)), none, none], sy_dS F [.inr (.inl 83)], sy_dh F X1 X2 (iv_H 3), 0, 0) := by
  refine hd_ret (s := 3) (nv := 84) (v := some (.inl (.int 0))) (uh := hd_ov (iv_id 0 iv_B0) []) (f := false) (sp := [30]) (d0 := 3) (O := [true]) (T := []) (P := [(0, .inr (.inl 83), .inl (.int 0))]) jm_ok37 (by decide +kernel) (by decide +kernel) hd F X1 X2 (fun F' hF hs => ?_)
  have b83 := hd_b (F := F) (F' := F') (k := 83) (hF 83 (by decide))
  have hB' : iv_in F' iv_B0 := iv_in_eq hB (fun j hj => hF j (Nat.lt_of_lt_of_le hj (by decide +kernel)))
  refine ⟨List.forall_mem_cons.mpr ⟨hd_p0 b83 rfl (by have hc : ((0) : Int32).toInt = 0 := (by decide); omega), fun _ h => absurd h List.not_mem_nil⟩, ?_⟩
  refine k _ ?_
  · exact fun j hj _ => (hd_keep hB' (Nat.lt_of_lt_of_le hj (by decide +kernel)) (by simp)).trans (hF j (Nat.lt_of_lt_of_le hj (by decide)))
theorem k3pi_24_p1 {Ls : Nat} {xs : Nat → Int32} {d : Nat} {Q : Option Value → jm_h → Prop} (hd : 4 ≤ d) (F : Nat → sy_d) (X1 X2 : List jm_c) (hB : iv_in F iv_B0)
    (h0 : (sy_i F 83).toInt ≠ 0)
    (k : ∀ F1 : Nat → sy_d, (∀ j, j < 82 → True → F1 j = F j) → F1 82 = .inl (.int (sy_i F 82)) → hd_W Ls xs d jm_M37 Q (30, sy_dL F1 [some (.inl (.ref 30)), some (.inr (.inl 82)), none, none], sy_dS F1 [.inl (.int 0), .inr (.inl 82), .inl (.ref 30)], sy_dh F1 X1 X2 (iv_H 3), 0, 0)) :
    hd_W Ls xs d jm_M37 Q (24, sy_dL F [some (.inl (.ref 30)), some (.inr (.inl 82)), none, none], sy_dS F [.inr (.inl 83)], sy_dh F X1 X2 (iv_H 3), 0, 0) := by
  refine hd_run (s := 3) (nv := 84) (pc := 30) (L := [some (.inl (.ref 30)), some (.inr (.inl 82)), none, none]) (S := [.inl (.int 0), .inr (.inl 82), .inl (.ref 30)]) (uh := hd_ov (iv_id 0 iv_B0) []) (ul := [.inl (.inr (.inl 82))]) (f := false) (sp := [30]) (d0 := 3) (O := [false]) (T := []) (P := [(1, .inr (.inl 83), .inl (.int 0))]) jm_ok37 (by decide +kernel) (by decide +kernel) hd F X1 X2 (fun F' hF hs => ?_)
  have b83 := hd_b (F := F) (F' := F') (k := 83) (hF 83 (by decide))
  have b82 := hd_b (F := F) (F' := F') (k := 82) (hF 82 (by decide))
  have hB' : iv_in F' iv_B0 := iv_in_eq hB (fun j hj => hF j (Nat.lt_of_lt_of_le hj (by decide +kernel)))
  refine ⟨List.forall_mem_cons.mpr ⟨hd_p1 b83 rfl (by have hc : ((0) : Int32).toInt = 0 := (by decide); omega), fun _ h => absurd h List.not_mem_nil⟩, ?_⟩
  refine k _ ?_ ?_
  · exact fun j hj _ => (hd_keep hB' (Nat.lt_of_lt_of_le hj (by decide +kernel)) (by simp)).trans (hF j (Nat.lt_of_lt_of_le hj (by decide)))
  · exact hd_gi (x := .inr (.inl 82)) (by decide +kernel) b82
theorem k3pi_33_p0 {Ls : Nat} {xs : Nat → Int32} {d : Nat} {Q : Option Value → jm_h → Prop} (hd : 4 ≤ d) (F : Nat → sy_d) (X1 X2 : List jm_c) (hB : iv_in F iv_B0)
    (h0 : (sy_i F 83).toInt = 0)
    (k : ∀ F1 : Nat → sy_d, (∀ j, j < 82 → True → F1 j = F j) → Q (some (.int ((0 : Int32)))) (sy_dh F1 X1 X2 (iv_H 3))) :
    hd_W Ls xs d jm_M37 Q (33, sy_dL F [some (.inl (.ref 30)), some (.inr (.inl 82)), none, none], sy_dS F [.inr (.inl 83)], sy_dh F X1 X2 (iv_H 3), 0, 0) := by
  refine hd_ret (s := 3) (nv := 84) (v := some (.inl (.int 0))) (uh := hd_ov (iv_id 0 iv_B0) []) (f := false) (sp := [39]) (d0 := 3) (O := [true]) (T := []) (P := [(0, .inr (.inl 83), .inl (.int 0))]) jm_ok37 (by decide +kernel) (by decide +kernel) hd F X1 X2 (fun F' hF hs => ?_)
  have b83 := hd_b (F := F) (F' := F') (k := 83) (hF 83 (by decide))
  have hB' : iv_in F' iv_B0 := iv_in_eq hB (fun j hj => hF j (Nat.lt_of_lt_of_le hj (by decide +kernel)))
  refine ⟨List.forall_mem_cons.mpr ⟨hd_p0 b83 rfl (by have hc : ((0) : Int32).toInt = 0 := (by decide); omega), fun _ h => absurd h List.not_mem_nil⟩, ?_⟩
  refine k _ ?_
  · exact fun j hj _ => (hd_keep hB' (Nat.lt_of_lt_of_le hj (by decide +kernel)) (by simp)).trans (hF j (Nat.lt_of_lt_of_le hj (by decide)))
theorem k3pi_33_p1 {Ls : Nat} {xs : Nat → Int32} {d : Nat} {Q : Option Value → jm_h → Prop} (hd : 4 ≤ d) (F : Nat → sy_d) (X1 X2 : List jm_c) (hB : iv_in F iv_B0)
    (h0 : (sy_i F 83).toInt ≠ 0)
    (k : ∀ F1 : Nat → sy_d, (∀ j, j < 82 → True → F1 j = F j) → F1 82 = .inl (.int (sy_i F 82)) → hd_W Ls xs d jm_M37 Q (39, sy_dL F1 [some (.inl (.ref 30)), some (.inr (.inl 82)), none, none], sy_dS F1 [.inl (.int 12), .inl (.ref 30)], sy_dh F1 X1 X2 (iv_H 3), 0, 0)) :
    hd_W Ls xs d jm_M37 Q (33, sy_dL F [some (.inl (.ref 30)), some (.inr (.inl 82)), none, none], sy_dS F [.inr (.inl 83)], sy_dh F X1 X2 (iv_H 3), 0, 0) := by
  refine hd_run (s := 3) (nv := 84) (pc := 39) (L := [some (.inl (.ref 30)), some (.inr (.inl 82)), none, none]) (S := [.inl (.int 12), .inl (.ref 30)]) (uh := hd_ov (iv_id 0 iv_B0) []) (ul := [.inl (.inr (.inl 82))]) (f := false) (sp := [39]) (d0 := 3) (O := [false]) (T := []) (P := [(1, .inr (.inl 83), .inl (.int 0))]) jm_ok37 (by decide +kernel) (by decide +kernel) hd F X1 X2 (fun F' hF hs => ?_)
  have b83 := hd_b (F := F) (F' := F') (k := 83) (hF 83 (by decide))
  have b82 := hd_b (F := F) (F' := F') (k := 82) (hF 82 (by decide))
  have hB' : iv_in F' iv_B0 := iv_in_eq hB (fun j hj => hF j (Nat.lt_of_lt_of_le hj (by decide +kernel)))
  refine ⟨List.forall_mem_cons.mpr ⟨hd_p1 b83 rfl (by have hc : ((0) : Int32).toInt = 0 := (by decide); omega), fun _ h => absurd h List.not_mem_nil⟩, ?_⟩
  refine k _ ?_ ?_
  · exact fun j hj _ => (hd_keep hB' (Nat.lt_of_lt_of_le hj (by decide +kernel)) (by simp)).trans (hF j (Nat.lt_of_lt_of_le hj (by decide)))
  · exact hd_gi (x := .inr (.inl 82)) (by decide +kernel) b82
theorem k3pi_42_p0 {Ls : Nat} {xs : Nat → Int32} {d : Nat} {Q : Option Value → jm_h → Prop} (hd : 4 ≤ d) (F : Nat → sy_d) (X1 X2 : List jm_c) (hB : iv_in F iv_B0)
    (h0 : (sy_i F 83).toInt = 0)
    (k : ∀ F1 : Nat → sy_d, (∀ j, j < 82 → True → F1 j = F j) → Q (some (.int ((0 : Int32)))) (sy_dh F1 X1 X2 (iv_H 3))) :
    hd_W Ls xs d jm_M37 Q (42, sy_dL F [some (.inl (.ref 30)), some (.inr (.inl 82)), none, none], sy_dS F [.inr (.inl 83)], sy_dh F X1 X2 (iv_H 3), 0, 0) := by
  refine hd_ret (s := 3) (nv := 84) (v := some (.inl (.int 0))) (uh := hd_ov (iv_id 0 iv_B0) []) (f := false) (sp := [85]) (d0 := 3) (O := [true]) (T := []) (P := [(0, .inr (.inl 83), .inl (.int 0))]) jm_ok37 (by decide +kernel) (by decide +kernel) hd F X1 X2 (fun F' hF hs => ?_)
  have b83 := hd_b (F := F) (F' := F') (k := 83) (hF 83 (by decide))
  have hB' : iv_in F' iv_B0 := iv_in_eq hB (fun j hj => hF j (Nat.lt_of_lt_of_le hj (by decide +kernel)))
  refine ⟨List.forall_mem_cons.mpr ⟨hd_p0 b83 rfl (by have hc : ((0) : Int32).toInt = 0 := (by decide); omega), fun _ h => absurd h List.not_mem_nil⟩, ?_⟩
  refine k _ ?_
  · exact fun j hj _ => (hd_keep hB' (Nat.lt_of_lt_of_le hj (by decide +kernel)) (by simp)).trans (hF j (Nat.lt_of_lt_of_le hj (by decide)))
theorem k3pi_42_p1 {Ls : Nat} {xs : Nat → Int32} {d : Nat} {Q : Option Value → jm_h → Prop} (hd : 4 ≤ d) (F : Nat → sy_d) (X1 X2 : List jm_c) (hB : iv_in F iv_B0)
    (h0 : (sy_i F 83).toInt ≠ 0)
    (h1 : 512 ≤ (sy_i F 8).toInt)
    (h2 : 512 ≤ (sy_i F 8).toInt)
    (k : ∀ F1 : Nat → sy_d, (∀ j, j < 82 → True → F1 j = F j) → F1 82 = .inl (.int (sy_i F 82)) → F1 83 = .inl (.int (sy_i F 8)) → hd_W Ls xs d jm_M37 Q (85, sy_dL F1 [some (.inl (.ref 30)), some (.inr (.inl 82)), none, some (.inr (.inl 83))], sy_dS F1 [.inl (.int 0), .inr (.inl 82), .inl (.ref 30)], sy_dh F1 X1 X2 (iv_H 3), 0, 0)) :
    hd_W Ls xs d jm_M37 Q (42, sy_dL F [some (.inl (.ref 30)), some (.inr (.inl 82)), none, none], sy_dS F [.inr (.inl 83)], sy_dh F X1 X2 (iv_H 3), 0, 0) := by
  refine hd_run (s := 3) (nv := 84) (pc := 85) (L := [some (.inl (.ref 30)), some (.inr (.inl 82)), none, some (.inr (.inl 83))]) (S := [.inl (.int 0), .inr (.inl 82), .inl (.ref 30)]) (uh := hd_ov (iv_id 0 iv_B0) []) (ul := [.inl (.inr (.inl 82)), .inl (.inr (.inl 8))]) (f := false) (sp := [85]) (d0 := 3) (O := [false, true, true]) (T := []) (P := [(1, .inr (.inl 83), .inl (.int 0)), (4, .inl (.int 512), .inr (.inl 8)), (4, .inl (.int 512), .inr (.inl 8))]) jm_ok37 (by decide +kernel) (by decide +kernel) hd F X1 X2 (fun F' hF hs => ?_)
  have b83 := hd_b (F := F) (F' := F') (k := 83) (hF 83 (by decide))
  have b8 := hd_b (F := F) (F' := F') (k := 8) (hF 8 (by decide))
  have b82 := hd_b (F := F) (F' := F') (k := 82) (hF 82 (by decide))
  have hB' : iv_in F' iv_B0 := iv_in_eq hB (fun j hj => hF j (Nat.lt_of_lt_of_le hj (by decide +kernel)))
  refine ⟨List.forall_mem_cons.mpr ⟨hd_p1 b83 rfl (by have hc : ((0) : Int32).toInt = 0 := (by decide); omega), List.forall_mem_cons.mpr ⟨hd_p4 rfl b8 (by have hc : ((512) : Int32).toInt = 512 := (by decide); omega), List.forall_mem_cons.mpr ⟨hd_p4 rfl b8 (by have hc : ((512) : Int32).toInt = 512 := (by decide); omega), fun _ h => absurd h List.not_mem_nil⟩⟩⟩, ?_⟩
  refine k _ ?_ ?_ ?_
  · exact fun j hj _ => (hd_keep hB' (Nat.lt_of_lt_of_le hj (by decide +kernel)) (by simp)).trans (hF j (Nat.lt_of_lt_of_le hj (by decide)))
  · exact hd_gi (x := .inr (.inl 82)) (by decide +kernel) b82
  · exact hd_gi (x := .inr (.inl 8)) (by decide +kernel) b8
theorem k3pi_42_p2 {Ls : Nat} {xs : Nat → Int32} {d : Nat} {Q : Option Value → jm_h → Prop} (hd : 4 ≤ d) (F : Nat → sy_d) (X1 X2 : List jm_c) (hB : iv_in F iv_B0)
    (h0 : (sy_i F 83).toInt ≠ 0)
    (h1 : (sy_i F 8).toInt < 512)
    (h2 : 0 ≤ (sy_i F 8).toInt ∧ (sy_i F 8).toInt < 512)
    (h3 : 512 ≤ ((sy_i F 8) + ((1 : Int32))).toInt)
    (k : ∀ F1 : Nat → sy_d, (∀ j, j < 82 → j ≠ 8 ∧ j ≠ 17 → F1 j = F j) → F1 8 = .inl (.int ((sy_i F 8) + ((1 : Int32)))) → F1 17 = .inr (.inl (jm_upd (sy_ai F 17) (sy_i F 8).toNatClampNeg (((-15) : Int32)))) → F1 82 = .inl (.int (sy_i F 82)) → F1 83 = .inl (.int ((sy_i F 8) + ((1 : Int32)))) → hd_W Ls xs d jm_M37 Q (85, sy_dL F1 [some (.inl (.ref 30)), some (.inr (.inl 82)), none, some (.inr (.inl 83))], sy_dS F1 [.inl (.int 0), .inr (.inl 82), .inl (.ref 30)], sy_dh F1 X1 X2 (iv_H 3), 0, 0)) :
    hd_W Ls xs d jm_M37 Q (42, sy_dL F [some (.inl (.ref 30)), some (.inr (.inl 82)), none, none], sy_dS F [.inr (.inl 83)], sy_dh F X1 X2 (iv_H 3), 0, 0) := by
  refine hd_run (s := 3) (nv := 84) (pc := 85) (L := [some (.inl (.ref 30)), some (.inr (.inl 82)), none, some (.inr (.inl 83))]) (S := [.inl (.int 0), .inr (.inl 82), .inl (.ref 30)]) (uh := hd_ov (iv_id 0 iv_B0) [(8, .inl (.inr (.inl 85))), (17, .inr (.inr (.inl 84)))]) (ul := [.inl (.inr (.inl 82)), .inl (.inr (.inl 85))]) (f := false) (sp := [85]) (d0 := 3) (O := [false, false, true]) (T := [(40, [.inr (.inl 8), .inl (.int (-15))], [.inr (.inl 17)]), (0, [.inr (.inl 8), .inl (.int 1)], [])]) (P := [(1, .inr (.inl 83), .inl (.int 0)), (5, .inl (.int 512), .inr (.inl 8)), (6, .inr (.inl 8), .inl (.ref 512)), (4, .inl (.int 512), .inr (.inl 85))]) jm_ok37 (by decide +kernel) (by decide +kernel) hd F X1 X2 (fun F' hF hs => ?_)
  have b83 := hd_b (F := F) (F' := F') (k := 83) (hF 83 (by decide))
  have b8 := hd_b (F := F) (F' := F') (k := 8) (hF 8 (by decide))
  have t85 : sy_dv F' (.inr (.inl 85)) = .int ((sy_i F 8) + ((1 : Int32))) := hd_o (hs 1 _ rfl) b8 rfl rfl
  have a17 := hd_ba (F := F) (F' := F') (k := 17) (hF 17 (by decide))
  have t84 : sy_da F' (.inr (.inl 84)) = .inl (jm_upd (sy_ai F 17) (sy_i F 8).toNatClampNeg (((-15) : Int32))) := hd_up (hs 0 _ rfl) b8 rfl a17
  have b82 := hd_b (F := F) (F' := F') (k := 82) (hF 82 (by decide))
  have hB' : iv_in F' iv_B0 := iv_in_eq hB (fun j hj => hF j (Nat.lt_of_lt_of_le hj (by decide +kernel)))
  refine ⟨List.forall_mem_cons.mpr ⟨hd_p1 b83 rfl (by have hc : ((0) : Int32).toInt = 0 := (by decide); omega), List.forall_mem_cons.mpr ⟨hd_p5 rfl b8 (by have hc : ((512) : Int32).toInt = 512 := (by decide); omega), List.forall_mem_cons.mpr ⟨hd_pb b8 (by first | exact h2 | exact h2), List.forall_mem_cons.mpr ⟨hd_p4 rfl t85 (by have hc : ((512) : Int32).toInt = 512 := (by decide); omega), fun _ h => absurd h List.not_mem_nil⟩⟩⟩⟩, ?_⟩
  refine k _ ?_ ?_ ?_ ?_ ?_
  · exact fun j hj hn => (hd_keep hB' (Nat.lt_of_lt_of_le hj (by decide +kernel)) (by simp; omega)).trans (hF j (Nat.lt_of_lt_of_le hj (by decide)))
  · exact hd_gi (x := .inr (.inl 85)) (by decide +kernel) t85
  · exact hd_ga (a := .inr (.inl 84)) (by decide +kernel) t84
  · exact hd_gi (x := .inr (.inl 82)) (by decide +kernel) b82
  · exact hd_gi (x := .inr (.inl 85)) (by decide +kernel) t85
theorem k3pi_42_p3 {Ls : Nat} {xs : Nat → Int32} {d : Nat} {Q : Option Value → jm_h → Prop} (hd : 4 ≤ d) (F : Nat → sy_d) (X1 X2 : List jm_c) (hB : iv_in F iv_B0)
    (h0 : (sy_i F 83).toInt ≠ 0)
    (h1 : (sy_i F 8).toInt < 512)
    (h2 : 0 ≤ (sy_i F 8).toInt ∧ (sy_i F 8).toInt < 512)
    (h3 : ((sy_i F 8) + ((1 : Int32))).toInt < 512)
    (h4 : 0 ≤ ((sy_i F 8) + ((1 : Int32))).toInt ∧ ((sy_i F 8) + ((1 : Int32))).toInt < 512)
    (k : ∀ F1 : Nat → sy_d, (∀ j, j < 82 → j ≠ 8 ∧ j ≠ 17 → F1 j = F j) → F1 8 = .inl (.int (((sy_i F 8) + ((1 : Int32))) + ((1 : Int32)))) → F1 17 = .inr (.inl (jm_upd (jm_upd (sy_ai F 17) (sy_i F 8).toNatClampNeg (((-15) : Int32))) ((sy_i F 8) + ((1 : Int32))).toNatClampNeg ((0 : Int32)))) → F1 82 = .inl (.int (sy_i F 82)) → F1 83 = .inl (.int ((sy_i F 8) + ((1 : Int32)))) → hd_W Ls xs d jm_M37 Q (85, sy_dL F1 [some (.inl (.ref 30)), some (.inr (.inl 82)), none, some (.inr (.inl 83))], sy_dS F1 [.inl (.int 0), .inr (.inl 82), .inl (.ref 30)], sy_dh F1 X1 X2 (iv_H 3), 0, 0)) :
    hd_W Ls xs d jm_M37 Q (42, sy_dL F [some (.inl (.ref 30)), some (.inr (.inl 82)), none, none], sy_dS F [.inr (.inl 83)], sy_dh F X1 X2 (iv_H 3), 0, 0) := by
  refine hd_run (s := 3) (nv := 84) (pc := 85) (L := [some (.inl (.ref 30)), some (.inr (.inl 82)), none, some (.inr (.inl 83))]) (S := [.inl (.int 0), .inr (.inl 82), .inl (.ref 30)]) (uh := hd_ov (iv_id 0 iv_B0) [(8, .inl (.inr (.inl 87))), (17, .inr (.inr (.inl 86)))]) (ul := [.inl (.inr (.inl 82)), .inl (.inr (.inl 85))]) (f := false) (sp := [85]) (d0 := 3) (O := [false, false, false]) (T := [(40, [.inr (.inl 8), .inl (.int (-15))], [.inr (.inl 17)]), (0, [.inr (.inl 8), .inl (.int 1)], []), (40, [.inr (.inl 85), .inl (.int 0)], [.inr (.inl 84)]), (0, [.inr (.inl 85), .inl (.int 1)], [])]) (P := [(1, .inr (.inl 83), .inl (.int 0)), (5, .inl (.int 512), .inr (.inl 8)), (6, .inr (.inl 8), .inl (.ref 512)), (5, .inl (.int 512), .inr (.inl 85)), (6, .inr (.inl 85), .inl (.ref 512))]) jm_ok37 (by decide +kernel) (by decide +kernel) hd F X1 X2 (fun F' hF hs => ?_)
  have b83 := hd_b (F := F) (F' := F') (k := 83) (hF 83 (by decide))
  have b8 := hd_b (F := F) (F' := F') (k := 8) (hF 8 (by decide))
  have t85 : sy_dv F' (.inr (.inl 85)) = .int ((sy_i F 8) + ((1 : Int32))) := hd_o (hs 1 _ rfl) b8 rfl rfl
  have t87 : sy_dv F' (.inr (.inl 87)) = .int (((sy_i F 8) + ((1 : Int32))) + ((1 : Int32))) := hd_o (hs 3 _ rfl) t85 rfl rfl
  have a17 := hd_ba (F := F) (F' := F') (k := 17) (hF 17 (by decide))
  have t84 : sy_da F' (.inr (.inl 84)) = .inl (jm_upd (sy_ai F 17) (sy_i F 8).toNatClampNeg (((-15) : Int32))) := hd_up (hs 0 _ rfl) b8 rfl a17
  have t86 : sy_da F' (.inr (.inl 86)) = .inl (jm_upd (jm_upd (sy_ai F 17) (sy_i F 8).toNatClampNeg (((-15) : Int32))) ((sy_i F 8) + ((1 : Int32))).toNatClampNeg ((0 : Int32))) := hd_up (hs 2 _ rfl) t85 rfl t84
  have b82 := hd_b (F := F) (F' := F') (k := 82) (hF 82 (by decide))
  have hB' : iv_in F' iv_B0 := iv_in_eq hB (fun j hj => hF j (Nat.lt_of_lt_of_le hj (by decide +kernel)))
  refine ⟨List.forall_mem_cons.mpr ⟨hd_p1 b83 rfl (by have hc : ((0) : Int32).toInt = 0 := (by decide); omega), List.forall_mem_cons.mpr ⟨hd_p5 rfl b8 (by have hc : ((512) : Int32).toInt = 512 := (by decide); omega), List.forall_mem_cons.mpr ⟨hd_pb b8 (by first | exact h2 | exact h2), List.forall_mem_cons.mpr ⟨hd_p5 rfl t85 (by have hc : ((512) : Int32).toInt = 512 := (by decide); omega), List.forall_mem_cons.mpr ⟨hd_pb t85 (by first | exact h4 | exact h4), fun _ h => absurd h List.not_mem_nil⟩⟩⟩⟩⟩, ?_⟩
  refine k _ ?_ ?_ ?_ ?_ ?_
  · exact fun j hj hn => (hd_keep hB' (Nat.lt_of_lt_of_le hj (by decide +kernel)) (by simp; omega)).trans (hF j (Nat.lt_of_lt_of_le hj (by decide)))
  · exact hd_gi (x := .inr (.inl 87)) (by decide +kernel) t87
  · exact hd_ga (a := .inr (.inl 86)) (by decide +kernel) t86
  · exact hd_gi (x := .inr (.inl 82)) (by decide +kernel) b82
  · exact hd_gi (x := .inr (.inl 85)) (by decide +kernel) t85
theorem k3pi_88_p0 {Ls : Nat} {xs : Nat → Int32} {d : Nat} {Q : Option Value → jm_h → Prop} (hd : 4 ≤ d) (F : Nat → sy_d) (X1 X2 : List jm_c) (hB : iv_in F iv_B0)
    (h0 : (sy_i F 84).toInt = 0)
    (k : ∀ F1 : Nat → sy_d, (∀ j, j < 82 → True → F1 j = F j) → Q (some (.int ((0 : Int32)))) (sy_dh F1 X1 X2 (iv_H 3))) :
    hd_W Ls xs d jm_M37 Q (88, sy_dL F [some (.inl (.ref 30)), some (.inr (.inl 82)), none, some (.inr (.inl 83))], sy_dS F [.inr (.inl 84)], sy_dh F X1 X2 (iv_H 3), 0, 0) := by
  refine hd_ret (s := 3) (nv := 85) (v := some (.inl (.int 0))) (uh := hd_ov (iv_id 0 iv_B0) []) (f := false) (sp := [94]) (d0 := 3) (O := [true]) (T := []) (P := [(0, .inr (.inl 84), .inl (.int 0))]) jm_ok37 (by decide +kernel) (by decide +kernel) hd F X1 X2 (fun F' hF hs => ?_)
  have b84 := hd_b (F := F) (F' := F') (k := 84) (hF 84 (by decide))
  have hB' : iv_in F' iv_B0 := iv_in_eq hB (fun j hj => hF j (Nat.lt_of_lt_of_le hj (by decide +kernel)))
  refine ⟨List.forall_mem_cons.mpr ⟨hd_p0 b84 rfl (by have hc : ((0) : Int32).toInt = 0 := (by decide); omega), fun _ h => absurd h List.not_mem_nil⟩, ?_⟩
  refine k _ ?_
  · exact fun j hj _ => (hd_keep hB' (Nat.lt_of_lt_of_le hj (by decide +kernel)) (by simp)).trans (hF j (Nat.lt_of_lt_of_le hj (by decide)))
theorem k3pi_88_p1 {Ls : Nat} {xs : Nat → Int32} {d : Nat} {Q : Option Value → jm_h → Prop} (hd : 4 ≤ d) (F : Nat → sy_d) (X1 X2 : List jm_c) (hB : iv_in F iv_B0)
    (h0 : (sy_i F 84).toInt ≠ 0)
    (k : ∀ F1 : Nat → sy_d, (∀ j, j < 82 → True → F1 j = F j) → F1 82 = .inl (.int (sy_i F 82)) → F1 83 = .inl (.int (sy_i F 83)) → hd_W Ls xs d jm_M37 Q (94, sy_dL F1 [some (.inl (.ref 30)), some (.inr (.inl 82)), none, some (.inr (.inl 83))], sy_dS F1 [.inl (.int 13), .inl (.ref 30)], sy_dh F1 X1 X2 (iv_H 3), 0, 0)) :
    hd_W Ls xs d jm_M37 Q (88, sy_dL F [some (.inl (.ref 30)), some (.inr (.inl 82)), none, some (.inr (.inl 83))], sy_dS F [.inr (.inl 84)], sy_dh F X1 X2 (iv_H 3), 0, 0) := by
  refine hd_run (s := 3) (nv := 85) (pc := 94) (L := [some (.inl (.ref 30)), some (.inr (.inl 82)), none, some (.inr (.inl 83))]) (S := [.inl (.int 13), .inl (.ref 30)]) (uh := hd_ov (iv_id 0 iv_B0) []) (ul := [.inl (.inr (.inl 82)), .inl (.inr (.inl 83))]) (f := false) (sp := [94]) (d0 := 3) (O := [false]) (T := []) (P := [(1, .inr (.inl 84), .inl (.int 0))]) jm_ok37 (by decide +kernel) (by decide +kernel) hd F X1 X2 (fun F' hF hs => ?_)
  have b84 := hd_b (F := F) (F' := F') (k := 84) (hF 84 (by decide))
  have b82 := hd_b (F := F) (F' := F') (k := 82) (hF 82 (by decide))
  have b83 := hd_b (F := F) (F' := F') (k := 83) (hF 83 (by decide))
  have hB' : iv_in F' iv_B0 := iv_in_eq hB (fun j hj => hF j (Nat.lt_of_lt_of_le hj (by decide +kernel)))
  refine ⟨List.forall_mem_cons.mpr ⟨hd_p1 b84 rfl (by have hc : ((0) : Int32).toInt = 0 := (by decide); omega), fun _ h => absurd h List.not_mem_nil⟩, ?_⟩
  refine k _ ?_ ?_ ?_
  · exact fun j hj _ => (hd_keep hB' (Nat.lt_of_lt_of_le hj (by decide +kernel)) (by simp)).trans (hF j (Nat.lt_of_lt_of_le hj (by decide)))
  · exact hd_gi (x := .inr (.inl 82)) (by decide +kernel) b82
  · exact hd_gi (x := .inr (.inl 83)) (by decide +kernel) b83
theorem k3pi_97_p0 {Ls : Nat} {xs : Nat → Int32} {d : Nat} {Q : Option Value → jm_h → Prop} (hd : 4 ≤ d) (F : Nat → sy_d) (X1 X2 : List jm_c) (hB : iv_in F iv_B0)
    (h0 : (sy_i F 84).toInt ≠ 0)
    (h1 : 512 ≤ (sy_i F 8).toInt)
    (h2 : 0 ≤ (sy_i F 83).toInt)
    (h3 : 512 ≤ (sy_i F 83).toInt)
    (k : ∀ F1 : Nat → sy_d, (∀ j, j < 82 → True → F1 j = F j) → Q (some (.int ((1 : Int32)))) (sy_dh F1 X1 X2 (iv_H 3))) :
    hd_W Ls xs d jm_M37 Q (97, sy_dL F [some (.inl (.ref 30)), some (.inr (.inl 82)), none, some (.inr (.inl 83))], sy_dS F [.inr (.inl 84)], sy_dh F X1 X2 (iv_H 3), 0, 0) := by
  refine hd_ret (s := 3) (nv := 85) (v := some (.inl (.int 1))) (uh := hd_ov (iv_id 0 iv_B0) []) (f := false) (sp := []) (d0 := 3) (O := [true, true, false, true]) (T := []) (P := [(1, .inr (.inl 84), .inl (.int 0)), (4, .inl (.int 512), .inr (.inl 8)), (3, .inr (.inl 83), .inl (.int 0)), (4, .inl (.int 512), .inr (.inl 83))]) jm_ok37 (by decide +kernel) (by decide +kernel) hd F X1 X2 (fun F' hF hs => ?_)
  have b84 := hd_b (F := F) (F' := F') (k := 84) (hF 84 (by decide))
  have b8 := hd_b (F := F) (F' := F') (k := 8) (hF 8 (by decide))
  have b83 := hd_b (F := F) (F' := F') (k := 83) (hF 83 (by decide))
  have hB' : iv_in F' iv_B0 := iv_in_eq hB (fun j hj => hF j (Nat.lt_of_lt_of_le hj (by decide +kernel)))
  refine ⟨List.forall_mem_cons.mpr ⟨hd_p1 b84 rfl (by have hc : ((0) : Int32).toInt = 0 := (by decide); omega), List.forall_mem_cons.mpr ⟨hd_p4 rfl b8 (by have hc : ((512) : Int32).toInt = 512 := (by decide); omega), List.forall_mem_cons.mpr ⟨hd_p3 b83 rfl (by have hc : ((0) : Int32).toInt = 0 := (by decide); omega), List.forall_mem_cons.mpr ⟨hd_p4 rfl b83 (by have hc : ((512) : Int32).toInt = 512 := (by decide); omega), fun _ h => absurd h List.not_mem_nil⟩⟩⟩⟩, ?_⟩
  refine k _ ?_
  · exact fun j hj _ => (hd_keep hB' (Nat.lt_of_lt_of_le hj (by decide +kernel)) (by simp)).trans (hF j (Nat.lt_of_lt_of_le hj (by decide)))
theorem k3pi_97_p1 {Ls : Nat} {xs : Nat → Int32} {d : Nat} {Q : Option Value → jm_h → Prop} (hd : 4 ≤ d) (F : Nat → sy_d) (X1 X2 : List jm_c) (hB : iv_in F iv_B0)
    (h0 : (sy_i F 84).toInt ≠ 0)
    (h1 : 512 ≤ (sy_i F 8).toInt)
    (h2 : 0 ≤ (sy_i F 83).toInt)
    (h3 : (sy_i F 83).toInt < 512)
    (h4 : 0 ≤ (sy_i F 83).toInt ∧ (sy_i F 83).toInt < 512)
    (k : ∀ F1 : Nat → sy_d, (∀ j, j < 82 → j ≠ 17 → F1 j = F j) → F1 17 = .inr (.inl (jm_upd (sy_ai F 17) (sy_i F 83).toNatClampNeg (sy_i F 8))) → Q (some (.int ((1 : Int32)))) (sy_dh F1 X1 X2 (iv_H 3))) :
    hd_W Ls xs d jm_M37 Q (97, sy_dL F [some (.inl (.ref 30)), some (.inr (.inl 82)), none, some (.inr (.inl 83))], sy_dS F [.inr (.inl 84)], sy_dh F X1 X2 (iv_H 3), 0, 0) := by
  refine hd_ret (s := 3) (nv := 85) (v := some (.inl (.int 1))) (uh := hd_ov (iv_id 0 iv_B0) [(17, .inr (.inr (.inl 85)))]) (f := false) (sp := []) (d0 := 3) (O := [true, true, false, false]) (T := [(40, [.inr (.inl 83), .inr (.inl 8)], [.inr (.inl 17)])]) (P := [(1, .inr (.inl 84), .inl (.int 0)), (4, .inl (.int 512), .inr (.inl 8)), (3, .inr (.inl 83), .inl (.int 0)), (5, .inl (.int 512), .inr (.inl 83)), (6, .inr (.inl 83), .inl (.ref 512))]) jm_ok37 (by decide +kernel) (by decide +kernel) hd F X1 X2 (fun F' hF hs => ?_)
  have b84 := hd_b (F := F) (F' := F') (k := 84) (hF 84 (by decide))
  have b8 := hd_b (F := F) (F' := F') (k := 8) (hF 8 (by decide))
  have b83 := hd_b (F := F) (F' := F') (k := 83) (hF 83 (by decide))
  have a17 := hd_ba (F := F) (F' := F') (k := 17) (hF 17 (by decide))
  have t85 : sy_da F' (.inr (.inl 85)) = .inl (jm_upd (sy_ai F 17) (sy_i F 83).toNatClampNeg (sy_i F 8)) := hd_up (hs 0 _ rfl) b83 b8 a17
  have hB' : iv_in F' iv_B0 := iv_in_eq hB (fun j hj => hF j (Nat.lt_of_lt_of_le hj (by decide +kernel)))
  refine ⟨List.forall_mem_cons.mpr ⟨hd_p1 b84 rfl (by have hc : ((0) : Int32).toInt = 0 := (by decide); omega), List.forall_mem_cons.mpr ⟨hd_p4 rfl b8 (by have hc : ((512) : Int32).toInt = 512 := (by decide); omega), List.forall_mem_cons.mpr ⟨hd_p3 b83 rfl (by have hc : ((0) : Int32).toInt = 0 := (by decide); omega), List.forall_mem_cons.mpr ⟨hd_p5 rfl b83 (by have hc : ((512) : Int32).toInt = 512 := (by decide); omega), List.forall_mem_cons.mpr ⟨hd_pb b83 (by first | exact h4 | exact h4), fun _ h => absurd h List.not_mem_nil⟩⟩⟩⟩⟩, ?_⟩
  refine k _ ?_ ?_
  · exact fun j hj hn => (hd_keep hB' (Nat.lt_of_lt_of_le hj (by decide +kernel)) (by simp; omega)).trans (hF j (Nat.lt_of_lt_of_le hj (by decide)))
  · exact hd_ga (a := .inr (.inl 85)) (by decide +kernel) t85
theorem k3pi_97_p2 {Ls : Nat} {xs : Nat → Int32} {d : Nat} {Q : Option Value → jm_h → Prop} (hd : 4 ≤ d) (F : Nat → sy_d) (X1 X2 : List jm_c) (hB : iv_in F iv_B0)
    (h0 : (sy_i F 84).toInt ≠ 0)
    (h1 : (sy_i F 8).toInt < 512)
    (h2 : 0 ≤ (sy_i F 8).toInt ∧ (sy_i F 8).toInt < 512)
    (h3 : 0 ≤ (sy_i F 83).toInt)
    (h4 : 512 ≤ (sy_i F 83).toInt)
    (k : ∀ F1 : Nat → sy_d, (∀ j, j < 82 → j ≠ 8 ∧ j ≠ 17 → F1 j = F j) → F1 8 = .inl (.int ((sy_i F 8) + ((1 : Int32)))) → F1 17 = .inr (.inl (jm_upd (sy_ai F 17) (sy_i F 8).toNatClampNeg (((-14) : Int32)))) → Q (some (.int ((1 : Int32)))) (sy_dh F1 X1 X2 (iv_H 3))) :
    hd_W Ls xs d jm_M37 Q (97, sy_dL F [some (.inl (.ref 30)), some (.inr (.inl 82)), none, some (.inr (.inl 83))], sy_dS F [.inr (.inl 84)], sy_dh F X1 X2 (iv_H 3), 0, 0) := by
  refine hd_ret (s := 3) (nv := 85) (v := some (.inl (.int 1))) (uh := hd_ov (iv_id 0 iv_B0) [(8, .inl (.inr (.inl 86))), (17, .inr (.inr (.inl 85)))]) (f := false) (sp := []) (d0 := 3) (O := [true, false, false, true]) (T := [(40, [.inr (.inl 8), .inl (.int (-14))], [.inr (.inl 17)]), (0, [.inr (.inl 8), .inl (.int 1)], [])]) (P := [(1, .inr (.inl 84), .inl (.int 0)), (5, .inl (.int 512), .inr (.inl 8)), (6, .inr (.inl 8), .inl (.ref 512)), (3, .inr (.inl 83), .inl (.int 0)), (4, .inl (.int 512), .inr (.inl 83))]) jm_ok37 (by decide +kernel) (by decide +kernel) hd F X1 X2 (fun F' hF hs => ?_)
  have b84 := hd_b (F := F) (F' := F') (k := 84) (hF 84 (by decide))
  have b8 := hd_b (F := F) (F' := F') (k := 8) (hF 8 (by decide))
  have b83 := hd_b (F := F) (F' := F') (k := 83) (hF 83 (by decide))
  have t86 : sy_dv F' (.inr (.inl 86)) = .int ((sy_i F 8) + ((1 : Int32))) := hd_o (hs 1 _ rfl) b8 rfl rfl
  have a17 := hd_ba (F := F) (F' := F') (k := 17) (hF 17 (by decide))
  have t85 : sy_da F' (.inr (.inl 85)) = .inl (jm_upd (sy_ai F 17) (sy_i F 8).toNatClampNeg (((-14) : Int32))) := hd_up (hs 0 _ rfl) b8 rfl a17
  have hB' : iv_in F' iv_B0 := iv_in_eq hB (fun j hj => hF j (Nat.lt_of_lt_of_le hj (by decide +kernel)))
  refine ⟨List.forall_mem_cons.mpr ⟨hd_p1 b84 rfl (by have hc : ((0) : Int32).toInt = 0 := (by decide); omega), List.forall_mem_cons.mpr ⟨hd_p5 rfl b8 (by have hc : ((512) : Int32).toInt = 512 := (by decide); omega), List.forall_mem_cons.mpr ⟨hd_pb b8 (by first | exact h2 | exact h2), List.forall_mem_cons.mpr ⟨hd_p3 b83 rfl (by have hc : ((0) : Int32).toInt = 0 := (by decide); omega), List.forall_mem_cons.mpr ⟨hd_p4 rfl b83 (by have hc : ((512) : Int32).toInt = 512 := (by decide); omega), fun _ h => absurd h List.not_mem_nil⟩⟩⟩⟩⟩, ?_⟩
  refine k _ ?_ ?_ ?_
  · exact fun j hj hn => (hd_keep hB' (Nat.lt_of_lt_of_le hj (by decide +kernel)) (by simp; omega)).trans (hF j (Nat.lt_of_lt_of_le hj (by decide)))
  · exact hd_gi (x := .inr (.inl 86)) (by decide +kernel) t86
  · exact hd_ga (a := .inr (.inl 85)) (by decide +kernel) t85
theorem k3pi_97_p3 {Ls : Nat} {xs : Nat → Int32} {d : Nat} {Q : Option Value → jm_h → Prop} (hd : 4 ≤ d) (F : Nat → sy_d) (X1 X2 : List jm_c) (hB : iv_in F iv_B0)
    (h0 : (sy_i F 84).toInt ≠ 0)
    (h1 : (sy_i F 8).toInt < 512)
    (h2 : 0 ≤ (sy_i F 8).toInt ∧ (sy_i F 8).toInt < 512)
    (h3 : 0 ≤ (sy_i F 83).toInt)
    (h4 : (sy_i F 83).toInt < 512)
    (h5 : 0 ≤ (sy_i F 83).toInt ∧ (sy_i F 83).toInt < 512)
    (k : ∀ F1 : Nat → sy_d, (∀ j, j < 82 → j ≠ 8 ∧ j ≠ 17 → F1 j = F j) → F1 8 = .inl (.int ((sy_i F 8) + ((1 : Int32)))) → F1 17 = .inr (.inl (jm_upd (jm_upd (sy_ai F 17) (sy_i F 8).toNatClampNeg (((-14) : Int32))) (sy_i F 83).toNatClampNeg ((sy_i F 8) + ((1 : Int32))))) → Q (some (.int ((1 : Int32)))) (sy_dh F1 X1 X2 (iv_H 3))) :
    hd_W Ls xs d jm_M37 Q (97, sy_dL F [some (.inl (.ref 30)), some (.inr (.inl 82)), none, some (.inr (.inl 83))], sy_dS F [.inr (.inl 84)], sy_dh F X1 X2 (iv_H 3), 0, 0) := by
  refine hd_ret (s := 3) (nv := 85) (v := some (.inl (.int 1))) (uh := hd_ov (iv_id 0 iv_B0) [(8, .inl (.inr (.inl 86))), (17, .inr (.inr (.inl 87)))]) (f := false) (sp := []) (d0 := 3) (O := [true, false, false, false]) (T := [(40, [.inr (.inl 8), .inl (.int (-14))], [.inr (.inl 17)]), (0, [.inr (.inl 8), .inl (.int 1)], []), (40, [.inr (.inl 83), .inr (.inl 86)], [.inr (.inl 85)])]) (P := [(1, .inr (.inl 84), .inl (.int 0)), (5, .inl (.int 512), .inr (.inl 8)), (6, .inr (.inl 8), .inl (.ref 512)), (3, .inr (.inl 83), .inl (.int 0)), (5, .inl (.int 512), .inr (.inl 83)), (6, .inr (.inl 83), .inl (.ref 512))]) jm_ok37 (by decide +kernel) (by decide +kernel) hd F X1 X2 (fun F' hF hs => ?_)
  have b84 := hd_b (F := F) (F' := F') (k := 84) (hF 84 (by decide))
  have b8 := hd_b (F := F) (F' := F') (k := 8) (hF 8 (by decide))
  have b83 := hd_b (F := F) (F' := F') (k := 83) (hF 83 (by decide))
  have t86 : sy_dv F' (.inr (.inl 86)) = .int ((sy_i F 8) + ((1 : Int32))) := hd_o (hs 1 _ rfl) b8 rfl rfl
  have a17 := hd_ba (F := F) (F' := F') (k := 17) (hF 17 (by decide))
  have t85 : sy_da F' (.inr (.inl 85)) = .inl (jm_upd (sy_ai F 17) (sy_i F 8).toNatClampNeg (((-14) : Int32))) := hd_up (hs 0 _ rfl) b8 rfl a17
  have t87 : sy_da F' (.inr (.inl 87)) = .inl (jm_upd (jm_upd (sy_ai F 17) (sy_i F 8).toNatClampNeg (((-14) : Int32))) (sy_i F 83).toNatClampNeg ((sy_i F 8) + ((1 : Int32)))) := hd_up (hs 2 _ rfl) b83 t86 t85
  have hB' : iv_in F' iv_B0 := iv_in_eq hB (fun j hj => hF j (Nat.lt_of_lt_of_le hj (by decide +kernel)))
  refine ⟨List.forall_mem_cons.mpr ⟨hd_p1 b84 rfl (by have hc : ((0) : Int32).toInt = 0 := (by decide); omega), List.forall_mem_cons.mpr ⟨hd_p5 rfl b8 (by have hc : ((512) : Int32).toInt = 512 := (by decide); omega), List.forall_mem_cons.mpr ⟨hd_pb b8 (by first | exact h2 | exact h2), List.forall_mem_cons.mpr ⟨hd_p3 b83 rfl (by have hc : ((0) : Int32).toInt = 0 := (by decide); omega), List.forall_mem_cons.mpr ⟨hd_p5 rfl b83 (by have hc : ((512) : Int32).toInt = 512 := (by decide); omega), List.forall_mem_cons.mpr ⟨hd_pb b83 (by first | exact h5 | exact h5), fun _ h => absurd h List.not_mem_nil⟩⟩⟩⟩⟩⟩, ?_⟩
  refine k _ ?_ ?_ ?_
  · exact fun j hj hn => (hd_keep hB' (Nat.lt_of_lt_of_le hj (by decide +kernel)) (by simp; omega)).trans (hF j (Nat.lt_of_lt_of_le hj (by decide)))
  · exact hd_gi (x := .inr (.inl 86)) (by decide +kernel) t86
  · exact hd_ga (a := .inr (.inl 87)) (by decide +kernel) t87
theorem k3pi_97_p4 {Ls : Nat} {xs : Nat → Int32} {d : Nat} {Q : Option Value → jm_h → Prop} (hd : 4 ≤ d) (F : Nat → sy_d) (X1 X2 : List jm_c) (hB : iv_in F iv_B0)
    (h0 : (sy_i F 84).toInt = 0)
    (k : ∀ F1 : Nat → sy_d, (∀ j, j < 82 → True → F1 j = F j) → Q (some (.int ((0 : Int32)))) (sy_dh F1 X1 X2 (iv_H 3))) :
    hd_W Ls xs d jm_M37 Q (97, sy_dL F [some (.inl (.ref 30)), some (.inr (.inl 82)), none, some (.inr (.inl 83))], sy_dS F [.inr (.inl 84)], sy_dh F X1 X2 (iv_H 3), 0, 0) := by
  refine hd_ret (s := 3) (nv := 85) (v := some (.inl (.int 0))) (uh := hd_ov (iv_id 0 iv_B0) []) (f := false) (sp := []) (d0 := 3) (O := [false]) (T := []) (P := [(0, .inr (.inl 84), .inl (.int 0))]) jm_ok37 (by decide +kernel) (by decide +kernel) hd F X1 X2 (fun F' hF hs => ?_)
  have b84 := hd_b (F := F) (F' := F') (k := 84) (hF 84 (by decide))
  have hB' : iv_in F' iv_B0 := iv_in_eq hB (fun j hj => hF j (Nat.lt_of_lt_of_le hj (by decide +kernel)))
  refine ⟨List.forall_mem_cons.mpr ⟨hd_p0 b84 rfl (by have hc : ((0) : Int32).toInt = 0 := (by decide); omega), fun _ h => absurd h List.not_mem_nil⟩, ?_⟩
  refine k _ ?_
  · exact fun j hj _ => (hd_keep hB' (Nat.lt_of_lt_of_le hj (by decide +kernel)) (by simp)).trans (hF j (Nat.lt_of_lt_of_le hj (by decide)))
theorem k3pl_0_p0 {Ls : Nat} {xs : Nat → Int32} {d : Nat} {Q : Option Value → jm_h → Prop} (hd : 4 ≤ d) (F : Nat → sy_d) (X1 X2 : List jm_c) (hB : iv_in F iv_B0)
    (k : ∀ F1 : Nat → sy_d, (∀ j, j < 82 → True → F1 j = F j) → F1 82 = .inl (.int (sy_i F 82)) → F1 83 = .inl (.int (sy_i F 83)) → hd_W Ls xs d jm_M36 Q (2, sy_dL F1 [some (.inl (.ref 30)), some (.inr (.inl 82)), some (.inr (.inl 83)), none, none], sy_dS F1 [.inr (.inl 82), .inl (.ref 30)], sy_dh F1 X1 X2 (iv_H 3), 0, 0)) :
    hd_W Ls xs d jm_M36 Q (0, sy_dL F [some (.inl (.ref 30)), some (.inr (.inl 82)), some (.inr (.inl 83)), none, none], sy_dS F [], sy_dh F X1 X2 (iv_H 3), 0, 0) := by
  refine hd_run (s := 3) (nv := 84) (pc := 2) (L := [some (.inl (.ref 30)), some (.inr (.inl 82)), some (.inr (.inl 83)), none, none]) (S := [.inr (.inl 82), .inl (.ref 30)]) (uh := hd_ov (iv_id 0 iv_B0) []) (ul := [.inl (.inr (.inl 82)), .inl (.inr (.inl 83))]) (f := true) (sp := [2]) (d0 := 3) (O := []) (T := []) (P := []) jm_ok36 (by decide +kernel) (by decide +kernel) hd F X1 X2 (fun F' hF hs => ?_)
  have b82 := hd_b (F := F) (F' := F') (k := 82) (hF 82 (by decide))
  have b83 := hd_b (F := F) (F' := F') (k := 83) (hF 83 (by decide))
  have hB' : iv_in F' iv_B0 := iv_in_eq hB (fun j hj => hF j (Nat.lt_of_lt_of_le hj (by decide +kernel)))
  refine ⟨fun _ h => absurd h List.not_mem_nil, ?_⟩
  refine k _ ?_ ?_ ?_
  · exact fun j hj _ => (hd_keep hB' (Nat.lt_of_lt_of_le hj (by decide +kernel)) (by simp)).trans (hF j (Nat.lt_of_lt_of_le hj (by decide)))
  · exact hd_gi (x := .inr (.inl 82)) (by decide +kernel) b82
  · exact hd_gi (x := .inr (.inl 83)) (by decide +kernel) b83
theorem k3pl_5_p0 {Ls : Nat} {xs : Nat → Int32} {d : Nat} {Q : Option Value → jm_h → Prop} (hd : 4 ≤ d) (F : Nat → sy_d) (X1 X2 : List jm_c) (hB : iv_in F iv_B0)
    (h0 : (sy_i F 84).toInt = 0)
    (k : ∀ F1 : Nat → sy_d, (∀ j, j < 82 → True → F1 j = F j) → Q (some (.int ((0 : Int32)))) (sy_dh F1 X1 X2 (iv_H 3))) :
    hd_W Ls xs d jm_M36 Q (5, sy_dL F [some (.inl (.ref 30)), some (.inr (.inl 82)), some (.inr (.inl 83)), none, none], sy_dS F [.inr (.inl 84)], sy_dh F X1 X2 (iv_H 3), 0, 0) := by
  refine hd_ret (s := 3) (nv := 85) (v := some (.inl (.int 0))) (uh := hd_ov (iv_id 0 iv_B0) []) (f := false) (sp := [11]) (d0 := 3) (O := [true]) (T := []) (P := [(0, .inr (.inl 84), .inl (.int 0))]) jm_ok36 (by decide +kernel) (by decide +kernel) hd F X1 X2 (fun F' hF hs => ?_)
  have b84 := hd_b (F := F) (F' := F') (k := 84) (hF 84 (by decide))
  have hB' : iv_in F' iv_B0 := iv_in_eq hB (fun j hj => hF j (Nat.lt_of_lt_of_le hj (by decide +kernel)))
  refine ⟨List.forall_mem_cons.mpr ⟨hd_p0 b84 rfl (by have hc : ((0) : Int32).toInt = 0 := (by decide); omega), fun _ h => absurd h List.not_mem_nil⟩, ?_⟩
  refine k _ ?_
  · exact fun j hj _ => (hd_keep hB' (Nat.lt_of_lt_of_le hj (by decide +kernel)) (by simp)).trans (hF j (Nat.lt_of_lt_of_le hj (by decide)))
theorem k3pl_5_p1 {Ls : Nat} {xs : Nat → Int32} {d : Nat} {Q : Option Value → jm_h → Prop} (hd : 4 ≤ d) (F : Nat → sy_d) (X1 X2 : List jm_c) (hB : iv_in F iv_B0)
    (h0 : (sy_i F 84).toInt ≠ 0)
    (k : ∀ F1 : Nat → sy_d, (∀ j, j < 82 → True → F1 j = F j) → F1 82 = .inl (.int (sy_i F 82)) → F1 83 = .inl (.int (sy_i F 83)) → hd_W Ls xs d jm_M36 Q (11, sy_dL F1 [some (.inl (.ref 30)), some (.inr (.inl 82)), some (.inr (.inl 83)), none, none], sy_dS F1 [.inl (.int 61), .inl (.ref 30)], sy_dh F1 X1 X2 (iv_H 3), 0, 0)) :
    hd_W Ls xs d jm_M36 Q (5, sy_dL F [some (.inl (.ref 30)), some (.inr (.inl 82)), some (.inr (.inl 83)), none, none], sy_dS F [.inr (.inl 84)], sy_dh F X1 X2 (iv_H 3), 0, 0) := by
  refine hd_run (s := 3) (nv := 85) (pc := 11) (L := [some (.inl (.ref 30)), some (.inr (.inl 82)), some (.inr (.inl 83)), none, none]) (S := [.inl (.int 61), .inl (.ref 30)]) (uh := hd_ov (iv_id 0 iv_B0) []) (ul := [.inl (.inr (.inl 82)), .inl (.inr (.inl 83))]) (f := false) (sp := [11]) (d0 := 3) (O := [false]) (T := []) (P := [(1, .inr (.inl 84), .inl (.int 0))]) jm_ok36 (by decide +kernel) (by decide +kernel) hd F X1 X2 (fun F' hF hs => ?_)
  have b84 := hd_b (F := F) (F' := F') (k := 84) (hF 84 (by decide))
  have b82 := hd_b (F := F) (F' := F') (k := 82) (hF 82 (by decide))
  have b83 := hd_b (F := F) (F' := F') (k := 83) (hF 83 (by decide))
  have hB' : iv_in F' iv_B0 := iv_in_eq hB (fun j hj => hF j (Nat.lt_of_lt_of_le hj (by decide +kernel)))
  refine ⟨List.forall_mem_cons.mpr ⟨hd_p1 b84 rfl (by have hc : ((0) : Int32).toInt = 0 := (by decide); omega), fun _ h => absurd h List.not_mem_nil⟩, ?_⟩
  refine k _ ?_ ?_ ?_
  · exact fun j hj _ => (hd_keep hB' (Nat.lt_of_lt_of_le hj (by decide +kernel)) (by simp)).trans (hF j (Nat.lt_of_lt_of_le hj (by decide)))
  · exact hd_gi (x := .inr (.inl 82)) (by decide +kernel) b82
  · exact hd_gi (x := .inr (.inl 83)) (by decide +kernel) b83
theorem k3pl_14_p0 {Ls : Nat} {xs : Nat → Int32} {d : Nat} {Q : Option Value → jm_h → Prop} (hd : 4 ≤ d) (F : Nat → sy_d) (X1 X2 : List jm_c) (hB : iv_in F iv_B0)
    (h0 : (sy_i F 84).toInt ≠ 0)
    (k : ∀ F1 : Nat → sy_d, (∀ j, j < 82 → True → F1 j = F j) → F1 82 = .inl (.int (sy_i F 83)) → F1 83 = .inl (.int (sy_i F 8)) → F1 84 = .inl (.int ((0 : Int32))) → hd_W Ls xs d jm_M36 Q (30, sy_dL F1 [some (.inl (.ref 30)), none, some (.inr (.inl 82)), some (.inr (.inl 83)), some (.inr (.inl 84))], sy_dS F1 [], sy_dh F1 X1 X2 (iv_H 3), 0, 0)) :
    hd_W Ls xs d jm_M36 Q (14, sy_dL F [some (.inl (.ref 30)), some (.inr (.inl 82)), some (.inr (.inl 83)), none, none], sy_dS F [.inr (.inl 84)], sy_dh F X1 X2 (iv_H 3), 0, 0) := by
  refine hd_run (s := 3) (nv := 85) (pc := 30) (L := [some (.inl (.ref 30)), none, some (.inr (.inl 82)), some (.inr (.inl 83)), some (.inr (.inl 84))]) (S := []) (uh := hd_ov (iv_id 0 iv_B0) []) (ul := [.inl (.inr (.inl 83)), .inl (.inr (.inl 8)), .inl (.inl (.int 0))]) (f := false) (sp := [30]) (d0 := 3) (O := [true]) (T := []) (P := [(1, .inr (.inl 84), .inl (.int 0))]) jm_ok36 (by decide +kernel) (by decide +kernel) hd F X1 X2 (fun F' hF hs => ?_)
  have b84 := hd_b (F := F) (F' := F') (k := 84) (hF 84 (by decide))
  have b83 := hd_b (F := F) (F' := F') (k := 83) (hF 83 (by decide))
  have b8 := hd_b (F := F) (F' := F') (k := 8) (hF 8 (by decide))
  have hB' : iv_in F' iv_B0 := iv_in_eq hB (fun j hj => hF j (Nat.lt_of_lt_of_le hj (by decide +kernel)))
  refine ⟨List.forall_mem_cons.mpr ⟨hd_p1 b84 rfl (by have hc : ((0) : Int32).toInt = 0 := (by decide); omega), fun _ h => absurd h List.not_mem_nil⟩, ?_⟩
  refine k _ ?_ ?_ ?_ ?_
  · exact fun j hj _ => (hd_keep hB' (Nat.lt_of_lt_of_le hj (by decide +kernel)) (by simp)).trans (hF j (Nat.lt_of_lt_of_le hj (by decide)))
  · exact hd_gi (x := .inr (.inl 83)) (by decide +kernel) b83
  · exact hd_gi (x := .inr (.inl 8)) (by decide +kernel) b8
  · exact hd_gi (x := .inl (.int 0)) (by decide +kernel) rfl
theorem k3pl_14_p1 {Ls : Nat} {xs : Nat → Int32} {d : Nat} {Q : Option Value → jm_h → Prop} (hd : 4 ≤ d) (F : Nat → sy_d) (X1 X2 : List jm_c) (hB : iv_in F iv_B0)
    (h0 : (sy_i F 84).toInt = 0)
    (k : ∀ F1 : Nat → sy_d, (∀ j, j < 82 → True → F1 j = F j) → Q (some (.int ((0 : Int32)))) (sy_dh F1 X1 X2 (iv_H 3))) :
    hd_W Ls xs d jm_M36 Q (14, sy_dL F [some (.inl (.ref 30)), some (.inr (.inl 82)), some (.inr (.inl 83)), none, none], sy_dS F [.inr (.inl 84)], sy_dh F X1 X2 (iv_H 3), 0, 0) := by
  refine hd_ret (s := 3) (nv := 85) (v := some (.inl (.int 0))) (uh := hd_ov (iv_id 0 iv_B0) []) (f := false) (sp := [30]) (d0 := 3) (O := [false]) (T := []) (P := [(0, .inr (.inl 84), .inl (.int 0))]) jm_ok36 (by decide +kernel) (by decide +kernel) hd F X1 X2 (fun F' hF hs => ?_)
  have b84 := hd_b (F := F) (F' := F') (k := 84) (hF 84 (by decide))
  have hB' : iv_in F' iv_B0 := iv_in_eq hB (fun j hj => hF j (Nat.lt_of_lt_of_le hj (by decide +kernel)))
  refine ⟨List.forall_mem_cons.mpr ⟨hd_p0 b84 rfl (by have hc : ((0) : Int32).toInt = 0 := (by decide); omega), fun _ h => absurd h List.not_mem_nil⟩, ?_⟩
  refine k _ ?_
  · exact fun j hj _ => (hd_keep hB' (Nat.lt_of_lt_of_le hj (by decide +kernel)) (by simp)).trans (hF j (Nat.lt_of_lt_of_le hj (by decide)))
theorem k3pl_30_p0 {Ls : Nat} {xs : Nat → Int32} {d : Nat} {Q : Option Value → jm_h → Prop} (hd : 4 ≤ d) (F : Nat → sy_d) (X1 X2 : List jm_c) (hB : iv_in F iv_B0)
    (h0 : 4 < (sy_i F 84).toInt)
    (k : ∀ F1 : Nat → sy_d, (∀ j, j < 82 → True → F1 j = F j) → F1 82 = .inl (.int (sy_i F 82)) → F1 83 = .inl (.int (sy_i F 83)) → hd_W Ls xs d jm_M36 Q (83, sy_dL F1 [some (.inl (.ref 30)), none, some (.inr (.inl 82)), some (.inr (.inl 83)), none], sy_dS F1 [.inl (.int 0), .inr (.inl 82), .inl (.ref 30)], sy_dh F1 X1 X2 (iv_H 3), 0, 0)) :
    hd_W Ls xs d jm_M36 Q (30, sy_dL F [some (.inl (.ref 30)), none, some (.inr (.inl 82)), some (.inr (.inl 83)), some (.inr (.inl 84))], sy_dS F [], sy_dh F X1 X2 (iv_H 3), 0, 0) := by
  refine hd_run (s := 3) (nv := 85) (pc := 83) (L := [some (.inl (.ref 30)), none, some (.inr (.inl 82)), some (.inr (.inl 83)), none]) (S := [.inl (.int 0), .inr (.inl 82), .inl (.ref 30)]) (uh := hd_ov (iv_id 0 iv_B0) []) (ul := [.inl (.inr (.inl 82)), .inl (.inr (.inl 83))]) (f := true) (sp := [66, 83]) (d0 := 3) (O := [true]) (T := []) (P := [(2, .inl (.int 4), .inr (.inl 84))]) jm_ok36 (by decide +kernel) (by decide +kernel) hd F X1 X2 (fun F' hF hs => ?_)
  have b84 := hd_b (F := F) (F' := F') (k := 84) (hF 84 (by decide))
  have b82 := hd_b (F := F) (F' := F') (k := 82) (hF 82 (by decide))
  have b83 := hd_b (F := F) (F' := F') (k := 83) (hF 83 (by decide))
  have hB' : iv_in F' iv_B0 := iv_in_eq hB (fun j hj => hF j (Nat.lt_of_lt_of_le hj (by decide +kernel)))
  refine ⟨List.forall_mem_cons.mpr ⟨hd_p2 rfl b84 (by have hc : ((4) : Int32).toInt = 4 := (by decide); omega), fun _ h => absurd h List.not_mem_nil⟩, ?_⟩
  refine k _ ?_ ?_ ?_
  · exact fun j hj _ => (hd_keep hB' (Nat.lt_of_lt_of_le hj (by decide +kernel)) (by simp)).trans (hF j (Nat.lt_of_lt_of_le hj (by decide)))
  · exact hd_gi (x := .inr (.inl 82)) (by decide +kernel) b82
  · exact hd_gi (x := .inr (.inl 83)) (by decide +kernel) b83
theorem k3pl_30_p1 {Ls : Nat} {xs : Nat → Int32} {d : Nat} {Q : Option Value → jm_h → Prop} (hd : 4 ≤ d) (F : Nat → sy_d) (X1 X2 : List jm_c) (hB : iv_in F iv_B0)
    (h0 : (sy_i F 84).toInt ≤ 4)
    (h1 : 0 ≤ (sy_i F 33).toInt)
    (h2 : (sy_i F 33).toInt ≤ 400)
    (h3 : 0 ≤ (sy_i F 33).toInt ∧ (sy_i F 33).toInt < 401)
    (h4 : ((sy_ai F 39).getD (sy_i F 33).toNatClampNeg 0).toInt ≠ 11)
    (k : ∀ F1 : Nat → sy_d, (∀ j, j < 82 → True → F1 j = F j) → F1 82 = .inl (.int (sy_i F 82)) → F1 83 = .inl (.int (sy_i F 83)) → hd_W Ls xs d jm_M36 Q (83, sy_dL F1 [some (.inl (.ref 30)), none, some (.inr (.inl 82)), some (.inr (.inl 83)), none], sy_dS F1 [.inl (.int 0), .inr (.inl 82), .inl (.ref 30)], sy_dh F1 X1 X2 (iv_H 3), 0, 0)) :
    hd_W Ls xs d jm_M36 Q (30, sy_dL F [some (.inl (.ref 30)), none, some (.inr (.inl 82)), some (.inr (.inl 83)), some (.inr (.inl 84))], sy_dS F [], sy_dh F X1 X2 (iv_H 3), 0, 0) := by
  refine hd_run (s := 3) (nv := 85) (pc := 83) (L := [some (.inl (.ref 30)), none, some (.inr (.inl 82)), some (.inr (.inl 83)), none]) (S := [.inl (.int 0), .inr (.inl 82), .inl (.ref 30)]) (uh := hd_ov (iv_id 0 iv_B0) []) (ul := [.inl (.inr (.inl 82)), .inl (.inr (.inl 83))]) (f := true) (sp := [66, 83]) (d0 := 3) (O := [false, false, false, true]) (T := [(30, [.inr (.inl 33)], [.inr (.inl 39)])]) (P := [(3, .inl (.int 4), .inr (.inl 84)), (3, .inr (.inl 33), .inl (.int 0)), (3, .inl (.int 400), .inr (.inl 33)), (6, .inr (.inl 33), .inl (.ref 401)), (1, .inr (.inl 85), .inl (.int 11))]) jm_ok36 (by decide +kernel) (by decide +kernel) hd F X1 X2 (fun F' hF hs => ?_)
  have b84 := hd_b (F := F) (F' := F') (k := 84) (hF 84 (by decide))
  have b33 := hd_b (F := F) (F' := F') (k := 33) (hF 33 (by decide))
  have a39 := hd_ba (F := F) (F' := F') (k := 39) (hF 39 (by decide))
  have t85 : sy_dv F' (.inr (.inl 85)) = .int ((sy_ai F 39).getD (sy_i F 33).toNatClampNeg 0) := hd_rd (hs 0 _ rfl) b33 a39
  have b82 := hd_b (F := F) (F' := F') (k := 82) (hF 82 (by decide))
  have b83 := hd_b (F := F) (F' := F') (k := 83) (hF 83 (by decide))
  have hB' : iv_in F' iv_B0 := iv_in_eq hB (fun j hj => hF j (Nat.lt_of_lt_of_le hj (by decide +kernel)))
  refine ⟨List.forall_mem_cons.mpr ⟨hd_p3 rfl b84 (by have hc : ((4) : Int32).toInt = 4 := (by decide); omega), List.forall_mem_cons.mpr ⟨hd_p3 b33 rfl (by have hc : ((0) : Int32).toInt = 0 := (by decide); omega), List.forall_mem_cons.mpr ⟨hd_p3 rfl b33 (by have hc : ((400) : Int32).toInt = 400 := (by decide); omega), List.forall_mem_cons.mpr ⟨hd_pb b33 (by first | exact h3 | exact h3), List.forall_mem_cons.mpr ⟨hd_p1 t85 rfl (by have hc : ((11) : Int32).toInt = 11 := (by decide); omega), fun _ h => absurd h List.not_mem_nil⟩⟩⟩⟩⟩, ?_⟩
  refine k _ ?_ ?_ ?_
  · exact fun j hj _ => (hd_keep hB' (Nat.lt_of_lt_of_le hj (by decide +kernel)) (by simp)).trans (hF j (Nat.lt_of_lt_of_le hj (by decide)))
  · exact hd_gi (x := .inr (.inl 82)) (by decide +kernel) b82
  · exact hd_gi (x := .inr (.inl 83)) (by decide +kernel) b83
theorem k3pl_30_p2 {Ls : Nat} {xs : Nat → Int32} {d : Nat} {Q : Option Value → jm_h → Prop} (hd : 4 ≤ d) (F : Nat → sy_d) (X1 X2 : List jm_c) (hB : iv_in F iv_B0)
    (h0 : (sy_i F 84).toInt ≤ 4)
    (h1 : 0 ≤ (sy_i F 33).toInt)
    (h2 : (sy_i F 33).toInt ≤ 400)
    (h3 : 0 ≤ (sy_i F 33).toInt ∧ (sy_i F 33).toInt < 401)
    (h4 : ((sy_ai F 39).getD (sy_i F 33).toNatClampNeg 0).toInt = 11)
    (h5 : (sy_i F 84).toInt < 4)
    (k : ∀ F1 : Nat → sy_d, (∀ j, j < 82 → True → F1 j = F j) → F1 82 = .inl (.int (sy_i F 82)) → F1 83 = .inl (.int (sy_i F 83)) → F1 84 = .inl (.int (sy_i F 84)) → hd_W Ls xs d jm_M36 Q (66, sy_dL F1 [some (.inl (.ref 30)), none, some (.inr (.inl 82)), some (.inr (.inl 83)), some (.inr (.inl 84))], sy_dS F1 [.inr (.inl 82), .inl (.ref 30)], sy_dh F1 X1 X2 (iv_H 3), 0, 0)) :
    hd_W Ls xs d jm_M36 Q (30, sy_dL F [some (.inl (.ref 30)), none, some (.inr (.inl 82)), some (.inr (.inl 83)), some (.inr (.inl 84))], sy_dS F [], sy_dh F X1 X2 (iv_H 3), 0, 0) := by
  refine hd_run (s := 3) (nv := 85) (pc := 66) (L := [some (.inl (.ref 30)), none, some (.inr (.inl 82)), some (.inr (.inl 83)), some (.inr (.inl 84))]) (S := [.inr (.inl 82), .inl (.ref 30)]) (uh := hd_ov (iv_id 0 iv_B0) []) (ul := [.inl (.inr (.inl 82)), .inl (.inr (.inl 83)), .inl (.inr (.inl 84))]) (f := true) (sp := [66, 83]) (d0 := 3) (O := [false, false, false, false, true]) (T := [(30, [.inr (.inl 33)], [.inr (.inl 39)])]) (P := [(3, .inl (.int 4), .inr (.inl 84)), (3, .inr (.inl 33), .inl (.int 0)), (3, .inl (.int 400), .inr (.inl 33)), (6, .inr (.inl 33), .inl (.ref 401)), (0, .inr (.inl 85), .inl (.int 11)), (2, .inr (.inl 84), .inl (.int 4))]) jm_ok36 (by decide +kernel) (by decide +kernel) hd F X1 X2 (fun F' hF hs => ?_)
  have b84 := hd_b (F := F) (F' := F') (k := 84) (hF 84 (by decide))
  have b33 := hd_b (F := F) (F' := F') (k := 33) (hF 33 (by decide))
  have a39 := hd_ba (F := F) (F' := F') (k := 39) (hF 39 (by decide))
  have t85 : sy_dv F' (.inr (.inl 85)) = .int ((sy_ai F 39).getD (sy_i F 33).toNatClampNeg 0) := hd_rd (hs 0 _ rfl) b33 a39
  have b82 := hd_b (F := F) (F' := F') (k := 82) (hF 82 (by decide))
  have b83 := hd_b (F := F) (F' := F') (k := 83) (hF 83 (by decide))
  have hB' : iv_in F' iv_B0 := iv_in_eq hB (fun j hj => hF j (Nat.lt_of_lt_of_le hj (by decide +kernel)))
  refine ⟨List.forall_mem_cons.mpr ⟨hd_p3 rfl b84 (by have hc : ((4) : Int32).toInt = 4 := (by decide); omega), List.forall_mem_cons.mpr ⟨hd_p3 b33 rfl (by have hc : ((0) : Int32).toInt = 0 := (by decide); omega), List.forall_mem_cons.mpr ⟨hd_p3 rfl b33 (by have hc : ((400) : Int32).toInt = 400 := (by decide); omega), List.forall_mem_cons.mpr ⟨hd_pb b33 (by first | exact h3 | exact h3), List.forall_mem_cons.mpr ⟨hd_p0 t85 rfl (by have hc : ((11) : Int32).toInt = 11 := (by decide); omega), List.forall_mem_cons.mpr ⟨hd_p2 b84 rfl (by have hc : ((4) : Int32).toInt = 4 := (by decide); omega), fun _ h => absurd h List.not_mem_nil⟩⟩⟩⟩⟩⟩, ?_⟩
  refine k _ ?_ ?_ ?_ ?_
  · exact fun j hj _ => (hd_keep hB' (Nat.lt_of_lt_of_le hj (by decide +kernel)) (by simp)).trans (hF j (Nat.lt_of_lt_of_le hj (by decide)))
  · exact hd_gi (x := .inr (.inl 82)) (by decide +kernel) b82
  · exact hd_gi (x := .inr (.inl 83)) (by decide +kernel) b83
  · exact hd_gi (x := .inr (.inl 84)) (by decide +kernel) b84
theorem k3pl_30_p3 {Ls : Nat} {xs : Nat → Int32} {d : Nat} {Q : Option Value → jm_h → Prop} (hd : 4 ≤ d) (F : Nat → sy_d) (X1 X2 : List jm_c) (hB : iv_in F iv_B0)
    (h0 : (sy_i F 84).toInt ≤ 4)
    (h1 : 0 ≤ (sy_i F 33).toInt)
    (h2 : (sy_i F 33).toInt ≤ 400)
    (h3 : 0 ≤ (sy_i F 33).toInt ∧ (sy_i F 33).toInt < 401)
    (h4 : ((sy_ai F 39).getD (sy_i F 33).toNatClampNeg 0).toInt = 11)
    (h5 : 4 ≤ (sy_i F 84).toInt)
    (k : ∀ F1 : Nat → sy_d, (∀ j, j < 82 → j ≠ 34 → F1 j = F j) → F1 34 = .inl (.int ((2 : Int32))) → Q (some (.int ((0 : Int32)))) (sy_dh F1 X1 X2 (iv_H 3))) :
    hd_W Ls xs d jm_M36 Q (30, sy_dL F [some (.inl (.ref 30)), none, some (.inr (.inl 82)), some (.inr (.inl 83)), some (.inr (.inl 84))], sy_dS F [], sy_dh F X1 X2 (iv_H 3), 0, 0) := by
  refine hd_ret (s := 3) (nv := 85) (v := some (.inl (.int 0))) (uh := hd_ov (iv_id 0 iv_B0) [(34, .inl (.inl (.int 2)))]) (f := true) (sp := [66, 83]) (d0 := 3) (O := [false, false, false, false, false]) (T := [(30, [.inr (.inl 33)], [.inr (.inl 39)])]) (P := [(3, .inl (.int 4), .inr (.inl 84)), (3, .inr (.inl 33), .inl (.int 0)), (3, .inl (.int 400), .inr (.inl 33)), (6, .inr (.inl 33), .inl (.ref 401)), (0, .inr (.inl 85), .inl (.int 11)), (3, .inr (.inl 84), .inl (.int 4))]) jm_ok36 (by decide +kernel) (by decide +kernel) hd F X1 X2 (fun F' hF hs => ?_)
  have b84 := hd_b (F := F) (F' := F') (k := 84) (hF 84 (by decide))
  have b33 := hd_b (F := F) (F' := F') (k := 33) (hF 33 (by decide))
  have a39 := hd_ba (F := F) (F' := F') (k := 39) (hF 39 (by decide))
  have t85 : sy_dv F' (.inr (.inl 85)) = .int ((sy_ai F 39).getD (sy_i F 33).toNatClampNeg 0) := hd_rd (hs 0 _ rfl) b33 a39
  have hB' : iv_in F' iv_B0 := iv_in_eq hB (fun j hj => hF j (Nat.lt_of_lt_of_le hj (by decide +kernel)))
  refine ⟨List.forall_mem_cons.mpr ⟨hd_p3 rfl b84 (by have hc : ((4) : Int32).toInt = 4 := (by decide); omega), List.forall_mem_cons.mpr ⟨hd_p3 b33 rfl (by have hc : ((0) : Int32).toInt = 0 := (by decide); omega), List.forall_mem_cons.mpr ⟨hd_p3 rfl b33 (by have hc : ((400) : Int32).toInt = 400 := (by decide); omega), List.forall_mem_cons.mpr ⟨hd_pb b33 (by first | exact h3 | exact h3), List.forall_mem_cons.mpr ⟨hd_p0 t85 rfl (by have hc : ((11) : Int32).toInt = 11 := (by decide); omega), List.forall_mem_cons.mpr ⟨hd_p3 b84 rfl (by have hc : ((4) : Int32).toInt = 4 := (by decide); omega), fun _ h => absurd h List.not_mem_nil⟩⟩⟩⟩⟩⟩, ?_⟩
  refine k _ ?_ ?_
  · exact fun j hj hn => (hd_keep hB' (Nat.lt_of_lt_of_le hj (by decide +kernel)) (by simp; omega)).trans (hF j (Nat.lt_of_lt_of_le hj (by decide)))
  · exact hd_gi (x := .inl (.int 2)) (by decide +kernel) rfl
theorem k3pl_69_p0 {Ls : Nat} {xs : Nat → Int32} {d : Nat} {Q : Option Value → jm_h → Prop} (hd : 4 ≤ d) (F : Nat → sy_d) (X1 X2 : List jm_c) (hB : iv_in F iv_B0)
    (h0 : (sy_i F 85).toInt ≠ 0)
    (k : ∀ F1 : Nat → sy_d, (∀ j, j < 82 → True → F1 j = F j) → F1 82 = .inl (.int (sy_i F 82)) → F1 83 = .inl (.int (sy_i F 83)) → F1 84 = .inl (.int ((sy_i F 84) + ((1 : Int32)))) → hd_W Ls xs d jm_M36 Q (30, sy_dL F1 [some (.inl (.ref 30)), none, some (.inr (.inl 82)), some (.inr (.inl 83)), some (.inr (.inl 84))], sy_dS F1 [], sy_dh F1 X1 X2 (iv_H 3), 0, 0)) :
    hd_W Ls xs d jm_M36 Q (69, sy_dL F [some (.inl (.ref 30)), none, some (.inr (.inl 82)), some (.inr (.inl 83)), some (.inr (.inl 84))], sy_dS F [.inr (.inl 85)], sy_dh F X1 X2 (iv_H 3), 0, 0) := by
  refine hd_run (s := 3) (nv := 86) (pc := 30) (L := [some (.inl (.ref 30)), none, some (.inr (.inl 82)), some (.inr (.inl 83)), some (.inr (.inl 84))]) (S := []) (uh := hd_ov (iv_id 0 iv_B0) []) (ul := [.inl (.inr (.inl 82)), .inl (.inr (.inl 83)), .inl (.inr (.inl 86))]) (f := false) (sp := [30]) (d0 := 3) (O := [true]) (T := [(0, [.inr (.inl 84), .inl (.int 1)], [])]) (P := [(1, .inr (.inl 85), .inl (.int 0))]) jm_ok36 (by decide +kernel) (by decide +kernel) hd F X1 X2 (fun F' hF hs => ?_)
  have b85 := hd_b (F := F) (F' := F') (k := 85) (hF 85 (by decide))
  have b82 := hd_b (F := F) (F' := F') (k := 82) (hF 82 (by decide))
  have b83 := hd_b (F := F) (F' := F') (k := 83) (hF 83 (by decide))
  have b84 := hd_b (F := F) (F' := F') (k := 84) (hF 84 (by decide))
  have t86 : sy_dv F' (.inr (.inl 86)) = .int ((sy_i F 84) + ((1 : Int32))) := hd_o (hs 0 _ rfl) b84 rfl rfl
  have hB' : iv_in F' iv_B0 := iv_in_eq hB (fun j hj => hF j (Nat.lt_of_lt_of_le hj (by decide +kernel)))
  refine ⟨List.forall_mem_cons.mpr ⟨hd_p1 b85 rfl (by have hc : ((0) : Int32).toInt = 0 := (by decide); omega), fun _ h => absurd h List.not_mem_nil⟩, ?_⟩
  refine k _ ?_ ?_ ?_ ?_
  · exact fun j hj _ => (hd_keep hB' (Nat.lt_of_lt_of_le hj (by decide +kernel)) (by simp)).trans (hF j (Nat.lt_of_lt_of_le hj (by decide)))
  · exact hd_gi (x := .inr (.inl 82)) (by decide +kernel) b82
  · exact hd_gi (x := .inr (.inl 83)) (by decide +kernel) b83
  · exact hd_gi (x := .inr (.inl 86)) (by decide +kernel) t86
theorem k3pl_69_p1 {Ls : Nat} {xs : Nat → Int32} {d : Nat} {Q : Option Value → jm_h → Prop} (hd : 4 ≤ d) (F : Nat → sy_d) (X1 X2 : List jm_c) (hB : iv_in F iv_B0)
    (h0 : (sy_i F 85).toInt = 0)
    (k : ∀ F1 : Nat → sy_d, (∀ j, j < 82 → True → F1 j = F j) → Q (some (.int ((0 : Int32)))) (sy_dh F1 X1 X2 (iv_H 3))) :
    hd_W Ls xs d jm_M36 Q (69, sy_dL F [some (.inl (.ref 30)), none, some (.inr (.inl 82)), some (.inr (.inl 83)), some (.inr (.inl 84))], sy_dS F [.inr (.inl 85)], sy_dh F X1 X2 (iv_H 3), 0, 0) := by
  refine hd_ret (s := 3) (nv := 86) (v := some (.inl (.int 0))) (uh := hd_ov (iv_id 0 iv_B0) []) (f := false) (sp := [30]) (d0 := 3) (O := [false]) (T := []) (P := [(0, .inr (.inl 85), .inl (.int 0))]) jm_ok36 (by decide +kernel) (by decide +kernel) hd F X1 X2 (fun F' hF hs => ?_)
  have b85 := hd_b (F := F) (F' := F') (k := 85) (hF 85 (by decide))
  have hB' : iv_in F' iv_B0 := iv_in_eq hB (fun j hj => hF j (Nat.lt_of_lt_of_le hj (by decide +kernel)))
  refine ⟨List.forall_mem_cons.mpr ⟨hd_p0 b85 rfl (by have hc : ((0) : Int32).toInt = 0 := (by decide); omega), fun _ h => absurd h List.not_mem_nil⟩, ?_⟩
  refine k _ ?_
  · exact fun j hj _ => (hd_keep hB' (Nat.lt_of_lt_of_le hj (by decide +kernel)) (by simp)).trans (hF j (Nat.lt_of_lt_of_le hj (by decide)))
theorem k3pl_86_p0 {Ls : Nat} {xs : Nat → Int32} {d : Nat} {Q : Option Value → jm_h → Prop} (hd : 4 ≤ d) (F : Nat → sy_d) (X1 X2 : List jm_c) (hB : iv_in F iv_B0)
    (h0 : (sy_i F 84).toInt = 0)
    (k : ∀ F1 : Nat → sy_d, (∀ j, j < 82 → True → F1 j = F j) → Q (some (.int ((0 : Int32)))) (sy_dh F1 X1 X2 (iv_H 3))) :
    hd_W Ls xs d jm_M36 Q (86, sy_dL F [some (.inl (.ref 30)), none, some (.inr (.inl 82)), some (.inr (.inl 83)), none], sy_dS F [.inr (.inl 84)], sy_dh F X1 X2 (iv_H 3), 0, 0) := by
  refine hd_ret (s := 3) (nv := 85) (v := some (.inl (.int 0))) (uh := hd_ov (iv_id 0 iv_B0) []) (f := false) (sp := [92]) (d0 := 3) (O := [true]) (T := []) (P := [(0, .inr (.inl 84), .inl (.int 0))]) jm_ok36 (by decide +kernel) (by decide +kernel) hd F X1 X2 (fun F' hF hs => ?_)
  have b84 := hd_b (F := F) (F' := F') (k := 84) (hF 84 (by decide))
  have hB' : iv_in F' iv_B0 := iv_in_eq hB (fun j hj => hF j (Nat.lt_of_lt_of_le hj (by decide +kernel)))
  refine ⟨List.forall_mem_cons.mpr ⟨hd_p0 b84 rfl (by have hc : ((0) : Int32).toInt = 0 := (by decide); omega), fun _ h => absurd h List.not_mem_nil⟩, ?_⟩
  refine k _ ?_
  · exact fun j hj _ => (hd_keep hB' (Nat.lt_of_lt_of_le hj (by decide +kernel)) (by simp)).trans (hF j (Nat.lt_of_lt_of_le hj (by decide)))
theorem k3pl_86_p1 {Ls : Nat} {xs : Nat → Int32} {d : Nat} {Q : Option Value → jm_h → Prop} (hd : 4 ≤ d) (F : Nat → sy_d) (X1 X2 : List jm_c) (hB : iv_in F iv_B0)
    (h0 : (sy_i F 84).toInt ≠ 0)
    (k : ∀ F1 : Nat → sy_d, (∀ j, j < 82 → True → F1 j = F j) → F1 82 = .inl (.int (sy_i F 82)) → F1 83 = .inl (.int (sy_i F 83)) → hd_W Ls xs d jm_M36 Q (92, sy_dL F1 [some (.inl (.ref 30)), none, some (.inr (.inl 82)), some (.inr (.inl 83)), none], sy_dS F1 [.inl (.int 59), .inl (.ref 30)], sy_dh F1 X1 X2 (iv_H 3), 0, 0)) :
    hd_W Ls xs d jm_M36 Q (86, sy_dL F [some (.inl (.ref 30)), none, some (.inr (.inl 82)), some (.inr (.inl 83)), none], sy_dS F [.inr (.inl 84)], sy_dh F X1 X2 (iv_H 3), 0, 0) := by
  refine hd_run (s := 3) (nv := 85) (pc := 92) (L := [some (.inl (.ref 30)), none, some (.inr (.inl 82)), some (.inr (.inl 83)), none]) (S := [.inl (.int 59), .inl (.ref 30)]) (uh := hd_ov (iv_id 0 iv_B0) []) (ul := [.inl (.inr (.inl 82)), .inl (.inr (.inl 83))]) (f := false) (sp := [92]) (d0 := 3) (O := [false]) (T := []) (P := [(1, .inr (.inl 84), .inl (.int 0))]) jm_ok36 (by decide +kernel) (by decide +kernel) hd F X1 X2 (fun F' hF hs => ?_)
  have b84 := hd_b (F := F) (F' := F') (k := 84) (hF 84 (by decide))
  have b82 := hd_b (F := F) (F' := F') (k := 82) (hF 82 (by decide))
  have b83 := hd_b (F := F) (F' := F') (k := 83) (hF 83 (by decide))
  have hB' : iv_in F' iv_B0 := iv_in_eq hB (fun j hj => hF j (Nat.lt_of_lt_of_le hj (by decide +kernel)))
  refine ⟨List.forall_mem_cons.mpr ⟨hd_p1 b84 rfl (by have hc : ((0) : Int32).toInt = 0 := (by decide); omega), fun _ h => absurd h List.not_mem_nil⟩, ?_⟩
  refine k _ ?_ ?_ ?_
  · exact fun j hj _ => (hd_keep hB' (Nat.lt_of_lt_of_le hj (by decide +kernel)) (by simp)).trans (hF j (Nat.lt_of_lt_of_le hj (by decide)))
  · exact hd_gi (x := .inr (.inl 82)) (by decide +kernel) b82
  · exact hd_gi (x := .inr (.inl 83)) (by decide +kernel) b83
theorem k3pl_95_p0 {Ls : Nat} {xs : Nat → Int32} {d : Nat} {Q : Option Value → jm_h → Prop} (hd : 4 ≤ d) (F : Nat → sy_d) (X1 X2 : List jm_c) (hB : iv_in F iv_B0)
    (h0 : (sy_i F 84).toInt ≠ 0)
    (h1 : 512 ≤ (sy_i F 8).toInt)
    (h2 : 0 ≤ (sy_i F 82).toInt ∧ (sy_i F 82).toInt < 6)
    (k : ∀ F1 : Nat → sy_d, (∀ j, j < 82 → j ≠ 16 → F1 j = F j) → F1 16 = .inr (.inl (jm_upd (sy_ai F 16) (sy_i F 82).toNatClampNeg (sy_i F 83))) → Q (some (.int ((1 : Int32)))) (sy_dh F1 X1 X2 (iv_H 3))) :
    hd_W Ls xs d jm_M36 Q (95, sy_dL F [some (.inl (.ref 30)), none, some (.inr (.inl 82)), some (.inr (.inl 83)), none], sy_dS F [.inr (.inl 84)], sy_dh F X1 X2 (iv_H 3), 0, 0) := by
  refine hd_ret (s := 3) (nv := 85) (v := some (.inl (.int 1))) (uh := hd_ov (iv_id 0 iv_B0) [(16, .inr (.inr (.inl 85)))]) (f := false) (sp := []) (d0 := 3) (O := [true, true]) (T := [(40, [.inr (.inl 82), .inr (.inl 83)], [.inr (.inl 16)])]) (P := [(1, .inr (.inl 84), .inl (.int 0)), (4, .inl (.int 512), .inr (.inl 8)), (6, .inr (.inl 82), .inl (.ref 6))]) jm_ok36 (by decide +kernel) (by decide +kernel) hd F X1 X2 (fun F' hF hs => ?_)
  have b84 := hd_b (F := F) (F' := F') (k := 84) (hF 84 (by decide))
  have b8 := hd_b (F := F) (F' := F') (k := 8) (hF 8 (by decide))
  have b82 := hd_b (F := F) (F' := F') (k := 82) (hF 82 (by decide))
  have b83 := hd_b (F := F) (F' := F') (k := 83) (hF 83 (by decide))
  have a16 := hd_ba (F := F) (F' := F') (k := 16) (hF 16 (by decide))
  have t85 : sy_da F' (.inr (.inl 85)) = .inl (jm_upd (sy_ai F 16) (sy_i F 82).toNatClampNeg (sy_i F 83)) := hd_up (hs 0 _ rfl) b82 b83 a16
  have hB' : iv_in F' iv_B0 := iv_in_eq hB (fun j hj => hF j (Nat.lt_of_lt_of_le hj (by decide +kernel)))
  refine ⟨List.forall_mem_cons.mpr ⟨hd_p1 b84 rfl (by have hc : ((0) : Int32).toInt = 0 := (by decide); omega), List.forall_mem_cons.mpr ⟨hd_p4 rfl b8 (by have hc : ((512) : Int32).toInt = 512 := (by decide); omega), List.forall_mem_cons.mpr ⟨hd_pb b82 (by first | exact h2 | exact h2), fun _ h => absurd h List.not_mem_nil⟩⟩⟩, ?_⟩
  refine k _ ?_ ?_
  · exact fun j hj hn => (hd_keep hB' (Nat.lt_of_lt_of_le hj (by decide +kernel)) (by simp; omega)).trans (hF j (Nat.lt_of_lt_of_le hj (by decide)))
  · exact hd_ga (a := .inr (.inl 85)) (by decide +kernel) t85
theorem k3pl_95_p1 {Ls : Nat} {xs : Nat → Int32} {d : Nat} {Q : Option Value → jm_h → Prop} (hd : 4 ≤ d) (F : Nat → sy_d) (X1 X2 : List jm_c) (hB : iv_in F iv_B0)
    (h0 : (sy_i F 84).toInt ≠ 0)
    (h1 : (sy_i F 8).toInt < 512)
    (h2 : 0 ≤ (sy_i F 8).toInt ∧ (sy_i F 8).toInt < 512)
    (h3 : 0 ≤ (sy_i F 82).toInt ∧ (sy_i F 82).toInt < 6)
    (k : ∀ F1 : Nat → sy_d, (∀ j, j < 82 → j ≠ 8 ∧ j ≠ 16 ∧ j ≠ 17 → F1 j = F j) → F1 8 = .inl (.int ((sy_i F 8) + ((1 : Int32)))) → F1 16 = .inr (.inl (jm_upd (sy_ai F 16) (sy_i F 82).toNatClampNeg (sy_i F 83))) → F1 17 = .inr (.inl (jm_upd (sy_ai F 17) (sy_i F 8).toNatClampNeg (((-14) : Int32)))) → Q (some (.int ((1 : Int32)))) (sy_dh F1 X1 X2 (iv_H 3))) :
    hd_W Ls xs d jm_M36 Q (95, sy_dL F [some (.inl (.ref 30)), none, some (.inr (.inl 82)), some (.inr (.inl 83)), none], sy_dS F [.inr (.inl 84)], sy_dh F X1 X2 (iv_H 3), 0, 0) := by
  refine hd_ret (s := 3) (nv := 85) (v := some (.inl (.int 1))) (uh := hd_ov (iv_id 0 iv_B0) [(8, .inl (.inr (.inl 86))), (16, .inr (.inr (.inl 87))), (17, .inr (.inr (.inl 85)))]) (f := false) (sp := []) (d0 := 3) (O := [true, false]) (T := [(40, [.inr (.inl 8), .inl (.int (-14))], [.inr (.inl 17)]), (0, [.inr (.inl 8), .inl (.int 1)], []), (40, [.inr (.inl 82), .inr (.inl 83)], [.inr (.inl 16)])]) (P := [(1, .inr (.inl 84), .inl (.int 0)), (5, .inl (.int 512), .inr (.inl 8)), (6, .inr (.inl 8), .inl (.ref 512)), (6, .inr (.inl 82), .inl (.ref 6))]) jm_ok36 (by decide +kernel) (by decide +kernel) hd F X1 X2 (fun F' hF hs => ?_)
  have b84 := hd_b (F := F) (F' := F') (k := 84) (hF 84 (by decide))
  have b8 := hd_b (F := F) (F' := F') (k := 8) (hF 8 (by decide))
  have b82 := hd_b (F := F) (F' := F') (k := 82) (hF 82 (by decide))
  have t86 : sy_dv F' (.inr (.inl 86)) = .int ((sy_i F 8) + ((1 : Int32))) := hd_o (hs 1 _ rfl) b8 rfl rfl
  have b83 := hd_b (F := F) (F' := F') (k := 83) (hF 83 (by decide))
  have a16 := hd_ba (F := F) (F' := F') (k := 16) (hF 16 (by decide))
  have t87 : sy_da F' (.inr (.inl 87)) = .inl (jm_upd (sy_ai F 16) (sy_i F 82).toNatClampNeg (sy_i F 83)) := hd_up (hs 2 _ rfl) b82 b83 a16
  have a17 := hd_ba (F := F) (F' := F') (k := 17) (hF 17 (by decide))
  have t85 : sy_da F' (.inr (.inl 85)) = .inl (jm_upd (sy_ai F 17) (sy_i F 8).toNatClampNeg (((-14) : Int32))) := hd_up (hs 0 _ rfl) b8 rfl a17
  have hB' : iv_in F' iv_B0 := iv_in_eq hB (fun j hj => hF j (Nat.lt_of_lt_of_le hj (by decide +kernel)))
  refine ⟨List.forall_mem_cons.mpr ⟨hd_p1 b84 rfl (by have hc : ((0) : Int32).toInt = 0 := (by decide); omega), List.forall_mem_cons.mpr ⟨hd_p5 rfl b8 (by have hc : ((512) : Int32).toInt = 512 := (by decide); omega), List.forall_mem_cons.mpr ⟨hd_pb b8 (by first | exact h2 | exact h2), List.forall_mem_cons.mpr ⟨hd_pb b82 (by first | exact h3 | exact h3), fun _ h => absurd h List.not_mem_nil⟩⟩⟩⟩, ?_⟩
  refine k _ ?_ ?_ ?_ ?_
  · exact fun j hj hn => (hd_keep hB' (Nat.lt_of_lt_of_le hj (by decide +kernel)) (by simp; omega)).trans (hF j (Nat.lt_of_lt_of_le hj (by decide)))
  · exact hd_gi (x := .inr (.inl 86)) (by decide +kernel) t86
  · exact hd_ga (a := .inr (.inl 87)) (by decide +kernel) t87
  · exact hd_ga (a := .inr (.inl 85)) (by decide +kernel) t85
theorem k3pl_95_p2 {Ls : Nat} {xs : Nat → Int32} {d : Nat} {Q : Option Value → jm_h → Prop} (hd : 4 ≤ d) (F : Nat → sy_d) (X1 X2 : List jm_c) (hB : iv_in F iv_B0)
    (h0 : (sy_i F 84).toInt = 0)
    (k : ∀ F1 : Nat → sy_d, (∀ j, j < 82 → True → F1 j = F j) → Q (some (.int ((0 : Int32)))) (sy_dh F1 X1 X2 (iv_H 3))) :
    hd_W Ls xs d jm_M36 Q (95, sy_dL F [some (.inl (.ref 30)), none, some (.inr (.inl 82)), some (.inr (.inl 83)), none], sy_dS F [.inr (.inl 84)], sy_dh F X1 X2 (iv_H 3), 0, 0) := by
  refine hd_ret (s := 3) (nv := 85) (v := some (.inl (.int 0))) (uh := hd_ov (iv_id 0 iv_B0) []) (f := false) (sp := []) (d0 := 3) (O := [false]) (T := []) (P := [(0, .inr (.inl 84), .inl (.int 0))]) jm_ok36 (by decide +kernel) (by decide +kernel) hd F X1 X2 (fun F' hF hs => ?_)
  have b84 := hd_b (F := F) (F' := F') (k := 84) (hF 84 (by decide))
  have hB' : iv_in F' iv_B0 := iv_in_eq hB (fun j hj => hF j (Nat.lt_of_lt_of_le hj (by decide +kernel)))
  refine ⟨List.forall_mem_cons.mpr ⟨hd_p0 b84 rfl (by have hc : ((0) : Int32).toInt = 0 := (by decide); omega), fun _ h => absurd h List.not_mem_nil⟩, ?_⟩
  refine k _ ?_
  · exact fun j hj _ => (hd_keep hB' (Nat.lt_of_lt_of_le hj (by decide +kernel)) (by simp)).trans (hF j (Nat.lt_of_lt_of_le hj (by decide)))
end
section
/-! ===== the class parses laws ===== -/
section II
variable (K : Nat → Int)
noncomputable def i6 (t : Nat) : sE ⊕ Nat := sM K 33 t
noncomputable def i5 (t : Nat) : sE ⊕ Nat := sB (eX K t 0 0) (i6 K)
noncomputable def i4 (t : Nat) : sE ⊕ Nat := sB (sM K 32 t) (i5 K)
noncomputable def i3 (t : Nat) : sE ⊕ Nat := sB (eX K t 0 0) (i4 K)
noncomputable def i2 (t : Nat) : sE ⊕ Nat := sB (sM K 13 t) (i3 K)
noncomputable def i1 (t : Nat) : sE ⊕ Nat := sB (eX K t 0 0) (i2 K)
theorem i_eq {t : Nat} (h : K t = 31) : sIf K t = sB (sM K 31 t) (i1 K) := by
  unfold sM
  rw [if_pos h]
  rfl
end II
noncomputable def piR (W : List Nat) (x : Int32) (F F' : Nat → sy_d) : Prop := gc W F F' ∧ (kg F (tg F) = 31 → ((x = 0 ∧ sIf (kg F) (tg F) = .inl ((sy_i F' 34).toInt, tg F')) ∨ (x = 1 ∧ sIf (kg F) (tg F) = .inr (tg F'))))
theorem piR_dst {W : List Nat} {x : Int32} {F F' F2 : Nat → sy_d} (h : piR W x F F') (e : ∀ q, q < 82 → F2 q = F' q) : piR W x F F2 := by
  refine ⟨h.1.dst e, ?_⟩
  rw [nz_fi (e 34 (by decide)), tg_eq (nz_fi (e 33 (by decide)))]
  exact h.2
theorem piR_src {W : List Nat} {x : Int32} {F F0 F' : Nat → sy_d} (h : piR W x F0 F') (e : ∀ q, q < 82 → F0 q = F q) : piR W x F F' := by
  obtain ⟨h1, h2⟩ := h
  rw [kg_eq (e 39 (by decide)), tg_eq (nz_fi (e 33 (by decide)))] at h2
  exact ⟨h1.src e, h2⟩
theorem x01 {x : Int32} {p q : Prop} (h : (x = 0 ∧ p) ∨ (x = 1 ∧ q)) : (x.toInt = 0 → p) ∧ (x.toInt ≠ 0 → q) := by
  rcases h with ⟨rfl, h⟩ | ⟨rfl, h⟩
  · exact ⟨fun _ => h, fun z => absurd (by decide) z⟩
  · exact ⟨fun z => absurd z (by decide), fun _ => h⟩
theorem km_in {k j : Int} (h : ∀ c, km c = j ↔ c = k) (hj : km k = j) : ∀ c, km c = km k → c = k := fun c z => (h c).mp (z.trans hj)
section I0
variable {Ls : Nat} {xs : Nat → Int32} (X1 X2 : List jm_c) (F0 : Nat → sy_d) (r0 : sE ⊕ Nat)
end I0
section I3
variable {Ls : Nat} {xs : Nat → Int32} (X1 X2 : List jm_c) (F0 : Nat → sy_d) (r0 : sE ⊕ Nat)
end I3
end
section
/-! ===== the class parses a law ===== -/
noncomputable def plr (K : Nat → Int) (t : Nat) : sE ⊕ Nat := sB (sG t) (sLw K)
noncomputable def plR (W : List Nat) (x : Int32) (F F' : Nat → sy_d) : Prop := gc W F F' ∧ ((x = 0 ∧ plr (kg F) (tg F) = .inl ((sy_i F' 34).toInt, tg F')) ∨ (x = 1 ∧ plr (kg F) (tg F) = .inr (tg F')))
theorem plR_dst {W : List Nat} {x : Int32} {F F' F2 : Nat → sy_d} (h : plR W x F F') (e : ∀ q, q < 82 → F2 q = F' q) : plR W x F F2 := by
  refine ⟨h.1.dst e, ?_⟩
  rw [nz_fi (e 34 (by decide)), tg_eq (nz_fi (e 33 (by decide)))]
  exact h.2
theorem plR_src {W : List Nat} {x : Int32} {F F0 F' : Nat → sy_d} (h : plR W x F0 F') (e : ∀ q, q < 82 → F0 q = F q) : plR W x F F' := by
  obtain ⟨h1, h2⟩ := h
  rw [kg_eq (e 39 (by decide)), tg_eq (nz_fi (e 33 (by decide)))] at h2
  exact ⟨h1.src e, h2⟩
noncomputable def k0_WL : List Nat := [33, 34, 23, 32, 31]
section L0
variable {Ls : Nat} {xs : Nat → Int32} (X1 X2 : List jm_c) (F0 : Nat → sy_d) (r0 : sE ⊕ Nat)
end L0
noncomputable def k3_WL : List Nat := [33, 34, 8, 17, 16]
section L3
variable {Ls : Nat} {xs : Nat → Int32} (X1 X2 : List jm_c) (F0 : Nat → sy_d) (r0 : sE ⊕ Nat)
end L3
end
