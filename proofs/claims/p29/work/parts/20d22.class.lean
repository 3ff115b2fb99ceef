/-! ===== the class parses expressions, way by way (shape 0) ===== -/
theorem k0pu_0_p0 {Ls : Nat} {xs : Nat → Int32} {d : Nat} {Q : Option Value → jm_h → Prop} (hd : 4 ≤ d) (F : Nat → sy_d) (X1 X2 : List jm_c) (hB : iv_in F iv_B0)
    (h0 : 0 ≤ (sy_i F 33).toInt)
    (h1 : (sy_i F 33).toInt ≤ 400)
    (h2 : 0 ≤ (sy_i F 33).toInt ∧ (sy_i F 33).toInt < 401)
    (h3 : ((sy_ai F 39).getD (sy_i F 33).toNatClampNeg 0).toInt ≠ 24)
    (h4 : ((sy_ai F 39).getD (sy_i F 33).toNatClampNeg 0).toInt < 14)
    (h5 : ((sy_ai F 39).getD (sy_i F 33).toNatClampNeg 0).toInt ≠ 40)
    (k : ∀ F1 : Nat → sy_d, (∀ j, j < 82 → j ≠ 34 → F1 j = F j) → F1 34 = .inl (.int ((1 : Int32))) → Q (some (.int ((0 : Int32)))) (sy_dh F1 X1 X2 (iv_H 0))) :
    hd_W Ls xs d jm_M40 Q (0, sy_dL F [some (.inl (.ref 30)), some (.inr (.inl 82)), some (.inr (.inl 83)), none, none], sy_dS F [], sy_dh F X1 X2 (iv_H 0), 0, 0) := by
  refine hd_ret (s := 0) (nv := 84) (v := some (.inl (.int 0))) (uh := hd_ov (iv_id 0 iv_B0) [(34, .inl (.inl (.int 1)))]) (f := true) (sp := [34, 88, 134]) (d0 := 3) (O := [false, false, true, true, false]) (T := [(30, [.inr (.inl 33)], [.inr (.inl 39)])]) (P := [(3, .inr (.inl 33), .inl (.int 0)), (3, .inl (.int 400), .inr (.inl 33)), (6, .inr (.inl 33), .inl (.ref 401)), (1, .inr (.inl 84), .inl (.int 24)), (2, .inr (.inl 84), .inl (.int 14)), (1, .inr (.inl 84), .inl (.int 40))]) jm_ok40 (by decide +kernel) (by decide +kernel) hd F X1 X2 (fun F' hF hs => ?_)
  have b33 := hd_b (F := F) (F' := F') (k := 33) (hF 33 (by decide))
  have a39 := hd_ba (F := F) (F' := F') (k := 39) (hF 39 (by decide))
  have t84 : sy_dv F' (.inr (.inl 84)) = .int ((sy_ai F 39).getD (sy_i F 33).toNatClampNeg 0) := hd_rd (hs 0 _ rfl) b33 a39
  have hB' : iv_in F' iv_B0 := iv_in_eq hB (fun j hj => hF j (Nat.lt_of_lt_of_le hj (by decide +kernel)))
  refine ⟨List.forall_mem_cons.mpr ⟨hd_p3 b33 rfl (by have hc : ((0) : Int32).toInt = 0 := (by decide); omega), List.forall_mem_cons.mpr ⟨hd_p3 rfl b33 (by have hc : ((400) : Int32).toInt = 400 := (by decide); omega), List.forall_mem_cons.mpr ⟨hd_pb b33 (by first | exact h2 | exact h2), List.forall_mem_cons.mpr ⟨hd_p1 t84 rfl (by have hc : ((24) : Int32).toInt = 24 := (by decide); omega), List.forall_mem_cons.mpr ⟨hd_p2 t84 rfl (by have hc : ((14) : Int32).toInt = 14 := (by decide); omega), List.forall_mem_cons.mpr ⟨hd_p1 t84 rfl (by have hc : ((40) : Int32).toInt = 40 := (by decide); omega), fun _ h => absurd h List.not_mem_nil⟩⟩⟩⟩⟩⟩, ?_⟩
  refine k _ ?_ ?_
  · exact fun j hj hn => (hd_keep hB' (Nat.lt_of_lt_of_le hj (by decide +kernel)) (by simp; omega)).trans (hF j (by omega))
  · exact hd_gi (x := .inl (.int 1)) (by decide +kernel) rfl
theorem k0pu_0_p1 {Ls : Nat} {xs : Nat → Int32} {d : Nat} {Q : Option Value → jm_h → Prop} (hd : 4 ≤ d) (F : Nat → sy_d) (X1 X2 : List jm_c) (hB : iv_in F iv_B0)
    (h0 : 0 ≤ (sy_i F 33).toInt)
    (h1 : (sy_i F 33).toInt ≤ 400)
    (h2 : 0 ≤ (sy_i F 33).toInt ∧ (sy_i F 33).toInt < 401)
    (h3 : ((sy_ai F 39).getD (sy_i F 33).toNatClampNeg 0).toInt ≠ 24)
    (h4 : 14 ≤ ((sy_ai F 39).getD (sy_i F 33).toNatClampNeg 0).toInt)
    (h5 : 22 < ((sy_ai F 39).getD (sy_i F 33).toNatClampNeg 0).toInt)
    (h6 : ((sy_ai F 39).getD (sy_i F 33).toNatClampNeg 0).toInt = 40)
    (h7 : (sy_i F 83).toInt < 6)
    (h8 : 0 ≤ (sy_i F 33).toInt)
    (h9 : (sy_i F 33).toInt ≤ 400)
    (h10 : 0 ≤ (sy_i F 33).toInt ∧ (sy_i F 33).toInt < 401)
    (h11 : ((sy_ai F 39).getD (sy_i F 33).toNatClampNeg 0).toInt = ((sy_ai F 39).getD (sy_i F 33).toNatClampNeg 0).toInt)
    (h12 : (sy_i F 33).toInt < 400)
    (k : ∀ F1 : Nat → sy_d, (∀ j, j < 82 → j ≠ 33 → F1 j = F j) → F1 33 = .inl (.int ((sy_i F 33) + ((1 : Int32)))) → F1 82 = .inl (.int ((sy_i F 83) + ((1 : Int32)))) → F1 83 = .inl (.int (sy_i F 82)) → hd_W Ls xs d jm_M40 Q (134, sy_dL F1 [some (.inl (.ref 30)), none, none, none, none], sy_dS F1 [.inr (.inl 82), .inr (.inl 83), .inl (.ref 30)], sy_dh F1 X1 X2 (iv_H 0), 0, 0)) :
    hd_W Ls xs d jm_M40 Q (0, sy_dL F [some (.inl (.ref 30)), some (.inr (.inl 82)), some (.inr (.inl 83)), none, none], sy_dS F [], sy_dh F X1 X2 (iv_H 0), 0, 0) := by
  refine hd_run (s := 0) (nv := 84) (pc := 134) (L := [some (.inl (.ref 30)), none, none, none, none]) (S := [.inr (.inl 82), .inr (.inl 83), .inl (.ref 30)]) (uh := hd_ov (iv_id 0 iv_B0) [(33, .inl (.inr (.inl 86)))]) (ul := [.inl (.inr (.inl 87)), .inl (.inr (.inl 82))]) (f := true) (sp := [34, 88, 134]) (d0 := 3) (O := [false, false, true, false, true, true, true, false, false, true, true]) (T := [(30, [.inr (.inl 33)], [.inr (.inl 39)]), (30, [.inr (.inl 33)], [.inr (.inl 39)]), (0, [.inr (.inl 33), .inl (.int 1)], []), (0, [.inr (.inl 83), .inl (.int 1)], [])]) (P := [(3, .inr (.inl 33), .inl (.int 0)), (3, .inl (.int 400), .inr (.inl 33)), (6, .inr (.inl 33), .inl (.ref 401)), (1, .inr (.inl 84), .inl (.int 24)), (3, .inr (.inl 84), .inl (.int 14)), (2, .inl (.int 22), .inr (.inl 84)), (0, .inr (.inl 84), .inl (.int 40)), (2, .inr (.inl 83), .inl (.int 6)), (3, .inr (.inl 33), .inl (.int 0)), (3, .inl (.int 400), .inr (.inl 33)), (6, .inr (.inl 33), .inl (.ref 401)), (0, .inr (.inl 85), .inr (.inl 84)), (2, .inr (.inl 33), .inl (.int 400))]) jm_ok40 (by decide +kernel) (by decide +kernel) hd F X1 X2 (fun F' hF hs => ?_)
  have b33 := hd_b (F := F) (F' := F') (k := 33) (hF 33 (by decide))
  have a39 := hd_ba (F := F) (F' := F') (k := 39) (hF 39 (by decide))
  have t84 : sy_dv F' (.inr (.inl 84)) = .int ((sy_ai F 39).getD (sy_i F 33).toNatClampNeg 0) := hd_rd (hs 0 _ rfl) b33 a39
  have b83 := hd_b (F := F) (F' := F') (k := 83) (hF 83 (by decide))
  have t85 : sy_dv F' (.inr (.inl 85)) = .int ((sy_ai F 39).getD (sy_i F 33).toNatClampNeg 0) := hd_rd (hs 1 _ rfl) b33 a39
  have t86 : sy_dv F' (.inr (.inl 86)) = .int ((sy_i F 33) + ((1 : Int32))) := hd_o (hs 2 _ rfl) b33 rfl rfl
  have t87 : sy_dv F' (.inr (.inl 87)) = .int ((sy_i F 83) + ((1 : Int32))) := hd_o (hs 3 _ rfl) b83 rfl rfl
  have b82 := hd_b (F := F) (F' := F') (k := 82) (hF 82 (by decide))
  have hB' : iv_in F' iv_B0 := iv_in_eq hB (fun j hj => hF j (Nat.lt_of_lt_of_le hj (by decide +kernel)))
  refine ⟨List.forall_mem_cons.mpr ⟨hd_p3 b33 rfl (by have hc : ((0) : Int32).toInt = 0 := (by decide); omega), List.forall_mem_cons.mpr ⟨hd_p3 rfl b33 (by have hc : ((400) : Int32).toInt = 400 := (by decide); omega), List.forall_mem_cons.mpr ⟨hd_pb b33 (by first | exact h2 | exact h2), List.forall_mem_cons.mpr ⟨hd_p1 t84 rfl (by have hc : ((24) : Int32).toInt = 24 := (by decide); omega), List.forall_mem_cons.mpr ⟨hd_p3 t84 rfl (by have hc : ((14) : Int32).toInt = 14 := (by decide); omega), List.forall_mem_cons.mpr ⟨hd_p2 rfl t84 (by have hc : ((22) : Int32).toInt = 22 := (by decide); omega), List.forall_mem_cons.mpr ⟨hd_p0 t84 rfl (by have hc : ((40) : Int32).toInt = 40 := (by decide); omega), List.forall_mem_cons.mpr ⟨hd_p2 b83 rfl (by have hc : ((6) : Int32).toInt = 6 := (by decide); omega), List.forall_mem_cons.mpr ⟨hd_p3 b33 rfl (by have hc : ((0) : Int32).toInt = 0 := (by decide); omega), List.forall_mem_cons.mpr ⟨hd_p3 rfl b33 (by have hc : ((400) : Int32).toInt = 400 := (by decide); omega), List.forall_mem_cons.mpr ⟨hd_pb b33 (by first | exact h10 | exact h10), List.forall_mem_cons.mpr ⟨hd_p0 t85 t84 h11, List.forall_mem_cons.mpr ⟨hd_p2 b33 rfl (by have hc : ((400) : Int32).toInt = 400 := (by decide); omega), fun _ h => absurd h List.not_mem_nil⟩⟩⟩⟩⟩⟩⟩⟩⟩⟩⟩⟩⟩, ?_⟩
  refine k _ ?_ ?_ ?_ ?_
  · exact fun j hj hn => (hd_keep hB' (Nat.lt_of_lt_of_le hj (by decide +kernel)) (by simp; omega)).trans (hF j (by omega))
  · exact hd_gi (x := .inr (.inl 86)) (by decide +kernel) t86
  · exact hd_gi (x := .inr (.inl 87)) (by decide +kernel) t87
  · exact hd_gi (x := .inr (.inl 82)) (by decide +kernel) b82
theorem k0pu_0_p2 {Ls : Nat} {xs : Nat → Int32} {d : Nat} {Q : Option Value → jm_h → Prop} (hd : 4 ≤ d) (F : Nat → sy_d) (X1 X2 : List jm_c) (hB : iv_in F iv_B0)
    (h0 : 0 ≤ (sy_i F 33).toInt)
    (h1 : (sy_i F 33).toInt ≤ 400)
    (h2 : 0 ≤ (sy_i F 33).toInt ∧ (sy_i F 33).toInt < 401)
    (h3 : ((sy_ai F 39).getD (sy_i F 33).toNatClampNeg 0).toInt ≠ 24)
    (h4 : 14 ≤ ((sy_ai F 39).getD (sy_i F 33).toNatClampNeg 0).toInt)
    (h5 : 22 < ((sy_ai F 39).getD (sy_i F 33).toNatClampNeg 0).toInt)
    (h6 : ((sy_ai F 39).getD (sy_i F 33).toNatClampNeg 0).toInt = 40)
    (h7 : (sy_i F 83).toInt < 6)
    (h8 : 0 ≤ (sy_i F 33).toInt)
    (h9 : (sy_i F 33).toInt ≤ 400)
    (h10 : 0 ≤ (sy_i F 33).toInt ∧ (sy_i F 33).toInt < 401)
    (h11 : ((sy_ai F 39).getD (sy_i F 33).toNatClampNeg 0).toInt = ((sy_ai F 39).getD (sy_i F 33).toNatClampNeg 0).toInt)
    (h12 : 400 ≤ (sy_i F 33).toInt)
    (k : ∀ F1 : Nat → sy_d, (∀ j, j < 82 → j ≠ 34 → F1 j = F j) → F1 34 = .inl (.int ((2 : Int32))) → Q (some (.int ((0 : Int32)))) (sy_dh F1 X1 X2 (iv_H 0))) :
    hd_W Ls xs d jm_M40 Q (0, sy_dL F [some (.inl (.ref 30)), some (.inr (.inl 82)), some (.inr (.inl 83)), none, none], sy_dS F [], sy_dh F X1 X2 (iv_H 0), 0, 0) := by
  refine hd_ret (s := 0) (nv := 84) (v := some (.inl (.int 0))) (uh := hd_ov (iv_id 0 iv_B0) [(34, .inl (.inl (.int 2)))]) (f := true) (sp := [34, 88, 134]) (d0 := 3) (O := [false, false, true, false, true, true, true, false, false, true, false]) (T := [(30, [.inr (.inl 33)], [.inr (.inl 39)]), (30, [.inr (.inl 33)], [.inr (.inl 39)])]) (P := [(3, .inr (.inl 33), .inl (.int 0)), (3, .inl (.int 400), .inr (.inl 33)), (6, .inr (.inl 33), .inl (.ref 401)), (1, .inr (.inl 84), .inl (.int 24)), (3, .inr (.inl 84), .inl (.int 14)), (2, .inl (.int 22), .inr (.inl 84)), (0, .inr (.inl 84), .inl (.int 40)), (2, .inr (.inl 83), .inl (.int 6)), (3, .inr (.inl 33), .inl (.int 0)), (3, .inl (.int 400), .inr (.inl 33)), (6, .inr (.inl 33), .inl (.ref 401)), (0, .inr (.inl 85), .inr (.inl 84)), (3, .inr (.inl 33), .inl (.int 400))]) jm_ok40 (by decide +kernel) (by decide +kernel) hd F X1 X2 (fun F' hF hs => ?_)
  have b33 := hd_b (F := F) (F' := F') (k := 33) (hF 33 (by decide))
  have a39 := hd_ba (F := F) (F' := F') (k := 39) (hF 39 (by decide))
  have t84 : sy_dv F' (.inr (.inl 84)) = .int ((sy_ai F 39).getD (sy_i F 33).toNatClampNeg 0) := hd_rd (hs 0 _ rfl) b33 a39
  have b83 := hd_b (F := F) (F' := F') (k := 83) (hF 83 (by decide))
  have t85 : sy_dv F' (.inr (.inl 85)) = .int ((sy_ai F 39).getD (sy_i F 33).toNatClampNeg 0) := hd_rd (hs 1 _ rfl) b33 a39
  have hB' : iv_in F' iv_B0 := iv_in_eq hB (fun j hj => hF j (Nat.lt_of_lt_of_le hj (by decide +kernel)))
  refine ⟨List.forall_mem_cons.mpr ⟨hd_p3 b33 rfl (by have hc : ((0) : Int32).toInt = 0 := (by decide); omega), List.forall_mem_cons.mpr ⟨hd_p3 rfl b33 (by have hc : ((400) : Int32).toInt = 400 := (by decide); omega), List.forall_mem_cons.mpr ⟨hd_pb b33 (by first | exact h2 | exact h2), List.forall_mem_cons.mpr ⟨hd_p1 t84 rfl (by have hc : ((24) : Int32).toInt = 24 := (by decide); omega), List.forall_mem_cons.mpr ⟨hd_p3 t84 rfl (by have hc : ((14) : Int32).toInt = 14 := (by decide); omega), List.forall_mem_cons.mpr ⟨hd_p2 rfl t84 (by have hc : ((22) : Int32).toInt = 22 := (by decide); omega), List.forall_mem_cons.mpr ⟨hd_p0 t84 rfl (by have hc : ((40) : Int32).toInt = 40 := (by decide); omega), List.forall_mem_cons.mpr ⟨hd_p2 b83 rfl (by have hc : ((6) : Int32).toInt = 6 := (by decide); omega), List.forall_mem_cons.mpr ⟨hd_p3 b33 rfl (by have hc : ((0) : Int32).toInt = 0 := (by decide); omega), List.forall_mem_cons.mpr ⟨hd_p3 rfl b33 (by have hc : ((400) : Int32).toInt = 400 := (by decide); omega), List.forall_mem_cons.mpr ⟨hd_pb b33 (by first | exact h10 | exact h10), List.forall_mem_cons.mpr ⟨hd_p0 t85 t84 h11, List.forall_mem_cons.mpr ⟨hd_p3 b33 rfl (by have hc : ((400) : Int32).toInt = 400 := (by decide); omega), fun _ h => absurd h List.not_mem_nil⟩⟩⟩⟩⟩⟩⟩⟩⟩⟩⟩⟩⟩, ?_⟩
  refine k _ ?_ ?_
  · exact fun j hj hn => (hd_keep hB' (Nat.lt_of_lt_of_le hj (by decide +kernel)) (by simp; omega)).trans (hF j (by omega))
  · exact hd_gi (x := .inl (.int 2)) (by decide +kernel) rfl
theorem k0pu_0_p3 {Ls : Nat} {xs : Nat → Int32} {d : Nat} {Q : Option Value → jm_h → Prop} (hd : 4 ≤ d) (F : Nat → sy_d) (X1 X2 : List jm_c) (hB : iv_in F iv_B0)
    (h0 : 0 ≤ (sy_i F 33).toInt)
    (h1 : (sy_i F 33).toInt ≤ 400)
    (h2 : 0 ≤ (sy_i F 33).toInt ∧ (sy_i F 33).toInt < 401)
    (h3 : ((sy_ai F 39).getD (sy_i F 33).toNatClampNeg 0).toInt ≠ 24)
    (h4 : 14 ≤ ((sy_ai F 39).getD (sy_i F 33).toNatClampNeg 0).toInt)
    (h5 : 22 < ((sy_ai F 39).getD (sy_i F 33).toNatClampNeg 0).toInt)
    (h6 : ((sy_ai F 39).getD (sy_i F 33).toNatClampNeg 0).toInt = 40)
    (h7 : 6 ≤ (sy_i F 83).toInt)
    (k : ∀ F1 : Nat → sy_d, (∀ j, j < 82 → j ≠ 34 → F1 j = F j) → F1 34 = .inl (.int ((2 : Int32))) → Q (some (.int ((0 : Int32)))) (sy_dh F1 X1 X2 (iv_H 0))) :
    hd_W Ls xs d jm_M40 Q (0, sy_dL F [some (.inl (.ref 30)), some (.inr (.inl 82)), some (.inr (.inl 83)), none, none], sy_dS F [], sy_dh F X1 X2 (iv_H 0), 0, 0) := by
  refine hd_ret (s := 0) (nv := 84) (v := some (.inl (.int 0))) (uh := hd_ov (iv_id 0 iv_B0) [(34, .inl (.inl (.int 2)))]) (f := true) (sp := [34, 88, 134]) (d0 := 3) (O := [false, false, true, false, true, true, false]) (T := [(30, [.inr (.inl 33)], [.inr (.inl 39)])]) (P := [(3, .inr (.inl 33), .inl (.int 0)), (3, .inl (.int 400), .inr (.inl 33)), (6, .inr (.inl 33), .inl (.ref 401)), (1, .inr (.inl 84), .inl (.int 24)), (3, .inr (.inl 84), .inl (.int 14)), (2, .inl (.int 22), .inr (.inl 84)), (0, .inr (.inl 84), .inl (.int 40)), (3, .inr (.inl 83), .inl (.int 6))]) jm_ok40 (by decide +kernel) (by decide +kernel) hd F X1 X2 (fun F' hF hs => ?_)
  have b33 := hd_b (F := F) (F' := F') (k := 33) (hF 33 (by decide))
  have a39 := hd_ba (F := F) (F' := F') (k := 39) (hF 39 (by decide))
  have t84 : sy_dv F' (.inr (.inl 84)) = .int ((sy_ai F 39).getD (sy_i F 33).toNatClampNeg 0) := hd_rd (hs 0 _ rfl) b33 a39
  have b83 := hd_b (F := F) (F' := F') (k := 83) (hF 83 (by decide))
  have hB' : iv_in F' iv_B0 := iv_in_eq hB (fun j hj => hF j (Nat.lt_of_lt_of_le hj (by decide +kernel)))
  refine ⟨List.forall_mem_cons.mpr ⟨hd_p3 b33 rfl (by have hc : ((0) : Int32).toInt = 0 := (by decide); omega), List.forall_mem_cons.mpr ⟨hd_p3 rfl b33 (by have hc : ((400) : Int32).toInt = 400 := (by decide); omega), List.forall_mem_cons.mpr ⟨hd_pb b33 (by first | exact h2 | exact h2), List.forall_mem_cons.mpr ⟨hd_p1 t84 rfl (by have hc : ((24) : Int32).toInt = 24 := (by decide); omega), List.forall_mem_cons.mpr ⟨hd_p3 t84 rfl (by have hc : ((14) : Int32).toInt = 14 := (by decide); omega), List.forall_mem_cons.mpr ⟨hd_p2 rfl t84 (by have hc : ((22) : Int32).toInt = 22 := (by decide); omega), List.forall_mem_cons.mpr ⟨hd_p0 t84 rfl (by have hc : ((40) : Int32).toInt = 40 := (by decide); omega), List.forall_mem_cons.mpr ⟨hd_p3 b83 rfl (by have hc : ((6) : Int32).toInt = 6 := (by decide); omega), fun _ h => absurd h List.not_mem_nil⟩⟩⟩⟩⟩⟩⟩⟩, ?_⟩
  refine k _ ?_ ?_
  · exact fun j hj hn => (hd_keep hB' (Nat.lt_of_lt_of_le hj (by decide +kernel)) (by simp; omega)).trans (hF j (by omega))
  · exact hd_gi (x := .inl (.int 2)) (by decide +kernel) rfl
theorem k0pu_0_p4 {Ls : Nat} {xs : Nat → Int32} {d : Nat} {Q : Option Value → jm_h → Prop} (hd : 4 ≤ d) (F : Nat → sy_d) (X1 X2 : List jm_c) (hB : iv_in F iv_B0)
    (h0 : 0 ≤ (sy_i F 33).toInt)
    (h1 : (sy_i F 33).toInt ≤ 400)
    (h2 : 0 ≤ (sy_i F 33).toInt ∧ (sy_i F 33).toInt < 401)
    (h3 : ((sy_ai F 39).getD (sy_i F 33).toNatClampNeg 0).toInt ≠ 24)
    (h4 : 14 ≤ ((sy_ai F 39).getD (sy_i F 33).toNatClampNeg 0).toInt)
    (h5 : 22 < ((sy_ai F 39).getD (sy_i F 33).toNatClampNeg 0).toInt)
    (h6 : ((sy_ai F 39).getD (sy_i F 33).toNatClampNeg 0).toInt ≠ 40)
    (k : ∀ F1 : Nat → sy_d, (∀ j, j < 82 → j ≠ 34 → F1 j = F j) → F1 34 = .inl (.int ((1 : Int32))) → Q (some (.int ((0 : Int32)))) (sy_dh F1 X1 X2 (iv_H 0))) :
    hd_W Ls xs d jm_M40 Q (0, sy_dL F [some (.inl (.ref 30)), some (.inr (.inl 82)), some (.inr (.inl 83)), none, none], sy_dS F [], sy_dh F X1 X2 (iv_H 0), 0, 0) := by
  refine hd_ret (s := 0) (nv := 84) (v := some (.inl (.int 0))) (uh := hd_ov (iv_id 0 iv_B0) [(34, .inl (.inl (.int 1)))]) (f := true) (sp := [34, 88, 134]) (d0 := 3) (O := [false, false, true, false, true, false]) (T := [(30, [.inr (.inl 33)], [.inr (.inl 39)])]) (P := [(3, .inr (.inl 33), .inl (.int 0)), (3, .inl (.int 400), .inr (.inl 33)), (6, .inr (.inl 33), .inl (.ref 401)), (1, .inr (.inl 84), .inl (.int 24)), (3, .inr (.inl 84), .inl (.int 14)), (2, .inl (.int 22), .inr (.inl 84)), (1, .inr (.inl 84), .inl (.int 40))]) jm_ok40 (by decide +kernel) (by decide +kernel) hd F X1 X2 (fun F' hF hs => ?_)
  have b33 := hd_b (F := F) (F' := F') (k := 33) (hF 33 (by decide))
  have a39 := hd_ba (F := F) (F' := F') (k := 39) (hF 39 (by decide))
  have t84 : sy_dv F' (.inr (.inl 84)) = .int ((sy_ai F 39).getD (sy_i F 33).toNatClampNeg 0) := hd_rd (hs 0 _ rfl) b33 a39
  have hB' : iv_in F' iv_B0 := iv_in_eq hB (fun j hj => hF j (Nat.lt_of_lt_of_le hj (by decide +kernel)))
  refine ⟨List.forall_mem_cons.mpr ⟨hd_p3 b33 rfl (by have hc : ((0) : Int32).toInt = 0 := (by decide); omega), List.forall_mem_cons.mpr ⟨hd_p3 rfl b33 (by have hc : ((400) : Int32).toInt = 400 := (by decide); omega), List.forall_mem_cons.mpr ⟨hd_pb b33 (by first | exact h2 | exact h2), List.forall_mem_cons.mpr ⟨hd_p1 t84 rfl (by have hc : ((24) : Int32).toInt = 24 := (by decide); omega), List.forall_mem_cons.mpr ⟨hd_p3 t84 rfl (by have hc : ((14) : Int32).toInt = 14 := (by decide); omega), List.forall_mem_cons.mpr ⟨hd_p2 rfl t84 (by have hc : ((22) : Int32).toInt = 22 := (by decide); omega), List.forall_mem_cons.mpr ⟨hd_p1 t84 rfl (by have hc : ((40) : Int32).toInt = 40 := (by decide); omega), fun _ h => absurd h List.not_mem_nil⟩⟩⟩⟩⟩⟩⟩, ?_⟩
  refine k _ ?_ ?_
  · exact fun j hj hn => (hd_keep hB' (Nat.lt_of_lt_of_le hj (by decide +kernel)) (by simp; omega)).trans (hF j (by omega))
  · exact hd_gi (x := .inl (.int 1)) (by decide +kernel) rfl
theorem k0pu_0_p5 {Ls : Nat} {xs : Nat → Int32} {d : Nat} {Q : Option Value → jm_h → Prop} (hd : 4 ≤ d) (F : Nat → sy_d) (X1 X2 : List jm_c) (hB : iv_in F iv_B0)
    (h0 : 0 ≤ (sy_i F 33).toInt)
    (h1 : (sy_i F 33).toInt ≤ 400)
    (h2 : 0 ≤ (sy_i F 33).toInt ∧ (sy_i F 33).toInt < 401)
    (h3 : ((sy_ai F 39).getD (sy_i F 33).toNatClampNeg 0).toInt ≠ 24)
    (h4 : 14 ≤ ((sy_ai F 39).getD (sy_i F 33).toNatClampNeg 0).toInt)
    (h5 : ((sy_ai F 39).getD (sy_i F 33).toNatClampNeg 0).toInt ≤ 22)
    (h6 : 0 ≤ (sy_i F 82).toInt ∧ (sy_i F 82).toInt < 6)
    (h7 : (((([260, 383, 383, 407, 279, 300]).getD (sy_i F 82).toNatClampNeg 0) >>> ((((sy_ai F 39).getD (sy_i F 33).toNatClampNeg 0) - ((14 : Int32))) &&& 31)) &&& ((1 : Int32))).toInt ≠ 1)
    (k : ∀ F1 : Nat → sy_d, (∀ j, j < 82 → True → F1 j = F j) → F1 82 = .inl (.int ((sy_ai F 39).getD (sy_i F 33).toNatClampNeg 0)) → F1 83 = .inl (.int ((0 : Int32))) → hd_W Ls xs d jm_M40 Q (88, sy_dL F1 [some (.inl (.ref 30)), none, none, some (.inr (.inl 82)), none], sy_dS F1 [.inr (.inl 83), .inl (.ref 20)], sy_dh F1 X1 X2 (iv_H 0), 0, 0)) :
    hd_W Ls xs d jm_M40 Q (0, sy_dL F [some (.inl (.ref 30)), some (.inr (.inl 82)), some (.inr (.inl 83)), none, none], sy_dS F [], sy_dh F X1 X2 (iv_H 0), 0, 0) := by
  refine hd_run (s := 0) (nv := 84) (pc := 88) (L := [some (.inl (.ref 30)), none, none, some (.inr (.inl 82)), none]) (S := [.inr (.inl 83), .inl (.ref 20)]) (uh := hd_ov (iv_id 0 iv_B0) []) (ul := [.inl (.inr (.inl 84)), .inl (.inl (.int 0))]) (f := true) (sp := [34, 88, 134]) (d0 := 3) (O := [false, false, true, false, false, true]) (T := [(30, [.inr (.inl 33)], [.inr (.inl 39)]), (1, [.inr (.inl 84), .inl (.int 14)], []), (30, [.inr (.inl 82)], [.inl (.inl [260, 383, 383, 407, 279, 300])]), (7, [.inr (.inl 86), .inr (.inl 85)], []), (3, [.inr (.inl 87), .inl (.int 1)], [])]) (P := [(3, .inr (.inl 33), .inl (.int 0)), (3, .inl (.int 400), .inr (.inl 33)), (6, .inr (.inl 33), .inl (.ref 401)), (1, .inr (.inl 84), .inl (.int 24)), (3, .inr (.inl 84), .inl (.int 14)), (3, .inl (.int 22), .inr (.inl 84)), (6, .inr (.inl 82), .inl (.ref 6)), (1, .inr (.inl 88), .inl (.int 1))]) jm_ok40 (by decide +kernel) (by decide +kernel) hd F X1 X2 (fun F' hF hs => ?_)
  have b33 := hd_b (F := F) (F' := F') (k := 33) (hF 33 (by decide))
  have a39 := hd_ba (F := F) (F' := F') (k := 39) (hF 39 (by decide))
  have t84 : sy_dv F' (.inr (.inl 84)) = .int ((sy_ai F 39).getD (sy_i F 33).toNatClampNeg 0) := hd_rd (hs 0 _ rfl) b33 a39
  have b82 := hd_b (F := F) (F' := F') (k := 82) (hF 82 (by decide))
  have t86 : sy_dv F' (.inr (.inl 86)) = .int (([260, 383, 383, 407, 279, 300]).getD (sy_i F 82).toNatClampNeg 0) := hd_rd (hs 2 _ rfl) b82 rfl
  have t85 : sy_dv F' (.inr (.inl 85)) = .int (((sy_ai F 39).getD (sy_i F 33).toNatClampNeg 0) - ((14 : Int32))) := hd_o (hs 1 _ rfl) t84 rfl rfl
  have t87 : sy_dv F' (.inr (.inl 87)) = .int ((([260, 383, 383, 407, 279, 300]).getD (sy_i F 82).toNatClampNeg 0) >>> ((((sy_ai F 39).getD (sy_i F 33).toNatClampNeg 0) - ((14 : Int32))) &&& 31)) := hd_o (hs 3 _ rfl) t86 t85 rfl
  have t88 : sy_dv F' (.inr (.inl 88)) = .int (((([260, 383, 383, 407, 279, 300]).getD (sy_i F 82).toNatClampNeg 0) >>> ((((sy_ai F 39).getD (sy_i F 33).toNatClampNeg 0) - ((14 : Int32))) &&& 31)) &&& ((1 : Int32))) := hd_o (hs 4 _ rfl) t87 rfl rfl
  have hB' : iv_in F' iv_B0 := iv_in_eq hB (fun j hj => hF j (Nat.lt_of_lt_of_le hj (by decide +kernel)))
  refine ⟨List.forall_mem_cons.mpr ⟨hd_p3 b33 rfl (by have hc : ((0) : Int32).toInt = 0 := (by decide); omega), List.forall_mem_cons.mpr ⟨hd_p3 rfl b33 (by have hc : ((400) : Int32).toInt = 400 := (by decide); omega), List.forall_mem_cons.mpr ⟨hd_pb b33 (by first | exact h2 | exact h2), List.forall_mem_cons.mpr ⟨hd_p1 t84 rfl (by have hc : ((24) : Int32).toInt = 24 := (by decide); omega), List.forall_mem_cons.mpr ⟨hd_p3 t84 rfl (by have hc : ((14) : Int32).toInt = 14 := (by decide); omega), List.forall_mem_cons.mpr ⟨hd_p3 rfl t84 (by have hc : ((22) : Int32).toInt = 22 := (by decide); omega), List.forall_mem_cons.mpr ⟨hd_pb b82 (by first | exact h6 | exact h6), List.forall_mem_cons.mpr ⟨hd_p1 t88 rfl (by have hc : ((1) : Int32).toInt = 1 := (by decide); omega), fun _ h => absurd h List.not_mem_nil⟩⟩⟩⟩⟩⟩⟩⟩, ?_⟩
  refine k _ ?_ ?_ ?_
  · exact fun j hj _ => (hd_keep hB' (Nat.lt_of_lt_of_le hj (by decide +kernel)) (by simp)).trans (hF j (by omega))
  · exact hd_gi (x := .inr (.inl 84)) (by decide +kernel) t84
  · exact hd_gi (x := .inl (.int 0)) (by decide +kernel) rfl
theorem k0pu_0_p6 {Ls : Nat} {xs : Nat → Int32} {d : Nat} {Q : Option Value → jm_h → Prop} (hd : 4 ≤ d) (F : Nat → sy_d) (X1 X2 : List jm_c) (hB : iv_in F iv_B0)
    (h0 : 0 ≤ (sy_i F 33).toInt)
    (h1 : (sy_i F 33).toInt ≤ 400)
    (h2 : 0 ≤ (sy_i F 33).toInt ∧ (sy_i F 33).toInt < 401)
    (h3 : ((sy_ai F 39).getD (sy_i F 33).toNatClampNeg 0).toInt ≠ 24)
    (h4 : 14 ≤ ((sy_ai F 39).getD (sy_i F 33).toNatClampNeg 0).toInt)
    (h5 : ((sy_ai F 39).getD (sy_i F 33).toNatClampNeg 0).toInt ≤ 22)
    (h6 : 0 ≤ (sy_i F 82).toInt ∧ (sy_i F 82).toInt < 6)
    (h7 : (((([260, 383, 383, 407, 279, 300]).getD (sy_i F 82).toNatClampNeg 0) >>> ((((sy_ai F 39).getD (sy_i F 33).toNatClampNeg 0) - ((14 : Int32))) &&& 31)) &&& ((1 : Int32))).toInt = 1)
    (k : ∀ F1 : Nat → sy_d, (∀ j, j < 82 → True → F1 j = F j) → F1 82 = .inl (.int ((sy_ai F 39).getD (sy_i F 33).toNatClampNeg 0)) → F1 83 = .inl (.int ((((-1) : Int32)) - (((sy_ai F 39).getD (sy_i F 33).toNatClampNeg 0) - ((14 : Int32))))) → hd_W Ls xs d jm_M40 Q (88, sy_dL F1 [some (.inl (.ref 30)), none, none, some (.inr (.inl 82)), none], sy_dS F1 [.inr (.inl 83), .inl (.ref 20)], sy_dh F1 X1 X2 (iv_H 0), 0, 0)) :
    hd_W Ls xs d jm_M40 Q (0, sy_dL F [some (.inl (.ref 30)), some (.inr (.inl 82)), some (.inr (.inl 83)), none, none], sy_dS F [], sy_dh F X1 X2 (iv_H 0), 0, 0) := by
  refine hd_run (s := 0) (nv := 84) (pc := 88) (L := [some (.inl (.ref 30)), none, none, some (.inr (.inl 82)), none]) (S := [.inr (.inl 83), .inl (.ref 20)]) (uh := hd_ov (iv_id 0 iv_B0) []) (ul := [.inl (.inr (.inl 84)), .inl (.inr (.inl 89))]) (f := true) (sp := [34, 88, 134]) (d0 := 3) (O := [false, false, true, false, false, false]) (T := [(30, [.inr (.inl 33)], [.inr (.inl 39)]), (1, [.inr (.inl 84), .inl (.int 14)], []), (30, [.inr (.inl 82)], [.inl (.inl [260, 383, 383, 407, 279, 300])]), (7, [.inr (.inl 86), .inr (.inl 85)], []), (3, [.inr (.inl 87), .inl (.int 1)], []), (1, [.inl (.int (-1)), .inr (.inl 85)], [])]) (P := [(3, .inr (.inl 33), .inl (.int 0)), (3, .inl (.int 400), .inr (.inl 33)), (6, .inr (.inl 33), .inl (.ref 401)), (1, .inr (.inl 84), .inl (.int 24)), (3, .inr (.inl 84), .inl (.int 14)), (3, .inl (.int 22), .inr (.inl 84)), (6, .inr (.inl 82), .inl (.ref 6)), (0, .inr (.inl 88), .inl (.int 1))]) jm_ok40 (by decide +kernel) (by decide +kernel) hd F X1 X2 (fun F' hF hs => ?_)
  have b33 := hd_b (F := F) (F' := F') (k := 33) (hF 33 (by decide))
  have a39 := hd_ba (F := F) (F' := F') (k := 39) (hF 39 (by decide))
  have t84 : sy_dv F' (.inr (.inl 84)) = .int ((sy_ai F 39).getD (sy_i F 33).toNatClampNeg 0) := hd_rd (hs 0 _ rfl) b33 a39
  have b82 := hd_b (F := F) (F' := F') (k := 82) (hF 82 (by decide))
  have t86 : sy_dv F' (.inr (.inl 86)) = .int (([260, 383, 383, 407, 279, 300]).getD (sy_i F 82).toNatClampNeg 0) := hd_rd (hs 2 _ rfl) b82 rfl
  have t85 : sy_dv F' (.inr (.inl 85)) = .int (((sy_ai F 39).getD (sy_i F 33).toNatClampNeg 0) - ((14 : Int32))) := hd_o (hs 1 _ rfl) t84 rfl rfl
  have t87 : sy_dv F' (.inr (.inl 87)) = .int ((([260, 383, 383, 407, 279, 300]).getD (sy_i F 82).toNatClampNeg 0) >>> ((((sy_ai F 39).getD (sy_i F 33).toNatClampNeg 0) - ((14 : Int32))) &&& 31)) := hd_o (hs 3 _ rfl) t86 t85 rfl
  have t88 : sy_dv F' (.inr (.inl 88)) = .int (((([260, 383, 383, 407, 279, 300]).getD (sy_i F 82).toNatClampNeg 0) >>> ((((sy_ai F 39).getD (sy_i F 33).toNatClampNeg 0) - ((14 : Int32))) &&& 31)) &&& ((1 : Int32))) := hd_o (hs 4 _ rfl) t87 rfl rfl
  have t89 : sy_dv F' (.inr (.inl 89)) = .int ((((-1) : Int32)) - (((sy_ai F 39).getD (sy_i F 33).toNatClampNeg 0) - ((14 : Int32)))) := hd_o (hs 5 _ rfl) rfl t85 rfl
  have hB' : iv_in F' iv_B0 := iv_in_eq hB (fun j hj => hF j (Nat.lt_of_lt_of_le hj (by decide +kernel)))
  refine ⟨List.forall_mem_cons.mpr ⟨hd_p3 b33 rfl (by have hc : ((0) : Int32).toInt = 0 := (by decide); omega), List.forall_mem_cons.mpr ⟨hd_p3 rfl b33 (by have hc : ((400) : Int32).toInt = 400 := (by decide); omega), List.forall_mem_cons.mpr ⟨hd_pb b33 (by first | exact h2 | exact h2), List.forall_mem_cons.mpr ⟨hd_p1 t84 rfl (by have hc : ((24) : Int32).toInt = 24 := (by decide); omega), List.forall_mem_cons.mpr ⟨hd_p3 t84 rfl (by have hc : ((14) : Int32).toInt = 14 := (by decide); omega), List.forall_mem_cons.mpr ⟨hd_p3 rfl t84 (by have hc : ((22) : Int32).toInt = 22 := (by decide); omega), List.forall_mem_cons.mpr ⟨hd_pb b82 (by first | exact h6 | exact h6), List.forall_mem_cons.mpr ⟨hd_p0 t88 rfl (by have hc : ((1) : Int32).toInt = 1 := (by decide); omega), fun _ h => absurd h List.not_mem_nil⟩⟩⟩⟩⟩⟩⟩⟩, ?_⟩
  refine k _ ?_ ?_ ?_
  · exact fun j hj _ => (hd_keep hB' (Nat.lt_of_lt_of_le hj (by decide +kernel)) (by simp)).trans (hF j (by omega))
  · exact hd_gi (x := .inr (.inl 84)) (by decide +kernel) t84
  · exact hd_gi (x := .inr (.inl 89)) (by decide +kernel) t89
theorem k0pu_0_p7 {Ls : Nat} {xs : Nat → Int32} {d : Nat} {Q : Option Value → jm_h → Prop} (hd : 4 ≤ d) (F : Nat → sy_d) (X1 X2 : List jm_c) (hB : iv_in F iv_B0)
    (h0 : 0 ≤ (sy_i F 33).toInt)
    (h1 : (sy_i F 33).toInt ≤ 400)
    (h2 : 0 ≤ (sy_i F 33).toInt ∧ (sy_i F 33).toInt < 401)
    (h3 : ((sy_ai F 39).getD (sy_i F 33).toNatClampNeg 0).toInt = 24)
    (h4 : 0 ≤ (sy_i F 33).toInt)
    (h5 : (sy_i F 33).toInt ≤ 400)
    (h6 : 0 ≤ (sy_i F 33).toInt ∧ (sy_i F 33).toInt < 401)
    (k : ∀ F1 : Nat → sy_d, (∀ j, j < 82 → True → F1 j = F j) → F1 82 = .inl (.int ((sy_ai F 39).getD (sy_i F 33).toNatClampNeg 0)) → F1 83 = .inl (.int (((sy_al F 41).getD (sy_i F 33).toNatClampNeg 0).toInt32)) → hd_W Ls xs d jm_M40 Q (34, sy_dL F1 [some (.inl (.ref 30)), none, none, some (.inr (.inl 82)), none], sy_dS F1 [.inr (.inl 83), .inl (.ref 20)], sy_dh F1 X1 X2 (iv_H 0), 0, 0)) :
    hd_W Ls xs d jm_M40 Q (0, sy_dL F [some (.inl (.ref 30)), some (.inr (.inl 82)), some (.inr (.inl 83)), none, none], sy_dS F [], sy_dh F X1 X2 (iv_H 0), 0, 0) := by
  refine hd_run (s := 0) (nv := 84) (pc := 34) (L := [some (.inl (.ref 30)), none, none, some (.inr (.inl 82)), none]) (S := [.inr (.inl 83), .inl (.ref 20)]) (uh := hd_ov (iv_id 0 iv_B0) []) (ul := [.inl (.inr (.inl 84)), .inl (.inr (.inl 86))]) (f := true) (sp := [34, 88, 134]) (d0 := 3) (O := [false, false, false, false, false]) (T := [(30, [.inr (.inl 33)], [.inr (.inl 39)]), (30, [.inr (.inl 33)], [.inr (.inr 41)]), (25, [.inr (.inr 85)], [])]) (P := [(3, .inr (.inl 33), .inl (.int 0)), (3, .inl (.int 400), .inr (.inl 33)), (6, .inr (.inl 33), .inl (.ref 401)), (0, .inr (.inl 84), .inl (.int 24)), (3, .inr (.inl 33), .inl (.int 0)), (3, .inl (.int 400), .inr (.inl 33)), (6, .inr (.inl 33), .inl (.ref 401))]) jm_ok40 (by decide +kernel) (by decide +kernel) hd F X1 X2 (fun F' hF hs => ?_)
  have b33 := hd_b (F := F) (F' := F') (k := 33) (hF 33 (by decide))
  have a39 := hd_ba (F := F) (F' := F') (k := 39) (hF 39 (by decide))
  have t84 : sy_dv F' (.inr (.inl 84)) = .int ((sy_ai F 39).getD (sy_i F 33).toNatClampNeg 0) := hd_rd (hs 0 _ rfl) b33 a39
  have a41 := hd_bA (F := F) (F' := F') (k := 41) (hF 41 (by decide))
  have t85 : sy_dv F' (.inr (.inr 85)) = .long ((sy_al F 41).getD (sy_i F 33).toNatClampNeg 0) := hd_rL (hs 1 _ rfl) b33 a41
  have t86 : sy_dv F' (.inr (.inl 86)) = .int (((sy_al F 41).getD (sy_i F 33).toNatClampNeg 0).toInt32) := hd_uI (hs 2 _ rfl) t85
  have hB' : iv_in F' iv_B0 := iv_in_eq hB (fun j hj => hF j (Nat.lt_of_lt_of_le hj (by decide +kernel)))
  refine ⟨List.forall_mem_cons.mpr ⟨hd_p3 b33 rfl (by have hc : ((0) : Int32).toInt = 0 := (by decide); omega), List.forall_mem_cons.mpr ⟨hd_p3 rfl b33 (by have hc : ((400) : Int32).toInt = 400 := (by decide); omega), List.forall_mem_cons.mpr ⟨hd_pb b33 (by first | exact h2 | exact h2), List.forall_mem_cons.mpr ⟨hd_p0 t84 rfl (by have hc : ((24) : Int32).toInt = 24 := (by decide); omega), List.forall_mem_cons.mpr ⟨hd_p3 b33 rfl (by have hc : ((0) : Int32).toInt = 0 := (by decide); omega), List.forall_mem_cons.mpr ⟨hd_p3 rfl b33 (by have hc : ((400) : Int32).toInt = 400 := (by decide); omega), List.forall_mem_cons.mpr ⟨hd_pb b33 (by first | exact h6 | exact h6), fun _ h => absurd h List.not_mem_nil⟩⟩⟩⟩⟩⟩⟩, ?_⟩
  refine k _ ?_ ?_ ?_
  · exact fun j hj _ => (hd_keep hB' (Nat.lt_of_lt_of_le hj (by decide +kernel)) (by simp)).trans (hF j (by omega))
  · exact hd_gi (x := .inr (.inl 84)) (by decide +kernel) t84
  · exact hd_gi (x := .inr (.inl 86)) (by decide +kernel) t86
theorem k0pu_0 {Ls : Nat} {xs : Nat → Int32} {d : Nat} {Q : Option Value → jm_h → Prop} (hd : 4 ≤ d) (F : Nat → sy_d) (X1 X2 : List jm_c) (hB : iv_in F iv_B0)
    (a82 : 0 ≤ (sy_i F 82).toInt ∧ (sy_i F 82).toInt ≤ 5)
    (a83 : 0 ≤ (sy_i F 83).toInt ∧ (sy_i F 83).toInt ≤ 6)
    (k0 : 0 ≤ (sy_i F 33).toInt → (sy_i F 33).toInt ≤ 400 → ((sy_ai F 39).getD ((sy_i F 33).toInt).toNat 0).toInt ≠ 24 → ((sy_ai F 39).getD ((sy_i F 33).toInt).toNat 0).toInt < 14 → ((sy_ai F 39).getD ((sy_i F 33).toInt).toNat 0).toInt ≠ 40 → ∀ F1 : Nat → sy_d, iv_in F1 iv_B0 → (∀ j, j < 82 → j ∉ ([34] : List Nat) → F1 j = F j) → (sy_i F1 33).toInt = (sy_i F 33).toInt → (sy_i F1 34).toInt = 1 → (sy_i F1 23).toInt = (sy_i F 23).toInt → sy_ai F1 39 = sy_ai F 39 → Q (some (.int ((0 : Int32)))) (sy_dh F1 X1 X2 (iv_H 0)))
    (k1 : 0 ≤ (sy_i F 33).toInt → (sy_i F 33).toInt ≤ 400 → ((sy_ai F 39).getD ((sy_i F 33).toInt).toNat 0).toInt ≠ 24 → 14 ≤ ((sy_ai F 39).getD ((sy_i F 33).toInt).toNat 0).toInt → 22 < ((sy_ai F 39).getD ((sy_i F 33).toInt).toNat 0).toInt → ((sy_ai F 39).getD ((sy_i F 33).toInt).toNat 0).toInt = 40 → (sy_i F 83).toInt < 6 → 0 ≤ (sy_i F 33).toInt → (sy_i F 33).toInt ≤ 400 → ((sy_ai F 39).getD ((sy_i F 33).toInt).toNat 0).toInt = ((sy_ai F 39).getD ((sy_i F 33).toInt).toNat 0).toInt → (sy_i F 33).toInt < 400 → ∀ F1 : Nat → sy_d, iv_in F1 iv_B0 → (∀ j, j < 82 → j ∉ ([33] : List Nat) → F1 j = F j) → (sy_i F1 33).toInt = ((sy_i F 33).toInt + 1) → (sy_i F1 34).toInt = (sy_i F 34).toInt → (sy_i F1 23).toInt = (sy_i F 23).toInt → sy_ai F1 39 = sy_ai F 39 → (sy_i F1 82).toInt = ((sy_i F 83).toInt + 1) → (sy_i F1 83).toInt = (sy_i F 82).toInt → hd_W Ls xs d jm_M40 Q (134, sy_dL F1 [some (.inl (.ref 30)), none, none, none, none], sy_dS F1 [.inr (.inl 82), .inr (.inl 83), .inl (.ref 30)], sy_dh F1 X1 X2 (iv_H 0), 0, 0))
    (k2 : 0 ≤ (sy_i F 33).toInt → (sy_i F 33).toInt ≤ 400 → ((sy_ai F 39).getD ((sy_i F 33).toInt).toNat 0).toInt ≠ 24 → 14 ≤ ((sy_ai F 39).getD ((sy_i F 33).toInt).toNat 0).toInt → 22 < ((sy_ai F 39).getD ((sy_i F 33).toInt).toNat 0).toInt → ((sy_ai F 39).getD ((sy_i F 33).toInt).toNat 0).toInt = 40 → (sy_i F 83).toInt < 6 → 0 ≤ (sy_i F 33).toInt → (sy_i F 33).toInt ≤ 400 → ((sy_ai F 39).getD ((sy_i F 33).toInt).toNat 0).toInt = ((sy_ai F 39).getD ((sy_i F 33).toInt).toNat 0).toInt → 400 ≤ (sy_i F 33).toInt → ∀ F1 : Nat → sy_d, iv_in F1 iv_B0 → (∀ j, j < 82 → j ∉ ([34] : List Nat) → F1 j = F j) → (sy_i F1 33).toInt = (sy_i F 33).toInt → (sy_i F1 34).toInt = 2 → (sy_i F1 23).toInt = (sy_i F 23).toInt → sy_ai F1 39 = sy_ai F 39 → Q (some (.int ((0 : Int32)))) (sy_dh F1 X1 X2 (iv_H 0)))
    (k3 : 0 ≤ (sy_i F 33).toInt → (sy_i F 33).toInt ≤ 400 → ((sy_ai F 39).getD ((sy_i F 33).toInt).toNat 0).toInt ≠ 24 → 14 ≤ ((sy_ai F 39).getD ((sy_i F 33).toInt).toNat 0).toInt → 22 < ((sy_ai F 39).getD ((sy_i F 33).toInt).toNat 0).toInt → ((sy_ai F 39).getD ((sy_i F 33).toInt).toNat 0).toInt = 40 → 6 ≤ (sy_i F 83).toInt → ∀ F1 : Nat → sy_d, iv_in F1 iv_B0 → (∀ j, j < 82 → j ∉ ([34] : List Nat) → F1 j = F j) → (sy_i F1 33).toInt = (sy_i F 33).toInt → (sy_i F1 34).toInt = 2 → (sy_i F1 23).toInt = (sy_i F 23).toInt → sy_ai F1 39 = sy_ai F 39 → Q (some (.int ((0 : Int32)))) (sy_dh F1 X1 X2 (iv_H 0)))
    (k4 : 0 ≤ (sy_i F 33).toInt → (sy_i F 33).toInt ≤ 400 → ((sy_ai F 39).getD ((sy_i F 33).toInt).toNat 0).toInt ≠ 24 → 14 ≤ ((sy_ai F 39).getD ((sy_i F 33).toInt).toNat 0).toInt → 22 < ((sy_ai F 39).getD ((sy_i F 33).toInt).toNat 0).toInt → ((sy_ai F 39).getD ((sy_i F 33).toInt).toNat 0).toInt ≠ 40 → ∀ F1 : Nat → sy_d, iv_in F1 iv_B0 → (∀ j, j < 82 → j ∉ ([34] : List Nat) → F1 j = F j) → (sy_i F1 33).toInt = (sy_i F 33).toInt → (sy_i F1 34).toInt = 1 → (sy_i F1 23).toInt = (sy_i F 23).toInt → sy_ai F1 39 = sy_ai F 39 → Q (some (.int ((0 : Int32)))) (sy_dh F1 X1 X2 (iv_H 0)))
    (k5 : 0 ≤ (sy_i F 33).toInt → (sy_i F 33).toInt ≤ 400 → ((sy_ai F 39).getD ((sy_i F 33).toInt).toNat 0).toInt ≠ 24 → 14 ≤ ((sy_ai F 39).getD ((sy_i F 33).toInt).toNat 0).toInt → ((sy_ai F 39).getD ((sy_i F 33).toInt).toNat 0).toInt ≤ 22 → ¬ oq ((((([260, 383, 383, 407, 279, 300]).getD ((sy_i F 82).toInt).toNat 0) >>> ((((sy_ai F 39).getD ((sy_i F 33).toInt).toNat 0) - ((14 : Int32))) &&& 31)) &&& ((1 : Int32))).toInt) (1) → ∀ F1 : Nat → sy_d, iv_in F1 iv_B0 → (∀ j, j < 82 → j ∉ ([] : List Nat) → F1 j = F j) → (sy_i F1 33).toInt = (sy_i F 33).toInt → (sy_i F1 34).toInt = (sy_i F 34).toInt → (sy_i F1 23).toInt = (sy_i F 23).toInt → sy_ai F1 39 = sy_ai F 39 → (sy_i F1 82).toInt = ((sy_ai F 39).getD ((sy_i F 33).toInt).toNat 0).toInt → (sy_i F1 83).toInt = 0 → hd_W Ls xs d jm_M40 Q (88, sy_dL F1 [some (.inl (.ref 30)), none, none, some (.inr (.inl 82)), none], sy_dS F1 [.inr (.inl 83), .inl (.ref 20)], sy_dh F1 X1 X2 (iv_H 0), 0, 0))
    (k6 : 0 ≤ (sy_i F 33).toInt → (sy_i F 33).toInt ≤ 400 → ((sy_ai F 39).getD ((sy_i F 33).toInt).toNat 0).toInt ≠ 24 → 14 ≤ ((sy_ai F 39).getD ((sy_i F 33).toInt).toNat 0).toInt → ((sy_ai F 39).getD ((sy_i F 33).toInt).toNat 0).toInt ≤ 22 → oq ((((([260, 383, 383, 407, 279, 300]).getD ((sy_i F 82).toInt).toNat 0) >>> ((((sy_ai F 39).getD ((sy_i F 33).toInt).toNat 0) - ((14 : Int32))) &&& 31)) &&& ((1 : Int32))).toInt) (1) → ∀ F1 : Nat → sy_d, iv_in F1 iv_B0 → (∀ j, j < 82 → j ∉ ([] : List Nat) → F1 j = F j) → (sy_i F1 33).toInt = (sy_i F 33).toInt → (sy_i F1 34).toInt = (sy_i F 34).toInt → (sy_i F1 23).toInt = (sy_i F 23).toInt → sy_ai F1 39 = sy_ai F 39 → (sy_i F1 82).toInt = ((sy_ai F 39).getD ((sy_i F 33).toInt).toNat 0).toInt → (sy_i F1 83).toInt = ((-1 : Int) - (((sy_ai F 39).getD ((sy_i F 33).toInt).toNat 0).toInt - 14)) → hd_W Ls xs d jm_M40 Q (88, sy_dL F1 [some (.inl (.ref 30)), none, none, some (.inr (.inl 82)), none], sy_dS F1 [.inr (.inl 83), .inl (.ref 20)], sy_dh F1 X1 X2 (iv_H 0), 0, 0))
    (k7 : 0 ≤ (sy_i F 33).toInt → (sy_i F 33).toInt ≤ 400 → ((sy_ai F 39).getD ((sy_i F 33).toInt).toNat 0).toInt = 24 → 0 ≤ (sy_i F 33).toInt → (sy_i F 33).toInt ≤ 400 → ∀ F1 : Nat → sy_d, iv_in F1 iv_B0 → (∀ j, j < 82 → j ∉ ([] : List Nat) → F1 j = F j) → (sy_i F1 33).toInt = (sy_i F 33).toInt → (sy_i F1 34).toInt = (sy_i F 34).toInt → (sy_i F1 23).toInt = (sy_i F 23).toInt → sy_ai F1 39 = sy_ai F 39 → (sy_i F1 82).toInt = ((sy_ai F 39).getD ((sy_i F 33).toInt).toNat 0).toInt → (sy_i F1 83).toInt = (((sy_al F 41).getD ((sy_i F 33).toInt).toNat 0).toInt32).toInt → hd_W Ls xs d jm_M40 Q (34, sy_dL F1 [some (.inl (.ref 30)), none, none, some (.inr (.inl 82)), none], sy_dS F1 [.inr (.inl 83), .inl (.ref 20)], sy_dh F1 X1 X2 (iv_H 0), 0, 0)) :
    hd_W Ls xs d jm_M40 Q (0, sy_dL F [some (.inl (.ref 30)), some (.inr (.inl 82)), some (.inr (.inl 83)), none, none], sy_dS F [], sy_dh F X1 X2 (iv_H 0), 0, 0) := by
  by_cases g0 : (sy_i F 33).toInt < 0
  · have c33 := nz_bx hB (k := 33) (lo := 0) (hi := 400) rfl
    exfalso
    omega
  replace g0 : 0 ≤ (sy_i F 33).toInt := by omega
  by_cases g1 : 400 < (sy_i F 33).toInt
  · have c33 := nz_bx hB (k := 33) (lo := 0) (hi := 400) rfl
    exfalso
    omega
  replace g1 : (sy_i F 33).toInt ≤ 400 := by omega
  by_cases g2 : ((sy_ai F 39).getD ((sy_i F 33).toInt).toNat 0).toInt ≠ 24
  · by_cases g3 : ((sy_ai F 39).getD ((sy_i F 33).toInt).toNat 0).toInt < 14
    · by_cases g4 : ((sy_ai F 39).getD ((sy_i F 33).toInt).toNat 0).toInt = 40
      · have c33 := nz_bx hB (k := 33) (lo := 0) (hi := 400) rfl
        have q84 : (sy_ai F 39).getD (sy_i F 33).toNatClampNeg 0 = (sy_ai F 39).getD ((sy_i F 33).toInt).toNat 0 := by simp only [nz_c]
        have n84 : ((sy_ai F 39).getD (sy_i F 33).toNatClampNeg 0).toInt = ((sy_ai F 39).getD ((sy_i F 33).toInt).toNat 0).toInt := congrArg Int32.toInt q84
        exfalso
        omega
      replace g4 : ((sy_ai F 39).getD ((sy_i F 33).toInt).toNat 0).toInt ≠ 40 := by omega
      have c33 := nz_bx hB (k := 33) (lo := 0) (hi := 400) rfl
      have q84 : (sy_ai F 39).getD (sy_i F 33).toNatClampNeg 0 = (sy_ai F 39).getD ((sy_i F 33).toInt).toNat 0 := by simp only [nz_c]
      have n84 : ((sy_ai F 39).getD (sy_i F 33).toNatClampNeg 0).toInt = ((sy_ai F 39).getD ((sy_i F 33).toInt).toNat 0).toInt := congrArg Int32.toInt q84
      exact k0pu_0_p0 hd F X1 X2 hB (by first | exact g0 | (simp only [nz_c]; exact g0)) (by first | exact g1 | (simp only [nz_c]; exact g1)) (by first | exact ⟨by omega, by omega⟩ | (simp only [nz_c]; exact ⟨by omega, by omega⟩)) (by first | exact g2 | (simp only [nz_c]; exact g2) | (rw [n84]; exact g2)) (by first | exact g3 | (simp only [nz_c]; exact g3) | (rw [n84]; exact g3)) (by first | exact g4 | (simp only [nz_c]; exact g4) | (rw [n84]; exact g4)) (fun F1 g e34 => k0 g0 g1 g2 g3 g4 F1 (nz_in0 hB [34] (fun j hj hn => g j hj (by simp only [List.mem_cons, List.not_mem_nil, or_false, not_or] at hn; omega)) (List.forall_mem_cons.mpr ⟨fun t ht => (Option.some.inj ht) ▸ (nz_hz e34), List.forall_mem_nil _⟩)) (fun j hj hn => g j hj (by simp only [List.mem_cons, List.not_mem_nil, or_false, not_or] at hn; omega)) (nz_fi (g 33 (by decide) (by decide))) ((congrArg Int32.toInt (zz_i e34)).trans (by decide : ((1 : Int32)).toInt = 1)) (nz_fi (g 23 (by decide) (by decide))) (nz_fa (g 39 (by decide) (by decide))))
    replace g3 : 14 ≤ ((sy_ai F 39).getD ((sy_i F 33).toInt).toNat 0).toInt := by omega
    by_cases g4 : 22 < ((sy_ai F 39).getD ((sy_i F 33).toInt).toNat 0).toInt
    · by_cases g5 : ((sy_ai F 39).getD ((sy_i F 33).toInt).toNat 0).toInt = 40
      · by_cases g6 : (sy_i F 83).toInt < 6
        · by_cases g7 : (sy_i F 33).toInt < 0
          · have c33 := nz_bx hB (k := 33) (lo := 0) (hi := 400) rfl
            have q84 : (sy_ai F 39).getD (sy_i F 33).toNatClampNeg 0 = (sy_ai F 39).getD ((sy_i F 33).toInt).toNat 0 := by simp only [nz_c]
            have n84 : ((sy_ai F 39).getD (sy_i F 33).toNatClampNeg 0).toInt = ((sy_ai F 39).getD ((sy_i F 33).toInt).toNat 0).toInt := congrArg Int32.toInt q84
            exfalso
            omega
          replace g7 : 0 ≤ (sy_i F 33).toInt := by omega
          by_cases g8 : 400 < (sy_i F 33).toInt
          · have c33 := nz_bx hB (k := 33) (lo := 0) (hi := 400) rfl
            have q84 : (sy_ai F 39).getD (sy_i F 33).toNatClampNeg 0 = (sy_ai F 39).getD ((sy_i F 33).toInt).toNat 0 := by simp only [nz_c]
            have n84 : ((sy_ai F 39).getD (sy_i F 33).toNatClampNeg 0).toInt = ((sy_ai F 39).getD ((sy_i F 33).toInt).toNat 0).toInt := congrArg Int32.toInt q84
            exfalso
            omega
          replace g8 : (sy_i F 33).toInt ≤ 400 := by omega
          by_cases g9 : ((sy_ai F 39).getD ((sy_i F 33).toInt).toNat 0).toInt = ((sy_ai F 39).getD ((sy_i F 33).toInt).toNat 0).toInt
          · by_cases g10 : (sy_i F 33).toInt < 400
            · have c33 := nz_bx hB (k := 33) (lo := 0) (hi := 400) rfl
              have q84 : (sy_ai F 39).getD (sy_i F 33).toNatClampNeg 0 = (sy_ai F 39).getD ((sy_i F 33).toInt).toNat 0 := by simp only [nz_c]
              have n84 : ((sy_ai F 39).getD (sy_i F 33).toNatClampNeg 0).toInt = ((sy_ai F 39).getD ((sy_i F 33).toInt).toNat 0).toInt := congrArg Int32.toInt q84
              have q85 : (sy_ai F 39).getD (sy_i F 33).toNatClampNeg 0 = (sy_ai F 39).getD ((sy_i F 33).toInt).toNat 0 := by simp only [nz_c]
              have n85 : ((sy_ai F 39).getD (sy_i F 33).toNatClampNeg 0).toInt = ((sy_ai F 39).getD ((sy_i F 33).toInt).toNat 0).toInt := congrArg Int32.toInt q85
              have n86 : ((sy_i F 33) + ((1 : Int32))).toInt = ((sy_i F 33).toInt + 1) := nz_add (rfl : (sy_i F 33).toInt = (sy_i F 33).toInt) (by decide : ((1 : Int32)).toInt = 1) (by omega) (by omega)
              have n87 : ((sy_i F 83) + ((1 : Int32))).toInt = ((sy_i F 83).toInt + 1) := nz_add (rfl : (sy_i F 83).toInt = (sy_i F 83).toInt) (by decide : ((1 : Int32)).toInt = 1) (by omega) (by omega)
              exact k0pu_0_p1 hd F X1 X2 hB (by first | exact g0 | (simp only [nz_c]; exact g0)) (by first | exact g1 | (simp only [nz_c]; exact g1)) (by first | exact ⟨by omega, by omega⟩ | (simp only [nz_c]; exact ⟨by omega, by omega⟩)) (by first | exact g2 | (simp only [nz_c]; exact g2) | (rw [n84]; exact g2)) (by first | exact g3 | (simp only [nz_c]; exact g3) | (rw [n84]; exact g3)) (by first | exact g4 | (simp only [nz_c]; exact g4) | (rw [n84]; exact g4)) (by first | exact g5 | (simp only [nz_c]; exact g5) | (rw [n84]; exact g5)) (by first | exact g6 | (simp only [nz_c]; exact g6)) (by first | exact g7 | (simp only [nz_c]; exact g7)) (by first | exact g8 | (simp only [nz_c]; exact g8)) (by first | exact ⟨by omega, by omega⟩ | (simp only [nz_c]; exact ⟨by omega, by omega⟩)) (by first | exact g9 | (simp only [nz_c]; exact g9) | (rw [n85]; exact g9) | (rw [n84]; exact g9) | (rw [n85, n84]; exact g9)) (by first | exact g10 | (simp only [nz_c]; exact g10)) (fun F1 g e33 e82 e83 => k1 g0 g1 g2 g3 g4 g5 g6 g7 g8 g9 g10 F1 (nz_in0 hB [33] (fun j hj hn => g j hj (by simp only [List.mem_cons, List.not_mem_nil, or_false, not_or] at hn; omega)) (List.forall_mem_cons.mpr ⟨fun t ht => (Option.some.inj ht) ▸ (nz_hi e33 n86 (by omega) (by omega)), List.forall_mem_nil _⟩)) (fun j hj hn => g j hj (by simp only [List.mem_cons, List.not_mem_nil, or_false, not_or] at hn; omega)) ((congrArg Int32.toInt (zz_i e33)).trans n86) (nz_fi (g 34 (by decide) (by decide))) (nz_fi (g 23 (by decide) (by decide))) (nz_fa (g 39 (by decide) (by decide))) ((congrArg Int32.toInt (zz_i e82)).trans n87) ((congrArg Int32.toInt (zz_i e83)).trans (rfl : (sy_i F 82).toInt = (sy_i F 82).toInt)))
            replace g10 : 400 ≤ (sy_i F 33).toInt := by omega
            have c33 := nz_bx hB (k := 33) (lo := 0) (hi := 400) rfl
            have q84 : (sy_ai F 39).getD (sy_i F 33).toNatClampNeg 0 = (sy_ai F 39).getD ((sy_i F 33).toInt).toNat 0 := by simp only [nz_c]
            have n84 : ((sy_ai F 39).getD (sy_i F 33).toNatClampNeg 0).toInt = ((sy_ai F 39).getD ((sy_i F 33).toInt).toNat 0).toInt := congrArg Int32.toInt q84
            have q85 : (sy_ai F 39).getD (sy_i F 33).toNatClampNeg 0 = (sy_ai F 39).getD ((sy_i F 33).toInt).toNat 0 := by simp only [nz_c]
            have n85 : ((sy_ai F 39).getD (sy_i F 33).toNatClampNeg 0).toInt = ((sy_ai F 39).getD ((sy_i F 33).toInt).toNat 0).toInt := congrArg Int32.toInt q85
            exact k0pu_0_p2 hd F X1 X2 hB (by first | exact g0 | (simp only [nz_c]; exact g0)) (by first | exact g1 | (simp only [nz_c]; exact g1)) (by first | exact ⟨by omega, by omega⟩ | (simp only [nz_c]; exact ⟨by omega, by omega⟩)) (by first | exact g2 | (simp only [nz_c]; exact g2) | (rw [n84]; exact g2)) (by first | exact g3 | (simp only [nz_c]; exact g3) | (rw [n84]; exact g3)) (by first | exact g4 | (simp only [nz_c]; exact g4) | (rw [n84]; exact g4)) (by first | exact g5 | (simp only [nz_c]; exact g5) | (rw [n84]; exact g5)) (by first | exact g6 | (simp only [nz_c]; exact g6)) (by first | exact g7 | (simp only [nz_c]; exact g7)) (by first | exact g8 | (simp only [nz_c]; exact g8)) (by first | exact ⟨by omega, by omega⟩ | (simp only [nz_c]; exact ⟨by omega, by omega⟩)) (by first | exact g9 | (simp only [nz_c]; exact g9) | (rw [n85]; exact g9) | (rw [n84]; exact g9) | (rw [n85, n84]; exact g9)) (by first | exact g10 | (simp only [nz_c]; exact g10)) (fun F1 g e34 => k2 g0 g1 g2 g3 g4 g5 g6 g7 g8 g9 g10 F1 (nz_in0 hB [34] (fun j hj hn => g j hj (by simp only [List.mem_cons, List.not_mem_nil, or_false, not_or] at hn; omega)) (List.forall_mem_cons.mpr ⟨fun t ht => (Option.some.inj ht) ▸ (nz_hz e34), List.forall_mem_nil _⟩)) (fun j hj hn => g j hj (by simp only [List.mem_cons, List.not_mem_nil, or_false, not_or] at hn; omega)) (nz_fi (g 33 (by decide) (by decide))) ((congrArg Int32.toInt (zz_i e34)).trans (by decide : ((2 : Int32)).toInt = 2)) (nz_fi (g 23 (by decide) (by decide))) (nz_fa (g 39 (by decide) (by decide))))
          replace g9 : ((sy_ai F 39).getD ((sy_i F 33).toInt).toNat 0).toInt ≠ ((sy_ai F 39).getD ((sy_i F 33).toInt).toNat 0).toInt := by omega
          have c33 := nz_bx hB (k := 33) (lo := 0) (hi := 400) rfl
          have q84 : (sy_ai F 39).getD (sy_i F 33).toNatClampNeg 0 = (sy_ai F 39).getD ((sy_i F 33).toInt).toNat 0 := by simp only [nz_c]
          have n84 : ((sy_ai F 39).getD (sy_i F 33).toNatClampNeg 0).toInt = ((sy_ai F 39).getD ((sy_i F 33).toInt).toNat 0).toInt := congrArg Int32.toInt q84
          have q85 : (sy_ai F 39).getD (sy_i F 33).toNatClampNeg 0 = (sy_ai F 39).getD ((sy_i F 33).toInt).toNat 0 := by simp only [nz_c]
          have n85 : ((sy_ai F 39).getD (sy_i F 33).toNatClampNeg 0).toInt = ((sy_ai F 39).getD ((sy_i F 33).toInt).toNat 0).toInt := congrArg Int32.toInt q85
          exfalso
          omega
        replace g6 : 6 ≤ (sy_i F 83).toInt := by omega
        have c33 := nz_bx hB (k := 33) (lo := 0) (hi := 400) rfl
        have q84 : (sy_ai F 39).getD (sy_i F 33).toNatClampNeg 0 = (sy_ai F 39).getD ((sy_i F 33).toInt).toNat 0 := by simp only [nz_c]
        have n84 : ((sy_ai F 39).getD (sy_i F 33).toNatClampNeg 0).toInt = ((sy_ai F 39).getD ((sy_i F 33).toInt).toNat 0).toInt := congrArg Int32.toInt q84
        exact k0pu_0_p3 hd F X1 X2 hB (by first | exact g0 | (simp only [nz_c]; exact g0)) (by first | exact g1 | (simp only [nz_c]; exact g1)) (by first | exact ⟨by omega, by omega⟩ | (simp only [nz_c]; exact ⟨by omega, by omega⟩)) (by first | exact g2 | (simp only [nz_c]; exact g2) | (rw [n84]; exact g2)) (by first | exact g3 | (simp only [nz_c]; exact g3) | (rw [n84]; exact g3)) (by first | exact g4 | (simp only [nz_c]; exact g4) | (rw [n84]; exact g4)) (by first | exact g5 | (simp only [nz_c]; exact g5) | (rw [n84]; exact g5)) (by first | exact g6 | (simp only [nz_c]; exact g6)) (fun F1 g e34 => k3 g0 g1 g2 g3 g4 g5 g6 F1 (nz_in0 hB [34] (fun j hj hn => g j hj (by simp only [List.mem_cons, List.not_mem_nil, or_false, not_or] at hn; omega)) (List.forall_mem_cons.mpr ⟨fun t ht => (Option.some.inj ht) ▸ (nz_hz e34), List.forall_mem_nil _⟩)) (fun j hj hn => g j hj (by simp only [List.mem_cons, List.not_mem_nil, or_false, not_or] at hn; omega)) (nz_fi (g 33 (by decide) (by decide))) ((congrArg Int32.toInt (zz_i e34)).trans (by decide : ((2 : Int32)).toInt = 2)) (nz_fi (g 23 (by decide) (by decide))) (nz_fa (g 39 (by decide) (by decide))))
      replace g5 : ((sy_ai F 39).getD ((sy_i F 33).toInt).toNat 0).toInt ≠ 40 := by omega
      have c33 := nz_bx hB (k := 33) (lo := 0) (hi := 400) rfl
      have q84 : (sy_ai F 39).getD (sy_i F 33).toNatClampNeg 0 = (sy_ai F 39).getD ((sy_i F 33).toInt).toNat 0 := by simp only [nz_c]
      have n84 : ((sy_ai F 39).getD (sy_i F 33).toNatClampNeg 0).toInt = ((sy_ai F 39).getD ((sy_i F 33).toInt).toNat 0).toInt := congrArg Int32.toInt q84
      exact k0pu_0_p4 hd F X1 X2 hB (by first | exact g0 | (simp only [nz_c]; exact g0)) (by first | exact g1 | (simp only [nz_c]; exact g1)) (by first | exact ⟨by omega, by omega⟩ | (simp only [nz_c]; exact ⟨by omega, by omega⟩)) (by first | exact g2 | (simp only [nz_c]; exact g2) | (rw [n84]; exact g2)) (by first | exact g3 | (simp only [nz_c]; exact g3) | (rw [n84]; exact g3)) (by first | exact g4 | (simp only [nz_c]; exact g4) | (rw [n84]; exact g4)) (by first | exact g5 | (simp only [nz_c]; exact g5) | (rw [n84]; exact g5)) (fun F1 g e34 => k4 g0 g1 g2 g3 g4 g5 F1 (nz_in0 hB [34] (fun j hj hn => g j hj (by simp only [List.mem_cons, List.not_mem_nil, or_false, not_or] at hn; omega)) (List.forall_mem_cons.mpr ⟨fun t ht => (Option.some.inj ht) ▸ (nz_hz e34), List.forall_mem_nil _⟩)) (fun j hj hn => g j hj (by simp only [List.mem_cons, List.not_mem_nil, or_false, not_or] at hn; omega)) (nz_fi (g 33 (by decide) (by decide))) ((congrArg Int32.toInt (zz_i e34)).trans (by decide : ((1 : Int32)).toInt = 1)) (nz_fi (g 23 (by decide) (by decide))) (nz_fa (g 39 (by decide) (by decide))))
    replace g4 : ((sy_ai F 39).getD ((sy_i F 33).toInt).toNat 0).toInt ≤ 22 := by omega
    by_cases g5 : ¬ oq ((((([260, 383, 383, 407, 279, 300]).getD ((sy_i F 82).toInt).toNat 0) >>> ((((sy_ai F 39).getD ((sy_i F 33).toInt).toNat 0) - ((14 : Int32))) &&& 31)) &&& ((1 : Int32))).toInt) (1)
    · have c33 := nz_bx hB (k := 33) (lo := 0) (hi := 400) rfl
      have q84 : (sy_ai F 39).getD (sy_i F 33).toNatClampNeg 0 = (sy_ai F 39).getD ((sy_i F 33).toInt).toNat 0 := by simp only [nz_c]
      have n84 : ((sy_ai F 39).getD (sy_i F 33).toNatClampNeg 0).toInt = ((sy_ai F 39).getD ((sy_i F 33).toInt).toNat 0).toInt := congrArg Int32.toInt q84
      have n85 : (((sy_ai F 39).getD (sy_i F 33).toNatClampNeg 0) - ((14 : Int32))).toInt = (((sy_ai F 39).getD ((sy_i F 33).toInt).toNat 0).toInt - 14) := nz_sub n84 (by decide : ((14 : Int32)).toInt = 14) (by omega) (by omega)
      have q88 : ((([260, 383, 383, 407, 279, 300]).getD (sy_i F 82).toNatClampNeg 0) >>> ((((sy_ai F 39).getD (sy_i F 33).toNatClampNeg 0) - ((14 : Int32))) &&& 31)) &&& ((1 : Int32)) = ((([260, 383, 383, 407, 279, 300]).getD ((sy_i F 82).toInt).toNat 0) >>> ((((sy_ai F 39).getD ((sy_i F 33).toInt).toNat 0) - ((14 : Int32))) &&& 31)) &&& ((1 : Int32)) := by simp only [nz_c, n85, (by decide : ((1 : Int32)).toInt = 1), (by decide : ((14 : Int32)).toInt = 14)]
      have n88 : (((([260, 383, 383, 407, 279, 300]).getD (sy_i F 82).toNatClampNeg 0) >>> ((((sy_ai F 39).getD (sy_i F 33).toNatClampNeg 0) - ((14 : Int32))) &&& 31)) &&& ((1 : Int32))).toInt = (((([260, 383, 383, 407, 279, 300]).getD ((sy_i F 82).toInt).toNat 0) >>> ((((sy_ai F 39).getD ((sy_i F 33).toInt).toNat 0) - ((14 : Int32))) &&& 31)) &&& ((1 : Int32))).toInt := congrArg Int32.toInt q88
      exact k0pu_0_p5 hd F X1 X2 hB (by first | exact g0 | (simp only [nz_c]; exact g0)) (by first | exact g1 | (simp only [nz_c]; exact g1)) (by first | exact ⟨by omega, by omega⟩ | (simp only [nz_c]; exact ⟨by omega, by omega⟩)) (by first | exact g2 | (simp only [nz_c]; exact g2) | (rw [n84]; exact g2)) (by first | exact g3 | (simp only [nz_c]; exact g3) | (rw [n84]; exact g3)) (by first | exact g4 | (simp only [nz_c]; exact g4) | (rw [n84]; exact g4)) (by first | exact ⟨by omega, by omega⟩ | (simp only [nz_c]; exact ⟨by omega, by omega⟩)) (by first | exact g5 | (simp only [nz_c, n85]; exact g5) | (rw [n88]; exact g5)) (fun F1 g e82 e83 => k5 g0 g1 g2 g3 g4 g5 F1 (nz_in0 hB [] (fun j hj hn => g j hj (by simp only [List.mem_cons, List.not_mem_nil, or_false, not_or] at hn; exact trivial)) (List.forall_mem_nil _)) (fun j hj hn => g j hj (by simp only [List.mem_cons, List.not_mem_nil, or_false, not_or] at hn; exact trivial)) (nz_fi (g 33 (by decide) (by decide))) (nz_fi (g 34 (by decide) (by decide))) (nz_fi (g 23 (by decide) (by decide))) (nz_fa (g 39 (by decide) (by decide))) ((congrArg Int32.toInt (zz_i e82)).trans n84) ((congrArg Int32.toInt (zz_i e83)).trans (by decide : ((0 : Int32)).toInt = 0)))
    replace g5 : oq ((((([260, 383, 383, 407, 279, 300]).getD ((sy_i F 82).toInt).toNat 0) >>> ((((sy_ai F 39).getD ((sy_i F 33).toInt).toNat 0) - ((14 : Int32))) &&& 31)) &&& ((1 : Int32))).toInt) (1) := by first | exact Classical.not_not.mp g5 | exact g5 | omega
    have c33 := nz_bx hB (k := 33) (lo := 0) (hi := 400) rfl
    have q84 : (sy_ai F 39).getD (sy_i F 33).toNatClampNeg 0 = (sy_ai F 39).getD ((sy_i F 33).toInt).toNat 0 := by simp only [nz_c]
    have n84 : ((sy_ai F 39).getD (sy_i F 33).toNatClampNeg 0).toInt = ((sy_ai F 39).getD ((sy_i F 33).toInt).toNat 0).toInt := congrArg Int32.toInt q84
    have n85 : (((sy_ai F 39).getD (sy_i F 33).toNatClampNeg 0) - ((14 : Int32))).toInt = (((sy_ai F 39).getD ((sy_i F 33).toInt).toNat 0).toInt - 14) := nz_sub n84 (by decide : ((14 : Int32)).toInt = 14) (by omega) (by omega)
    have q88 : ((([260, 383, 383, 407, 279, 300]).getD (sy_i F 82).toNatClampNeg 0) >>> ((((sy_ai F 39).getD (sy_i F 33).toNatClampNeg 0) - ((14 : Int32))) &&& 31)) &&& ((1 : Int32)) = ((([260, 383, 383, 407, 279, 300]).getD ((sy_i F 82).toInt).toNat 0) >>> ((((sy_ai F 39).getD ((sy_i F 33).toInt).toNat 0) - ((14 : Int32))) &&& 31)) &&& ((1 : Int32)) := by simp only [nz_c, n85, (by decide : ((1 : Int32)).toInt = 1), (by decide : ((14 : Int32)).toInt = 14)]
    have n88 : (((([260, 383, 383, 407, 279, 300]).getD (sy_i F 82).toNatClampNeg 0) >>> ((((sy_ai F 39).getD (sy_i F 33).toNatClampNeg 0) - ((14 : Int32))) &&& 31)) &&& ((1 : Int32))).toInt = (((([260, 383, 383, 407, 279, 300]).getD ((sy_i F 82).toInt).toNat 0) >>> ((((sy_ai F 39).getD ((sy_i F 33).toInt).toNat 0) - ((14 : Int32))) &&& 31)) &&& ((1 : Int32))).toInt := congrArg Int32.toInt q88
    have n89 : ((((-1) : Int32)) - (((sy_ai F 39).getD (sy_i F 33).toNatClampNeg 0) - ((14 : Int32)))).toInt = ((-1 : Int) - (((sy_ai F 39).getD ((sy_i F 33).toInt).toNat 0).toInt - 14)) := nz_sub (by decide : (((-1) : Int32)).toInt = (-1 : Int)) n85 (by omega) (by omega)
    exact k0pu_0_p6 hd F X1 X2 hB (by first | exact g0 | (simp only [nz_c]; exact g0)) (by first | exact g1 | (simp only [nz_c]; exact g1)) (by first | exact ⟨by omega, by omega⟩ | (simp only [nz_c]; exact ⟨by omega, by omega⟩)) (by first | exact g2 | (simp only [nz_c]; exact g2) | (rw [n84]; exact g2)) (by first | exact g3 | (simp only [nz_c]; exact g3) | (rw [n84]; exact g3)) (by first | exact g4 | (simp only [nz_c]; exact g4) | (rw [n84]; exact g4)) (by first | exact ⟨by omega, by omega⟩ | (simp only [nz_c]; exact ⟨by omega, by omega⟩)) (by first | exact g5 | (simp only [nz_c, n85]; exact g5) | (rw [n88]; exact g5)) (fun F1 g e82 e83 => k6 g0 g1 g2 g3 g4 g5 F1 (nz_in0 hB [] (fun j hj hn => g j hj (by simp only [List.mem_cons, List.not_mem_nil, or_false, not_or] at hn; exact trivial)) (List.forall_mem_nil _)) (fun j hj hn => g j hj (by simp only [List.mem_cons, List.not_mem_nil, or_false, not_or] at hn; exact trivial)) (nz_fi (g 33 (by decide) (by decide))) (nz_fi (g 34 (by decide) (by decide))) (nz_fi (g 23 (by decide) (by decide))) (nz_fa (g 39 (by decide) (by decide))) ((congrArg Int32.toInt (zz_i e82)).trans n84) ((congrArg Int32.toInt (zz_i e83)).trans n89))
  replace g2 : ((sy_ai F 39).getD ((sy_i F 33).toInt).toNat 0).toInt = 24 := by omega
  by_cases g3 : (sy_i F 33).toInt < 0
  · have c33 := nz_bx hB (k := 33) (lo := 0) (hi := 400) rfl
    have q84 : (sy_ai F 39).getD (sy_i F 33).toNatClampNeg 0 = (sy_ai F 39).getD ((sy_i F 33).toInt).toNat 0 := by simp only [nz_c]
    have n84 : ((sy_ai F 39).getD (sy_i F 33).toNatClampNeg 0).toInt = ((sy_ai F 39).getD ((sy_i F 33).toInt).toNat 0).toInt := congrArg Int32.toInt q84
    exfalso
    omega
  replace g3 : 0 ≤ (sy_i F 33).toInt := by omega
  by_cases g4 : 400 < (sy_i F 33).toInt
  · have c33 := nz_bx hB (k := 33) (lo := 0) (hi := 400) rfl
    have q84 : (sy_ai F 39).getD (sy_i F 33).toNatClampNeg 0 = (sy_ai F 39).getD ((sy_i F 33).toInt).toNat 0 := by simp only [nz_c]
    have n84 : ((sy_ai F 39).getD (sy_i F 33).toNatClampNeg 0).toInt = ((sy_ai F 39).getD ((sy_i F 33).toInt).toNat 0).toInt := congrArg Int32.toInt q84
    exfalso
    omega
  replace g4 : (sy_i F 33).toInt ≤ 400 := by omega
  have c33 := nz_bx hB (k := 33) (lo := 0) (hi := 400) rfl
  have q84 : (sy_ai F 39).getD (sy_i F 33).toNatClampNeg 0 = (sy_ai F 39).getD ((sy_i F 33).toInt).toNat 0 := by simp only [nz_c]
  have n84 : ((sy_ai F 39).getD (sy_i F 33).toNatClampNeg 0).toInt = ((sy_ai F 39).getD ((sy_i F 33).toInt).toNat 0).toInt := congrArg Int32.toInt q84
  have q86 : ((sy_al F 41).getD (sy_i F 33).toNatClampNeg 0).toInt32 = ((sy_al F 41).getD ((sy_i F 33).toInt).toNat 0).toInt32 := by simp only [nz_c]
  have n86 : (((sy_al F 41).getD (sy_i F 33).toNatClampNeg 0).toInt32).toInt = (((sy_al F 41).getD ((sy_i F 33).toInt).toNat 0).toInt32).toInt := congrArg Int32.toInt q86
  exact k0pu_0_p7 hd F X1 X2 hB (by first | exact g0 | (simp only [nz_c]; exact g0)) (by first | exact g1 | (simp only [nz_c]; exact g1)) (by first | exact ⟨by omega, by omega⟩ | (simp only [nz_c]; exact ⟨by omega, by omega⟩)) (by first | exact g2 | (simp only [nz_c]; exact g2) | (rw [n84]; exact g2)) (by first | exact g3 | (simp only [nz_c]; exact g3)) (by first | exact g4 | (simp only [nz_c]; exact g4)) (by first | exact ⟨by omega, by omega⟩ | (simp only [nz_c]; exact ⟨by omega, by omega⟩)) (fun F1 g e82 e83 => k7 g0 g1 g2 g3 g4 F1 (nz_in0 hB [] (fun j hj hn => g j hj (by simp only [List.mem_cons, List.not_mem_nil, or_false, not_or] at hn; exact trivial)) (List.forall_mem_nil _)) (fun j hj hn => g j hj (by simp only [List.mem_cons, List.not_mem_nil, or_false, not_or] at hn; exact trivial)) (nz_fi (g 33 (by decide) (by decide))) (nz_fi (g 34 (by decide) (by decide))) (nz_fi (g 23 (by decide) (by decide))) (nz_fa (g 39 (by decide) (by decide))) ((congrArg Int32.toInt (zz_i e82)).trans n84) ((congrArg Int32.toInt (zz_i e83)).trans n86))
theorem k0pu_137_p0 {Ls : Nat} {xs : Nat → Int32} {d : Nat} {Q : Option Value → jm_h → Prop} (hd : 4 ≤ d) (F : Nat → sy_d) (X1 X2 : List jm_c) (hB : iv_in F iv_B0)
    (h0 : (sy_i F 84).toInt = 0)
    (k : ∀ F1 : Nat → sy_d, (∀ j, j < 82 → True → F1 j = F j) → Q (some (.int ((0 : Int32)))) (sy_dh F1 X1 X2 (iv_H 0))) :
    hd_W Ls xs d jm_M40 Q (137, sy_dL F [some (.inl (.ref 30)), none, none, none, none], sy_dS F [.inr (.inl 84)], sy_dh F X1 X2 (iv_H 0), 0, 0) := by
  refine hd_ret (s := 0) (nv := 85) (v := some (.inl (.int 0))) (uh := hd_ov (iv_id 0 iv_B0) []) (f := false) (sp := []) (d0 := 3) (O := [true]) (T := []) (P := [(0, .inr (.inl 84), .inl (.int 0))]) jm_ok40 (by decide +kernel) (by decide +kernel) hd F X1 X2 (fun F' hF hs => ?_)
  have b84 := hd_b (F := F) (F' := F') (k := 84) (hF 84 (by decide))
  have hB' : iv_in F' iv_B0 := iv_in_eq hB (fun j hj => hF j (Nat.lt_of_lt_of_le hj (by decide +kernel)))
  refine ⟨List.forall_mem_cons.mpr ⟨hd_p0 b84 rfl (by have hc : ((0) : Int32).toInt = 0 := (by decide); omega), fun _ h => absurd h List.not_mem_nil⟩, ?_⟩
  refine k _ ?_
  · exact fun j hj _ => (hd_keep hB' (Nat.lt_of_lt_of_le hj (by decide +kernel)) (by simp)).trans (hF j (by omega))
theorem k0pu_137_p1 {Ls : Nat} {xs : Nat → Int32} {d : Nat} {Q : Option Value → jm_h → Prop} (hd : 4 ≤ d) (F : Nat → sy_d) (X1 X2 : List jm_c) (hB : iv_in F iv_B0)
    (h0 : (sy_i F 84).toInt ≠ 0)
    (h1 : 0 ≤ (sy_i F 33).toInt)
    (h2 : (sy_i F 33).toInt ≤ 400)
    (h3 : 0 ≤ (sy_i F 33).toInt ∧ (sy_i F 33).toInt < 401)
    (h4 : ((sy_ai F 39).getD (sy_i F 33).toNatClampNeg 0).toInt = 41)
    (h5 : (sy_i F 33).toInt < 400)
    (k : ∀ F1 : Nat → sy_d, (∀ j, j < 82 → j ≠ 33 → F1 j = F j) → F1 33 = .inl (.int ((sy_i F 33) + ((1 : Int32)))) → Q (some (.int ((1 : Int32)))) (sy_dh F1 X1 X2 (iv_H 0))) :
    hd_W Ls xs d jm_M40 Q (137, sy_dL F [some (.inl (.ref 30)), none, none, none, none], sy_dS F [.inr (.inl 84)], sy_dh F X1 X2 (iv_H 0), 0, 0) := by
  refine hd_ret (s := 0) (nv := 85) (v := some (.inl (.int 1))) (uh := hd_ov (iv_id 0 iv_B0) [(33, .inl (.inr (.inl 86)))]) (f := false) (sp := []) (d0 := 3) (O := [false, false, false, true, true]) (T := [(30, [.inr (.inl 33)], [.inr (.inl 39)]), (0, [.inr (.inl 33), .inl (.int 1)], [])]) (P := [(1, .inr (.inl 84), .inl (.int 0)), (3, .inr (.inl 33), .inl (.int 0)), (3, .inl (.int 400), .inr (.inl 33)), (6, .inr (.inl 33), .inl (.ref 401)), (0, .inr (.inl 85), .inl (.int 41)), (2, .inr (.inl 33), .inl (.int 400))]) jm_ok40 (by decide +kernel) (by decide +kernel) hd F X1 X2 (fun F' hF hs => ?_)
  have b84 := hd_b (F := F) (F' := F') (k := 84) (hF 84 (by decide))
  have b33 := hd_b (F := F) (F' := F') (k := 33) (hF 33 (by decide))
  have a39 := hd_ba (F := F) (F' := F') (k := 39) (hF 39 (by decide))
  have t85 : sy_dv F' (.inr (.inl 85)) = .int ((sy_ai F 39).getD (sy_i F 33).toNatClampNeg 0) := hd_rd (hs 0 _ rfl) b33 a39
  have t86 : sy_dv F' (.inr (.inl 86)) = .int ((sy_i F 33) + ((1 : Int32))) := hd_o (hs 1 _ rfl) b33 rfl rfl
  have hB' : iv_in F' iv_B0 := iv_in_eq hB (fun j hj => hF j (Nat.lt_of_lt_of_le hj (by decide +kernel)))
  refine ⟨List.forall_mem_cons.mpr ⟨hd_p1 b84 rfl (by have hc : ((0) : Int32).toInt = 0 := (by decide); omega), List.forall_mem_cons.mpr ⟨hd_p3 b33 rfl (by have hc : ((0) : Int32).toInt = 0 := (by decide); omega), List.forall_mem_cons.mpr ⟨hd_p3 rfl b33 (by have hc : ((400) : Int32).toInt = 400 := (by decide); omega), List.forall_mem_cons.mpr ⟨hd_pb b33 (by first | exact h3 | exact h3), List.forall_mem_cons.mpr ⟨hd_p0 t85 rfl (by have hc : ((41) : Int32).toInt = 41 := (by decide); omega), List.forall_mem_cons.mpr ⟨hd_p2 b33 rfl (by have hc : ((400) : Int32).toInt = 400 := (by decide); omega), fun _ h => absurd h List.not_mem_nil⟩⟩⟩⟩⟩⟩, ?_⟩
  refine k _ ?_ ?_
  · exact fun j hj hn => (hd_keep hB' (Nat.lt_of_lt_of_le hj (by decide +kernel)) (by simp; omega)).trans (hF j (by omega))
  · exact hd_gi (x := .inr (.inl 86)) (by decide +kernel) t86
theorem k0pu_137_p2 {Ls : Nat} {xs : Nat → Int32} {d : Nat} {Q : Option Value → jm_h → Prop} (hd : 4 ≤ d) (F : Nat → sy_d) (X1 X2 : List jm_c) (hB : iv_in F iv_B0)
    (h0 : (sy_i F 84).toInt ≠ 0)
    (h1 : 0 ≤ (sy_i F 33).toInt)
    (h2 : (sy_i F 33).toInt ≤ 400)
    (h3 : 0 ≤ (sy_i F 33).toInt ∧ (sy_i F 33).toInt < 401)
    (h4 : ((sy_ai F 39).getD (sy_i F 33).toNatClampNeg 0).toInt = 41)
    (h5 : 400 ≤ (sy_i F 33).toInt)
    (k : ∀ F1 : Nat → sy_d, (∀ j, j < 82 → j ≠ 34 → F1 j = F j) → F1 34 = .inl (.int ((2 : Int32))) → Q (some (.int ((0 : Int32)))) (sy_dh F1 X1 X2 (iv_H 0))) :
    hd_W Ls xs d jm_M40 Q (137, sy_dL F [some (.inl (.ref 30)), none, none, none, none], sy_dS F [.inr (.inl 84)], sy_dh F X1 X2 (iv_H 0), 0, 0) := by
  refine hd_ret (s := 0) (nv := 85) (v := some (.inl (.int 0))) (uh := hd_ov (iv_id 0 iv_B0) [(34, .inl (.inl (.int 2)))]) (f := false) (sp := []) (d0 := 3) (O := [false, false, false, true, false]) (T := [(30, [.inr (.inl 33)], [.inr (.inl 39)])]) (P := [(1, .inr (.inl 84), .inl (.int 0)), (3, .inr (.inl 33), .inl (.int 0)), (3, .inl (.int 400), .inr (.inl 33)), (6, .inr (.inl 33), .inl (.ref 401)), (0, .inr (.inl 85), .inl (.int 41)), (3, .inr (.inl 33), .inl (.int 400))]) jm_ok40 (by decide +kernel) (by decide +kernel) hd F X1 X2 (fun F' hF hs => ?_)
  have b84 := hd_b (F := F) (F' := F') (k := 84) (hF 84 (by decide))
  have b33 := hd_b (F := F) (F' := F') (k := 33) (hF 33 (by decide))
  have a39 := hd_ba (F := F) (F' := F') (k := 39) (hF 39 (by decide))
  have t85 : sy_dv F' (.inr (.inl 85)) = .int ((sy_ai F 39).getD (sy_i F 33).toNatClampNeg 0) := hd_rd (hs 0 _ rfl) b33 a39
  have hB' : iv_in F' iv_B0 := iv_in_eq hB (fun j hj => hF j (Nat.lt_of_lt_of_le hj (by decide +kernel)))
  refine ⟨List.forall_mem_cons.mpr ⟨hd_p1 b84 rfl (by have hc : ((0) : Int32).toInt = 0 := (by decide); omega), List.forall_mem_cons.mpr ⟨hd_p3 b33 rfl (by have hc : ((0) : Int32).toInt = 0 := (by decide); omega), List.forall_mem_cons.mpr ⟨hd_p3 rfl b33 (by have hc : ((400) : Int32).toInt = 400 := (by decide); omega), List.forall_mem_cons.mpr ⟨hd_pb b33 (by first | exact h3 | exact h3), List.forall_mem_cons.mpr ⟨hd_p0 t85 rfl (by have hc : ((41) : Int32).toInt = 41 := (by decide); omega), List.forall_mem_cons.mpr ⟨hd_p3 b33 rfl (by have hc : ((400) : Int32).toInt = 400 := (by decide); omega), fun _ h => absurd h List.not_mem_nil⟩⟩⟩⟩⟩⟩, ?_⟩
  refine k _ ?_ ?_
  · exact fun j hj hn => (hd_keep hB' (Nat.lt_of_lt_of_le hj (by decide +kernel)) (by simp; omega)).trans (hF j (by omega))
  · exact hd_gi (x := .inl (.int 2)) (by decide +kernel) rfl
theorem k0pu_137_p3 {Ls : Nat} {xs : Nat → Int32} {d : Nat} {Q : Option Value → jm_h → Prop} (hd : 4 ≤ d) (F : Nat → sy_d) (X1 X2 : List jm_c) (hB : iv_in F iv_B0)
    (h0 : (sy_i F 84).toInt ≠ 0)
    (h1 : 0 ≤ (sy_i F 33).toInt)
    (h2 : (sy_i F 33).toInt ≤ 400)
    (h3 : 0 ≤ (sy_i F 33).toInt ∧ (sy_i F 33).toInt < 401)
    (h4 : ((sy_ai F 39).getD (sy_i F 33).toNatClampNeg 0).toInt ≠ 41)
    (k : ∀ F1 : Nat → sy_d, (∀ j, j < 82 → j ≠ 34 → F1 j = F j) → F1 34 = .inl (.int ((1 : Int32))) → Q (some (.int ((0 : Int32)))) (sy_dh F1 X1 X2 (iv_H 0))) :
    hd_W Ls xs d jm_M40 Q (137, sy_dL F [some (.inl (.ref 30)), none, none, none, none], sy_dS F [.inr (.inl 84)], sy_dh F X1 X2 (iv_H 0), 0, 0) := by
  refine hd_ret (s := 0) (nv := 85) (v := some (.inl (.int 0))) (uh := hd_ov (iv_id 0 iv_B0) [(34, .inl (.inl (.int 1)))]) (f := false) (sp := []) (d0 := 3) (O := [false, false, false, false]) (T := [(30, [.inr (.inl 33)], [.inr (.inl 39)])]) (P := [(1, .inr (.inl 84), .inl (.int 0)), (3, .inr (.inl 33), .inl (.int 0)), (3, .inl (.int 400), .inr (.inl 33)), (6, .inr (.inl 33), .inl (.ref 401)), (1, .inr (.inl 85), .inl (.int 41))]) jm_ok40 (by decide +kernel) (by decide +kernel) hd F X1 X2 (fun F' hF hs => ?_)
  have b84 := hd_b (F := F) (F' := F') (k := 84) (hF 84 (by decide))
  have b33 := hd_b (F := F) (F' := F') (k := 33) (hF 33 (by decide))
  have a39 := hd_ba (F := F) (F' := F') (k := 39) (hF 39 (by decide))
  have t85 : sy_dv F' (.inr (.inl 85)) = .int ((sy_ai F 39).getD (sy_i F 33).toNatClampNeg 0) := hd_rd (hs 0 _ rfl) b33 a39
  have hB' : iv_in F' iv_B0 := iv_in_eq hB (fun j hj => hF j (Nat.lt_of_lt_of_le hj (by decide +kernel)))
  refine ⟨List.forall_mem_cons.mpr ⟨hd_p1 b84 rfl (by have hc : ((0) : Int32).toInt = 0 := (by decide); omega), List.forall_mem_cons.mpr ⟨hd_p3 b33 rfl (by have hc : ((0) : Int32).toInt = 0 := (by decide); omega), List.forall_mem_cons.mpr ⟨hd_p3 rfl b33 (by have hc : ((400) : Int32).toInt = 400 := (by decide); omega), List.forall_mem_cons.mpr ⟨hd_pb b33 (by first | exact h3 | exact h3), List.forall_mem_cons.mpr ⟨hd_p1 t85 rfl (by have hc : ((41) : Int32).toInt = 41 := (by decide); omega), fun _ h => absurd h List.not_mem_nil⟩⟩⟩⟩⟩, ?_⟩
  refine k _ ?_ ?_
  · exact fun j hj hn => (hd_keep hB' (Nat.lt_of_lt_of_le hj (by decide +kernel)) (by simp; omega)).trans (hF j (by omega))
  · exact hd_gi (x := .inl (.int 1)) (by decide +kernel) rfl
theorem k0pu_137 {Ls : Nat} {xs : Nat → Int32} {d : Nat} {Q : Option Value → jm_h → Prop} (hd : 4 ≤ d) (F : Nat → sy_d) (X1 X2 : List jm_c) (hB : iv_in F iv_B0)
    (k0 : (sy_i F 84).toInt = 0 → ∀ F1 : Nat → sy_d, iv_in F1 iv_B0 → (∀ j, j < 82 → j ∉ ([] : List Nat) → F1 j = F j) → (sy_i F1 33).toInt = (sy_i F 33).toInt → (sy_i F1 34).toInt = (sy_i F 34).toInt → (sy_i F1 23).toInt = (sy_i F 23).toInt → sy_ai F1 39 = sy_ai F 39 → Q (some (.int ((0 : Int32)))) (sy_dh F1 X1 X2 (iv_H 0)))
    (k1 : (sy_i F 84).toInt ≠ 0 → 0 ≤ (sy_i F 33).toInt → (sy_i F 33).toInt ≤ 400 → ((sy_ai F 39).getD ((sy_i F 33).toInt).toNat 0).toInt = 41 → (sy_i F 33).toInt < 400 → ∀ F1 : Nat → sy_d, iv_in F1 iv_B0 → (∀ j, j < 82 → j ∉ ([33] : List Nat) → F1 j = F j) → (sy_i F1 33).toInt = ((sy_i F 33).toInt + 1) → (sy_i F1 34).toInt = (sy_i F 34).toInt → (sy_i F1 23).toInt = (sy_i F 23).toInt → sy_ai F1 39 = sy_ai F 39 → Q (some (.int ((1 : Int32)))) (sy_dh F1 X1 X2 (iv_H 0)))
    (k2 : (sy_i F 84).toInt ≠ 0 → 0 ≤ (sy_i F 33).toInt → (sy_i F 33).toInt ≤ 400 → ((sy_ai F 39).getD ((sy_i F 33).toInt).toNat 0).toInt = 41 → 400 ≤ (sy_i F 33).toInt → ∀ F1 : Nat → sy_d, iv_in F1 iv_B0 → (∀ j, j < 82 → j ∉ ([34] : List Nat) → F1 j = F j) → (sy_i F1 33).toInt = (sy_i F 33).toInt → (sy_i F1 34).toInt = 2 → (sy_i F1 23).toInt = (sy_i F 23).toInt → sy_ai F1 39 = sy_ai F 39 → Q (some (.int ((0 : Int32)))) (sy_dh F1 X1 X2 (iv_H 0)))
    (k3 : (sy_i F 84).toInt ≠ 0 → 0 ≤ (sy_i F 33).toInt → (sy_i F 33).toInt ≤ 400 → ((sy_ai F 39).getD ((sy_i F 33).toInt).toNat 0).toInt ≠ 41 → ∀ F1 : Nat → sy_d, iv_in F1 iv_B0 → (∀ j, j < 82 → j ∉ ([34] : List Nat) → F1 j = F j) → (sy_i F1 33).toInt = (sy_i F 33).toInt → (sy_i F1 34).toInt = 1 → (sy_i F1 23).toInt = (sy_i F 23).toInt → sy_ai F1 39 = sy_ai F 39 → Q (some (.int ((0 : Int32)))) (sy_dh F1 X1 X2 (iv_H 0))) :
    hd_W Ls xs d jm_M40 Q (137, sy_dL F [some (.inl (.ref 30)), none, none, none, none], sy_dS F [.inr (.inl 84)], sy_dh F X1 X2 (iv_H 0), 0, 0) := by
  by_cases g0 : (sy_i F 84).toInt = 0
  · exact k0pu_137_p0 hd F X1 X2 hB (by first | exact g0 | (simp only [nz_c]; exact g0)) (fun F1 g  => k0 g0 F1 (nz_in0 hB [] (fun j hj hn => g j hj (by simp only [List.mem_cons, List.not_mem_nil, or_false, not_or] at hn; exact trivial)) (List.forall_mem_nil _)) (fun j hj hn => g j hj (by simp only [List.mem_cons, List.not_mem_nil, or_false, not_or] at hn; exact trivial)) (nz_fi (g 33 (by decide) (by decide))) (nz_fi (g 34 (by decide) (by decide))) (nz_fi (g 23 (by decide) (by decide))) (nz_fa (g 39 (by decide) (by decide))))
  replace g0 : (sy_i F 84).toInt ≠ 0 := by omega
  by_cases g1 : (sy_i F 33).toInt < 0
  · have c33 := nz_bx hB (k := 33) (lo := 0) (hi := 400) rfl
    exfalso
    omega
  replace g1 : 0 ≤ (sy_i F 33).toInt := by omega
  by_cases g2 : 400 < (sy_i F 33).toInt
  · have c33 := nz_bx hB (k := 33) (lo := 0) (hi := 400) rfl
    exfalso
    omega
  replace g2 : (sy_i F 33).toInt ≤ 400 := by omega
  by_cases g3 : ((sy_ai F 39).getD ((sy_i F 33).toInt).toNat 0).toInt = 41
  · by_cases g4 : (sy_i F 33).toInt < 400
    · have c33 := nz_bx hB (k := 33) (lo := 0) (hi := 400) rfl
      have q85 : (sy_ai F 39).getD (sy_i F 33).toNatClampNeg 0 = (sy_ai F 39).getD ((sy_i F 33).toInt).toNat 0 := by simp only [nz_c]
      have n85 : ((sy_ai F 39).getD (sy_i F 33).toNatClampNeg 0).toInt = ((sy_ai F 39).getD ((sy_i F 33).toInt).toNat 0).toInt := congrArg Int32.toInt q85
      have n86 : ((sy_i F 33) + ((1 : Int32))).toInt = ((sy_i F 33).toInt + 1) := nz_add (rfl : (sy_i F 33).toInt = (sy_i F 33).toInt) (by decide : ((1 : Int32)).toInt = 1) (by omega) (by omega)
      exact k0pu_137_p1 hd F X1 X2 hB (by first | exact g0 | (simp only [nz_c]; exact g0)) (by first | exact g1 | (simp only [nz_c]; exact g1)) (by first | exact g2 | (simp only [nz_c]; exact g2)) (by first | exact ⟨by omega, by omega⟩ | (simp only [nz_c]; exact ⟨by omega, by omega⟩)) (by first | exact g3 | (simp only [nz_c]; exact g3) | (rw [n85]; exact g3)) (by first | exact g4 | (simp only [nz_c]; exact g4)) (fun F1 g e33 => k1 g0 g1 g2 g3 g4 F1 (nz_in0 hB [33] (fun j hj hn => g j hj (by simp only [List.mem_cons, List.not_mem_nil, or_false, not_or] at hn; omega)) (List.forall_mem_cons.mpr ⟨fun t ht => (Option.some.inj ht) ▸ (nz_hi e33 n86 (by omega) (by omega)), List.forall_mem_nil _⟩)) (fun j hj hn => g j hj (by simp only [List.mem_cons, List.not_mem_nil, or_false, not_or] at hn; omega)) ((congrArg Int32.toInt (zz_i e33)).trans n86) (nz_fi (g 34 (by decide) (by decide))) (nz_fi (g 23 (by decide) (by decide))) (nz_fa (g 39 (by decide) (by decide))))
    replace g4 : 400 ≤ (sy_i F 33).toInt := by omega
    have c33 := nz_bx hB (k := 33) (lo := 0) (hi := 400) rfl
    have q85 : (sy_ai F 39).getD (sy_i F 33).toNatClampNeg 0 = (sy_ai F 39).getD ((sy_i F 33).toInt).toNat 0 := by simp only [nz_c]
    have n85 : ((sy_ai F 39).getD (sy_i F 33).toNatClampNeg 0).toInt = ((sy_ai F 39).getD ((sy_i F 33).toInt).toNat 0).toInt := congrArg Int32.toInt q85
    exact k0pu_137_p2 hd F X1 X2 hB (by first | exact g0 | (simp only [nz_c]; exact g0)) (by first | exact g1 | (simp only [nz_c]; exact g1)) (by first | exact g2 | (simp only [nz_c]; exact g2)) (by first | exact ⟨by omega, by omega⟩ | (simp only [nz_c]; exact ⟨by omega, by omega⟩)) (by first | exact g3 | (simp only [nz_c]; exact g3) | (rw [n85]; exact g3)) (by first | exact g4 | (simp only [nz_c]; exact g4)) (fun F1 g e34 => k2 g0 g1 g2 g3 g4 F1 (nz_in0 hB [34] (fun j hj hn => g j hj (by simp only [List.mem_cons, List.not_mem_nil, or_false, not_or] at hn; omega)) (List.forall_mem_cons.mpr ⟨fun t ht => (Option.some.inj ht) ▸ (nz_hz e34), List.forall_mem_nil _⟩)) (fun j hj hn => g j hj (by simp only [List.mem_cons, List.not_mem_nil, or_false, not_or] at hn; omega)) (nz_fi (g 33 (by decide) (by decide))) ((congrArg Int32.toInt (zz_i e34)).trans (by decide : ((2 : Int32)).toInt = 2)) (nz_fi (g 23 (by decide) (by decide))) (nz_fa (g 39 (by decide) (by decide))))
  replace g3 : ((sy_ai F 39).getD ((sy_i F 33).toInt).toNat 0).toInt ≠ 41 := by omega
  have c33 := nz_bx hB (k := 33) (lo := 0) (hi := 400) rfl
  have q85 : (sy_ai F 39).getD (sy_i F 33).toNatClampNeg 0 = (sy_ai F 39).getD ((sy_i F 33).toInt).toNat 0 := by simp only [nz_c]
  have n85 : ((sy_ai F 39).getD (sy_i F 33).toNatClampNeg 0).toInt = ((sy_ai F 39).getD ((sy_i F 33).toInt).toNat 0).toInt := congrArg Int32.toInt q85
  exact k0pu_137_p3 hd F X1 X2 hB (by first | exact g0 | (simp only [nz_c]; exact g0)) (by first | exact g1 | (simp only [nz_c]; exact g1)) (by first | exact g2 | (simp only [nz_c]; exact g2)) (by first | exact ⟨by omega, by omega⟩ | (simp only [nz_c]; exact ⟨by omega, by omega⟩)) (by first | exact g3 | (simp only [nz_c]; exact g3) | (rw [n85]; exact g3)) (fun F1 g e34 => k3 g0 g1 g2 g3 F1 (nz_in0 hB [34] (fun j hj hn => g j hj (by simp only [List.mem_cons, List.not_mem_nil, or_false, not_or] at hn; omega)) (List.forall_mem_cons.mpr ⟨fun t ht => (Option.some.inj ht) ▸ (nz_hz e34), List.forall_mem_nil _⟩)) (fun j hj hn => g j hj (by simp only [List.mem_cons, List.not_mem_nil, or_false, not_or] at hn; omega)) (nz_fi (g 33 (by decide) (by decide))) ((congrArg Int32.toInt (zz_i e34)).trans (by decide : ((1 : Int32)).toInt = 1)) (nz_fi (g 23 (by decide) (by decide))) (nz_fa (g 39 (by decide) (by decide))))
theorem k0pu_34_p0 {Ls : Nat} {xs : Nat → Int32} {d : Nat} {Q : Option Value → jm_h → Prop} (hd : 4 ≤ d) (F : Nat → sy_d) (X1 X2 : List jm_c) (hB : iv_in F iv_B0)
    (h0 : 512 ≤ (sy_i F 23).toInt)
    (h1 : 0 ≤ (sy_i F 33).toInt)
    (h2 : (sy_i F 33).toInt ≤ 400)
    (h3 : 0 ≤ (sy_i F 33).toInt ∧ (sy_i F 33).toInt < 401)
    (h4 : ((sy_ai F 39).getD (sy_i F 33).toNatClampNeg 0).toInt = (sy_i F 82).toInt)
    (h5 : (sy_i F 33).toInt < 400)
    (k : ∀ F1 : Nat → sy_d, (∀ j, j < 82 → j ≠ 33 → F1 j = F j) → F1 33 = .inl (.int ((sy_i F 33) + ((1 : Int32)))) → Q (some (.int ((1 : Int32)))) (sy_dh F1 X1 X2 (iv_H 0))) :
    hd_W Ls xs d jm_M40 Q (34, sy_dL F [some (.inl (.ref 30)), none, none, some (.inr (.inl 82)), none], sy_dS F [.inr (.inl 83), .inl (.ref 20)], sy_dh F X1 X2 (iv_H 0), 0, 0) := by
  refine hd_ret (s := 0) (nv := 84) (v := some (.inl (.int 1))) (uh := hd_ov (iv_id 0 iv_B0) [(33, .inl (.inr (.inl 85)))]) (f := true) (sp := []) (d0 := 3) (O := [true, false, false, true, true]) (T := [(30, [.inr (.inl 33)], [.inr (.inl 39)]), (0, [.inr (.inl 33), .inl (.int 1)], [])]) (P := [(4, .inl (.int 512), .inr (.inl 23)), (3, .inr (.inl 33), .inl (.int 0)), (3, .inl (.int 400), .inr (.inl 33)), (6, .inr (.inl 33), .inl (.ref 401)), (0, .inr (.inl 84), .inr (.inl 82)), (2, .inr (.inl 33), .inl (.int 400))]) jm_ok40 (by decide +kernel) (by decide +kernel) hd F X1 X2 (fun F' hF hs => ?_)
  have b23 := hd_b (F := F) (F' := F') (k := 23) (hF 23 (by decide))
  have b33 := hd_b (F := F) (F' := F') (k := 33) (hF 33 (by decide))
  have a39 := hd_ba (F := F) (F' := F') (k := 39) (hF 39 (by decide))
  have t84 : sy_dv F' (.inr (.inl 84)) = .int ((sy_ai F 39).getD (sy_i F 33).toNatClampNeg 0) := hd_rd (hs 0 _ rfl) b33 a39
  have b82 := hd_b (F := F) (F' := F') (k := 82) (hF 82 (by decide))
  have t85 : sy_dv F' (.inr (.inl 85)) = .int ((sy_i F 33) + ((1 : Int32))) := hd_o (hs 1 _ rfl) b33 rfl rfl
  have hB' : iv_in F' iv_B0 := iv_in_eq hB (fun j hj => hF j (Nat.lt_of_lt_of_le hj (by decide +kernel)))
  refine ⟨List.forall_mem_cons.mpr ⟨hd_p4 rfl b23 (by have hc : ((512) : Int32).toInt = 512 := (by decide); omega), List.forall_mem_cons.mpr ⟨hd_p3 b33 rfl (by have hc : ((0) : Int32).toInt = 0 := (by decide); omega), List.forall_mem_cons.mpr ⟨hd_p3 rfl b33 (by have hc : ((400) : Int32).toInt = 400 := (by decide); omega), List.forall_mem_cons.mpr ⟨hd_pb b33 (by first | exact h3 | exact h3), List.forall_mem_cons.mpr ⟨hd_p0 t84 b82 h4, List.forall_mem_cons.mpr ⟨hd_p2 b33 rfl (by have hc : ((400) : Int32).toInt = 400 := (by decide); omega), fun _ h => absurd h List.not_mem_nil⟩⟩⟩⟩⟩⟩, ?_⟩
  refine k _ ?_ ?_
  · exact fun j hj hn => (hd_keep hB' (Nat.lt_of_lt_of_le hj (by decide +kernel)) (by simp; omega)).trans (hF j (by omega))
  · exact hd_gi (x := .inr (.inl 85)) (by decide +kernel) t85
theorem k0pu_34_p1 {Ls : Nat} {xs : Nat → Int32} {d : Nat} {Q : Option Value → jm_h → Prop} (hd : 4 ≤ d) (F : Nat → sy_d) (X1 X2 : List jm_c) (hB : iv_in F iv_B0)
    (h0 : 512 ≤ (sy_i F 23).toInt)
    (h1 : 0 ≤ (sy_i F 33).toInt)
    (h2 : (sy_i F 33).toInt ≤ 400)
    (h3 : 0 ≤ (sy_i F 33).toInt ∧ (sy_i F 33).toInt < 401)
    (h4 : ((sy_ai F 39).getD (sy_i F 33).toNatClampNeg 0).toInt = (sy_i F 82).toInt)
    (h5 : 400 ≤ (sy_i F 33).toInt)
    (k : ∀ F1 : Nat → sy_d, (∀ j, j < 82 → j ≠ 34 → F1 j = F j) → F1 34 = .inl (.int ((2 : Int32))) → Q (some (.int ((0 : Int32)))) (sy_dh F1 X1 X2 (iv_H 0))) :
    hd_W Ls xs d jm_M40 Q (34, sy_dL F [some (.inl (.ref 30)), none, none, some (.inr (.inl 82)), none], sy_dS F [.inr (.inl 83), .inl (.ref 20)], sy_dh F X1 X2 (iv_H 0), 0, 0) := by
  refine hd_ret (s := 0) (nv := 84) (v := some (.inl (.int 0))) (uh := hd_ov (iv_id 0 iv_B0) [(34, .inl (.inl (.int 2)))]) (f := true) (sp := []) (d0 := 3) (O := [true, false, false, true, false]) (T := [(30, [.inr (.inl 33)], [.inr (.inl 39)])]) (P := [(4, .inl (.int 512), .inr (.inl 23)), (3, .inr (.inl 33), .inl (.int 0)), (3, .inl (.int 400), .inr (.inl 33)), (6, .inr (.inl 33), .inl (.ref 401)), (0, .inr (.inl 84), .inr (.inl 82)), (3, .inr (.inl 33), .inl (.int 400))]) jm_ok40 (by decide +kernel) (by decide +kernel) hd F X1 X2 (fun F' hF hs => ?_)
  have b23 := hd_b (F := F) (F' := F') (k := 23) (hF 23 (by decide))
  have b33 := hd_b (F := F) (F' := F') (k := 33) (hF 33 (by decide))
  have a39 := hd_ba (F := F) (F' := F') (k := 39) (hF 39 (by decide))
  have t84 : sy_dv F' (.inr (.inl 84)) = .int ((sy_ai F 39).getD (sy_i F 33).toNatClampNeg 0) := hd_rd (hs 0 _ rfl) b33 a39
  have b82 := hd_b (F := F) (F' := F') (k := 82) (hF 82 (by decide))
  have hB' : iv_in F' iv_B0 := iv_in_eq hB (fun j hj => hF j (Nat.lt_of_lt_of_le hj (by decide +kernel)))
  refine ⟨List.forall_mem_cons.mpr ⟨hd_p4 rfl b23 (by have hc : ((512) : Int32).toInt = 512 := (by decide); omega), List.forall_mem_cons.mpr ⟨hd_p3 b33 rfl (by have hc : ((0) : Int32).toInt = 0 := (by decide); omega), List.forall_mem_cons.mpr ⟨hd_p3 rfl b33 (by have hc : ((400) : Int32).toInt = 400 := (by decide); omega), List.forall_mem_cons.mpr ⟨hd_pb b33 (by first | exact h3 | exact h3), List.forall_mem_cons.mpr ⟨hd_p0 t84 b82 h4, List.forall_mem_cons.mpr ⟨hd_p3 b33 rfl (by have hc : ((400) : Int32).toInt = 400 := (by decide); omega), fun _ h => absurd h List.not_mem_nil⟩⟩⟩⟩⟩⟩, ?_⟩
  refine k _ ?_ ?_
  · exact fun j hj hn => (hd_keep hB' (Nat.lt_of_lt_of_le hj (by decide +kernel)) (by simp; omega)).trans (hF j (by omega))
  · exact hd_gi (x := .inl (.int 2)) (by decide +kernel) rfl
theorem k0pu_34_p2 {Ls : Nat} {xs : Nat → Int32} {d : Nat} {Q : Option Value → jm_h → Prop} (hd : 4 ≤ d) (F : Nat → sy_d) (X1 X2 : List jm_c) (hB : iv_in F iv_B0)
    (h0 : 512 ≤ (sy_i F 23).toInt)
    (h1 : 0 ≤ (sy_i F 33).toInt)
    (h2 : (sy_i F 33).toInt ≤ 400)
    (h3 : 0 ≤ (sy_i F 33).toInt ∧ (sy_i F 33).toInt < 401)
    (h4 : ((sy_ai F 39).getD (sy_i F 33).toNatClampNeg 0).toInt ≠ (sy_i F 82).toInt)
    (k : ∀ F1 : Nat → sy_d, (∀ j, j < 82 → j ≠ 34 → F1 j = F j) → F1 34 = .inl (.int ((1 : Int32))) → Q (some (.int ((0 : Int32)))) (sy_dh F1 X1 X2 (iv_H 0))) :
    hd_W Ls xs d jm_M40 Q (34, sy_dL F [some (.inl (.ref 30)), none, none, some (.inr (.inl 82)), none], sy_dS F [.inr (.inl 83), .inl (.ref 20)], sy_dh F X1 X2 (iv_H 0), 0, 0) := by
  refine hd_ret (s := 0) (nv := 84) (v := some (.inl (.int 0))) (uh := hd_ov (iv_id 0 iv_B0) [(34, .inl (.inl (.int 1)))]) (f := true) (sp := []) (d0 := 3) (O := [true, false, false, false]) (T := [(30, [.inr (.inl 33)], [.inr (.inl 39)])]) (P := [(4, .inl (.int 512), .inr (.inl 23)), (3, .inr (.inl 33), .inl (.int 0)), (3, .inl (.int 400), .inr (.inl 33)), (6, .inr (.inl 33), .inl (.ref 401)), (1, .inr (.inl 84), .inr (.inl 82))]) jm_ok40 (by decide +kernel) (by decide +kernel) hd F X1 X2 (fun F' hF hs => ?_)
  have b23 := hd_b (F := F) (F' := F') (k := 23) (hF 23 (by decide))
  have b33 := hd_b (F := F) (F' := F') (k := 33) (hF 33 (by decide))
  have a39 := hd_ba (F := F) (F' := F') (k := 39) (hF 39 (by decide))
  have t84 : sy_dv F' (.inr (.inl 84)) = .int ((sy_ai F 39).getD (sy_i F 33).toNatClampNeg 0) := hd_rd (hs 0 _ rfl) b33 a39
  have b82 := hd_b (F := F) (F' := F') (k := 82) (hF 82 (by decide))
  have hB' : iv_in F' iv_B0 := iv_in_eq hB (fun j hj => hF j (Nat.lt_of_lt_of_le hj (by decide +kernel)))
  refine ⟨List.forall_mem_cons.mpr ⟨hd_p4 rfl b23 (by have hc : ((512) : Int32).toInt = 512 := (by decide); omega), List.forall_mem_cons.mpr ⟨hd_p3 b33 rfl (by have hc : ((0) : Int32).toInt = 0 := (by decide); omega), List.forall_mem_cons.mpr ⟨hd_p3 rfl b33 (by have hc : ((400) : Int32).toInt = 400 := (by decide); omega), List.forall_mem_cons.mpr ⟨hd_pb b33 (by first | exact h3 | exact h3), List.forall_mem_cons.mpr ⟨hd_p1 t84 b82 h4, fun _ h => absurd h List.not_mem_nil⟩⟩⟩⟩⟩, ?_⟩
  refine k _ ?_ ?_
  · exact fun j hj hn => (hd_keep hB' (Nat.lt_of_lt_of_le hj (by decide +kernel)) (by simp; omega)).trans (hF j (by omega))
  · exact hd_gi (x := .inl (.int 1)) (by decide +kernel) rfl
theorem k0pu_34_p3 {Ls : Nat} {xs : Nat → Int32} {d : Nat} {Q : Option Value → jm_h → Prop} (hd : 4 ≤ d) (F : Nat → sy_d) (X1 X2 : List jm_c) (hB : iv_in F iv_B0)
    (h0 : (sy_i F 23).toInt < 512)
    (h1 : 0 ≤ (sy_i F 23).toInt ∧ (sy_i F 23).toInt < 512)
    (h2 : 0 ≤ (sy_i F 33).toInt)
    (h3 : (sy_i F 33).toInt ≤ 400)
    (h4 : 0 ≤ (sy_i F 33).toInt ∧ (sy_i F 33).toInt < 401)
    (h5 : ((sy_ai F 39).getD (sy_i F 33).toNatClampNeg 0).toInt = (sy_i F 82).toInt)
    (h6 : (sy_i F 33).toInt < 400)
    (k : ∀ F1 : Nat → sy_d, (∀ j, j < 82 → j ≠ 23 ∧ j ≠ 32 ∧ j ≠ 33 → F1 j = F j) → F1 23 = .inl (.int ((sy_i F 23) + ((1 : Int32)))) → F1 32 = .inr (.inl (jm_upd (sy_ai F 32) (sy_i F 23).toNatClampNeg (sy_i F 83))) → F1 33 = .inl (.int ((sy_i F 33) + ((1 : Int32)))) → Q (some (.int ((1 : Int32)))) (sy_dh F1 X1 X2 (iv_H 0))) :
    hd_W Ls xs d jm_M40 Q (34, sy_dL F [some (.inl (.ref 30)), none, none, some (.inr (.inl 82)), none], sy_dS F [.inr (.inl 83), .inl (.ref 20)], sy_dh F X1 X2 (iv_H 0), 0, 0) := by
  refine hd_ret (s := 0) (nv := 84) (v := some (.inl (.int 1))) (uh := hd_ov (iv_id 0 iv_B0) [(23, .inl (.inr (.inl 85))), (32, .inr (.inr (.inl 84))), (33, .inl (.inr (.inl 87)))]) (f := true) (sp := []) (d0 := 3) (O := [false, false, false, true, true]) (T := [(40, [.inr (.inl 23), .inr (.inl 83)], [.inr (.inl 32)]), (0, [.inr (.inl 23), .inl (.int 1)], []), (30, [.inr (.inl 33)], [.inr (.inl 39)]), (0, [.inr (.inl 33), .inl (.int 1)], [])]) (P := [(5, .inl (.int 512), .inr (.inl 23)), (6, .inr (.inl 23), .inl (.ref 512)), (3, .inr (.inl 33), .inl (.int 0)), (3, .inl (.int 400), .inr (.inl 33)), (6, .inr (.inl 33), .inl (.ref 401)), (0, .inr (.inl 86), .inr (.inl 82)), (2, .inr (.inl 33), .inl (.int 400))]) jm_ok40 (by decide +kernel) (by decide +kernel) hd F X1 X2 (fun F' hF hs => ?_)
  have b23 := hd_b (F := F) (F' := F') (k := 23) (hF 23 (by decide))
  have b33 := hd_b (F := F) (F' := F') (k := 33) (hF 33 (by decide))
  have a39 := hd_ba (F := F) (F' := F') (k := 39) (hF 39 (by decide))
  have t86 : sy_dv F' (.inr (.inl 86)) = .int ((sy_ai F 39).getD (sy_i F 33).toNatClampNeg 0) := hd_rd (hs 2 _ rfl) b33 a39
  have b82 := hd_b (F := F) (F' := F') (k := 82) (hF 82 (by decide))
  have t85 : sy_dv F' (.inr (.inl 85)) = .int ((sy_i F 23) + ((1 : Int32))) := hd_o (hs 1 _ rfl) b23 rfl rfl
  have b83 := hd_b (F := F) (F' := F') (k := 83) (hF 83 (by decide))
  have a32 := hd_ba (F := F) (F' := F') (k := 32) (hF 32 (by decide))
  have t84 : sy_da F' (.inr (.inl 84)) = .inl (jm_upd (sy_ai F 32) (sy_i F 23).toNatClampNeg (sy_i F 83)) := hd_up (hs 0 _ rfl) b23 b83 a32
  have t87 : sy_dv F' (.inr (.inl 87)) = .int ((sy_i F 33) + ((1 : Int32))) := hd_o (hs 3 _ rfl) b33 rfl rfl
  have hB' : iv_in F' iv_B0 := iv_in_eq hB (fun j hj => hF j (Nat.lt_of_lt_of_le hj (by decide +kernel)))
  refine ⟨List.forall_mem_cons.mpr ⟨hd_p5 rfl b23 (by have hc : ((512) : Int32).toInt = 512 := (by decide); omega), List.forall_mem_cons.mpr ⟨hd_pb b23 (by first | exact h1 | exact h1), List.forall_mem_cons.mpr ⟨hd_p3 b33 rfl (by have hc : ((0) : Int32).toInt = 0 := (by decide); omega), List.forall_mem_cons.mpr ⟨hd_p3 rfl b33 (by have hc : ((400) : Int32).toInt = 400 := (by decide); omega), List.forall_mem_cons.mpr ⟨hd_pb b33 (by first | exact h4 | exact h4), List.forall_mem_cons.mpr ⟨hd_p0 t86 b82 h5, List.forall_mem_cons.mpr ⟨hd_p2 b33 rfl (by have hc : ((400) : Int32).toInt = 400 := (by decide); omega), fun _ h => absurd h List.not_mem_nil⟩⟩⟩⟩⟩⟩⟩, ?_⟩
  refine k _ ?_ ?_ ?_ ?_
  · exact fun j hj hn => (hd_keep hB' (Nat.lt_of_lt_of_le hj (by decide +kernel)) (by simp; omega)).trans (hF j (by omega))
  · exact hd_gi (x := .inr (.inl 85)) (by decide +kernel) t85
  · exact hd_ga (a := .inr (.inl 84)) (by decide +kernel) t84
  · exact hd_gi (x := .inr (.inl 87)) (by decide +kernel) t87
theorem k0pu_34_p4 {Ls : Nat} {xs : Nat → Int32} {d : Nat} {Q : Option Value → jm_h → Prop} (hd : 4 ≤ d) (F : Nat → sy_d) (X1 X2 : List jm_c) (hB : iv_in F iv_B0)
    (h0 : (sy_i F 23).toInt < 512)
    (h1 : 0 ≤ (sy_i F 23).toInt ∧ (sy_i F 23).toInt < 512)
    (h2 : 0 ≤ (sy_i F 33).toInt)
    (h3 : (sy_i F 33).toInt ≤ 400)
    (h4 : 0 ≤ (sy_i F 33).toInt ∧ (sy_i F 33).toInt < 401)
    (h5 : ((sy_ai F 39).getD (sy_i F 33).toNatClampNeg 0).toInt = (sy_i F 82).toInt)
    (h6 : 400 ≤ (sy_i F 33).toInt)
    (k : ∀ F1 : Nat → sy_d, (∀ j, j < 82 → j ≠ 23 ∧ j ≠ 32 ∧ j ≠ 34 → F1 j = F j) → F1 23 = .inl (.int ((sy_i F 23) + ((1 : Int32)))) → F1 32 = .inr (.inl (jm_upd (sy_ai F 32) (sy_i F 23).toNatClampNeg (sy_i F 83))) → F1 34 = .inl (.int ((2 : Int32))) → Q (some (.int ((0 : Int32)))) (sy_dh F1 X1 X2 (iv_H 0))) :
    hd_W Ls xs d jm_M40 Q (34, sy_dL F [some (.inl (.ref 30)), none, none, some (.inr (.inl 82)), none], sy_dS F [.inr (.inl 83), .inl (.ref 20)], sy_dh F X1 X2 (iv_H 0), 0, 0) := by
  refine hd_ret (s := 0) (nv := 84) (v := some (.inl (.int 0))) (uh := hd_ov (iv_id 0 iv_B0) [(23, .inl (.inr (.inl 85))), (32, .inr (.inr (.inl 84))), (34, .inl (.inl (.int 2)))]) (f := true) (sp := []) (d0 := 3) (O := [false, false, false, true, false]) (T := [(40, [.inr (.inl 23), .inr (.inl 83)], [.inr (.inl 32)]), (0, [.inr (.inl 23), .inl (.int 1)], []), (30, [.inr (.inl 33)], [.inr (.inl 39)])]) (P := [(5, .inl (.int 512), .inr (.inl 23)), (6, .inr (.inl 23), .inl (.ref 512)), (3, .inr (.inl 33), .inl (.int 0)), (3, .inl (.int 400), .inr (.inl 33)), (6, .inr (.inl 33), .inl (.ref 401)), (0, .inr (.inl 86), .inr (.inl 82)), (3, .inr (.inl 33), .inl (.int 400))]) jm_ok40 (by decide +kernel) (by decide +kernel) hd F X1 X2 (fun F' hF hs => ?_)
  have b23 := hd_b (F := F) (F' := F') (k := 23) (hF 23 (by decide))
  have b33 := hd_b (F := F) (F' := F') (k := 33) (hF 33 (by decide))
  have a39 := hd_ba (F := F) (F' := F') (k := 39) (hF 39 (by decide))
  have t86 : sy_dv F' (.inr (.inl 86)) = .int ((sy_ai F 39).getD (sy_i F 33).toNatClampNeg 0) := hd_rd (hs 2 _ rfl) b33 a39
  have b82 := hd_b (F := F) (F' := F') (k := 82) (hF 82 (by decide))
  have t85 : sy_dv F' (.inr (.inl 85)) = .int ((sy_i F 23) + ((1 : Int32))) := hd_o (hs 1 _ rfl) b23 rfl rfl
  have b83 := hd_b (F := F) (F' := F') (k := 83) (hF 83 (by decide))
  have a32 := hd_ba (F := F) (F' := F') (k := 32) (hF 32 (by decide))
  have t84 : sy_da F' (.inr (.inl 84)) = .inl (jm_upd (sy_ai F 32) (sy_i F 23).toNatClampNeg (sy_i F 83)) := hd_up (hs 0 _ rfl) b23 b83 a32
  have hB' : iv_in F' iv_B0 := iv_in_eq hB (fun j hj => hF j (Nat.lt_of_lt_of_le hj (by decide +kernel)))
  refine ⟨List.forall_mem_cons.mpr ⟨hd_p5 rfl b23 (by have hc : ((512) : Int32).toInt = 512 := (by decide); omega), List.forall_mem_cons.mpr ⟨hd_pb b23 (by first | exact h1 | exact h1), List.forall_mem_cons.mpr ⟨hd_p3 b33 rfl (by have hc : ((0) : Int32).toInt = 0 := (by decide); omega), List.forall_mem_cons.mpr ⟨hd_p3 rfl b33 (by have hc : ((400) : Int32).toInt = 400 := (by decide); omega), List.forall_mem_cons.mpr ⟨hd_pb b33 (by first | exact h4 | exact h4), List.forall_mem_cons.mpr ⟨hd_p0 t86 b82 h5, List.forall_mem_cons.mpr ⟨hd_p3 b33 rfl (by have hc : ((400) : Int32).toInt = 400 := (by decide); omega), fun _ h => absurd h List.not_mem_nil⟩⟩⟩⟩⟩⟩⟩, ?_⟩
  refine k _ ?_ ?_ ?_ ?_
  · exact fun j hj hn => (hd_keep hB' (Nat.lt_of_lt_of_le hj (by decide +kernel)) (by simp; omega)).trans (hF j (by omega))
  · exact hd_gi (x := .inr (.inl 85)) (by decide +kernel) t85
  · exact hd_ga (a := .inr (.inl 84)) (by decide +kernel) t84
  · exact hd_gi (x := .inl (.int 2)) (by decide +kernel) rfl
theorem k0pu_34_p5 {Ls : Nat} {xs : Nat → Int32} {d : Nat} {Q : Option Value → jm_h → Prop} (hd : 4 ≤ d) (F : Nat → sy_d) (X1 X2 : List jm_c) (hB : iv_in F iv_B0)
    (h0 : (sy_i F 23).toInt < 512)
    (h1 : 0 ≤ (sy_i F 23).toInt ∧ (sy_i F 23).toInt < 512)
    (h2 : 0 ≤ (sy_i F 33).toInt)
    (h3 : (sy_i F 33).toInt ≤ 400)
    (h4 : 0 ≤ (sy_i F 33).toInt ∧ (sy_i F 33).toInt < 401)
    (h5 : ((sy_ai F 39).getD (sy_i F 33).toNatClampNeg 0).toInt ≠ (sy_i F 82).toInt)
    (k : ∀ F1 : Nat → sy_d, (∀ j, j < 82 → j ≠ 23 ∧ j ≠ 32 ∧ j ≠ 34 → F1 j = F j) → F1 23 = .inl (.int ((sy_i F 23) + ((1 : Int32)))) → F1 32 = .inr (.inl (jm_upd (sy_ai F 32) (sy_i F 23).toNatClampNeg (sy_i F 83))) → F1 34 = .inl (.int ((1 : Int32))) → Q (some (.int ((0 : Int32)))) (sy_dh F1 X1 X2 (iv_H 0))) :
    hd_W Ls xs d jm_M40 Q (34, sy_dL F [some (.inl (.ref 30)), none, none, some (.inr (.inl 82)), none], sy_dS F [.inr (.inl 83), .inl (.ref 20)], sy_dh F X1 X2 (iv_H 0), 0, 0) := by
  refine hd_ret (s := 0) (nv := 84) (v := some (.inl (.int 0))) (uh := hd_ov (iv_id 0 iv_B0) [(23, .inl (.inr (.inl 85))), (32, .inr (.inr (.inl 84))), (34, .inl (.inl (.int 1)))]) (f := true) (sp := []) (d0 := 3) (O := [false, false, false, false]) (T := [(40, [.inr (.inl 23), .inr (.inl 83)], [.inr (.inl 32)]), (0, [.inr (.inl 23), .inl (.int 1)], []), (30, [.inr (.inl 33)], [.inr (.inl 39)])]) (P := [(5, .inl (.int 512), .inr (.inl 23)), (6, .inr (.inl 23), .inl (.ref 512)), (3, .inr (.inl 33), .inl (.int 0)), (3, .inl (.int 400), .inr (.inl 33)), (6, .inr (.inl 33), .inl (.ref 401)), (1, .inr (.inl 86), .inr (.inl 82))]) jm_ok40 (by decide +kernel) (by decide +kernel) hd F X1 X2 (fun F' hF hs => ?_)
  have b23 := hd_b (F := F) (F' := F') (k := 23) (hF 23 (by decide))
  have b33 := hd_b (F := F) (F' := F') (k := 33) (hF 33 (by decide))
  have a39 := hd_ba (F := F) (F' := F') (k := 39) (hF 39 (by decide))
  have t86 : sy_dv F' (.inr (.inl 86)) = .int ((sy_ai F 39).getD (sy_i F 33).toNatClampNeg 0) := hd_rd (hs 2 _ rfl) b33 a39
  have b82 := hd_b (F := F) (F' := F') (k := 82) (hF 82 (by decide))
  have t85 : sy_dv F' (.inr (.inl 85)) = .int ((sy_i F 23) + ((1 : Int32))) := hd_o (hs 1 _ rfl) b23 rfl rfl
  have b83 := hd_b (F := F) (F' := F') (k := 83) (hF 83 (by decide))
  have a32 := hd_ba (F := F) (F' := F') (k := 32) (hF 32 (by decide))
  have t84 : sy_da F' (.inr (.inl 84)) = .inl (jm_upd (sy_ai F 32) (sy_i F 23).toNatClampNeg (sy_i F 83)) := hd_up (hs 0 _ rfl) b23 b83 a32
  have hB' : iv_in F' iv_B0 := iv_in_eq hB (fun j hj => hF j (Nat.lt_of_lt_of_le hj (by decide +kernel)))
  refine ⟨List.forall_mem_cons.mpr ⟨hd_p5 rfl b23 (by have hc : ((512) : Int32).toInt = 512 := (by decide); omega), List.forall_mem_cons.mpr ⟨hd_pb b23 (by first | exact h1 | exact h1), List.forall_mem_cons.mpr ⟨hd_p3 b33 rfl (by have hc : ((0) : Int32).toInt = 0 := (by decide); omega), List.forall_mem_cons.mpr ⟨hd_p3 rfl b33 (by have hc : ((400) : Int32).toInt = 400 := (by decide); omega), List.forall_mem_cons.mpr ⟨hd_pb b33 (by first | exact h4 | exact h4), List.forall_mem_cons.mpr ⟨hd_p1 t86 b82 h5, fun _ h => absurd h List.not_mem_nil⟩⟩⟩⟩⟩⟩, ?_⟩
  refine k _ ?_ ?_ ?_ ?_
  · exact fun j hj hn => (hd_keep hB' (Nat.lt_of_lt_of_le hj (by decide +kernel)) (by simp; omega)).trans (hF j (by omega))
  · exact hd_gi (x := .inr (.inl 85)) (by decide +kernel) t85
  · exact hd_ga (a := .inr (.inl 84)) (by decide +kernel) t84
  · exact hd_gi (x := .inl (.int 1)) (by decide +kernel) rfl
theorem k0pu_34 {Ls : Nat} {xs : Nat → Int32} {d : Nat} {Q : Option Value → jm_h → Prop} (hd : 4 ≤ d) (F : Nat → sy_d) (X1 X2 : List jm_c) (hB : iv_in F iv_B0)
    (a83 : (-100) ≤ (sy_i F 83).toInt ∧ (sy_i F 83).toInt ≤ 9999)
    (k0 : 512 ≤ (sy_i F 23).toInt → 0 ≤ (sy_i F 33).toInt → (sy_i F 33).toInt ≤ 400 → ((sy_ai F 39).getD ((sy_i F 33).toInt).toNat 0).toInt = (sy_i F 82).toInt → (sy_i F 33).toInt < 400 → ∀ F1 : Nat → sy_d, iv_in F1 iv_B0 → (∀ j, j < 82 → j ∉ ([33] : List Nat) → F1 j = F j) → (sy_i F1 33).toInt = ((sy_i F 33).toInt + 1) → (sy_i F1 34).toInt = (sy_i F 34).toInt → (sy_i F1 23).toInt = (sy_i F 23).toInt → sy_ai F1 39 = sy_ai F 39 → Q (some (.int ((1 : Int32)))) (sy_dh F1 X1 X2 (iv_H 0)))
    (k1 : 512 ≤ (sy_i F 23).toInt → 0 ≤ (sy_i F 33).toInt → (sy_i F 33).toInt ≤ 400 → ((sy_ai F 39).getD ((sy_i F 33).toInt).toNat 0).toInt = (sy_i F 82).toInt → 400 ≤ (sy_i F 33).toInt → ∀ F1 : Nat → sy_d, iv_in F1 iv_B0 → (∀ j, j < 82 → j ∉ ([34] : List Nat) → F1 j = F j) → (sy_i F1 33).toInt = (sy_i F 33).toInt → (sy_i F1 34).toInt = 2 → (sy_i F1 23).toInt = (sy_i F 23).toInt → sy_ai F1 39 = sy_ai F 39 → Q (some (.int ((0 : Int32)))) (sy_dh F1 X1 X2 (iv_H 0)))
    (k2 : 512 ≤ (sy_i F 23).toInt → 0 ≤ (sy_i F 33).toInt → (sy_i F 33).toInt ≤ 400 → ((sy_ai F 39).getD ((sy_i F 33).toInt).toNat 0).toInt ≠ (sy_i F 82).toInt → ∀ F1 : Nat → sy_d, iv_in F1 iv_B0 → (∀ j, j < 82 → j ∉ ([34] : List Nat) → F1 j = F j) → (sy_i F1 33).toInt = (sy_i F 33).toInt → (sy_i F1 34).toInt = 1 → (sy_i F1 23).toInt = (sy_i F 23).toInt → sy_ai F1 39 = sy_ai F 39 → Q (some (.int ((0 : Int32)))) (sy_dh F1 X1 X2 (iv_H 0)))
    (k3 : (sy_i F 23).toInt < 512 → 0 ≤ (sy_i F 33).toInt → (sy_i F 33).toInt ≤ 400 → ((sy_ai F 39).getD ((sy_i F 33).toInt).toNat 0).toInt = (sy_i F 82).toInt → (sy_i F 33).toInt < 400 → ∀ F1 : Nat → sy_d, iv_in F1 iv_B0 → (∀ j, j < 82 → j ∉ ([23, 32, 33] : List Nat) → F1 j = F j) → (sy_i F1 33).toInt = ((sy_i F 33).toInt + 1) → (sy_i F1 34).toInt = (sy_i F 34).toInt → (sy_i F1 23).toInt = ((sy_i F 23).toInt + 1) → sy_ai F1 39 = sy_ai F 39 → Q (some (.int ((1 : Int32)))) (sy_dh F1 X1 X2 (iv_H 0)))
    (k4 : (sy_i F 23).toInt < 512 → 0 ≤ (sy_i F 33).toInt → (sy_i F 33).toInt ≤ 400 → ((sy_ai F 39).getD ((sy_i F 33).toInt).toNat 0).toInt = (sy_i F 82).toInt → 400 ≤ (sy_i F 33).toInt → ∀ F1 : Nat → sy_d, iv_in F1 iv_B0 → (∀ j, j < 82 → j ∉ ([23, 32, 34] : List Nat) → F1 j = F j) → (sy_i F1 33).toInt = (sy_i F 33).toInt → (sy_i F1 34).toInt = 2 → (sy_i F1 23).toInt = ((sy_i F 23).toInt + 1) → sy_ai F1 39 = sy_ai F 39 → Q (some (.int ((0 : Int32)))) (sy_dh F1 X1 X2 (iv_H 0)))
    (k5 : (sy_i F 23).toInt < 512 → 0 ≤ (sy_i F 33).toInt → (sy_i F 33).toInt ≤ 400 → ((sy_ai F 39).getD ((sy_i F 33).toInt).toNat 0).toInt ≠ (sy_i F 82).toInt → ∀ F1 : Nat → sy_d, iv_in F1 iv_B0 → (∀ j, j < 82 → j ∉ ([23, 32, 34] : List Nat) → F1 j = F j) → (sy_i F1 33).toInt = (sy_i F 33).toInt → (sy_i F1 34).toInt = 1 → (sy_i F1 23).toInt = ((sy_i F 23).toInt + 1) → sy_ai F1 39 = sy_ai F 39 → Q (some (.int ((0 : Int32)))) (sy_dh F1 X1 X2 (iv_H 0))) :
    hd_W Ls xs d jm_M40 Q (34, sy_dL F [some (.inl (.ref 30)), none, none, some (.inr (.inl 82)), none], sy_dS F [.inr (.inl 83), .inl (.ref 20)], sy_dh F X1 X2 (iv_H 0), 0, 0) := by
  by_cases g0 : 512 ≤ (sy_i F 23).toInt
  · by_cases g1 : (sy_i F 33).toInt < 0
    · have c23 := nz_bx hB (k := 23) (lo := 0) (hi := 512) rfl
      have c33 := nz_bx hB (k := 33) (lo := 0) (hi := 400) rfl
      exfalso
      omega
    replace g1 : 0 ≤ (sy_i F 33).toInt := by omega
    by_cases g2 : 400 < (sy_i F 33).toInt
    · have c23 := nz_bx hB (k := 23) (lo := 0) (hi := 512) rfl
      have c33 := nz_bx hB (k := 33) (lo := 0) (hi := 400) rfl
      exfalso
      omega
    replace g2 : (sy_i F 33).toInt ≤ 400 := by omega
    by_cases g3 : ((sy_ai F 39).getD ((sy_i F 33).toInt).toNat 0).toInt = (sy_i F 82).toInt
    · by_cases g4 : (sy_i F 33).toInt < 400
      · have c23 := nz_bx hB (k := 23) (lo := 0) (hi := 512) rfl
        have c33 := nz_bx hB (k := 33) (lo := 0) (hi := 400) rfl
        have q84 : (sy_ai F 39).getD (sy_i F 33).toNatClampNeg 0 = (sy_ai F 39).getD ((sy_i F 33).toInt).toNat 0 := by simp only [nz_c]
        have n84 : ((sy_ai F 39).getD (sy_i F 33).toNatClampNeg 0).toInt = ((sy_ai F 39).getD ((sy_i F 33).toInt).toNat 0).toInt := congrArg Int32.toInt q84
        have n85 : ((sy_i F 33) + ((1 : Int32))).toInt = ((sy_i F 33).toInt + 1) := nz_add (rfl : (sy_i F 33).toInt = (sy_i F 33).toInt) (by decide : ((1 : Int32)).toInt = 1) (by omega) (by omega)
        exact k0pu_34_p0 hd F X1 X2 hB (by first | exact g0 | (simp only [nz_c]; exact g0)) (by first | exact g1 | (simp only [nz_c]; exact g1)) (by first | exact g2 | (simp only [nz_c]; exact g2)) (by first | exact ⟨by omega, by omega⟩ | (simp only [nz_c]; exact ⟨by omega, by omega⟩)) (by first | exact g3 | (simp only [nz_c]; exact g3) | (rw [n84]; exact g3)) (by first | exact g4 | (simp only [nz_c]; exact g4)) (fun F1 g e33 => k0 g0 g1 g2 g3 g4 F1 (nz_in0 hB [33] (fun j hj hn => g j hj (by simp only [List.mem_cons, List.not_mem_nil, or_false, not_or] at hn; omega)) (List.forall_mem_cons.mpr ⟨fun t ht => (Option.some.inj ht) ▸ (nz_hi e33 n85 (by omega) (by omega)), List.forall_mem_nil _⟩)) (fun j hj hn => g j hj (by simp only [List.mem_cons, List.not_mem_nil, or_false, not_or] at hn; omega)) ((congrArg Int32.toInt (zz_i e33)).trans n85) (nz_fi (g 34 (by decide) (by decide))) (nz_fi (g 23 (by decide) (by decide))) (nz_fa (g 39 (by decide) (by decide))))
      replace g4 : 400 ≤ (sy_i F 33).toInt := by omega
      have c23 := nz_bx hB (k := 23) (lo := 0) (hi := 512) rfl
      have c33 := nz_bx hB (k := 33) (lo := 0) (hi := 400) rfl
      have q84 : (sy_ai F 39).getD (sy_i F 33).toNatClampNeg 0 = (sy_ai F 39).getD ((sy_i F 33).toInt).toNat 0 := by simp only [nz_c]
      have n84 : ((sy_ai F 39).getD (sy_i F 33).toNatClampNeg 0).toInt = ((sy_ai F 39).getD ((sy_i F 33).toInt).toNat 0).toInt := congrArg Int32.toInt q84
      exact k0pu_34_p1 hd F X1 X2 hB (by first | exact g0 | (simp only [nz_c]; exact g0)) (by first | exact g1 | (simp only [nz_c]; exact g1)) (by first | exact g2 | (simp only [nz_c]; exact g2)) (by first | exact ⟨by omega, by omega⟩ | (simp only [nz_c]; exact ⟨by omega, by omega⟩)) (by first | exact g3 | (simp only [nz_c]; exact g3) | (rw [n84]; exact g3)) (by first | exact g4 | (simp only [nz_c]; exact g4)) (fun F1 g e34 => k1 g0 g1 g2 g3 g4 F1 (nz_in0 hB [34] (fun j hj hn => g j hj (by simp only [List.mem_cons, List.not_mem_nil, or_false, not_or] at hn; omega)) (List.forall_mem_cons.mpr ⟨fun t ht => (Option.some.inj ht) ▸ (nz_hz e34), List.forall_mem_nil _⟩)) (fun j hj hn => g j hj (by simp only [List.mem_cons, List.not_mem_nil, or_false, not_or] at hn; omega)) (nz_fi (g 33 (by decide) (by decide))) ((congrArg Int32.toInt (zz_i e34)).trans (by decide : ((2 : Int32)).toInt = 2)) (nz_fi (g 23 (by decide) (by decide))) (nz_fa (g 39 (by decide) (by decide))))
    replace g3 : ((sy_ai F 39).getD ((sy_i F 33).toInt).toNat 0).toInt ≠ (sy_i F 82).toInt := by omega
    have c23 := nz_bx hB (k := 23) (lo := 0) (hi := 512) rfl
    have c33 := nz_bx hB (k := 33) (lo := 0) (hi := 400) rfl
    have q84 : (sy_ai F 39).getD (sy_i F 33).toNatClampNeg 0 = (sy_ai F 39).getD ((sy_i F 33).toInt).toNat 0 := by simp only [nz_c]
    have n84 : ((sy_ai F 39).getD (sy_i F 33).toNatClampNeg 0).toInt = ((sy_ai F 39).getD ((sy_i F 33).toInt).toNat 0).toInt := congrArg Int32.toInt q84
    exact k0pu_34_p2 hd F X1 X2 hB (by first | exact g0 | (simp only [nz_c]; exact g0)) (by first | exact g1 | (simp only [nz_c]; exact g1)) (by first | exact g2 | (simp only [nz_c]; exact g2)) (by first | exact ⟨by omega, by omega⟩ | (simp only [nz_c]; exact ⟨by omega, by omega⟩)) (by first | exact g3 | (simp only [nz_c]; exact g3) | (rw [n84]; exact g3)) (fun F1 g e34 => k2 g0 g1 g2 g3 F1 (nz_in0 hB [34] (fun j hj hn => g j hj (by simp only [List.mem_cons, List.not_mem_nil, or_false, not_or] at hn; omega)) (List.forall_mem_cons.mpr ⟨fun t ht => (Option.some.inj ht) ▸ (nz_hz e34), List.forall_mem_nil _⟩)) (fun j hj hn => g j hj (by simp only [List.mem_cons, List.not_mem_nil, or_false, not_or] at hn; omega)) (nz_fi (g 33 (by decide) (by decide))) ((congrArg Int32.toInt (zz_i e34)).trans (by decide : ((1 : Int32)).toInt = 1)) (nz_fi (g 23 (by decide) (by decide))) (nz_fa (g 39 (by decide) (by decide))))
  replace g0 : (sy_i F 23).toInt < 512 := by omega
  by_cases g1 : (sy_i F 33).toInt < 0
  · have c23 := nz_bx hB (k := 23) (lo := 0) (hi := 512) rfl
    have c33 := nz_bx hB (k := 33) (lo := 0) (hi := 400) rfl
    exfalso
    omega
  replace g1 : 0 ≤ (sy_i F 33).toInt := by omega
  by_cases g2 : 400 < (sy_i F 33).toInt
  · have c23 := nz_bx hB (k := 23) (lo := 0) (hi := 512) rfl
    have c33 := nz_bx hB (k := 33) (lo := 0) (hi := 400) rfl
    exfalso
    omega
  replace g2 : (sy_i F 33).toInt ≤ 400 := by omega
  by_cases g3 : ((sy_ai F 39).getD ((sy_i F 33).toInt).toNat 0).toInt = (sy_i F 82).toInt
  · by_cases g4 : (sy_i F 33).toInt < 400
    · have c23 := nz_bx hB (k := 23) (lo := 0) (hi := 512) rfl
      have c33 := nz_bx hB (k := 33) (lo := 0) (hi := 400) rfl
      have q86 : (sy_ai F 39).getD (sy_i F 33).toNatClampNeg 0 = (sy_ai F 39).getD ((sy_i F 33).toInt).toNat 0 := by simp only [nz_c]
      have n86 : ((sy_ai F 39).getD (sy_i F 33).toNatClampNeg 0).toInt = ((sy_ai F 39).getD ((sy_i F 33).toInt).toNat 0).toInt := congrArg Int32.toInt q86
      have n85 : ((sy_i F 23) + ((1 : Int32))).toInt = ((sy_i F 23).toInt + 1) := nz_add (rfl : (sy_i F 23).toInt = (sy_i F 23).toInt) (by decide : ((1 : Int32)).toInt = 1) (by omega) (by omega)
      have n87 : ((sy_i F 33) + ((1 : Int32))).toInt = ((sy_i F 33).toInt + 1) := nz_add (rfl : (sy_i F 33).toInt = (sy_i F 33).toInt) (by decide : ((1 : Int32)).toInt = 1) (by omega) (by omega)
      exact k0pu_34_p3 hd F X1 X2 hB (by first | exact g0 | (simp only [nz_c]; exact g0)) (by first | exact ⟨by omega, by omega⟩ | (simp only [nz_c]; exact ⟨by omega, by omega⟩)) (by first | exact g1 | (simp only [nz_c]; exact g1)) (by first | exact g2 | (simp only [nz_c]; exact g2)) (by first | exact ⟨by omega, by omega⟩ | (simp only [nz_c]; exact ⟨by omega, by omega⟩)) (by first | exact g3 | (simp only [nz_c]; exact g3) | (rw [n86]; exact g3)) (by first | exact g4 | (simp only [nz_c]; exact g4)) (fun F1 g e23 e32 e33 => k3 g0 g1 g2 g3 g4 F1 (nz_in0 hB [23, 32, 33] (fun j hj hn => g j hj (by simp only [List.mem_cons, List.not_mem_nil, or_false, not_or] at hn; omega)) (List.forall_mem_cons.mpr ⟨fun t ht => (Option.some.inj ht) ▸ (nz_hi e23 n85 (by omega) (by omega)), List.forall_mem_cons.mpr ⟨fun t ht => (Option.some.inj ht) ▸ (nz_hA e32 (nz_up (nz_ba hB (k := 32) (lo := (-2147483648)) (hi := 2147483646) rfl) (rfl : (sy_i F 83).toInt = (sy_i F 83).toInt) (by omega) (by omega))), List.forall_mem_cons.mpr ⟨fun t ht => (Option.some.inj ht) ▸ (nz_hi e33 n87 (by omega) (by omega)), List.forall_mem_nil _⟩⟩⟩)) (fun j hj hn => g j hj (by simp only [List.mem_cons, List.not_mem_nil, or_false, not_or] at hn; omega)) ((congrArg Int32.toInt (zz_i e33)).trans n87) (nz_fi (g 34 (by decide) (by decide))) ((congrArg Int32.toInt (zz_i e23)).trans n85) (nz_fa (g 39 (by decide) (by decide))))
    replace g4 : 400 ≤ (sy_i F 33).toInt := by omega
    have c23 := nz_bx hB (k := 23) (lo := 0) (hi := 512) rfl
    have c33 := nz_bx hB (k := 33) (lo := 0) (hi := 400) rfl
    have q86 : (sy_ai F 39).getD (sy_i F 33).toNatClampNeg 0 = (sy_ai F 39).getD ((sy_i F 33).toInt).toNat 0 := by simp only [nz_c]
    have n86 : ((sy_ai F 39).getD (sy_i F 33).toNatClampNeg 0).toInt = ((sy_ai F 39).getD ((sy_i F 33).toInt).toNat 0).toInt := congrArg Int32.toInt q86
    have n85 : ((sy_i F 23) + ((1 : Int32))).toInt = ((sy_i F 23).toInt + 1) := nz_add (rfl : (sy_i F 23).toInt = (sy_i F 23).toInt) (by decide : ((1 : Int32)).toInt = 1) (by omega) (by omega)
    exact k0pu_34_p4 hd F X1 X2 hB (by first | exact g0 | (simp only [nz_c]; exact g0)) (by first | exact ⟨by omega, by omega⟩ | (simp only [nz_c]; exact ⟨by omega, by omega⟩)) (by first | exact g1 | (simp only [nz_c]; exact g1)) (by first | exact g2 | (simp only [nz_c]; exact g2)) (by first | exact ⟨by omega, by omega⟩ | (simp only [nz_c]; exact ⟨by omega, by omega⟩)) (by first | exact g3 | (simp only [nz_c]; exact g3) | (rw [n86]; exact g3)) (by first | exact g4 | (simp only [nz_c]; exact g4)) (fun F1 g e23 e32 e34 => k4 g0 g1 g2 g3 g4 F1 (nz_in0 hB [23, 32, 34] (fun j hj hn => g j hj (by simp only [List.mem_cons, List.not_mem_nil, or_false, not_or] at hn; omega)) (List.forall_mem_cons.mpr ⟨fun t ht => (Option.some.inj ht) ▸ (nz_hi e23 n85 (by omega) (by omega)), List.forall_mem_cons.mpr ⟨fun t ht => (Option.some.inj ht) ▸ (nz_hA e32 (nz_up (nz_ba hB (k := 32) (lo := (-2147483648)) (hi := 2147483646) rfl) (rfl : (sy_i F 83).toInt = (sy_i F 83).toInt) (by omega) (by omega))), List.forall_mem_cons.mpr ⟨fun t ht => (Option.some.inj ht) ▸ (nz_hz e34), List.forall_mem_nil _⟩⟩⟩)) (fun j hj hn => g j hj (by simp only [List.mem_cons, List.not_mem_nil, or_false, not_or] at hn; omega)) (nz_fi (g 33 (by decide) (by decide))) ((congrArg Int32.toInt (zz_i e34)).trans (by decide : ((2 : Int32)).toInt = 2)) ((congrArg Int32.toInt (zz_i e23)).trans n85) (nz_fa (g 39 (by decide) (by decide))))
  replace g3 : ((sy_ai F 39).getD ((sy_i F 33).toInt).toNat 0).toInt ≠ (sy_i F 82).toInt := by omega
  have c23 := nz_bx hB (k := 23) (lo := 0) (hi := 512) rfl
  have c33 := nz_bx hB (k := 33) (lo := 0) (hi := 400) rfl
  have q86 : (sy_ai F 39).getD (sy_i F 33).toNatClampNeg 0 = (sy_ai F 39).getD ((sy_i F 33).toInt).toNat 0 := by simp only [nz_c]
  have n86 : ((sy_ai F 39).getD (sy_i F 33).toNatClampNeg 0).toInt = ((sy_ai F 39).getD ((sy_i F 33).toInt).toNat 0).toInt := congrArg Int32.toInt q86
  have n85 : ((sy_i F 23) + ((1 : Int32))).toInt = ((sy_i F 23).toInt + 1) := nz_add (rfl : (sy_i F 23).toInt = (sy_i F 23).toInt) (by decide : ((1 : Int32)).toInt = 1) (by omega) (by omega)
  exact k0pu_34_p5 hd F X1 X2 hB (by first | exact g0 | (simp only [nz_c]; exact g0)) (by first | exact ⟨by omega, by omega⟩ | (simp only [nz_c]; exact ⟨by omega, by omega⟩)) (by first | exact g1 | (simp only [nz_c]; exact g1)) (by first | exact g2 | (simp only [nz_c]; exact g2)) (by first | exact ⟨by omega, by omega⟩ | (simp only [nz_c]; exact ⟨by omega, by omega⟩)) (by first | exact g3 | (simp only [nz_c]; exact g3) | (rw [n86]; exact g3)) (fun F1 g e23 e32 e34 => k5 g0 g1 g2 g3 F1 (nz_in0 hB [23, 32, 34] (fun j hj hn => g j hj (by simp only [List.mem_cons, List.not_mem_nil, or_false, not_or] at hn; omega)) (List.forall_mem_cons.mpr ⟨fun t ht => (Option.some.inj ht) ▸ (nz_hi e23 n85 (by omega) (by omega)), List.forall_mem_cons.mpr ⟨fun t ht => (Option.some.inj ht) ▸ (nz_hA e32 (nz_up (nz_ba hB (k := 32) (lo := (-2147483648)) (hi := 2147483646) rfl) (rfl : (sy_i F 83).toInt = (sy_i F 83).toInt) (by omega) (by omega))), List.forall_mem_cons.mpr ⟨fun t ht => (Option.some.inj ht) ▸ (nz_hz e34), List.forall_mem_nil _⟩⟩⟩)) (fun j hj hn => g j hj (by simp only [List.mem_cons, List.not_mem_nil, or_false, not_or] at hn; omega)) (nz_fi (g 33 (by decide) (by decide))) ((congrArg Int32.toInt (zz_i e34)).trans (by decide : ((1 : Int32)).toInt = 1)) ((congrArg Int32.toInt (zz_i e23)).trans n85) (nz_fa (g 39 (by decide) (by decide))))
theorem k0pu_88_p0 {Ls : Nat} {xs : Nat → Int32} {d : Nat} {Q : Option Value → jm_h → Prop} (hd : 4 ≤ d) (F : Nat → sy_d) (X1 X2 : List jm_c) (hB : iv_in F iv_B0)
    (h0 : 512 ≤ (sy_i F 23).toInt)
    (h1 : 0 ≤ (sy_i F 33).toInt)
    (h2 : (sy_i F 33).toInt ≤ 400)
    (h3 : 0 ≤ (sy_i F 33).toInt ∧ (sy_i F 33).toInt < 401)
    (h4 : ((sy_ai F 39).getD (sy_i F 33).toNatClampNeg 0).toInt = (sy_i F 82).toInt)
    (h5 : (sy_i F 33).toInt < 400)
    (k : ∀ F1 : Nat → sy_d, (∀ j, j < 82 → j ≠ 33 → F1 j = F j) → F1 33 = .inl (.int ((sy_i F 33) + ((1 : Int32)))) → Q (some (.int ((1 : Int32)))) (sy_dh F1 X1 X2 (iv_H 0))) :
    hd_W Ls xs d jm_M40 Q (88, sy_dL F [some (.inl (.ref 30)), none, none, some (.inr (.inl 82)), none], sy_dS F [.inr (.inl 83), .inl (.ref 20)], sy_dh F X1 X2 (iv_H 0), 0, 0) := by
  refine hd_ret (s := 0) (nv := 84) (v := some (.inl (.int 1))) (uh := hd_ov (iv_id 0 iv_B0) [(33, .inl (.inr (.inl 85)))]) (f := true) (sp := []) (d0 := 3) (O := [true, false, false, true, true]) (T := [(30, [.inr (.inl 33)], [.inr (.inl 39)]), (0, [.inr (.inl 33), .inl (.int 1)], [])]) (P := [(4, .inl (.int 512), .inr (.inl 23)), (3, .inr (.inl 33), .inl (.int 0)), (3, .inl (.int 400), .inr (.inl 33)), (6, .inr (.inl 33), .inl (.ref 401)), (0, .inr (.inl 84), .inr (.inl 82)), (2, .inr (.inl 33), .inl (.int 400))]) jm_ok40 (by decide +kernel) (by decide +kernel) hd F X1 X2 (fun F' hF hs => ?_)
  have b23 := hd_b (F := F) (F' := F') (k := 23) (hF 23 (by decide))
  have b33 := hd_b (F := F) (F' := F') (k := 33) (hF 33 (by decide))
  have a39 := hd_ba (F := F) (F' := F') (k := 39) (hF 39 (by decide))
  have t84 : sy_dv F' (.inr (.inl 84)) = .int ((sy_ai F 39).getD (sy_i F 33).toNatClampNeg 0) := hd_rd (hs 0 _ rfl) b33 a39
  have b82 := hd_b (F := F) (F' := F') (k := 82) (hF 82 (by decide))
  have t85 : sy_dv F' (.inr (.inl 85)) = .int ((sy_i F 33) + ((1 : Int32))) := hd_o (hs 1 _ rfl) b33 rfl rfl
  have hB' : iv_in F' iv_B0 := iv_in_eq hB (fun j hj => hF j (Nat.lt_of_lt_of_le hj (by decide +kernel)))
  refine ⟨List.forall_mem_cons.mpr ⟨hd_p4 rfl b23 (by have hc : ((512) : Int32).toInt = 512 := (by decide); omega), List.forall_mem_cons.mpr ⟨hd_p3 b33 rfl (by have hc : ((0) : Int32).toInt = 0 := (by decide); omega), List.forall_mem_cons.mpr ⟨hd_p3 rfl b33 (by have hc : ((400) : Int32).toInt = 400 := (by decide); omega), List.forall_mem_cons.mpr ⟨hd_pb b33 (by first | exact h3 | exact h3), List.forall_mem_cons.mpr ⟨hd_p0 t84 b82 h4, List.forall_mem_cons.mpr ⟨hd_p2 b33 rfl (by have hc : ((400) : Int32).toInt = 400 := (by decide); omega), fun _ h => absurd h List.not_mem_nil⟩⟩⟩⟩⟩⟩, ?_⟩
  refine k _ ?_ ?_
  · exact fun j hj hn => (hd_keep hB' (Nat.lt_of_lt_of_le hj (by decide +kernel)) (by simp; omega)).trans (hF j (by omega))
  · exact hd_gi (x := .inr (.inl 85)) (by decide +kernel) t85
theorem k0pu_88_p1 {Ls : Nat} {xs : Nat → Int32} {d : Nat} {Q : Option Value → jm_h → Prop} (hd : 4 ≤ d) (F : Nat → sy_d) (X1 X2 : List jm_c) (hB : iv_in F iv_B0)
    (h0 : 512 ≤ (sy_i F 23).toInt)
    (h1 : 0 ≤ (sy_i F 33).toInt)
    (h2 : (sy_i F 33).toInt ≤ 400)
    (h3 : 0 ≤ (sy_i F 33).toInt ∧ (sy_i F 33).toInt < 401)
    (h4 : ((sy_ai F 39).getD (sy_i F 33).toNatClampNeg 0).toInt = (sy_i F 82).toInt)
    (h5 : 400 ≤ (sy_i F 33).toInt)
    (k : ∀ F1 : Nat → sy_d, (∀ j, j < 82 → j ≠ 34 → F1 j = F j) → F1 34 = .inl (.int ((2 : Int32))) → Q (some (.int ((0 : Int32)))) (sy_dh F1 X1 X2 (iv_H 0))) :
    hd_W Ls xs d jm_M40 Q (88, sy_dL F [some (.inl (.ref 30)), none, none, some (.inr (.inl 82)), none], sy_dS F [.inr (.inl 83), .inl (.ref 20)], sy_dh F X1 X2 (iv_H 0), 0, 0) := by
  refine hd_ret (s := 0) (nv := 84) (v := some (.inl (.int 0))) (uh := hd_ov (iv_id 0 iv_B0) [(34, .inl (.inl (.int 2)))]) (f := true) (sp := []) (d0 := 3) (O := [true, false, false, true, false]) (T := [(30, [.inr (.inl 33)], [.inr (.inl 39)])]) (P := [(4, .inl (.int 512), .inr (.inl 23)), (3, .inr (.inl 33), .inl (.int 0)), (3, .inl (.int 400), .inr (.inl 33)), (6, .inr (.inl 33), .inl (.ref 401)), (0, .inr (.inl 84), .inr (.inl 82)), (3, .inr (.inl 33), .inl (.int 400))]) jm_ok40 (by decide +kernel) (by decide +kernel) hd F X1 X2 (fun F' hF hs => ?_)
  have b23 := hd_b (F := F) (F' := F') (k := 23) (hF 23 (by decide))
  have b33 := hd_b (F := F) (F' := F') (k := 33) (hF 33 (by decide))
  have a39 := hd_ba (F := F) (F' := F') (k := 39) (hF 39 (by decide))
  have t84 : sy_dv F' (.inr (.inl 84)) = .int ((sy_ai F 39).getD (sy_i F 33).toNatClampNeg 0) := hd_rd (hs 0 _ rfl) b33 a39
  have b82 := hd_b (F := F) (F' := F') (k := 82) (hF 82 (by decide))
  have hB' : iv_in F' iv_B0 := iv_in_eq hB (fun j hj => hF j (Nat.lt_of_lt_of_le hj (by decide +kernel)))
  refine ⟨List.forall_mem_cons.mpr ⟨hd_p4 rfl b23 (by have hc : ((512) : Int32).toInt = 512 := (by decide); omega), List.forall_mem_cons.mpr ⟨hd_p3 b33 rfl (by have hc : ((0) : Int32).toInt = 0 := (by decide); omega), List.forall_mem_cons.mpr ⟨hd_p3 rfl b33 (by have hc : ((400) : Int32).toInt = 400 := (by decide); omega), List.forall_mem_cons.mpr ⟨hd_pb b33 (by first | exact h3 | exact h3), List.forall_mem_cons.mpr ⟨hd_p0 t84 b82 h4, List.forall_mem_cons.mpr ⟨hd_p3 b33 rfl (by have hc : ((400) : Int32).toInt = 400 := (by decide); omega), fun _ h => absurd h List.not_mem_nil⟩⟩⟩⟩⟩⟩, ?_⟩
  refine k _ ?_ ?_
  · exact fun j hj hn => (hd_keep hB' (Nat.lt_of_lt_of_le hj (by decide +kernel)) (by simp; omega)).trans (hF j (by omega))
  · exact hd_gi (x := .inl (.int 2)) (by decide +kernel) rfl
theorem k0pu_88_p2 {Ls : Nat} {xs : Nat → Int32} {d : Nat} {Q : Option Value → jm_h → Prop} (hd : 4 ≤ d) (F : Nat → sy_d) (X1 X2 : List jm_c) (hB : iv_in F iv_B0)
    (h0 : 512 ≤ (sy_i F 23).toInt)
    (h1 : 0 ≤ (sy_i F 33).toInt)
    (h2 : (sy_i F 33).toInt ≤ 400)
    (h3 : 0 ≤ (sy_i F 33).toInt ∧ (sy_i F 33).toInt < 401)
    (h4 : ((sy_ai F 39).getD (sy_i F 33).toNatClampNeg 0).toInt ≠ (sy_i F 82).toInt)
    (k : ∀ F1 : Nat → sy_d, (∀ j, j < 82 → j ≠ 34 → F1 j = F j) → F1 34 = .inl (.int ((1 : Int32))) → Q (some (.int ((0 : Int32)))) (sy_dh F1 X1 X2 (iv_H 0))) :
    hd_W Ls xs d jm_M40 Q (88, sy_dL F [some (.inl (.ref 30)), none, none, some (.inr (.inl 82)), none], sy_dS F [.inr (.inl 83), .inl (.ref 20)], sy_dh F X1 X2 (iv_H 0), 0, 0) := by
  refine hd_ret (s := 0) (nv := 84) (v := some (.inl (.int 0))) (uh := hd_ov (iv_id 0 iv_B0) [(34, .inl (.inl (.int 1)))]) (f := true) (sp := []) (d0 := 3) (O := [true, false, false, false]) (T := [(30, [.inr (.inl 33)], [.inr (.inl 39)])]) (P := [(4, .inl (.int 512), .inr (.inl 23)), (3, .inr (.inl 33), .inl (.int 0)), (3, .inl (.int 400), .inr (.inl 33)), (6, .inr (.inl 33), .inl (.ref 401)), (1, .inr (.inl 84), .inr (.inl 82))]) jm_ok40 (by decide +kernel) (by decide +kernel) hd F X1 X2 (fun F' hF hs => ?_)
  have b23 := hd_b (F := F) (F' := F') (k := 23) (hF 23 (by decide))
  have b33 := hd_b (F := F) (F' := F') (k := 33) (hF 33 (by decide))
  have a39 := hd_ba (F := F) (F' := F') (k := 39) (hF 39 (by decide))
  have t84 : sy_dv F' (.inr (.inl 84)) = .int ((sy_ai F 39).getD (sy_i F 33).toNatClampNeg 0) := hd_rd (hs 0 _ rfl) b33 a39
  have b82 := hd_b (F := F) (F' := F') (k := 82) (hF 82 (by decide))
  have hB' : iv_in F' iv_B0 := iv_in_eq hB (fun j hj => hF j (Nat.lt_of_lt_of_le hj (by decide +kernel)))
  refine ⟨List.forall_mem_cons.mpr ⟨hd_p4 rfl b23 (by have hc : ((512) : Int32).toInt = 512 := (by decide); omega), List.forall_mem_cons.mpr ⟨hd_p3 b33 rfl (by have hc : ((0) : Int32).toInt = 0 := (by decide); omega), List.forall_mem_cons.mpr ⟨hd_p3 rfl b33 (by have hc : ((400) : Int32).toInt = 400 := (by decide); omega), List.forall_mem_cons.mpr ⟨hd_pb b33 (by first | exact h3 | exact h3), List.forall_mem_cons.mpr ⟨hd_p1 t84 b82 h4, fun _ h => absurd h List.not_mem_nil⟩⟩⟩⟩⟩, ?_⟩
  refine k _ ?_ ?_
  · exact fun j hj hn => (hd_keep hB' (Nat.lt_of_lt_of_le hj (by decide +kernel)) (by simp; omega)).trans (hF j (by omega))
  · exact hd_gi (x := .inl (.int 1)) (by decide +kernel) rfl
theorem k0pu_88_p3 {Ls : Nat} {xs : Nat → Int32} {d : Nat} {Q : Option Value → jm_h → Prop} (hd : 4 ≤ d) (F : Nat → sy_d) (X1 X2 : List jm_c) (hB : iv_in F iv_B0)
    (h0 : (sy_i F 23).toInt < 512)
    (h1 : 0 ≤ (sy_i F 23).toInt ∧ (sy_i F 23).toInt < 512)
    (h2 : 0 ≤ (sy_i F 33).toInt)
    (h3 : (sy_i F 33).toInt ≤ 400)
    (h4 : 0 ≤ (sy_i F 33).toInt ∧ (sy_i F 33).toInt < 401)
    (h5 : ((sy_ai F 39).getD (sy_i F 33).toNatClampNeg 0).toInt = (sy_i F 82).toInt)
    (h6 : (sy_i F 33).toInt < 400)
    (k : ∀ F1 : Nat → sy_d, (∀ j, j < 82 → j ≠ 23 ∧ j ≠ 32 ∧ j ≠ 33 → F1 j = F j) → F1 23 = .inl (.int ((sy_i F 23) + ((1 : Int32)))) → F1 32 = .inr (.inl (jm_upd (sy_ai F 32) (sy_i F 23).toNatClampNeg (sy_i F 83))) → F1 33 = .inl (.int ((sy_i F 33) + ((1 : Int32)))) → Q (some (.int ((1 : Int32)))) (sy_dh F1 X1 X2 (iv_H 0))) :
    hd_W Ls xs d jm_M40 Q (88, sy_dL F [some (.inl (.ref 30)), none, none, some (.inr (.inl 82)), none], sy_dS F [.inr (.inl 83), .inl (.ref 20)], sy_dh F X1 X2 (iv_H 0), 0, 0) := by
  refine hd_ret (s := 0) (nv := 84) (v := some (.inl (.int 1))) (uh := hd_ov (iv_id 0 iv_B0) [(23, .inl (.inr (.inl 85))), (32, .inr (.inr (.inl 84))), (33, .inl (.inr (.inl 87)))]) (f := true) (sp := []) (d0 := 3) (O := [false, false, false, true, true]) (T := [(40, [.inr (.inl 23), .inr (.inl 83)], [.inr (.inl 32)]), (0, [.inr (.inl 23), .inl (.int 1)], []), (30, [.inr (.inl 33)], [.inr (.inl 39)]), (0, [.inr (.inl 33), .inl (.int 1)], [])]) (P := [(5, .inl (.int 512), .inr (.inl 23)), (6, .inr (.inl 23), .inl (.ref 512)), (3, .inr (.inl 33), .inl (.int 0)), (3, .inl (.int 400), .inr (.inl 33)), (6, .inr (.inl 33), .inl (.ref 401)), (0, .inr (.inl 86), .inr (.inl 82)), (2, .inr (.inl 33), .inl (.int 400))]) jm_ok40 (by decide +kernel) (by decide +kernel) hd F X1 X2 (fun F' hF hs => ?_)
  have b23 := hd_b (F := F) (F' := F') (k := 23) (hF 23 (by decide))
  have b33 := hd_b (F := F) (F' := F') (k := 33) (hF 33 (by decide))
  have a39 := hd_ba (F := F) (F' := F') (k := 39) (hF 39 (by decide))
  have t86 : sy_dv F' (.inr (.inl 86)) = .int ((sy_ai F 39).getD (sy_i F 33).toNatClampNeg 0) := hd_rd (hs 2 _ rfl) b33 a39
  have b82 := hd_b (F := F) (F' := F') (k := 82) (hF 82 (by decide))
  have t85 : sy_dv F' (.inr (.inl 85)) = .int ((sy_i F 23) + ((1 : Int32))) := hd_o (hs 1 _ rfl) b23 rfl rfl
  have b83 := hd_b (F := F) (F' := F') (k := 83) (hF 83 (by decide))
  have a32 := hd_ba (F := F) (F' := F') (k := 32) (hF 32 (by decide))
  have t84 : sy_da F' (.inr (.inl 84)) = .inl (jm_upd (sy_ai F 32) (sy_i F 23).toNatClampNeg (sy_i F 83)) := hd_up (hs 0 _ rfl) b23 b83 a32
  have t87 : sy_dv F' (.inr (.inl 87)) = .int ((sy_i F 33) + ((1 : Int32))) := hd_o (hs 3 _ rfl) b33 rfl rfl
  have hB' : iv_in F' iv_B0 := iv_in_eq hB (fun j hj => hF j (Nat.lt_of_lt_of_le hj (by decide +kernel)))
  refine ⟨List.forall_mem_cons.mpr ⟨hd_p5 rfl b23 (by have hc : ((512) : Int32).toInt = 512 := (by decide); omega), List.forall_mem_cons.mpr ⟨hd_pb b23 (by first | exact h1 | exact h1), List.forall_mem_cons.mpr ⟨hd_p3 b33 rfl (by have hc : ((0) : Int32).toInt = 0 := (by decide); omega), List.forall_mem_cons.mpr ⟨hd_p3 rfl b33 (by have hc : ((400) : Int32).toInt = 400 := (by decide); omega), List.forall_mem_cons.mpr ⟨hd_pb b33 (by first | exact h4 | exact h4), List.forall_mem_cons.mpr ⟨hd_p0 t86 b82 h5, List.forall_mem_cons.mpr ⟨hd_p2 b33 rfl (by have hc : ((400) : Int32).toInt = 400 := (by decide); omega), fun _ h => absurd h List.not_mem_nil⟩⟩⟩⟩⟩⟩⟩, ?_⟩
  refine k _ ?_ ?_ ?_ ?_
  · exact fun j hj hn => (hd_keep hB' (Nat.lt_of_lt_of_le hj (by decide +kernel)) (by simp; omega)).trans (hF j (by omega))
  · exact hd_gi (x := .inr (.inl 85)) (by decide +kernel) t85
  · exact hd_ga (a := .inr (.inl 84)) (by decide +kernel) t84
  · exact hd_gi (x := .inr (.inl 87)) (by decide +kernel) t87
theorem k0pu_88_p4 {Ls : Nat} {xs : Nat → Int32} {d : Nat} {Q : Option Value → jm_h → Prop} (hd : 4 ≤ d) (F : Nat → sy_d) (X1 X2 : List jm_c) (hB : iv_in F iv_B0)
    (h0 : (sy_i F 23).toInt < 512)
    (h1 : 0 ≤ (sy_i F 23).toInt ∧ (sy_i F 23).toInt < 512)
    (h2 : 0 ≤ (sy_i F 33).toInt)
    (h3 : (sy_i F 33).toInt ≤ 400)
    (h4 : 0 ≤ (sy_i F 33).toInt ∧ (sy_i F 33).toInt < 401)
    (h5 : ((sy_ai F 39).getD (sy_i F 33).toNatClampNeg 0).toInt = (sy_i F 82).toInt)
    (h6 : 400 ≤ (sy_i F 33).toInt)
    (k : ∀ F1 : Nat → sy_d, (∀ j, j < 82 → j ≠ 23 ∧ j ≠ 32 ∧ j ≠ 34 → F1 j = F j) → F1 23 = .inl (.int ((sy_i F 23) + ((1 : Int32)))) → F1 32 = .inr (.inl (jm_upd (sy_ai F 32) (sy_i F 23).toNatClampNeg (sy_i F 83))) → F1 34 = .inl (.int ((2 : Int32))) → Q (some (.int ((0 : Int32)))) (sy_dh F1 X1 X2 (iv_H 0))) :
    hd_W Ls xs d jm_M40 Q (88, sy_dL F [some (.inl (.ref 30)), none, none, some (.inr (.inl 82)), none], sy_dS F [.inr (.inl 83), .inl (.ref 20)], sy_dh F X1 X2 (iv_H 0), 0, 0) := by
  refine hd_ret (s := 0) (nv := 84) (v := some (.inl (.int 0))) (uh := hd_ov (iv_id 0 iv_B0) [(23, .inl (.inr (.inl 85))), (32, .inr (.inr (.inl 84))), (34, .inl (.inl (.int 2)))]) (f := true) (sp := []) (d0 := 3) (O := [false, false, false, true, false]) (T := [(40, [.inr (.inl 23), .inr (.inl 83)], [.inr (.inl 32)]), (0, [.inr (.inl 23), .inl (.int 1)], []), (30, [.inr (.inl 33)], [.inr (.inl 39)])]) (P := [(5, .inl (.int 512), .inr (.inl 23)), (6, .inr (.inl 23), .inl (.ref 512)), (3, .inr (.inl 33), .inl (.int 0)), (3, .inl (.int 400), .inr (.inl 33)), (6, .inr (.inl 33), .inl (.ref 401)), (0, .inr (.inl 86), .inr (.inl 82)), (3, .inr (.inl 33), .inl (.int 400))]) jm_ok40 (by decide +kernel) (by decide +kernel) hd F X1 X2 (fun F' hF hs => ?_)
  have b23 := hd_b (F := F) (F' := F') (k := 23) (hF 23 (by decide))
  have b33 := hd_b (F := F) (F' := F') (k := 33) (hF 33 (by decide))
  have a39 := hd_ba (F := F) (F' := F') (k := 39) (hF 39 (by decide))
  have t86 : sy_dv F' (.inr (.inl 86)) = .int ((sy_ai F 39).getD (sy_i F 33).toNatClampNeg 0) := hd_rd (hs 2 _ rfl) b33 a39
  have b82 := hd_b (F := F) (F' := F') (k := 82) (hF 82 (by decide))
  have t85 : sy_dv F' (.inr (.inl 85)) = .int ((sy_i F 23) + ((1 : Int32))) := hd_o (hs 1 _ rfl) b23 rfl rfl
  have b83 := hd_b (F := F) (F' := F') (k := 83) (hF 83 (by decide))
  have a32 := hd_ba (F := F) (F' := F') (k := 32) (hF 32 (by decide))
  have t84 : sy_da F' (.inr (.inl 84)) = .inl (jm_upd (sy_ai F 32) (sy_i F 23).toNatClampNeg (sy_i F 83)) := hd_up (hs 0 _ rfl) b23 b83 a32
  have hB' : iv_in F' iv_B0 := iv_in_eq hB (fun j hj => hF j (Nat.lt_of_lt_of_le hj (by decide +kernel)))
  refine ⟨List.forall_mem_cons.mpr ⟨hd_p5 rfl b23 (by have hc : ((512) : Int32).toInt = 512 := (by decide); omega), List.forall_mem_cons.mpr ⟨hd_pb b23 (by first | exact h1 | exact h1), List.forall_mem_cons.mpr ⟨hd_p3 b33 rfl (by have hc : ((0) : Int32).toInt = 0 := (by decide); omega), List.forall_mem_cons.mpr ⟨hd_p3 rfl b33 (by have hc : ((400) : Int32).toInt = 400 := (by decide); omega), List.forall_mem_cons.mpr ⟨hd_pb b33 (by first | exact h4 | exact h4), List.forall_mem_cons.mpr ⟨hd_p0 t86 b82 h5, List.forall_mem_cons.mpr ⟨hd_p3 b33 rfl (by have hc : ((400) : Int32).toInt = 400 := (by decide); omega), fun _ h => absurd h List.not_mem_nil⟩⟩⟩⟩⟩⟩⟩, ?_⟩
  refine k _ ?_ ?_ ?_ ?_
  · exact fun j hj hn => (hd_keep hB' (Nat.lt_of_lt_of_le hj (by decide +kernel)) (by simp; omega)).trans (hF j (by omega))
  · exact hd_gi (x := .inr (.inl 85)) (by decide +kernel) t85
  · exact hd_ga (a := .inr (.inl 84)) (by decide +kernel) t84
  · exact hd_gi (x := .inl (.int 2)) (by decide +kernel) rfl
theorem k0pu_88_p5 {Ls : Nat} {xs : Nat → Int32} {d : Nat} {Q : Option Value → jm_h → Prop} (hd : 4 ≤ d) (F : Nat → sy_d) (X1 X2 : List jm_c) (hB : iv_in F iv_B0)
    (h0 : (sy_i F 23).toInt < 512)
    (h1 : 0 ≤ (sy_i F 23).toInt ∧ (sy_i F 23).toInt < 512)
    (h2 : 0 ≤ (sy_i F 33).toInt)
    (h3 : (sy_i F 33).toInt ≤ 400)
    (h4 : 0 ≤ (sy_i F 33).toInt ∧ (sy_i F 33).toInt < 401)
    (h5 : ((sy_ai F 39).getD (sy_i F 33).toNatClampNeg 0).toInt ≠ (sy_i F 82).toInt)
    (k : ∀ F1 : Nat → sy_d, (∀ j, j < 82 → j ≠ 23 ∧ j ≠ 32 ∧ j ≠ 34 → F1 j = F j) → F1 23 = .inl (.int ((sy_i F 23) + ((1 : Int32)))) → F1 32 = .inr (.inl (jm_upd (sy_ai F 32) (sy_i F 23).toNatClampNeg (sy_i F 83))) → F1 34 = .inl (.int ((1 : Int32))) → Q (some (.int ((0 : Int32)))) (sy_dh F1 X1 X2 (iv_H 0))) :
    hd_W Ls xs d jm_M40 Q (88, sy_dL F [some (.inl (.ref 30)), none, none, some (.inr (.inl 82)), none], sy_dS F [.inr (.inl 83), .inl (.ref 20)], sy_dh F X1 X2 (iv_H 0), 0, 0) := by
  refine hd_ret (s := 0) (nv := 84) (v := some (.inl (.int 0))) (uh := hd_ov (iv_id 0 iv_B0) [(23, .inl (.inr (.inl 85))), (32, .inr (.inr (.inl 84))), (34, .inl (.inl (.int 1)))]) (f := true) (sp := []) (d0 := 3) (O := [false, false, false, false]) (T := [(40, [.inr (.inl 23), .inr (.inl 83)], [.inr (.inl 32)]), (0, [.inr (.inl 23), .inl (.int 1)], []), (30, [.inr (.inl 33)], [.inr (.inl 39)])]) (P := [(5, .inl (.int 512), .inr (.inl 23)), (6, .inr (.inl 23), .inl (.ref 512)), (3, .inr (.inl 33), .inl (.int 0)), (3, .inl (.int 400), .inr (.inl 33)), (6, .inr (.inl 33), .inl (.ref 401)), (1, .inr (.inl 86), .inr (.inl 82))]) jm_ok40 (by decide +kernel) (by decide +kernel) hd F X1 X2 (fun F' hF hs => ?_)
  have b23 := hd_b (F := F) (F' := F') (k := 23) (hF 23 (by decide))
  have b33 := hd_b (F := F) (F' := F') (k := 33) (hF 33 (by decide))
  have a39 := hd_ba (F := F) (F' := F') (k := 39) (hF 39 (by decide))
  have t86 : sy_dv F' (.inr (.inl 86)) = .int ((sy_ai F 39).getD (sy_i F 33).toNatClampNeg 0) := hd_rd (hs 2 _ rfl) b33 a39
  have b82 := hd_b (F := F) (F' := F') (k := 82) (hF 82 (by decide))
  have t85 : sy_dv F' (.inr (.inl 85)) = .int ((sy_i F 23) + ((1 : Int32))) := hd_o (hs 1 _ rfl) b23 rfl rfl
  have b83 := hd_b (F := F) (F' := F') (k := 83) (hF 83 (by decide))
  have a32 := hd_ba (F := F) (F' := F') (k := 32) (hF 32 (by decide))
  have t84 : sy_da F' (.inr (.inl 84)) = .inl (jm_upd (sy_ai F 32) (sy_i F 23).toNatClampNeg (sy_i F 83)) := hd_up (hs 0 _ rfl) b23 b83 a32
  have hB' : iv_in F' iv_B0 := iv_in_eq hB (fun j hj => hF j (Nat.lt_of_lt_of_le hj (by decide +kernel)))
  refine ⟨List.forall_mem_cons.mpr ⟨hd_p5 rfl b23 (by have hc : ((512) : Int32).toInt = 512 := (by decide); omega), List.forall_mem_cons.mpr ⟨hd_pb b23 (by first | exact h1 | exact h1), List.forall_mem_cons.mpr ⟨hd_p3 b33 rfl (by have hc : ((0) : Int32).toInt = 0 := (by decide); omega), List.forall_mem_cons.mpr ⟨hd_p3 rfl b33 (by have hc : ((400) : Int32).toInt = 400 := (by decide); omega), List.forall_mem_cons.mpr ⟨hd_pb b33 (by first | exact h4 | exact h4), List.forall_mem_cons.mpr ⟨hd_p1 t86 b82 h5, fun _ h => absurd h List.not_mem_nil⟩⟩⟩⟩⟩⟩, ?_⟩
  refine k _ ?_ ?_ ?_ ?_
  · exact fun j hj hn => (hd_keep hB' (Nat.lt_of_lt_of_le hj (by decide +kernel)) (by simp; omega)).trans (hF j (by omega))
  · exact hd_gi (x := .inr (.inl 85)) (by decide +kernel) t85
  · exact hd_ga (a := .inr (.inl 84)) (by decide +kernel) t84
  · exact hd_gi (x := .inl (.int 1)) (by decide +kernel) rfl
theorem k0pu_88 {Ls : Nat} {xs : Nat → Int32} {d : Nat} {Q : Option Value → jm_h → Prop} (hd : 4 ≤ d) (F : Nat → sy_d) (X1 X2 : List jm_c) (hB : iv_in F iv_B0)
    (a83 : (-100) ≤ (sy_i F 83).toInt ∧ (sy_i F 83).toInt ≤ 9999)
    (k0 : 512 ≤ (sy_i F 23).toInt → 0 ≤ (sy_i F 33).toInt → (sy_i F 33).toInt ≤ 400 → ((sy_ai F 39).getD ((sy_i F 33).toInt).toNat 0).toInt = (sy_i F 82).toInt → (sy_i F 33).toInt < 400 → ∀ F1 : Nat → sy_d, iv_in F1 iv_B0 → (∀ j, j < 82 → j ∉ ([33] : List Nat) → F1 j = F j) → (sy_i F1 33).toInt = ((sy_i F 33).toInt + 1) → (sy_i F1 34).toInt = (sy_i F 34).toInt → (sy_i F1 23).toInt = (sy_i F 23).toInt → sy_ai F1 39 = sy_ai F 39 → Q (some (.int ((1 : Int32)))) (sy_dh F1 X1 X2 (iv_H 0)))
    (k1 : 512 ≤ (sy_i F 23).toInt → 0 ≤ (sy_i F 33).toInt → (sy_i F 33).toInt ≤ 400 → ((sy_ai F 39).getD ((sy_i F 33).toInt).toNat 0).toInt = (sy_i F 82).toInt → 400 ≤ (sy_i F 33).toInt → ∀ F1 : Nat → sy_d, iv_in F1 iv_B0 → (∀ j, j < 82 → j ∉ ([34] : List Nat) → F1 j = F j) → (sy_i F1 33).toInt = (sy_i F 33).toInt → (sy_i F1 34).toInt = 2 → (sy_i F1 23).toInt = (sy_i F 23).toInt → sy_ai F1 39 = sy_ai F 39 → Q (some (.int ((0 : Int32)))) (sy_dh F1 X1 X2 (iv_H 0)))
    (k2 : 512 ≤ (sy_i F 23).toInt → 0 ≤ (sy_i F 33).toInt → (sy_i F 33).toInt ≤ 400 → ((sy_ai F 39).getD ((sy_i F 33).toInt).toNat 0).toInt ≠ (sy_i F 82).toInt → ∀ F1 : Nat → sy_d, iv_in F1 iv_B0 → (∀ j, j < 82 → j ∉ ([34] : List Nat) → F1 j = F j) → (sy_i F1 33).toInt = (sy_i F 33).toInt → (sy_i F1 34).toInt = 1 → (sy_i F1 23).toInt = (sy_i F 23).toInt → sy_ai F1 39 = sy_ai F 39 → Q (some (.int ((0 : Int32)))) (sy_dh F1 X1 X2 (iv_H 0)))
    (k3 : (sy_i F 23).toInt < 512 → 0 ≤ (sy_i F 33).toInt → (sy_i F 33).toInt ≤ 400 → ((sy_ai F 39).getD ((sy_i F 33).toInt).toNat 0).toInt = (sy_i F 82).toInt → (sy_i F 33).toInt < 400 → ∀ F1 : Nat → sy_d, iv_in F1 iv_B0 → (∀ j, j < 82 → j ∉ ([23, 32, 33] : List Nat) → F1 j = F j) → (sy_i F1 33).toInt = ((sy_i F 33).toInt + 1) → (sy_i F1 34).toInt = (sy_i F 34).toInt → (sy_i F1 23).toInt = ((sy_i F 23).toInt + 1) → sy_ai F1 39 = sy_ai F 39 → Q (some (.int ((1 : Int32)))) (sy_dh F1 X1 X2 (iv_H 0)))
    (k4 : (sy_i F 23).toInt < 512 → 0 ≤ (sy_i F 33).toInt → (sy_i F 33).toInt ≤ 400 → ((sy_ai F 39).getD ((sy_i F 33).toInt).toNat 0).toInt = (sy_i F 82).toInt → 400 ≤ (sy_i F 33).toInt → ∀ F1 : Nat → sy_d, iv_in F1 iv_B0 → (∀ j, j < 82 → j ∉ ([23, 32, 34] : List Nat) → F1 j = F j) → (sy_i F1 33).toInt = (sy_i F 33).toInt → (sy_i F1 34).toInt = 2 → (sy_i F1 23).toInt = ((sy_i F 23).toInt + 1) → sy_ai F1 39 = sy_ai F 39 → Q (some (.int ((0 : Int32)))) (sy_dh F1 X1 X2 (iv_H 0)))
    (k5 : (sy_i F 23).toInt < 512 → 0 ≤ (sy_i F 33).toInt → (sy_i F 33).toInt ≤ 400 → ((sy_ai F 39).getD ((sy_i F 33).toInt).toNat 0).toInt ≠ (sy_i F 82).toInt → ∀ F1 : Nat → sy_d, iv_in F1 iv_B0 → (∀ j, j < 82 → j ∉ ([23, 32, 34] : List Nat) → F1 j = F j) → (sy_i F1 33).toInt = (sy_i F 33).toInt → (sy_i F1 34).toInt = 1 → (sy_i F1 23).toInt = ((sy_i F 23).toInt + 1) → sy_ai F1 39 = sy_ai F 39 → Q (some (.int ((0 : Int32)))) (sy_dh F1 X1 X2 (iv_H 0))) :
    hd_W Ls xs d jm_M40 Q (88, sy_dL F [some (.inl (.ref 30)), none, none, some (.inr (.inl 82)), none], sy_dS F [.inr (.inl 83), .inl (.ref 20)], sy_dh F X1 X2 (iv_H 0), 0, 0) := by
  by_cases g0 : 512 ≤ (sy_i F 23).toInt
  · by_cases g1 : (sy_i F 33).toInt < 0
    · have c23 := nz_bx hB (k := 23) (lo := 0) (hi := 512) rfl
      have c33 := nz_bx hB (k := 33) (lo := 0) (hi := 400) rfl
      exfalso
      omega
    replace g1 : 0 ≤ (sy_i F 33).toInt := by omega
    by_cases g2 : 400 < (sy_i F 33).toInt
    · have c23 := nz_bx hB (k := 23) (lo := 0) (hi := 512) rfl
      have c33 := nz_bx hB (k := 33) (lo := 0) (hi := 400) rfl
      exfalso
      omega
    replace g2 : (sy_i F 33).toInt ≤ 400 := by omega
    by_cases g3 : ((sy_ai F 39).getD ((sy_i F 33).toInt).toNat 0).toInt = (sy_i F 82).toInt
    · by_cases g4 : (sy_i F 33).toInt < 400
      · have c23 := nz_bx hB (k := 23) (lo := 0) (hi := 512) rfl
        have c33 := nz_bx hB (k := 33) (lo := 0) (hi := 400) rfl
        have q84 : (sy_ai F 39).getD (sy_i F 33).toNatClampNeg 0 = (sy_ai F 39).getD ((sy_i F 33).toInt).toNat 0 := by simp only [nz_c]
        have n84 : ((sy_ai F 39).getD (sy_i F 33).toNatClampNeg 0).toInt = ((sy_ai F 39).getD ((sy_i F 33).toInt).toNat 0).toInt := congrArg Int32.toInt q84
        have n85 : ((sy_i F 33) + ((1 : Int32))).toInt = ((sy_i F 33).toInt + 1) := nz_add (rfl : (sy_i F 33).toInt = (sy_i F 33).toInt) (by decide : ((1 : Int32)).toInt = 1) (by omega) (by omega)
        exact k0pu_88_p0 hd F X1 X2 hB (by first | exact g0 | (simp only [nz_c]; exact g0)) (by first | exact g1 | (simp only [nz_c]; exact g1)) (by first | exact g2 | (simp only [nz_c]; exact g2)) (by first | exact ⟨by omega, by omega⟩ | (simp only [nz_c]; exact ⟨by omega, by omega⟩)) (by first | exact g3 | (simp only [nz_c]; exact g3) | (rw [n84]; exact g3)) (by first | exact g4 | (simp only [nz_c]; exact g4)) (fun F1 g e33 => k0 g0 g1 g2 g3 g4 F1 (nz_in0 hB [33] (fun j hj hn => g j hj (by simp only [List.mem_cons, List.not_mem_nil, or_false, not_or] at hn; omega)) (List.forall_mem_cons.mpr ⟨fun t ht => (Option.some.inj ht) ▸ (nz_hi e33 n85 (by omega) (by omega)), List.forall_mem_nil _⟩)) (fun j hj hn => g j hj (by simp only [List.mem_cons, List.not_mem_nil, or_false, not_or] at hn; omega)) ((congrArg Int32.toInt (zz_i e33)).trans n85) (nz_fi (g 34 (by decide) (by decide))) (nz_fi (g 23 (by decide) (by decide))) (nz_fa (g 39 (by decide) (by decide))))
      replace g4 : 400 ≤ (sy_i F 33).toInt := by omega
      have c23 := nz_bx hB (k := 23) (lo := 0) (hi := 512) rfl
      have c33 := nz_bx hB (k := 33) (lo := 0) (hi := 400) rfl
      have q84 : (sy_ai F 39).getD (sy_i F 33).toNatClampNeg 0 = (sy_ai F 39).getD ((sy_i F 33).toInt).toNat 0 := by simp only [nz_c]
      have n84 : ((sy_ai F 39).getD (sy_i F 33).toNatClampNeg 0).toInt = ((sy_ai F 39).getD ((sy_i F 33).toInt).toNat 0).toInt := congrArg Int32.toInt q84
      exact k0pu_88_p1 hd F X1 X2 hB (by first | exact g0 | (simp only [nz_c]; exact g0)) (by first | exact g1 | (simp only [nz_c]; exact g1)) (by first | exact g2 | (simp only [nz_c]; exact g2)) (by first | exact ⟨by omega, by omega⟩ | (simp only [nz_c]; exact ⟨by omega, by omega⟩)) (by first | exact g3 | (simp only [nz_c]; exact g3) | (rw [n84]; exact g3)) (by first | exact g4 | (simp only [nz_c]; exact g4)) (fun F1 g e34 => k1 g0 g1 g2 g3 g4 F1 (nz_in0 hB [34] (fun j hj hn => g j hj (by simp only [List.mem_cons, List.not_mem_nil, or_false, not_or] at hn; omega)) (List.forall_mem_cons.mpr ⟨fun t ht => (Option.some.inj ht) ▸ (nz_hz e34), List.forall_mem_nil _⟩)) (fun j hj hn => g j hj (by simp only [List.mem_cons, List.not_mem_nil, or_false, not_or] at hn; omega)) (nz_fi (g 33 (by decide) (by decide))) ((congrArg Int32.toInt (zz_i e34)).trans (by decide : ((2 : Int32)).toInt = 2)) (nz_fi (g 23 (by decide) (by decide))) (nz_fa (g 39 (by decide) (by decide))))
    replace g3 : ((sy_ai F 39).getD ((sy_i F 33).toInt).toNat 0).toInt ≠ (sy_i F 82).toInt := by omega
    have c23 := nz_bx hB (k := 23) (lo := 0) (hi := 512) rfl
    have c33 := nz_bx hB (k := 33) (lo := 0) (hi := 400) rfl
    have q84 : (sy_ai F 39).getD (sy_i F 33).toNatClampNeg 0 = (sy_ai F 39).getD ((sy_i F 33).toInt).toNat 0 := by simp only [nz_c]
    have n84 : ((sy_ai F 39).getD (sy_i F 33).toNatClampNeg 0).toInt = ((sy_ai F 39).getD ((sy_i F 33).toInt).toNat 0).toInt := congrArg Int32.toInt q84
    exact k0pu_88_p2 hd F X1 X2 hB (by first | exact g0 | (simp only [nz_c]; exact g0)) (by first | exact g1 | (simp only [nz_c]; exact g1)) (by first | exact g2 | (simp only [nz_c]; exact g2)) (by first | exact ⟨by omega, by omega⟩ | (simp only [nz_c]; exact ⟨by omega, by omega⟩)) (by first | exact g3 | (simp only [nz_c]; exact g3) | (rw [n84]; exact g3)) (fun F1 g e34 => k2 g0 g1 g2 g3 F1 (nz_in0 hB [34] (fun j hj hn => g j hj (by simp only [List.mem_cons, List.not_mem_nil, or_false, not_or] at hn; omega)) (List.forall_mem_cons.mpr ⟨fun t ht => (Option.some.inj ht) ▸ (nz_hz e34), List.forall_mem_nil _⟩)) (fun j hj hn => g j hj (by simp only [List.mem_cons, List.not_mem_nil, or_false, not_or] at hn; omega)) (nz_fi (g 33 (by decide) (by decide))) ((congrArg Int32.toInt (zz_i e34)).trans (by decide : ((1 : Int32)).toInt = 1)) (nz_fi (g 23 (by decide) (by decide))) (nz_fa (g 39 (by decide) (by decide))))
  replace g0 : (sy_i F 23).toInt < 512 := by omega
  by_cases g1 : (sy_i F 33).toInt < 0
  · have c23 := nz_bx hB (k := 23) (lo := 0) (hi := 512) rfl
    have c33 := nz_bx hB (k := 33) (lo := 0) (hi := 400) rfl
    exfalso
    omega
  replace g1 : 0 ≤ (sy_i F 33).toInt := by omega
  by_cases g2 : 400 < (sy_i F 33).toInt
  · have c23 := nz_bx hB (k := 23) (lo := 0) (hi := 512) rfl
    have c33 := nz_bx hB (k := 33) (lo := 0) (hi := 400) rfl
    exfalso
    omega
  replace g2 : (sy_i F 33).toInt ≤ 400 := by omega
  by_cases g3 : ((sy_ai F 39).getD ((sy_i F 33).toInt).toNat 0).toInt = (sy_i F 82).toInt
  · by_cases g4 : (sy_i F 33).toInt < 400
    · have c23 := nz_bx hB (k := 23) (lo := 0) (hi := 512) rfl
      have c33 := nz_bx hB (k := 33) (lo := 0) (hi := 400) rfl
      have q86 : (sy_ai F 39).getD (sy_i F 33).toNatClampNeg 0 = (sy_ai F 39).getD ((sy_i F 33).toInt).toNat 0 := by simp only [nz_c]
      have n86 : ((sy_ai F 39).getD (sy_i F 33).toNatClampNeg 0).toInt = ((sy_ai F 39).getD ((sy_i F 33).toInt).toNat 0).toInt := congrArg Int32.toInt q86
      have n85 : ((sy_i F 23) + ((1 : Int32))).toInt = ((sy_i F 23).toInt + 1) := nz_add (rfl : (sy_i F 23).toInt = (sy_i F 23).toInt) (by decide : ((1 : Int32)).toInt = 1) (by omega) (by omega)
      have n87 : ((sy_i F 33) + ((1 : Int32))).toInt = ((sy_i F 33).toInt + 1) := nz_add (rfl : (sy_i F 33).toInt = (sy_i F 33).toInt) (by decide : ((1 : Int32)).toInt = 1) (by omega) (by omega)
      exact k0pu_88_p3 hd F X1 X2 hB (by first | exact g0 | (simp only [nz_c]; exact g0)) (by first | exact ⟨by omega, by omega⟩ | (simp only [nz_c]; exact ⟨by omega, by omega⟩)) (by first | exact g1 | (simp only [nz_c]; exact g1)) (by first | exact g2 | (simp only [nz_c]; exact g2)) (by first | exact ⟨by omega, by omega⟩ | (simp only [nz_c]; exact ⟨by omega, by omega⟩)) (by first | exact g3 | (simp only [nz_c]; exact g3) | (rw [n86]; exact g3)) (by first | exact g4 | (simp only [nz_c]; exact g4)) (fun F1 g e23 e32 e33 => k3 g0 g1 g2 g3 g4 F1 (nz_in0 hB [23, 32, 33] (fun j hj hn => g j hj (by simp only [List.mem_cons, List.not_mem_nil, or_false, not_or] at hn; omega)) (List.forall_mem_cons.mpr ⟨fun t ht => (Option.some.inj ht) ▸ (nz_hi e23 n85 (by omega) (by omega)), List.forall_mem_cons.mpr ⟨fun t ht => (Option.some.inj ht) ▸ (nz_hA e32 (nz_up (nz_ba hB (k := 32) (lo := (-2147483648)) (hi := 2147483646) rfl) (rfl : (sy_i F 83).toInt = (sy_i F 83).toInt) (by omega) (by omega))), List.forall_mem_cons.mpr ⟨fun t ht => (Option.some.inj ht) ▸ (nz_hi e33 n87 (by omega) (by omega)), List.forall_mem_nil _⟩⟩⟩)) (fun j hj hn => g j hj (by simp only [List.mem_cons, List.not_mem_nil, or_false, not_or] at hn; omega)) ((congrArg Int32.toInt (zz_i e33)).trans n87) (nz_fi (g 34 (by decide) (by decide))) ((congrArg Int32.toInt (zz_i e23)).trans n85) (nz_fa (g 39 (by decide) (by decide))))
    replace g4 : 400 ≤ (sy_i F 33).toInt := by omega
    have c23 := nz_bx hB (k := 23) (lo := 0) (hi := 512) rfl
    have c33 := nz_bx hB (k := 33) (lo := 0) (hi := 400) rfl
    have q86 : (sy_ai F 39).getD (sy_i F 33).toNatClampNeg 0 = (sy_ai F 39).getD ((sy_i F 33).toInt).toNat 0 := by simp only [nz_c]
    have n86 : ((sy_ai F 39).getD (sy_i F 33).toNatClampNeg 0).toInt = ((sy_ai F 39).getD ((sy_i F 33).toInt).toNat 0).toInt := congrArg Int32.toInt q86
    have n85 : ((sy_i F 23) + ((1 : Int32))).toInt = ((sy_i F 23).toInt + 1) := nz_add (rfl : (sy_i F 23).toInt = (sy_i F 23).toInt) (by decide : ((1 : Int32)).toInt = 1) (by omega) (by omega)
    exact k0pu_88_p4 hd F X1 X2 hB (by first | exact g0 | (simp only [nz_c]; exact g0)) (by first | exact ⟨by omega, by omega⟩ | (simp only [nz_c]; exact ⟨by omega, by omega⟩)) (by first | exact g1 | (simp only [nz_c]; exact g1)) (by first | exact g2 | (simp only [nz_c]; exact g2)) (by first | exact ⟨by omega, by omega⟩ | (simp only [nz_c]; exact ⟨by omega, by omega⟩)) (by first | exact g3 | (simp only [nz_c]; exact g3) | (rw [n86]; exact g3)) (by first | exact g4 | (simp only [nz_c]; exact g4)) (fun F1 g e23 e32 e34 => k4 g0 g1 g2 g3 g4 F1 (nz_in0 hB [23, 32, 34] (fun j hj hn => g j hj (by simp only [List.mem_cons, List.not_mem_nil, or_false, not_or] at hn; omega)) (List.forall_mem_cons.mpr ⟨fun t ht => (Option.some.inj ht) ▸ (nz_hi e23 n85 (by omega) (by omega)), List.forall_mem_cons.mpr ⟨fun t ht => (Option.some.inj ht) ▸ (nz_hA e32 (nz_up (nz_ba hB (k := 32) (lo := (-2147483648)) (hi := 2147483646) rfl) (rfl : (sy_i F 83).toInt = (sy_i F 83).toInt) (by omega) (by omega))), List.forall_mem_cons.mpr ⟨fun t ht => (Option.some.inj ht) ▸ (nz_hz e34), List.forall_mem_nil _⟩⟩⟩)) (fun j hj hn => g j hj (by simp only [List.mem_cons, List.not_mem_nil, or_false, not_or] at hn; omega)) (nz_fi (g 33 (by decide) (by decide))) ((congrArg Int32.toInt (zz_i e34)).trans (by decide : ((2 : Int32)).toInt = 2)) ((congrArg Int32.toInt (zz_i e23)).trans n85) (nz_fa (g 39 (by decide) (by decide))))
  replace g3 : ((sy_ai F 39).getD ((sy_i F 33).toInt).toNat 0).toInt ≠ (sy_i F 82).toInt := by omega
  have c23 := nz_bx hB (k := 23) (lo := 0) (hi := 512) rfl
  have c33 := nz_bx hB (k := 33) (lo := 0) (hi := 400) rfl
  have q86 : (sy_ai F 39).getD (sy_i F 33).toNatClampNeg 0 = (sy_ai F 39).getD ((sy_i F 33).toInt).toNat 0 := by simp only [nz_c]
  have n86 : ((sy_ai F 39).getD (sy_i F 33).toNatClampNeg 0).toInt = ((sy_ai F 39).getD ((sy_i F 33).toInt).toNat 0).toInt := congrArg Int32.toInt q86
  have n85 : ((sy_i F 23) + ((1 : Int32))).toInt = ((sy_i F 23).toInt + 1) := nz_add (rfl : (sy_i F 23).toInt = (sy_i F 23).toInt) (by decide : ((1 : Int32)).toInt = 1) (by omega) (by omega)
  exact k0pu_88_p5 hd F X1 X2 hB (by first | exact g0 | (simp only [nz_c]; exact g0)) (by first | exact ⟨by omega, by omega⟩ | (simp only [nz_c]; exact ⟨by omega, by omega⟩)) (by first | exact g1 | (simp only [nz_c]; exact g1)) (by first | exact g2 | (simp only [nz_c]; exact g2)) (by first | exact ⟨by omega, by omega⟩ | (simp only [nz_c]; exact ⟨by omega, by omega⟩)) (by first | exact g3 | (simp only [nz_c]; exact g3) | (rw [n86]; exact g3)) (fun F1 g e23 e32 e34 => k5 g0 g1 g2 g3 F1 (nz_in0 hB [23, 32, 34] (fun j hj hn => g j hj (by simp only [List.mem_cons, List.not_mem_nil, or_false, not_or] at hn; omega)) (List.forall_mem_cons.mpr ⟨fun t ht => (Option.some.inj ht) ▸ (nz_hi e23 n85 (by omega) (by omega)), List.forall_mem_cons.mpr ⟨fun t ht => (Option.some.inj ht) ▸ (nz_hA e32 (nz_up (nz_ba hB (k := 32) (lo := (-2147483648)) (hi := 2147483646) rfl) (rfl : (sy_i F 83).toInt = (sy_i F 83).toInt) (by omega) (by omega))), List.forall_mem_cons.mpr ⟨fun t ht => (Option.some.inj ht) ▸ (nz_hz e34), List.forall_mem_nil _⟩⟩⟩)) (fun j hj hn => g j hj (by simp only [List.mem_cons, List.not_mem_nil, or_false, not_or] at hn; omega)) (nz_fi (g 33 (by decide) (by decide))) ((congrArg Int32.toInt (zz_i e34)).trans (by decide : ((1 : Int32)).toInt = 1)) ((congrArg Int32.toInt (zz_i e23)).trans n85) (nz_fa (g 39 (by decide) (by decide))))
theorem k0pp_0_p0 {Ls : Nat} {xs : Nat → Int32} {d : Nat} {Q : Option Value → jm_h → Prop} (hd : 4 ≤ d) (F : Nat → sy_d) (X1 X2 : List jm_c) (hB : iv_in F iv_B0)
    (k : ∀ F1 : Nat → sy_d, (∀ j, j < 82 → True → F1 j = F j) → F1 82 = .inl (.int (sy_i F 82)) → F1 83 = .inl (.int (sy_i F 83)) → hd_W Ls xs d jm_M39 Q (3, sy_dL F1 [some (.inl (.ref 30)), some (.inr (.inl 82)), some (.inr (.inl 83)), none, none, none], sy_dS F1 [.inr (.inl 83), .inr (.inl 82), .inl (.ref 30)], sy_dh F1 X1 X2 (iv_H 0), 0, 0)) :
    hd_W Ls xs d jm_M39 Q (0, sy_dL F [some (.inl (.ref 30)), some (.inr (.inl 82)), some (.inr (.inl 83)), none, none, none], sy_dS F [], sy_dh F X1 X2 (iv_H 0), 0, 0) := by
  refine hd_run (s := 0) (nv := 84) (pc := 3) (L := [some (.inl (.ref 30)), some (.inr (.inl 82)), some (.inr (.inl 83)), none, none, none]) (S := [.inr (.inl 83), .inr (.inl 82), .inl (.ref 30)]) (uh := hd_ov (iv_id 0 iv_B0) []) (ul := [.inl (.inr (.inl 82)), .inl (.inr (.inl 83))]) (f := true) (sp := [3]) (d0 := 3) (O := []) (T := []) (P := []) jm_ok39 (by decide +kernel) (by decide +kernel) hd F X1 X2 (fun F' hF hs => ?_)
  have b82 := hd_b (F := F) (F' := F') (k := 82) (hF 82 (by decide))
  have b83 := hd_b (F := F) (F' := F') (k := 83) (hF 83 (by decide))
  have hB' : iv_in F' iv_B0 := iv_in_eq hB (fun j hj => hF j (Nat.lt_of_lt_of_le hj (by decide +kernel)))
  refine ⟨fun _ h => absurd h List.not_mem_nil, ?_⟩
  refine k _ ?_ ?_ ?_
  · exact fun j hj _ => (hd_keep hB' (Nat.lt_of_lt_of_le hj (by decide +kernel)) (by simp)).trans (hF j (by omega))
  · exact hd_gi (x := .inr (.inl 82)) (by decide +kernel) b82
  · exact hd_gi (x := .inr (.inl 83)) (by decide +kernel) b83
theorem k0pp_0 {Ls : Nat} {xs : Nat → Int32} {d : Nat} {Q : Option Value → jm_h → Prop} (hd : 4 ≤ d) (F : Nat → sy_d) (X1 X2 : List jm_c) (hB : iv_in F iv_B0)
    (k0 : ∀ F1 : Nat → sy_d, iv_in F1 iv_B0 → (∀ j, j < 82 → j ∉ ([] : List Nat) → F1 j = F j) → (sy_i F1 33).toInt = (sy_i F 33).toInt → (sy_i F1 34).toInt = (sy_i F 34).toInt → (sy_i F1 23).toInt = (sy_i F 23).toInt → sy_ai F1 39 = sy_ai F 39 → (sy_i F1 82).toInt = (sy_i F 82).toInt → (sy_i F1 83).toInt = (sy_i F 83).toInt → hd_W Ls xs d jm_M39 Q (3, sy_dL F1 [some (.inl (.ref 30)), some (.inr (.inl 82)), some (.inr (.inl 83)), none, none, none], sy_dS F1 [.inr (.inl 83), .inr (.inl 82), .inl (.ref 30)], sy_dh F1 X1 X2 (iv_H 0), 0, 0)) :
    hd_W Ls xs d jm_M39 Q (0, sy_dL F [some (.inl (.ref 30)), some (.inr (.inl 82)), some (.inr (.inl 83)), none, none, none], sy_dS F [], sy_dh F X1 X2 (iv_H 0), 0, 0) := by
  exact k0pp_0_p0 hd F X1 X2 hB  (fun F1 g e82 e83 => k0 F1 (nz_in0 hB [] (fun j hj hn => g j hj (by simp only [List.mem_cons, List.not_mem_nil, or_false, not_or] at hn; exact trivial)) (List.forall_mem_nil _)) (fun j hj hn => g j hj (by simp only [List.mem_cons, List.not_mem_nil, or_false, not_or] at hn; exact trivial)) (nz_fi (g 33 (by decide) (by decide))) (nz_fi (g 34 (by decide) (by decide))) (nz_fi (g 23 (by decide) (by decide))) (nz_fa (g 39 (by decide) (by decide))) ((congrArg Int32.toInt (zz_i e82)).trans (rfl : (sy_i F 82).toInt = (sy_i F 82).toInt)) ((congrArg Int32.toInt (zz_i e83)).trans (rfl : (sy_i F 83).toInt = (sy_i F 83).toInt)))
theorem k0pp_6_p0 {Ls : Nat} {xs : Nat → Int32} {d : Nat} {Q : Option Value → jm_h → Prop} (hd : 4 ≤ d) (F : Nat → sy_d) (X1 X2 : List jm_c) (hB : iv_in F iv_B0)
    (h0 : 0 ≤ (sy_i F 33).toInt)
    (h1 : (sy_i F 33).toInt ≤ 400)
    (h2 : 0 ≤ (sy_i F 33).toInt ∧ (sy_i F 33).toInt < 401)
    (k : ∀ F1 : Nat → sy_d, (∀ j, j < 82 → True → F1 j = F j) → F1 82 = .inl (.int (sy_i F 82)) → F1 83 = .inl (.int (sy_i F 83)) → F1 84 = .inl (.int (sy_i F 84)) → F1 85 = .inl (.int ((sy_ai F 39).getD (sy_i F 33).toNatClampNeg 0)) → F1 86 = .inl (.int ((0 : Int32))) → hd_W Ls xs d jm_M39 Q (23, sy_dL F1 [some (.inl (.ref 30)), some (.inr (.inl 82)), some (.inr (.inl 83)), some (.inr (.inl 84)), some (.inr (.inl 85)), some (.inr (.inl 86))], sy_dS F1 [], sy_dh F1 X1 X2 (iv_H 0), 0, 0)) :
    hd_W Ls xs d jm_M39 Q (6, sy_dL F [some (.inl (.ref 30)), some (.inr (.inl 82)), some (.inr (.inl 83)), none, none, none], sy_dS F [.inr (.inl 84)], sy_dh F X1 X2 (iv_H 0), 0, 0) := by
  refine hd_run (s := 0) (nv := 85) (pc := 23) (L := [some (.inl (.ref 30)), some (.inr (.inl 82)), some (.inr (.inl 83)), some (.inr (.inl 84)), some (.inr (.inl 85)), some (.inr (.inl 86))]) (S := []) (uh := hd_ov (iv_id 0 iv_B0) []) (ul := [.inl (.inr (.inl 82)), .inl (.inr (.inl 83)), .inl (.inr (.inl 84)), .inl (.inr (.inl 85)), .inl (.inl (.int 0))]) (f := false) (sp := [23]) (d0 := 3) (O := [false, false]) (T := [(30, [.inr (.inl 33)], [.inr (.inl 39)])]) (P := [(3, .inr (.inl 33), .inl (.int 0)), (3, .inl (.int 400), .inr (.inl 33)), (6, .inr (.inl 33), .inl (.ref 401))]) jm_ok39 (by decide +kernel) (by decide +kernel) hd F X1 X2 (fun F' hF hs => ?_)
  have b33 := hd_b (F := F) (F' := F') (k := 33) (hF 33 (by decide))
  have b82 := hd_b (F := F) (F' := F') (k := 82) (hF 82 (by decide))
  have b83 := hd_b (F := F) (F' := F') (k := 83) (hF 83 (by decide))
  have b84 := hd_b (F := F) (F' := F') (k := 84) (hF 84 (by decide))
  have a39 := hd_ba (F := F) (F' := F') (k := 39) (hF 39 (by decide))
  have t85 : sy_dv F' (.inr (.inl 85)) = .int ((sy_ai F 39).getD (sy_i F 33).toNatClampNeg 0) := hd_rd (hs 0 _ rfl) b33 a39
  have hB' : iv_in F' iv_B0 := iv_in_eq hB (fun j hj => hF j (Nat.lt_of_lt_of_le hj (by decide +kernel)))
  refine ⟨List.forall_mem_cons.mpr ⟨hd_p3 b33 rfl (by have hc : ((0) : Int32).toInt = 0 := (by decide); omega), List.forall_mem_cons.mpr ⟨hd_p3 rfl b33 (by have hc : ((400) : Int32).toInt = 400 := (by decide); omega), List.forall_mem_cons.mpr ⟨hd_pb b33 (by first | exact h2 | exact h2), fun _ h => absurd h List.not_mem_nil⟩⟩⟩, ?_⟩
  refine k _ ?_ ?_ ?_ ?_ ?_ ?_
  · exact fun j hj _ => (hd_keep hB' (Nat.lt_of_lt_of_le hj (by decide +kernel)) (by simp)).trans (hF j (by omega))
  · exact hd_gi (x := .inr (.inl 82)) (by decide +kernel) b82
  · exact hd_gi (x := .inr (.inl 83)) (by decide +kernel) b83
  · exact hd_gi (x := .inr (.inl 84)) (by decide +kernel) b84
  · exact hd_gi (x := .inr (.inl 85)) (by decide +kernel) t85
  · exact hd_gi (x := .inl (.int 0)) (by decide +kernel) rfl
theorem k0pp_6 {Ls : Nat} {xs : Nat → Int32} {d : Nat} {Q : Option Value → jm_h → Prop} (hd : 4 ≤ d) (F : Nat → sy_d) (X1 X2 : List jm_c) (hB : iv_in F iv_B0)
    (k0 : 0 ≤ (sy_i F 33).toInt → (sy_i F 33).toInt ≤ 400 → ∀ F1 : Nat → sy_d, iv_in F1 iv_B0 → (∀ j, j < 82 → j ∉ ([] : List Nat) → F1 j = F j) → (sy_i F1 33).toInt = (sy_i F 33).toInt → (sy_i F1 34).toInt = (sy_i F 34).toInt → (sy_i F1 23).toInt = (sy_i F 23).toInt → sy_ai F1 39 = sy_ai F 39 → (sy_i F1 82).toInt = (sy_i F 82).toInt → (sy_i F1 83).toInt = (sy_i F 83).toInt → (sy_i F1 84).toInt = (sy_i F 84).toInt → (sy_i F1 85).toInt = ((sy_ai F 39).getD ((sy_i F 33).toInt).toNat 0).toInt → (sy_i F1 86).toInt = 0 → hd_W Ls xs d jm_M39 Q (23, sy_dL F1 [some (.inl (.ref 30)), some (.inr (.inl 82)), some (.inr (.inl 83)), some (.inr (.inl 84)), some (.inr (.inl 85)), some (.inr (.inl 86))], sy_dS F1 [], sy_dh F1 X1 X2 (iv_H 0), 0, 0)) :
    hd_W Ls xs d jm_M39 Q (6, sy_dL F [some (.inl (.ref 30)), some (.inr (.inl 82)), some (.inr (.inl 83)), none, none, none], sy_dS F [.inr (.inl 84)], sy_dh F X1 X2 (iv_H 0), 0, 0) := by
  by_cases g0 : (sy_i F 33).toInt < 0
  · have c33 := nz_bx hB (k := 33) (lo := 0) (hi := 400) rfl
    exfalso
    omega
  replace g0 : 0 ≤ (sy_i F 33).toInt := by omega
  by_cases g1 : 400 < (sy_i F 33).toInt
  · have c33 := nz_bx hB (k := 33) (lo := 0) (hi := 400) rfl
    exfalso
    omega
  replace g1 : (sy_i F 33).toInt ≤ 400 := by omega
  have c33 := nz_bx hB (k := 33) (lo := 0) (hi := 400) rfl
  have q85 : (sy_ai F 39).getD (sy_i F 33).toNatClampNeg 0 = (sy_ai F 39).getD ((sy_i F 33).toInt).toNat 0 := by simp only [nz_c]
  have n85 : ((sy_ai F 39).getD (sy_i F 33).toNatClampNeg 0).toInt = ((sy_ai F 39).getD ((sy_i F 33).toInt).toNat 0).toInt := congrArg Int32.toInt q85
  exact k0pp_6_p0 hd F X1 X2 hB (by first | exact g0 | (simp only [nz_c]; exact g0)) (by first | exact g1 | (simp only [nz_c]; exact g1)) (by first | exact ⟨by omega, by omega⟩ | (simp only [nz_c]; exact ⟨by omega, by omega⟩)) (fun F1 g e82 e83 e84 e85 e86 => k0 g0 g1 F1 (nz_in0 hB [] (fun j hj hn => g j hj (by simp only [List.mem_cons, List.not_mem_nil, or_false, not_or] at hn; exact trivial)) (List.forall_mem_nil _)) (fun j hj hn => g j hj (by simp only [List.mem_cons, List.not_mem_nil, or_false, not_or] at hn; exact trivial)) (nz_fi (g 33 (by decide) (by decide))) (nz_fi (g 34 (by decide) (by decide))) (nz_fi (g 23 (by decide) (by decide))) (nz_fa (g 39 (by decide) (by decide))) ((congrArg Int32.toInt (zz_i e82)).trans (rfl : (sy_i F 82).toInt = (sy_i F 82).toInt)) ((congrArg Int32.toInt (zz_i e83)).trans (rfl : (sy_i F 83).toInt = (sy_i F 83).toInt)) ((congrArg Int32.toInt (zz_i e84)).trans (rfl : (sy_i F 84).toInt = (sy_i F 84).toInt)) ((congrArg Int32.toInt (zz_i e85)).trans n85) ((congrArg Int32.toInt (zz_i e86)).trans (by decide : ((0 : Int32)).toInt = 0)))
theorem k0pp_23_p0 {Ls : Nat} {xs : Nat → Int32} {d : Nat} {Q : Option Value → jm_h → Prop} (hd : 4 ≤ d) (F : Nat → sy_d) (X1 X2 : List jm_c) (hB : iv_in F iv_B0)
    (h0 : 400 < (sy_i F 86).toInt)
    (h1 : (sy_i F 84).toInt = 0 ∨ (sy_i F 84).toInt = 1)
    (k : ∀ F1 : Nat → sy_d, (∀ j, j < 82 → True → F1 j = F j) → Q (some (.int (sy_i F 84))) (sy_dh F1 X1 X2 (iv_H 0))) :
    hd_W Ls xs d jm_M39 Q (23, sy_dL F [some (.inl (.ref 30)), some (.inr (.inl 82)), some (.inr (.inl 83)), some (.inr (.inl 84)), some (.inr (.inl 85)), some (.inr (.inl 86))], sy_dS F [], sy_dh F X1 X2 (iv_H 0), 0, 0) := by
  refine hd_ret (s := 0) (nv := 87) (v := some (.inr (.inl 84))) (uh := hd_ov (iv_id 0 iv_B0) []) (f := true) (sp := [23, 61]) (d0 := 3) (O := [true]) (T := []) (P := [(2, .inl (.int 400), .inr (.inl 86)), (6, .inr (.inl 84), .inl (.int 0))]) jm_ok39 (by decide +kernel) (by decide +kernel) hd F X1 X2 (fun F' hF hs => ?_)
  have b86 := hd_b (F := F) (F' := F') (k := 86) (hF 86 (by decide))
  have b84 := hd_b (F := F) (F' := F') (k := 84) (hF 84 (by decide))
  have hB' : iv_in F' iv_B0 := iv_in_eq hB (fun j hj => hF j (Nat.lt_of_lt_of_le hj (by decide +kernel)))
  have hk := k (sy_cm F' (hd_ov (iv_id 0 iv_B0) [] ++ [])) (fun j hj _ => (hd_keep hB' (Nat.lt_of_lt_of_le hj (by decide +kernel)) (by simp)).trans (hF j (by omega)))
  refine ⟨List.forall_mem_cons.mpr ⟨hd_p2 rfl b86 (by have hc : ((400) : Int32).toInt = 400 := (by decide); omega), List.forall_mem_cons.mpr ⟨hd_p6 b84 h1, fun _ h => absurd h List.not_mem_nil⟩⟩, ?_⟩
  show Q (some (sy_dv F' (.inr (.inl 84)))) _
  rw [b84]
  exact hk
theorem k0pp_23_p1 {Ls : Nat} {xs : Nat → Int32} {d : Nat} {Q : Option Value → jm_h → Prop} (hd : 4 ≤ d) (F : Nat → sy_d) (X1 X2 : List jm_c) (hB : iv_in F iv_B0)
    (h0 : (sy_i F 86).toInt ≤ 400)
    (h1 : (sy_i F 84).toInt = 0)
    (h2 : (sy_i F 84).toInt = 0 ∨ (sy_i F 84).toInt = 1)
    (k : ∀ F1 : Nat → sy_d, (∀ j, j < 82 → True → F1 j = F j) → Q (some (.int (sy_i F 84))) (sy_dh F1 X1 X2 (iv_H 0))) :
    hd_W Ls xs d jm_M39 Q (23, sy_dL F [some (.inl (.ref 30)), some (.inr (.inl 82)), some (.inr (.inl 83)), some (.inr (.inl 84)), some (.inr (.inl 85)), some (.inr (.inl 86))], sy_dS F [], sy_dh F X1 X2 (iv_H 0), 0, 0) := by
  refine hd_ret (s := 0) (nv := 87) (v := some (.inr (.inl 84))) (uh := hd_ov (iv_id 0 iv_B0) []) (f := true) (sp := [23, 61]) (d0 := 3) (O := [false, true]) (T := []) (P := [(3, .inl (.int 400), .inr (.inl 86)), (0, .inr (.inl 84), .inl (.int 0)), (6, .inr (.inl 84), .inl (.int 0))]) jm_ok39 (by decide +kernel) (by decide +kernel) hd F X1 X2 (fun F' hF hs => ?_)
  have b86 := hd_b (F := F) (F' := F') (k := 86) (hF 86 (by decide))
  have b84 := hd_b (F := F) (F' := F') (k := 84) (hF 84 (by decide))
  have hB' : iv_in F' iv_B0 := iv_in_eq hB (fun j hj => hF j (Nat.lt_of_lt_of_le hj (by decide +kernel)))
  have hk := k (sy_cm F' (hd_ov (iv_id 0 iv_B0) [] ++ [])) (fun j hj _ => (hd_keep hB' (Nat.lt_of_lt_of_le hj (by decide +kernel)) (by simp)).trans (hF j (by omega)))
  refine ⟨List.forall_mem_cons.mpr ⟨hd_p3 rfl b86 (by have hc : ((400) : Int32).toInt = 400 := (by decide); omega), List.forall_mem_cons.mpr ⟨hd_p0 b84 rfl (by have hc : ((0) : Int32).toInt = 0 := (by decide); omega), List.forall_mem_cons.mpr ⟨hd_p6 b84 h2, fun _ h => absurd h List.not_mem_nil⟩⟩⟩, ?_⟩
  show Q (some (sy_dv F' (.inr (.inl 84)))) _
  rw [b84]
  exact hk
theorem k0pp_23_p2 {Ls : Nat} {xs : Nat → Int32} {d : Nat} {Q : Option Value → jm_h → Prop} (hd : 4 ≤ d) (F : Nat → sy_d) (X1 X2 : List jm_c) (hB : iv_in F iv_B0)
    (h0 : (sy_i F 86).toInt ≤ 400)
    (h1 : (sy_i F 84).toInt ≠ 0)
    (h2 : (sy_i F 85).toInt = 42)
    (h3 : 0 ≤ (sy_i F 33).toInt)
    (h4 : (sy_i F 33).toInt ≤ 400)
    (h5 : 0 ≤ (sy_i F 33).toInt ∧ (sy_i F 33).toInt < 401)
    (h6 : ((sy_ai F 39).getD (sy_i F 33).toNatClampNeg 0).toInt = (sy_i F 85).toInt)
    (h7 : (sy_i F 33).toInt < 400)
    (k : ∀ F1 : Nat → sy_d, (∀ j, j < 82 → j ≠ 33 → F1 j = F j) → F1 33 = .inl (.int ((sy_i F 33) + ((1 : Int32)))) → F1 82 = .inl (.int (sy_i F 82)) → F1 83 = .inl (.int (sy_i F 83)) → F1 84 = .inl (.int (sy_i F 85)) → F1 85 = .inl (.int (sy_i F 86)) → hd_W Ls xs d jm_M39 Q (61, sy_dL F1 [some (.inl (.ref 30)), some (.inr (.inl 82)), some (.inr (.inl 83)), none, some (.inr (.inl 84)), some (.inr (.inl 85))], sy_dS F1 [.inr (.inl 83), .inr (.inl 82), .inl (.ref 30)], sy_dh F1 X1 X2 (iv_H 0), 0, 0)) :
    hd_W Ls xs d jm_M39 Q (23, sy_dL F [some (.inl (.ref 30)), some (.inr (.inl 82)), some (.inr (.inl 83)), some (.inr (.inl 84)), some (.inr (.inl 85)), some (.inr (.inl 86))], sy_dS F [], sy_dh F X1 X2 (iv_H 0), 0, 0) := by
  refine hd_run (s := 0) (nv := 87) (pc := 61) (L := [some (.inl (.ref 30)), some (.inr (.inl 82)), some (.inr (.inl 83)), none, some (.inr (.inl 84)), some (.inr (.inl 85))]) (S := [.inr (.inl 83), .inr (.inl 82), .inl (.ref 30)]) (uh := hd_ov (iv_id 0 iv_B0) [(33, .inl (.inr (.inl 88)))]) (ul := [.inl (.inr (.inl 82)), .inl (.inr (.inl 83)), .inl (.inr (.inl 85)), .inl (.inr (.inl 86))]) (f := true) (sp := [23, 61]) (d0 := 3) (O := [false, false, true, false, false, true, true]) (T := [(30, [.inr (.inl 33)], [.inr (.inl 39)]), (0, [.inr (.inl 33), .inl (.int 1)], [])]) (P := [(3, .inl (.int 400), .inr (.inl 86)), (1, .inr (.inl 84), .inl (.int 0)), (0, .inr (.inl 85), .inl (.int 42)), (3, .inr (.inl 33), .inl (.int 0)), (3, .inl (.int 400), .inr (.inl 33)), (6, .inr (.inl 33), .inl (.ref 401)), (0, .inr (.inl 87), .inr (.inl 85)), (2, .inr (.inl 33), .inl (.int 400))]) jm_ok39 (by decide +kernel) (by decide +kernel) hd F X1 X2 (fun F' hF hs => ?_)
  have b86 := hd_b (F := F) (F' := F') (k := 86) (hF 86 (by decide))
  have b84 := hd_b (F := F) (F' := F') (k := 84) (hF 84 (by decide))
  have b85 := hd_b (F := F) (F' := F') (k := 85) (hF 85 (by decide))
  have b33 := hd_b (F := F) (F' := F') (k := 33) (hF 33 (by decide))
  have a39 := hd_ba (F := F) (F' := F') (k := 39) (hF 39 (by decide))
  have t87 : sy_dv F' (.inr (.inl 87)) = .int ((sy_ai F 39).getD (sy_i F 33).toNatClampNeg 0) := hd_rd (hs 0 _ rfl) b33 a39
  have t88 : sy_dv F' (.inr (.inl 88)) = .int ((sy_i F 33) + ((1 : Int32))) := hd_o (hs 1 _ rfl) b33 rfl rfl
  have b82 := hd_b (F := F) (F' := F') (k := 82) (hF 82 (by decide))
  have b83 := hd_b (F := F) (F' := F') (k := 83) (hF 83 (by decide))
  have hB' : iv_in F' iv_B0 := iv_in_eq hB (fun j hj => hF j (Nat.lt_of_lt_of_le hj (by decide +kernel)))
  refine ⟨List.forall_mem_cons.mpr ⟨hd_p3 rfl b86 (by have hc : ((400) : Int32).toInt = 400 := (by decide); omega), List.forall_mem_cons.mpr ⟨hd_p1 b84 rfl (by have hc : ((0) : Int32).toInt = 0 := (by decide); omega), List.forall_mem_cons.mpr ⟨hd_p0 b85 rfl (by have hc : ((42) : Int32).toInt = 42 := (by decide); omega), List.forall_mem_cons.mpr ⟨hd_p3 b33 rfl (by have hc : ((0) : Int32).toInt = 0 := (by decide); omega), List.forall_mem_cons.mpr ⟨hd_p3 rfl b33 (by have hc : ((400) : Int32).toInt = 400 := (by decide); omega), List.forall_mem_cons.mpr ⟨hd_pb b33 (by first | exact h5 | exact h5), List.forall_mem_cons.mpr ⟨hd_p0 t87 b85 h6, List.forall_mem_cons.mpr ⟨hd_p2 b33 rfl (by have hc : ((400) : Int32).toInt = 400 := (by decide); omega), fun _ h => absurd h List.not_mem_nil⟩⟩⟩⟩⟩⟩⟩⟩, ?_⟩
  refine k _ ?_ ?_ ?_ ?_ ?_ ?_
  · exact fun j hj hn => (hd_keep hB' (Nat.lt_of_lt_of_le hj (by decide +kernel)) (by simp; omega)).trans (hF j (by omega))
  · exact hd_gi (x := .inr (.inl 88)) (by decide +kernel) t88
  · exact hd_gi (x := .inr (.inl 82)) (by decide +kernel) b82
  · exact hd_gi (x := .inr (.inl 83)) (by decide +kernel) b83
  · exact hd_gi (x := .inr (.inl 85)) (by decide +kernel) b85
  · exact hd_gi (x := .inr (.inl 86)) (by decide +kernel) b86
theorem k0pp_23_p3 {Ls : Nat} {xs : Nat → Int32} {d : Nat} {Q : Option Value → jm_h → Prop} (hd : 4 ≤ d) (F : Nat → sy_d) (X1 X2 : List jm_c) (hB : iv_in F iv_B0)
    (h0 : (sy_i F 86).toInt ≤ 400)
    (h1 : (sy_i F 84).toInt ≠ 0)
    (h2 : (sy_i F 85).toInt = 42)
    (h3 : 0 ≤ (sy_i F 33).toInt)
    (h4 : (sy_i F 33).toInt ≤ 400)
    (h5 : 0 ≤ (sy_i F 33).toInt ∧ (sy_i F 33).toInt < 401)
    (h6 : ((sy_ai F 39).getD (sy_i F 33).toNatClampNeg 0).toInt = (sy_i F 85).toInt)
    (h7 : 400 ≤ (sy_i F 33).toInt)
    (h8 : (sy_i F 85).toInt = 42)
    (h9 : 512 ≤ (sy_i F 23).toInt)
    (h10 : 0 ≤ (sy_i F 33).toInt)
    (h11 : (sy_i F 33).toInt ≤ 400)
    (h12 : 0 ≤ (sy_i F 33).toInt ∧ (sy_i F 33).toInt < 401)
    (k : ∀ F1 : Nat → sy_d, (∀ j, j < 82 → j ≠ 34 → F1 j = F j) → F1 34 = .inl (.int ((2 : Int32))) → F1 82 = .inl (.int (sy_i F 82)) → F1 83 = .inl (.int (sy_i F 83)) → F1 84 = .inl (.int ((0 : Int32))) → F1 85 = .inl (.int ((sy_ai F 39).getD (sy_i F 33).toNatClampNeg 0)) → F1 86 = .inl (.int ((sy_i F 86) + ((1 : Int32)))) → hd_W Ls xs d jm_M39 Q (23, sy_dL F1 [some (.inl (.ref 30)), some (.inr (.inl 82)), some (.inr (.inl 83)), some (.inr (.inl 84)), some (.inr (.inl 85)), some (.inr (.inl 86))], sy_dS F1 [], sy_dh F1 X1 X2 (iv_H 0), 0, 0)) :
    hd_W Ls xs d jm_M39 Q (23, sy_dL F [some (.inl (.ref 30)), some (.inr (.inl 82)), some (.inr (.inl 83)), some (.inr (.inl 84)), some (.inr (.inl 85)), some (.inr (.inl 86))], sy_dS F [], sy_dh F X1 X2 (iv_H 0), 0, 0) := by
  refine hd_run (s := 0) (nv := 87) (pc := 23) (L := [some (.inl (.ref 30)), some (.inr (.inl 82)), some (.inr (.inl 83)), some (.inr (.inl 84)), some (.inr (.inl 85)), some (.inr (.inl 86))]) (S := []) (uh := hd_ov (iv_id 0 iv_B0) [(34, .inl (.inl (.int 2)))]) (ul := [.inl (.inr (.inl 82)), .inl (.inr (.inl 83)), .inl (.inl (.int 0)), .inl (.inr (.inl 88)), .inl (.inr (.inl 89))]) (f := true) (sp := [23, 61]) (d0 := 3) (O := [false, false, true, false, false, true, false, false, true, false, false]) (T := [(30, [.inr (.inl 33)], [.inr (.inl 39)]), (30, [.inr (.inl 33)], [.inr (.inl 39)]), (0, [.inr (.inl 86), .inl (.int 1)], [])]) (P := [(3, .inl (.int 400), .inr (.inl 86)), (1, .inr (.inl 84), .inl (.int 0)), (0, .inr (.inl 85), .inl (.int 42)), (3, .inr (.inl 33), .inl (.int 0)), (3, .inl (.int 400), .inr (.inl 33)), (6, .inr (.inl 33), .inl (.ref 401)), (0, .inr (.inl 87), .inr (.inl 85)), (3, .inr (.inl 33), .inl (.int 400)), (0, .inr (.inl 85), .inl (.int 42)), (4, .inl (.int 512), .inr (.inl 23)), (3, .inr (.inl 33), .inl (.int 0)), (3, .inl (.int 400), .inr (.inl 33)), (6, .inr (.inl 33), .inl (.ref 401))]) jm_ok39 (by decide +kernel) (by decide +kernel) hd F X1 X2 (fun F' hF hs => ?_)
  have b86 := hd_b (F := F) (F' := F') (k := 86) (hF 86 (by decide))
  have b84 := hd_b (F := F) (F' := F') (k := 84) (hF 84 (by decide))
  have b85 := hd_b (F := F) (F' := F') (k := 85) (hF 85 (by decide))
  have b33 := hd_b (F := F) (F' := F') (k := 33) (hF 33 (by decide))
  have a39 := hd_ba (F := F) (F' := F') (k := 39) (hF 39 (by decide))
  have t87 : sy_dv F' (.inr (.inl 87)) = .int ((sy_ai F 39).getD (sy_i F 33).toNatClampNeg 0) := hd_rd (hs 0 _ rfl) b33 a39
  have b23 := hd_b (F := F) (F' := F') (k := 23) (hF 23 (by decide))
  have b82 := hd_b (F := F) (F' := F') (k := 82) (hF 82 (by decide))
  have b83 := hd_b (F := F) (F' := F') (k := 83) (hF 83 (by decide))
  have t88 : sy_dv F' (.inr (.inl 88)) = .int ((sy_ai F 39).getD (sy_i F 33).toNatClampNeg 0) := hd_rd (hs 1 _ rfl) b33 a39
  have t89 : sy_dv F' (.inr (.inl 89)) = .int ((sy_i F 86) + ((1 : Int32))) := hd_o (hs 2 _ rfl) b86 rfl rfl
  have hB' : iv_in F' iv_B0 := iv_in_eq hB (fun j hj => hF j (Nat.lt_of_lt_of_le hj (by decide +kernel)))
  refine ⟨List.forall_mem_cons.mpr ⟨hd_p3 rfl b86 (by have hc : ((400) : Int32).toInt = 400 := (by decide); omega), List.forall_mem_cons.mpr ⟨hd_p1 b84 rfl (by have hc : ((0) : Int32).toInt = 0 := (by decide); omega), List.forall_mem_cons.mpr ⟨hd_p0 b85 rfl (by have hc : ((42) : Int32).toInt = 42 := (by decide); omega), List.forall_mem_cons.mpr ⟨hd_p3 b33 rfl (by have hc : ((0) : Int32).toInt = 0 := (by decide); omega), List.forall_mem_cons.mpr ⟨hd_p3 rfl b33 (by have hc : ((400) : Int32).toInt = 400 := (by decide); omega), List.forall_mem_cons.mpr ⟨hd_pb b33 (by first | exact h5 | exact h5), List.forall_mem_cons.mpr ⟨hd_p0 t87 b85 h6, List.forall_mem_cons.mpr ⟨hd_p3 b33 rfl (by have hc : ((400) : Int32).toInt = 400 := (by decide); omega), List.forall_mem_cons.mpr ⟨hd_p0 b85 rfl (by have hc : ((42) : Int32).toInt = 42 := (by decide); omega), List.forall_mem_cons.mpr ⟨hd_p4 rfl b23 (by have hc : ((512) : Int32).toInt = 512 := (by decide); omega), List.forall_mem_cons.mpr ⟨hd_p3 b33 rfl (by have hc : ((0) : Int32).toInt = 0 := (by decide); omega), List.forall_mem_cons.mpr ⟨hd_p3 rfl b33 (by have hc : ((400) : Int32).toInt = 400 := (by decide); omega), List.forall_mem_cons.mpr ⟨hd_pb b33 (by first | exact h12 | exact h12), fun _ h => absurd h List.not_mem_nil⟩⟩⟩⟩⟩⟩⟩⟩⟩⟩⟩⟩⟩, ?_⟩
  refine k _ ?_ ?_ ?_ ?_ ?_ ?_ ?_
  · exact fun j hj hn => (hd_keep hB' (Nat.lt_of_lt_of_le hj (by decide +kernel)) (by simp; omega)).trans (hF j (by omega))
  · exact hd_gi (x := .inl (.int 2)) (by decide +kernel) rfl
  · exact hd_gi (x := .inr (.inl 82)) (by decide +kernel) b82
  · exact hd_gi (x := .inr (.inl 83)) (by decide +kernel) b83
  · exact hd_gi (x := .inl (.int 0)) (by decide +kernel) rfl
  · exact hd_gi (x := .inr (.inl 88)) (by decide +kernel) t88
  · exact hd_gi (x := .inr (.inl 89)) (by decide +kernel) t89
theorem k0pp_23_p4 {Ls : Nat} {xs : Nat → Int32} {d : Nat} {Q : Option Value → jm_h → Prop} (hd : 4 ≤ d) (F : Nat → sy_d) (X1 X2 : List jm_c) (hB : iv_in F iv_B0)
    (h0 : (sy_i F 86).toInt ≤ 400)
    (h1 : (sy_i F 84).toInt ≠ 0)
    (h2 : (sy_i F 85).toInt = 42)
    (h3 : 0 ≤ (sy_i F 33).toInt)
    (h4 : (sy_i F 33).toInt ≤ 400)
    (h5 : 0 ≤ (sy_i F 33).toInt ∧ (sy_i F 33).toInt < 401)
    (h6 : ((sy_ai F 39).getD (sy_i F 33).toNatClampNeg 0).toInt = (sy_i F 85).toInt)
    (h7 : 400 ≤ (sy_i F 33).toInt)
    (h8 : (sy_i F 85).toInt = 42)
    (h9 : (sy_i F 23).toInt < 512)
    (h10 : 0 ≤ (sy_i F 23).toInt ∧ (sy_i F 23).toInt < 512)
    (h11 : 0 ≤ (sy_i F 33).toInt)
    (h12 : (sy_i F 33).toInt ≤ 400)
    (h13 : 0 ≤ (sy_i F 33).toInt ∧ (sy_i F 33).toInt < 401)
    (k : ∀ F1 : Nat → sy_d, (∀ j, j < 82 → j ≠ 23 ∧ j ≠ 32 ∧ j ≠ 34 → F1 j = F j) → F1 23 = .inl (.int ((sy_i F 23) + ((1 : Int32)))) → F1 32 = .inr (.inl (jm_upd (sy_ai F 32) (sy_i F 23).toNatClampNeg (((-12) : Int32)))) → F1 34 = .inl (.int ((2 : Int32))) → F1 82 = .inl (.int (sy_i F 82)) → F1 83 = .inl (.int (sy_i F 83)) → F1 84 = .inl (.int ((0 : Int32))) → F1 85 = .inl (.int ((sy_ai F 39).getD (sy_i F 33).toNatClampNeg 0)) → F1 86 = .inl (.int ((sy_i F 86) + ((1 : Int32)))) → hd_W Ls xs d jm_M39 Q (23, sy_dL F1 [some (.inl (.ref 30)), some (.inr (.inl 82)), some (.inr (.inl 83)), some (.inr (.inl 84)), some (.inr (.inl 85)), some (.inr (.inl 86))], sy_dS F1 [], sy_dh F1 X1 X2 (iv_H 0), 0, 0)) :
    hd_W Ls xs d jm_M39 Q (23, sy_dL F [some (.inl (.ref 30)), some (.inr (.inl 82)), some (.inr (.inl 83)), some (.inr (.inl 84)), some (.inr (.inl 85)), some (.inr (.inl 86))], sy_dS F [], sy_dh F X1 X2 (iv_H 0), 0, 0) := by
  refine hd_run (s := 0) (nv := 87) (pc := 23) (L := [some (.inl (.ref 30)), some (.inr (.inl 82)), some (.inr (.inl 83)), some (.inr (.inl 84)), some (.inr (.inl 85)), some (.inr (.inl 86))]) (S := []) (uh := hd_ov (iv_id 0 iv_B0) [(23, .inl (.inr (.inl 89))), (32, .inr (.inr (.inl 88))), (34, .inl (.inl (.int 2)))]) (ul := [.inl (.inr (.inl 82)), .inl (.inr (.inl 83)), .inl (.inl (.int 0)), .inl (.inr (.inl 90)), .inl (.inr (.inl 91))]) (f := true) (sp := [23, 61]) (d0 := 3) (O := [false, false, true, false, false, true, false, false, false, false, false]) (T := [(30, [.inr (.inl 33)], [.inr (.inl 39)]), (40, [.inr (.inl 23), .inl (.int (-12))], [.inr (.inl 32)]), (0, [.inr (.inl 23), .inl (.int 1)], []), (30, [.inr (.inl 33)], [.inr (.inl 39)]), (0, [.inr (.inl 86), .inl (.int 1)], [])]) (P := [(3, .inl (.int 400), .inr (.inl 86)), (1, .inr (.inl 84), .inl (.int 0)), (0, .inr (.inl 85), .inl (.int 42)), (3, .inr (.inl 33), .inl (.int 0)), (3, .inl (.int 400), .inr (.inl 33)), (6, .inr (.inl 33), .inl (.ref 401)), (0, .inr (.inl 87), .inr (.inl 85)), (3, .inr (.inl 33), .inl (.int 400)), (0, .inr (.inl 85), .inl (.int 42)), (5, .inl (.int 512), .inr (.inl 23)), (6, .inr (.inl 23), .inl (.ref 512)), (3, .inr (.inl 33), .inl (.int 0)), (3, .inl (.int 400), .inr (.inl 33)), (6, .inr (.inl 33), .inl (.ref 401))]) jm_ok39 (by decide +kernel) (by decide +kernel) hd F X1 X2 (fun F' hF hs => ?_)
  have b86 := hd_b (F := F) (F' := F') (k := 86) (hF 86 (by decide))
  have b84 := hd_b (F := F) (F' := F') (k := 84) (hF 84 (by decide))
  have b85 := hd_b (F := F) (F' := F') (k := 85) (hF 85 (by decide))
  have b33 := hd_b (F := F) (F' := F') (k := 33) (hF 33 (by decide))
  have a39 := hd_ba (F := F) (F' := F') (k := 39) (hF 39 (by decide))
  have t87 : sy_dv F' (.inr (.inl 87)) = .int ((sy_ai F 39).getD (sy_i F 33).toNatClampNeg 0) := hd_rd (hs 0 _ rfl) b33 a39
  have b23 := hd_b (F := F) (F' := F') (k := 23) (hF 23 (by decide))
  have t89 : sy_dv F' (.inr (.inl 89)) = .int ((sy_i F 23) + ((1 : Int32))) := hd_o (hs 2 _ rfl) b23 rfl rfl
  have a32 := hd_ba (F := F) (F' := F') (k := 32) (hF 32 (by decide))
  have t88 : sy_da F' (.inr (.inl 88)) = .inl (jm_upd (sy_ai F 32) (sy_i F 23).toNatClampNeg (((-12) : Int32))) := hd_up (hs 1 _ rfl) b23 rfl a32
  have b82 := hd_b (F := F) (F' := F') (k := 82) (hF 82 (by decide))
  have b83 := hd_b (F := F) (F' := F') (k := 83) (hF 83 (by decide))
  have t90 : sy_dv F' (.inr (.inl 90)) = .int ((sy_ai F 39).getD (sy_i F 33).toNatClampNeg 0) := hd_rd (hs 3 _ rfl) b33 a39
  have t91 : sy_dv F' (.inr (.inl 91)) = .int ((sy_i F 86) + ((1 : Int32))) := hd_o (hs 4 _ rfl) b86 rfl rfl
  have hB' : iv_in F' iv_B0 := iv_in_eq hB (fun j hj => hF j (Nat.lt_of_lt_of_le hj (by decide +kernel)))
  refine ⟨List.forall_mem_cons.mpr ⟨hd_p3 rfl b86 (by have hc : ((400) : Int32).toInt = 400 := (by decide); omega), List.forall_mem_cons.mpr ⟨hd_p1 b84 rfl (by have hc : ((0) : Int32).toInt = 0 := (by decide); omega), List.forall_mem_cons.mpr ⟨hd_p0 b85 rfl (by have hc : ((42) : Int32).toInt = 42 := (by decide); omega), List.forall_mem_cons.mpr ⟨hd_p3 b33 rfl (by have hc : ((0) : Int32).toInt = 0 := (by decide); omega), List.forall_mem_cons.mpr ⟨hd_p3 rfl b33 (by have hc : ((400) : Int32).toInt = 400 := (by decide); omega), List.forall_mem_cons.mpr ⟨hd_pb b33 (by first | exact h5 | exact h5), List.forall_mem_cons.mpr ⟨hd_p0 t87 b85 h6, List.forall_mem_cons.mpr ⟨hd_p3 b33 rfl (by have hc : ((400) : Int32).toInt = 400 := (by decide); omega), List.forall_mem_cons.mpr ⟨hd_p0 b85 rfl (by have hc : ((42) : Int32).toInt = 42 := (by decide); omega), List.forall_mem_cons.mpr ⟨hd_p5 rfl b23 (by have hc : ((512) : Int32).toInt = 512 := (by decide); omega), List.forall_mem_cons.mpr ⟨hd_pb b23 (by first | exact h10 | exact h10), List.forall_mem_cons.mpr ⟨hd_p3 b33 rfl (by have hc : ((0) : Int32).toInt = 0 := (by decide); omega), List.forall_mem_cons.mpr ⟨hd_p3 rfl b33 (by have hc : ((400) : Int32).toInt = 400 := (by decide); omega), List.forall_mem_cons.mpr ⟨hd_pb b33 (by first | exact h13 | exact h13), fun _ h => absurd h List.not_mem_nil⟩⟩⟩⟩⟩⟩⟩⟩⟩⟩⟩⟩⟩⟩, ?_⟩
  refine k _ ?_ ?_ ?_ ?_ ?_ ?_ ?_ ?_ ?_
  · exact fun j hj hn => (hd_keep hB' (Nat.lt_of_lt_of_le hj (by decide +kernel)) (by simp; omega)).trans (hF j (by omega))
  · exact hd_gi (x := .inr (.inl 89)) (by decide +kernel) t89
  · exact hd_ga (a := .inr (.inl 88)) (by decide +kernel) t88
  · exact hd_gi (x := .inl (.int 2)) (by decide +kernel) rfl
  · exact hd_gi (x := .inr (.inl 82)) (by decide +kernel) b82
  · exact hd_gi (x := .inr (.inl 83)) (by decide +kernel) b83
  · exact hd_gi (x := .inl (.int 0)) (by decide +kernel) rfl
  · exact hd_gi (x := .inr (.inl 90)) (by decide +kernel) t90
  · exact hd_gi (x := .inr (.inl 91)) (by decide +kernel) t91
theorem k0pp_23_p5 {Ls : Nat} {xs : Nat → Int32} {d : Nat} {Q : Option Value → jm_h → Prop} (hd : 4 ≤ d) (F : Nat → sy_d) (X1 X2 : List jm_c) (hB : iv_in F iv_B0)
    (h0 : (sy_i F 86).toInt ≤ 400)
    (h1 : (sy_i F 84).toInt ≠ 0)
    (h2 : (sy_i F 85).toInt = 42)
    (h3 : 0 ≤ (sy_i F 33).toInt)
    (h4 : (sy_i F 33).toInt ≤ 400)
    (h5 : 0 ≤ (sy_i F 33).toInt ∧ (sy_i F 33).toInt < 401)
    (h6 : ((sy_ai F 39).getD (sy_i F 33).toNatClampNeg 0).toInt ≠ (sy_i F 85).toInt)
    (h7 : (sy_i F 85).toInt = 42)
    (h8 : 512 ≤ (sy_i F 23).toInt)
    (h9 : 0 ≤ (sy_i F 33).toInt)
    (h10 : (sy_i F 33).toInt ≤ 400)
    (h11 : 0 ≤ (sy_i F 33).toInt ∧ (sy_i F 33).toInt < 401)
    (k : ∀ F1 : Nat → sy_d, (∀ j, j < 82 → j ≠ 34 → F1 j = F j) → F1 34 = .inl (.int ((1 : Int32))) → F1 82 = .inl (.int (sy_i F 82)) → F1 83 = .inl (.int (sy_i F 83)) → F1 84 = .inl (.int ((0 : Int32))) → F1 85 = .inl (.int ((sy_ai F 39).getD (sy_i F 33).toNatClampNeg 0)) → F1 86 = .inl (.int ((sy_i F 86) + ((1 : Int32)))) → hd_W Ls xs d jm_M39 Q (23, sy_dL F1 [some (.inl (.ref 30)), some (.inr (.inl 82)), some (.inr (.inl 83)), some (.inr (.inl 84)), some (.inr (.inl 85)), some (.inr (.inl 86))], sy_dS F1 [], sy_dh F1 X1 X2 (iv_H 0), 0, 0)) :
    hd_W Ls xs d jm_M39 Q (23, sy_dL F [some (.inl (.ref 30)), some (.inr (.inl 82)), some (.inr (.inl 83)), some (.inr (.inl 84)), some (.inr (.inl 85)), some (.inr (.inl 86))], sy_dS F [], sy_dh F X1 X2 (iv_H 0), 0, 0) := by
  refine hd_run (s := 0) (nv := 87) (pc := 23) (L := [some (.inl (.ref 30)), some (.inr (.inl 82)), some (.inr (.inl 83)), some (.inr (.inl 84)), some (.inr (.inl 85)), some (.inr (.inl 86))]) (S := []) (uh := hd_ov (iv_id 0 iv_B0) [(34, .inl (.inl (.int 1)))]) (ul := [.inl (.inr (.inl 82)), .inl (.inr (.inl 83)), .inl (.inl (.int 0)), .inl (.inr (.inl 88)), .inl (.inr (.inl 89))]) (f := true) (sp := [23, 61]) (d0 := 3) (O := [false, false, true, false, false, false, false, true, false, false]) (T := [(30, [.inr (.inl 33)], [.inr (.inl 39)]), (30, [.inr (.inl 33)], [.inr (.inl 39)]), (0, [.inr (.inl 86), .inl (.int 1)], [])]) (P := [(3, .inl (.int 400), .inr (.inl 86)), (1, .inr (.inl 84), .inl (.int 0)), (0, .inr (.inl 85), .inl (.int 42)), (3, .inr (.inl 33), .inl (.int 0)), (3, .inl (.int 400), .inr (.inl 33)), (6, .inr (.inl 33), .inl (.ref 401)), (1, .inr (.inl 87), .inr (.inl 85)), (0, .inr (.inl 85), .inl (.int 42)), (4, .inl (.int 512), .inr (.inl 23)), (3, .inr (.inl 33), .inl (.int 0)), (3, .inl (.int 400), .inr (.inl 33)), (6, .inr (.inl 33), .inl (.ref 401))]) jm_ok39 (by decide +kernel) (by decide +kernel) hd F X1 X2 (fun F' hF hs => ?_)
  have b86 := hd_b (F := F) (F' := F') (k := 86) (hF 86 (by decide))
  have b84 := hd_b (F := F) (F' := F') (k := 84) (hF 84 (by decide))
  have b85 := hd_b (F := F) (F' := F') (k := 85) (hF 85 (by decide))
  have b33 := hd_b (F := F) (F' := F') (k := 33) (hF 33 (by decide))
  have a39 := hd_ba (F := F) (F' := F') (k := 39) (hF 39 (by decide))
  have t87 : sy_dv F' (.inr (.inl 87)) = .int ((sy_ai F 39).getD (sy_i F 33).toNatClampNeg 0) := hd_rd (hs 0 _ rfl) b33 a39
  have b23 := hd_b (F := F) (F' := F') (k := 23) (hF 23 (by decide))
  have b82 := hd_b (F := F) (F' := F') (k := 82) (hF 82 (by decide))
  have b83 := hd_b (F := F) (F' := F') (k := 83) (hF 83 (by decide))
  have t88 : sy_dv F' (.inr (.inl 88)) = .int ((sy_ai F 39).getD (sy_i F 33).toNatClampNeg 0) := hd_rd (hs 1 _ rfl) b33 a39
  have t89 : sy_dv F' (.inr (.inl 89)) = .int ((sy_i F 86) + ((1 : Int32))) := hd_o (hs 2 _ rfl) b86 rfl rfl
  have hB' : iv_in F' iv_B0 := iv_in_eq hB (fun j hj => hF j (Nat.lt_of_lt_of_le hj (by decide +kernel)))
  refine ⟨List.forall_mem_cons.mpr ⟨hd_p3 rfl b86 (by have hc : ((400) : Int32).toInt = 400 := (by decide); omega), List.forall_mem_cons.mpr ⟨hd_p1 b84 rfl (by have hc : ((0) : Int32).toInt = 0 := (by decide); omega), List.forall_mem_cons.mpr ⟨hd_p0 b85 rfl (by have hc : ((42) : Int32).toInt = 42 := (by decide); omega), List.forall_mem_cons.mpr ⟨hd_p3 b33 rfl (by have hc : ((0) : Int32).toInt = 0 := (by decide); omega), List.forall_mem_cons.mpr ⟨hd_p3 rfl b33 (by have hc : ((400) : Int32).toInt = 400 := (by decide); omega), List.forall_mem_cons.mpr ⟨hd_pb b33 (by first | exact h5 | exact h5), List.forall_mem_cons.mpr ⟨hd_p1 t87 b85 h6, List.forall_mem_cons.mpr ⟨hd_p0 b85 rfl (by have hc : ((42) : Int32).toInt = 42 := (by decide); omega), List.forall_mem_cons.mpr ⟨hd_p4 rfl b23 (by have hc : ((512) : Int32).toInt = 512 := (by decide); omega), List.forall_mem_cons.mpr ⟨hd_p3 b33 rfl (by have hc : ((0) : Int32).toInt = 0 := (by decide); omega), List.forall_mem_cons.mpr ⟨hd_p3 rfl b33 (by have hc : ((400) : Int32).toInt = 400 := (by decide); omega), List.forall_mem_cons.mpr ⟨hd_pb b33 (by first | exact h11 | exact h11), fun _ h => absurd h List.not_mem_nil⟩⟩⟩⟩⟩⟩⟩⟩⟩⟩⟩⟩, ?_⟩
  refine k _ ?_ ?_ ?_ ?_ ?_ ?_ ?_
  · exact fun j hj hn => (hd_keep hB' (Nat.lt_of_lt_of_le hj (by decide +kernel)) (by simp; omega)).trans (hF j (by omega))
  · exact hd_gi (x := .inl (.int 1)) (by decide +kernel) rfl
  · exact hd_gi (x := .inr (.inl 82)) (by decide +kernel) b82
  · exact hd_gi (x := .inr (.inl 83)) (by decide +kernel) b83
  · exact hd_gi (x := .inl (.int 0)) (by decide +kernel) rfl
  · exact hd_gi (x := .inr (.inl 88)) (by decide +kernel) t88
  · exact hd_gi (x := .inr (.inl 89)) (by decide +kernel) t89
theorem k0pp_23_p6 {Ls : Nat} {xs : Nat → Int32} {d : Nat} {Q : Option Value → jm_h → Prop} (hd : 4 ≤ d) (F : Nat → sy_d) (X1 X2 : List jm_c) (hB : iv_in F iv_B0)
    (h0 : (sy_i F 86).toInt ≤ 400)
    (h1 : (sy_i F 84).toInt ≠ 0)
    (h2 : (sy_i F 85).toInt = 42)
    (h3 : 0 ≤ (sy_i F 33).toInt)
    (h4 : (sy_i F 33).toInt ≤ 400)
    (h5 : 0 ≤ (sy_i F 33).toInt ∧ (sy_i F 33).toInt < 401)
    (h6 : ((sy_ai F 39).getD (sy_i F 33).toNatClampNeg 0).toInt ≠ (sy_i F 85).toInt)
    (h7 : (sy_i F 85).toInt = 42)
    (h8 : (sy_i F 23).toInt < 512)
    (h9 : 0 ≤ (sy_i F 23).toInt ∧ (sy_i F 23).toInt < 512)
    (h10 : 0 ≤ (sy_i F 33).toInt)
    (h11 : (sy_i F 33).toInt ≤ 400)
    (h12 : 0 ≤ (sy_i F 33).toInt ∧ (sy_i F 33).toInt < 401)
    (k : ∀ F1 : Nat → sy_d, (∀ j, j < 82 → j ≠ 23 ∧ j ≠ 32 ∧ j ≠ 34 → F1 j = F j) → F1 23 = .inl (.int ((sy_i F 23) + ((1 : Int32)))) → F1 32 = .inr (.inl (jm_upd (sy_ai F 32) (sy_i F 23).toNatClampNeg (((-12) : Int32)))) → F1 34 = .inl (.int ((1 : Int32))) → F1 82 = .inl (.int (sy_i F 82)) → F1 83 = .inl (.int (sy_i F 83)) → F1 84 = .inl (.int ((0 : Int32))) → F1 85 = .inl (.int ((sy_ai F 39).getD (sy_i F 33).toNatClampNeg 0)) → F1 86 = .inl (.int ((sy_i F 86) + ((1 : Int32)))) → hd_W Ls xs d jm_M39 Q (23, sy_dL F1 [some (.inl (.ref 30)), some (.inr (.inl 82)), some (.inr (.inl 83)), some (.inr (.inl 84)), some (.inr (.inl 85)), some (.inr (.inl 86))], sy_dS F1 [], sy_dh F1 X1 X2 (iv_H 0), 0, 0)) :
    hd_W Ls xs d jm_M39 Q (23, sy_dL F [some (.inl (.ref 30)), some (.inr (.inl 82)), some (.inr (.inl 83)), some (.inr (.inl 84)), some (.inr (.inl 85)), some (.inr (.inl 86))], sy_dS F [], sy_dh F X1 X2 (iv_H 0), 0, 0) := by
  refine hd_run (s := 0) (nv := 87) (pc := 23) (L := [some (.inl (.ref 30)), some (.inr (.inl 82)), some (.inr (.inl 83)), some (.inr (.inl 84)), some (.inr (.inl 85)), some (.inr (.inl 86))]) (S := []) (uh := hd_ov (iv_id 0 iv_B0) [(23, .inl (.inr (.inl 89))), (32, .inr (.inr (.inl 88))), (34, .inl (.inl (.int 1)))]) (ul := [.inl (.inr (.inl 82)), .inl (.inr (.inl 83)), .inl (.inl (.int 0)), .inl (.inr (.inl 90)), .inl (.inr (.inl 91))]) (f := true) (sp := [23, 61]) (d0 := 3) (O := [false, false, true, false, false, false, false, false, false, false]) (T := [(30, [.inr (.inl 33)], [.inr (.inl 39)]), (40, [.inr (.inl 23), .inl (.int (-12))], [.inr (.inl 32)]), (0, [.inr (.inl 23), .inl (.int 1)], []), (30, [.inr (.inl 33)], [.inr (.inl 39)]), (0, [.inr (.inl 86), .inl (.int 1)], [])]) (P := [(3, .inl (.int 400), .inr (.inl 86)), (1, .inr (.inl 84), .inl (.int 0)), (0, .inr (.inl 85), .inl (.int 42)), (3, .inr (.inl 33), .inl (.int 0)), (3, .inl (.int 400), .inr (.inl 33)), (6, .inr (.inl 33), .inl (.ref 401)), (1, .inr (.inl 87), .inr (.inl 85)), (0, .inr (.inl 85), .inl (.int 42)), (5, .inl (.int 512), .inr (.inl 23)), (6, .inr (.inl 23), .inl (.ref 512)), (3, .inr (.inl 33), .inl (.int 0)), (3, .inl (.int 400), .inr (.inl 33)), (6, .inr (.inl 33), .inl (.ref 401))]) jm_ok39 (by decide +kernel) (by decide +kernel) hd F X1 X2 (fun F' hF hs => ?_)
  have b86 := hd_b (F := F) (F' := F') (k := 86) (hF 86 (by decide))
  have b84 := hd_b (F := F) (F' := F') (k := 84) (hF 84 (by decide))
  have b85 := hd_b (F := F) (F' := F') (k := 85) (hF 85 (by decide))
  have b33 := hd_b (F := F) (F' := F') (k := 33) (hF 33 (by decide))
  have a39 := hd_ba (F := F) (F' := F') (k := 39) (hF 39 (by decide))
  have t87 : sy_dv F' (.inr (.inl 87)) = .int ((sy_ai F 39).getD (sy_i F 33).toNatClampNeg 0) := hd_rd (hs 0 _ rfl) b33 a39
  have b23 := hd_b (F := F) (F' := F') (k := 23) (hF 23 (by decide))
  have t89 : sy_dv F' (.inr (.inl 89)) = .int ((sy_i F 23) + ((1 : Int32))) := hd_o (hs 2 _ rfl) b23 rfl rfl
  have a32 := hd_ba (F := F) (F' := F') (k := 32) (hF 32 (by decide))
  have t88 : sy_da F' (.inr (.inl 88)) = .inl (jm_upd (sy_ai F 32) (sy_i F 23).toNatClampNeg (((-12) : Int32))) := hd_up (hs 1 _ rfl) b23 rfl a32
  have b82 := hd_b (F := F) (F' := F') (k := 82) (hF 82 (by decide))
  have b83 := hd_b (F := F) (F' := F') (k := 83) (hF 83 (by decide))
  have t90 : sy_dv F' (.inr (.inl 90)) = .int ((sy_ai F 39).getD (sy_i F 33).toNatClampNeg 0) := hd_rd (hs 3 _ rfl) b33 a39
  have t91 : sy_dv F' (.inr (.inl 91)) = .int ((sy_i F 86) + ((1 : Int32))) := hd_o (hs 4 _ rfl) b86 rfl rfl
  have hB' : iv_in F' iv_B0 := iv_in_eq hB (fun j hj => hF j (Nat.lt_of_lt_of_le hj (by decide +kernel)))
  refine ⟨List.forall_mem_cons.mpr ⟨hd_p3 rfl b86 (by have hc : ((400) : Int32).toInt = 400 := (by decide); omega), List.forall_mem_cons.mpr ⟨hd_p1 b84 rfl (by have hc : ((0) : Int32).toInt = 0 := (by decide); omega), List.forall_mem_cons.mpr ⟨hd_p0 b85 rfl (by have hc : ((42) : Int32).toInt = 42 := (by decide); omega), List.forall_mem_cons.mpr ⟨hd_p3 b33 rfl (by have hc : ((0) : Int32).toInt = 0 := (by decide); omega), List.forall_mem_cons.mpr ⟨hd_p3 rfl b33 (by have hc : ((400) : Int32).toInt = 400 := (by decide); omega), List.forall_mem_cons.mpr ⟨hd_pb b33 (by first | exact h5 | exact h5), List.forall_mem_cons.mpr ⟨hd_p1 t87 b85 h6, List.forall_mem_cons.mpr ⟨hd_p0 b85 rfl (by have hc : ((42) : Int32).toInt = 42 := (by decide); omega), List.forall_mem_cons.mpr ⟨hd_p5 rfl b23 (by have hc : ((512) : Int32).toInt = 512 := (by decide); omega), List.forall_mem_cons.mpr ⟨hd_pb b23 (by first | exact h9 | exact h9), List.forall_mem_cons.mpr ⟨hd_p3 b33 rfl (by have hc : ((0) : Int32).toInt = 0 := (by decide); omega), List.forall_mem_cons.mpr ⟨hd_p3 rfl b33 (by have hc : ((400) : Int32).toInt = 400 := (by decide); omega), List.forall_mem_cons.mpr ⟨hd_pb b33 (by first | exact h12 | exact h12), fun _ h => absurd h List.not_mem_nil⟩⟩⟩⟩⟩⟩⟩⟩⟩⟩⟩⟩⟩, ?_⟩
  refine k _ ?_ ?_ ?_ ?_ ?_ ?_ ?_ ?_ ?_
  · exact fun j hj hn => (hd_keep hB' (Nat.lt_of_lt_of_le hj (by decide +kernel)) (by simp; omega)).trans (hF j (by omega))
  · exact hd_gi (x := .inr (.inl 89)) (by decide +kernel) t89
  · exact hd_ga (a := .inr (.inl 88)) (by decide +kernel) t88
  · exact hd_gi (x := .inl (.int 1)) (by decide +kernel) rfl
  · exact hd_gi (x := .inr (.inl 82)) (by decide +kernel) b82
  · exact hd_gi (x := .inr (.inl 83)) (by decide +kernel) b83
  · exact hd_gi (x := .inl (.int 0)) (by decide +kernel) rfl
  · exact hd_gi (x := .inr (.inl 90)) (by decide +kernel) t90
  · exact hd_gi (x := .inr (.inl 91)) (by decide +kernel) t91
theorem k0pp_23_p7 {Ls : Nat} {xs : Nat → Int32} {d : Nat} {Q : Option Value → jm_h → Prop} (hd : 4 ≤ d) (F : Nat → sy_d) (X1 X2 : List jm_c) (hB : iv_in F iv_B0)
    (h0 : (sy_i F 86).toInt ≤ 400)
    (h1 : (sy_i F 84).toInt ≠ 0)
    (h2 : (sy_i F 85).toInt ≠ 42)
    (h3 : (sy_i F 85).toInt ≠ 47)
    (h4 : (sy_i F 84).toInt = 0 ∨ (sy_i F 84).toInt = 1)
    (k : ∀ F1 : Nat → sy_d, (∀ j, j < 82 → True → F1 j = F j) → Q (some (.int (sy_i F 84))) (sy_dh F1 X1 X2 (iv_H 0))) :
    hd_W Ls xs d jm_M39 Q (23, sy_dL F [some (.inl (.ref 30)), some (.inr (.inl 82)), some (.inr (.inl 83)), some (.inr (.inl 84)), some (.inr (.inl 85)), some (.inr (.inl 86))], sy_dS F [], sy_dh F X1 X2 (iv_H 0), 0, 0) := by
  refine hd_ret (s := 0) (nv := 87) (v := some (.inr (.inl 84))) (uh := hd_ov (iv_id 0 iv_B0) []) (f := true) (sp := [23, 61]) (d0 := 3) (O := [false, false, false, true]) (T := []) (P := [(3, .inl (.int 400), .inr (.inl 86)), (1, .inr (.inl 84), .inl (.int 0)), (1, .inr (.inl 85), .inl (.int 42)), (1, .inr (.inl 85), .inl (.int 47)), (6, .inr (.inl 84), .inl (.int 0))]) jm_ok39 (by decide +kernel) (by decide +kernel) hd F X1 X2 (fun F' hF hs => ?_)
  have b86 := hd_b (F := F) (F' := F') (k := 86) (hF 86 (by decide))
  have b84 := hd_b (F := F) (F' := F') (k := 84) (hF 84 (by decide))
  have b85 := hd_b (F := F) (F' := F') (k := 85) (hF 85 (by decide))
  have hB' : iv_in F' iv_B0 := iv_in_eq hB (fun j hj => hF j (Nat.lt_of_lt_of_le hj (by decide +kernel)))
  have hk := k (sy_cm F' (hd_ov (iv_id 0 iv_B0) [] ++ [])) (fun j hj _ => (hd_keep hB' (Nat.lt_of_lt_of_le hj (by decide +kernel)) (by simp)).trans (hF j (by omega)))
  refine ⟨List.forall_mem_cons.mpr ⟨hd_p3 rfl b86 (by have hc : ((400) : Int32).toInt = 400 := (by decide); omega), List.forall_mem_cons.mpr ⟨hd_p1 b84 rfl (by have hc : ((0) : Int32).toInt = 0 := (by decide); omega), List.forall_mem_cons.mpr ⟨hd_p1 b85 rfl (by have hc : ((42) : Int32).toInt = 42 := (by decide); omega), List.forall_mem_cons.mpr ⟨hd_p1 b85 rfl (by have hc : ((47) : Int32).toInt = 47 := (by decide); omega), List.forall_mem_cons.mpr ⟨hd_p6 b84 h4, fun _ h => absurd h List.not_mem_nil⟩⟩⟩⟩⟩, ?_⟩
  show Q (some (sy_dv F' (.inr (.inl 84)))) _
  rw [b84]
  exact hk
theorem k0pp_23_p8 {Ls : Nat} {xs : Nat → Int32} {d : Nat} {Q : Option Value → jm_h → Prop} (hd : 4 ≤ d) (F : Nat → sy_d) (X1 X2 : List jm_c) (hB : iv_in F iv_B0)
    (h0 : (sy_i F 86).toInt ≤ 400)
    (h1 : (sy_i F 84).toInt ≠ 0)
    (h2 : (sy_i F 85).toInt ≠ 42)
    (h3 : (sy_i F 85).toInt = 47)
    (h4 : 0 ≤ (sy_i F 33).toInt)
    (h5 : (sy_i F 33).toInt ≤ 400)
    (h6 : 0 ≤ (sy_i F 33).toInt ∧ (sy_i F 33).toInt < 401)
    (h7 : ((sy_ai F 39).getD (sy_i F 33).toNatClampNeg 0).toInt = (sy_i F 85).toInt)
    (h8 : (sy_i F 33).toInt < 400)
    (k : ∀ F1 : Nat → sy_d, (∀ j, j < 82 → j ≠ 33 → F1 j = F j) → F1 33 = .inl (.int ((sy_i F 33) + ((1 : Int32)))) → F1 82 = .inl (.int (sy_i F 82)) → F1 83 = .inl (.int (sy_i F 83)) → F1 84 = .inl (.int (sy_i F 85)) → F1 85 = .inl (.int (sy_i F 86)) → hd_W Ls xs d jm_M39 Q (61, sy_dL F1 [some (.inl (.ref 30)), some (.inr (.inl 82)), some (.inr (.inl 83)), none, some (.inr (.inl 84)), some (.inr (.inl 85))], sy_dS F1 [.inr (.inl 83), .inr (.inl 82), .inl (.ref 30)], sy_dh F1 X1 X2 (iv_H 0), 0, 0)) :
    hd_W Ls xs d jm_M39 Q (23, sy_dL F [some (.inl (.ref 30)), some (.inr (.inl 82)), some (.inr (.inl 83)), some (.inr (.inl 84)), some (.inr (.inl 85)), some (.inr (.inl 86))], sy_dS F [], sy_dh F X1 X2 (iv_H 0), 0, 0) := by
  refine hd_run (s := 0) (nv := 87) (pc := 61) (L := [some (.inl (.ref 30)), some (.inr (.inl 82)), some (.inr (.inl 83)), none, some (.inr (.inl 84)), some (.inr (.inl 85))]) (S := [.inr (.inl 83), .inr (.inl 82), .inl (.ref 30)]) (uh := hd_ov (iv_id 0 iv_B0) [(33, .inl (.inr (.inl 88)))]) (ul := [.inl (.inr (.inl 82)), .inl (.inr (.inl 83)), .inl (.inr (.inl 85)), .inl (.inr (.inl 86))]) (f := true) (sp := [23, 61]) (d0 := 3) (O := [false, false, false, false, false, false, true, true]) (T := [(30, [.inr (.inl 33)], [.inr (.inl 39)]), (0, [.inr (.inl 33), .inl (.int 1)], [])]) (P := [(3, .inl (.int 400), .inr (.inl 86)), (1, .inr (.inl 84), .inl (.int 0)), (1, .inr (.inl 85), .inl (.int 42)), (0, .inr (.inl 85), .inl (.int 47)), (3, .inr (.inl 33), .inl (.int 0)), (3, .inl (.int 400), .inr (.inl 33)), (6, .inr (.inl 33), .inl (.ref 401)), (0, .inr (.inl 87), .inr (.inl 85)), (2, .inr (.inl 33), .inl (.int 400))]) jm_ok39 (by decide +kernel) (by decide +kernel) hd F X1 X2 (fun F' hF hs => ?_)
  have b86 := hd_b (F := F) (F' := F') (k := 86) (hF 86 (by decide))
  have b84 := hd_b (F := F) (F' := F') (k := 84) (hF 84 (by decide))
  have b85 := hd_b (F := F) (F' := F') (k := 85) (hF 85 (by decide))
  have b33 := hd_b (F := F) (F' := F') (k := 33) (hF 33 (by decide))
  have a39 := hd_ba (F := F) (F' := F') (k := 39) (hF 39 (by decide))
  have t87 : sy_dv F' (.inr (.inl 87)) = .int ((sy_ai F 39).getD (sy_i F 33).toNatClampNeg 0) := hd_rd (hs 0 _ rfl) b33 a39
  have t88 : sy_dv F' (.inr (.inl 88)) = .int ((sy_i F 33) + ((1 : Int32))) := hd_o (hs 1 _ rfl) b33 rfl rfl
  have b82 := hd_b (F := F) (F' := F') (k := 82) (hF 82 (by decide))
  have b83 := hd_b (F := F) (F' := F') (k := 83) (hF 83 (by decide))
  have hB' : iv_in F' iv_B0 := iv_in_eq hB (fun j hj => hF j (Nat.lt_of_lt_of_le hj (by decide +kernel)))
  refine ⟨List.forall_mem_cons.mpr ⟨hd_p3 rfl b86 (by have hc : ((400) : Int32).toInt = 400 := (by decide); omega), List.forall_mem_cons.mpr ⟨hd_p1 b84 rfl (by have hc : ((0) : Int32).toInt = 0 := (by decide); omega), List.forall_mem_cons.mpr ⟨hd_p1 b85 rfl (by have hc : ((42) : Int32).toInt = 42 := (by decide); omega), List.forall_mem_cons.mpr ⟨hd_p0 b85 rfl (by have hc : ((47) : Int32).toInt = 47 := (by decide); omega), List.forall_mem_cons.mpr ⟨hd_p3 b33 rfl (by have hc : ((0) : Int32).toInt = 0 := (by decide); omega), List.forall_mem_cons.mpr ⟨hd_p3 rfl b33 (by have hc : ((400) : Int32).toInt = 400 := (by decide); omega), List.forall_mem_cons.mpr ⟨hd_pb b33 (by first | exact h6 | exact h6), List.forall_mem_cons.mpr ⟨hd_p0 t87 b85 h7, List.forall_mem_cons.mpr ⟨hd_p2 b33 rfl (by have hc : ((400) : Int32).toInt = 400 := (by decide); omega), fun _ h => absurd h List.not_mem_nil⟩⟩⟩⟩⟩⟩⟩⟩⟩, ?_⟩
  refine k _ ?_ ?_ ?_ ?_ ?_ ?_
  · exact fun j hj hn => (hd_keep hB' (Nat.lt_of_lt_of_le hj (by decide +kernel)) (by simp; omega)).trans (hF j (by omega))
  · exact hd_gi (x := .inr (.inl 88)) (by decide +kernel) t88
  · exact hd_gi (x := .inr (.inl 82)) (by decide +kernel) b82
  · exact hd_gi (x := .inr (.inl 83)) (by decide +kernel) b83
  · exact hd_gi (x := .inr (.inl 85)) (by decide +kernel) b85
  · exact hd_gi (x := .inr (.inl 86)) (by decide +kernel) b86
theorem k0pp_23_p9 {Ls : Nat} {xs : Nat → Int32} {d : Nat} {Q : Option Value → jm_h → Prop} (hd : 4 ≤ d) (F : Nat → sy_d) (X1 X2 : List jm_c) (hB : iv_in F iv_B0)
    (h0 : (sy_i F 86).toInt ≤ 400)
    (h1 : (sy_i F 84).toInt ≠ 0)
    (h2 : (sy_i F 85).toInt ≠ 42)
    (h3 : (sy_i F 85).toInt = 47)
    (h4 : 0 ≤ (sy_i F 33).toInt)
    (h5 : (sy_i F 33).toInt ≤ 400)
    (h6 : 0 ≤ (sy_i F 33).toInt ∧ (sy_i F 33).toInt < 401)
    (h7 : ((sy_ai F 39).getD (sy_i F 33).toNatClampNeg 0).toInt = (sy_i F 85).toInt)
    (h8 : 400 ≤ (sy_i F 33).toInt)
    (h9 : (sy_i F 85).toInt ≠ 42)
    (h10 : 512 ≤ (sy_i F 23).toInt)
    (h11 : 0 ≤ (sy_i F 33).toInt)
    (h12 : (sy_i F 33).toInt ≤ 400)
    (h13 : 0 ≤ (sy_i F 33).toInt ∧ (sy_i F 33).toInt < 401)
    (k : ∀ F1 : Nat → sy_d, (∀ j, j < 82 → j ≠ 34 → F1 j = F j) → F1 34 = .inl (.int ((2 : Int32))) → F1 82 = .inl (.int (sy_i F 82)) → F1 83 = .inl (.int (sy_i F 83)) → F1 84 = .inl (.int ((0 : Int32))) → F1 85 = .inl (.int ((sy_ai F 39).getD (sy_i F 33).toNatClampNeg 0)) → F1 86 = .inl (.int ((sy_i F 86) + ((1 : Int32)))) → hd_W Ls xs d jm_M39 Q (23, sy_dL F1 [some (.inl (.ref 30)), some (.inr (.inl 82)), some (.inr (.inl 83)), some (.inr (.inl 84)), some (.inr (.inl 85)), some (.inr (.inl 86))], sy_dS F1 [], sy_dh F1 X1 X2 (iv_H 0), 0, 0)) :
    hd_W Ls xs d jm_M39 Q (23, sy_dL F [some (.inl (.ref 30)), some (.inr (.inl 82)), some (.inr (.inl 83)), some (.inr (.inl 84)), some (.inr (.inl 85)), some (.inr (.inl 86))], sy_dS F [], sy_dh F X1 X2 (iv_H 0), 0, 0) := by
  refine hd_run (s := 0) (nv := 87) (pc := 23) (L := [some (.inl (.ref 30)), some (.inr (.inl 82)), some (.inr (.inl 83)), some (.inr (.inl 84)), some (.inr (.inl 85)), some (.inr (.inl 86))]) (S := []) (uh := hd_ov (iv_id 0 iv_B0) [(34, .inl (.inl (.int 2)))]) (ul := [.inl (.inr (.inl 82)), .inl (.inr (.inl 83)), .inl (.inl (.int 0)), .inl (.inr (.inl 88)), .inl (.inr (.inl 89))]) (f := true) (sp := [23, 61]) (d0 := 3) (O := [false, false, false, false, false, false, true, false, true, true, false, false]) (T := [(30, [.inr (.inl 33)], [.inr (.inl 39)]), (30, [.inr (.inl 33)], [.inr (.inl 39)]), (0, [.inr (.inl 86), .inl (.int 1)], [])]) (P := [(3, .inl (.int 400), .inr (.inl 86)), (1, .inr (.inl 84), .inl (.int 0)), (1, .inr (.inl 85), .inl (.int 42)), (0, .inr (.inl 85), .inl (.int 47)), (3, .inr (.inl 33), .inl (.int 0)), (3, .inl (.int 400), .inr (.inl 33)), (6, .inr (.inl 33), .inl (.ref 401)), (0, .inr (.inl 87), .inr (.inl 85)), (3, .inr (.inl 33), .inl (.int 400)), (1, .inr (.inl 85), .inl (.int 42)), (4, .inl (.int 512), .inr (.inl 23)), (3, .inr (.inl 33), .inl (.int 0)), (3, .inl (.int 400), .inr (.inl 33)), (6, .inr (.inl 33), .inl (.ref 401))]) jm_ok39 (by decide +kernel) (by decide +kernel) hd F X1 X2 (fun F' hF hs => ?_)
  have b86 := hd_b (F := F) (F' := F') (k := 86) (hF 86 (by decide))
  have b84 := hd_b (F := F) (F' := F') (k := 84) (hF 84 (by decide))
  have b85 := hd_b (F := F) (F' := F') (k := 85) (hF 85 (by decide))
  have b33 := hd_b (F := F) (F' := F') (k := 33) (hF 33 (by decide))
  have a39 := hd_ba (F := F) (F' := F') (k := 39) (hF 39 (by decide))
  have t87 : sy_dv F' (.inr (.inl 87)) = .int ((sy_ai F 39).getD (sy_i F 33).toNatClampNeg 0) := hd_rd (hs 0 _ rfl) b33 a39
  have b23 := hd_b (F := F) (F' := F') (k := 23) (hF 23 (by decide))
  have b82 := hd_b (F := F) (F' := F') (k := 82) (hF 82 (by decide))
  have b83 := hd_b (F := F) (F' := F') (k := 83) (hF 83 (by decide))
  have t88 : sy_dv F' (.inr (.inl 88)) = .int ((sy_ai F 39).getD (sy_i F 33).toNatClampNeg 0) := hd_rd (hs 1 _ rfl) b33 a39
  have t89 : sy_dv F' (.inr (.inl 89)) = .int ((sy_i F 86) + ((1 : Int32))) := hd_o (hs 2 _ rfl) b86 rfl rfl
  have hB' : iv_in F' iv_B0 := iv_in_eq hB (fun j hj => hF j (Nat.lt_of_lt_of_le hj (by decide +kernel)))
  refine ⟨List.forall_mem_cons.mpr ⟨hd_p3 rfl b86 (by have hc : ((400) : Int32).toInt = 400 := (by decide); omega), List.forall_mem_cons.mpr ⟨hd_p1 b84 rfl (by have hc : ((0) : Int32).toInt = 0 := (by decide); omega), List.forall_mem_cons.mpr ⟨hd_p1 b85 rfl (by have hc : ((42) : Int32).toInt = 42 := (by decide); omega), List.forall_mem_cons.mpr ⟨hd_p0 b85 rfl (by have hc : ((47) : Int32).toInt = 47 := (by decide); omega), List.forall_mem_cons.mpr ⟨hd_p3 b33 rfl (by have hc : ((0) : Int32).toInt = 0 := (by decide); omega), List.forall_mem_cons.mpr ⟨hd_p3 rfl b33 (by have hc : ((400) : Int32).toInt = 400 := (by decide); omega), List.forall_mem_cons.mpr ⟨hd_pb b33 (by first | exact h6 | exact h6), List.forall_mem_cons.mpr ⟨hd_p0 t87 b85 h7, List.forall_mem_cons.mpr ⟨hd_p3 b33 rfl (by have hc : ((400) : Int32).toInt = 400 := (by decide); omega), List.forall_mem_cons.mpr ⟨hd_p1 b85 rfl (by have hc : ((42) : Int32).toInt = 42 := (by decide); omega), List.forall_mem_cons.mpr ⟨hd_p4 rfl b23 (by have hc : ((512) : Int32).toInt = 512 := (by decide); omega), List.forall_mem_cons.mpr ⟨hd_p3 b33 rfl (by have hc : ((0) : Int32).toInt = 0 := (by decide); omega), List.forall_mem_cons.mpr ⟨hd_p3 rfl b33 (by have hc : ((400) : Int32).toInt = 400 := (by decide); omega), List.forall_mem_cons.mpr ⟨hd_pb b33 (by first | exact h13 | exact h13), fun _ h => absurd h List.not_mem_nil⟩⟩⟩⟩⟩⟩⟩⟩⟩⟩⟩⟩⟩⟩, ?_⟩
  refine k _ ?_ ?_ ?_ ?_ ?_ ?_ ?_
  · exact fun j hj hn => (hd_keep hB' (Nat.lt_of_lt_of_le hj (by decide +kernel)) (by simp; omega)).trans (hF j (by omega))
  · exact hd_gi (x := .inl (.int 2)) (by decide +kernel) rfl
  · exact hd_gi (x := .inr (.inl 82)) (by decide +kernel) b82
  · exact hd_gi (x := .inr (.inl 83)) (by decide +kernel) b83
  · exact hd_gi (x := .inl (.int 0)) (by decide +kernel) rfl
  · exact hd_gi (x := .inr (.inl 88)) (by decide +kernel) t88
  · exact hd_gi (x := .inr (.inl 89)) (by decide +kernel) t89
theorem k0pp_23_p10 {Ls : Nat} {xs : Nat → Int32} {d : Nat} {Q : Option Value → jm_h → Prop} (hd : 4 ≤ d) (F : Nat → sy_d) (X1 X2 : List jm_c) (hB : iv_in F iv_B0)
    (h0 : (sy_i F 86).toInt ≤ 400)
    (h1 : (sy_i F 84).toInt ≠ 0)
    (h2 : (sy_i F 85).toInt ≠ 42)
    (h3 : (sy_i F 85).toInt = 47)
    (h4 : 0 ≤ (sy_i F 33).toInt)
    (h5 : (sy_i F 33).toInt ≤ 400)
    (h6 : 0 ≤ (sy_i F 33).toInt ∧ (sy_i F 33).toInt < 401)
    (h7 : ((sy_ai F 39).getD (sy_i F 33).toNatClampNeg 0).toInt = (sy_i F 85).toInt)
    (h8 : 400 ≤ (sy_i F 33).toInt)
    (h9 : (sy_i F 85).toInt ≠ 42)
    (h10 : (sy_i F 23).toInt < 512)
    (h11 : 0 ≤ (sy_i F 23).toInt ∧ (sy_i F 23).toInt < 512)
    (h12 : 0 ≤ (sy_i F 33).toInt)
    (h13 : (sy_i F 33).toInt ≤ 400)
    (h14 : 0 ≤ (sy_i F 33).toInt ∧ (sy_i F 33).toInt < 401)
    (k : ∀ F1 : Nat → sy_d, (∀ j, j < 82 → j ≠ 23 ∧ j ≠ 32 ∧ j ≠ 34 → F1 j = F j) → F1 23 = .inl (.int ((sy_i F 23) + ((1 : Int32)))) → F1 32 = .inr (.inl (jm_upd (sy_ai F 32) (sy_i F 23).toNatClampNeg (((-13) : Int32)))) → F1 34 = .inl (.int ((2 : Int32))) → F1 82 = .inl (.int (sy_i F 82)) → F1 83 = .inl (.int (sy_i F 83)) → F1 84 = .inl (.int ((0 : Int32))) → F1 85 = .inl (.int ((sy_ai F 39).getD (sy_i F 33).toNatClampNeg 0)) → F1 86 = .inl (.int ((sy_i F 86) + ((1 : Int32)))) → hd_W Ls xs d jm_M39 Q (23, sy_dL F1 [some (.inl (.ref 30)), some (.inr (.inl 82)), some (.inr (.inl 83)), some (.inr (.inl 84)), some (.inr (.inl 85)), some (.inr (.inl 86))], sy_dS F1 [], sy_dh F1 X1 X2 (iv_H 0), 0, 0)) :
    hd_W Ls xs d jm_M39 Q (23, sy_dL F [some (.inl (.ref 30)), some (.inr (.inl 82)), some (.inr (.inl 83)), some (.inr (.inl 84)), some (.inr (.inl 85)), some (.inr (.inl 86))], sy_dS F [], sy_dh F X1 X2 (iv_H 0), 0, 0) := by
  refine hd_run (s := 0) (nv := 87) (pc := 23) (L := [some (.inl (.ref 30)), some (.inr (.inl 82)), some (.inr (.inl 83)), some (.inr (.inl 84)), some (.inr (.inl 85)), some (.inr (.inl 86))]) (S := []) (uh := hd_ov (iv_id 0 iv_B0) [(23, .inl (.inr (.inl 89))), (32, .inr (.inr (.inl 88))), (34, .inl (.inl (.int 2)))]) (ul := [.inl (.inr (.inl 82)), .inl (.inr (.inl 83)), .inl (.inl (.int 0)), .inl (.inr (.inl 90)), .inl (.inr (.inl 91))]) (f := true) (sp := [23, 61]) (d0 := 3) (O := [false, false, false, false, false, false, true, false, true, false, false, false]) (T := [(30, [.inr (.inl 33)], [.inr (.inl 39)]), (40, [.inr (.inl 23), .inl (.int (-13))], [.inr (.inl 32)]), (0, [.inr (.inl 23), .inl (.int 1)], []), (30, [.inr (.inl 33)], [.inr (.inl 39)]), (0, [.inr (.inl 86), .inl (.int 1)], [])]) (P := [(3, .inl (.int 400), .inr (.inl 86)), (1, .inr (.inl 84), .inl (.int 0)), (1, .inr (.inl 85), .inl (.int 42)), (0, .inr (.inl 85), .inl (.int 47)), (3, .inr (.inl 33), .inl (.int 0)), (3, .inl (.int 400), .inr (.inl 33)), (6, .inr (.inl 33), .inl (.ref 401)), (0, .inr (.inl 87), .inr (.inl 85)), (3, .inr (.inl 33), .inl (.int 400)), (1, .inr (.inl 85), .inl (.int 42)), (5, .inl (.int 512), .inr (.inl 23)), (6, .inr (.inl 23), .inl (.ref 512)), (3, .inr (.inl 33), .inl (.int 0)), (3, .inl (.int 400), .inr (.inl 33)), (6, .inr (.inl 33), .inl (.ref 401))]) jm_ok39 (by decide +kernel) (by decide +kernel) hd F X1 X2 (fun F' hF hs => ?_)
  have b86 := hd_b (F := F) (F' := F') (k := 86) (hF 86 (by decide))
  have b84 := hd_b (F := F) (F' := F') (k := 84) (hF 84 (by decide))
  have b85 := hd_b (F := F) (F' := F') (k := 85) (hF 85 (by decide))
  have b33 := hd_b (F := F) (F' := F') (k := 33) (hF 33 (by decide))
  have a39 := hd_ba (F := F) (F' := F') (k := 39) (hF 39 (by decide))
  have t87 : sy_dv F' (.inr (.inl 87)) = .int ((sy_ai F 39).getD (sy_i F 33).toNatClampNeg 0) := hd_rd (hs 0 _ rfl) b33 a39
  have b23 := hd_b (F := F) (F' := F') (k := 23) (hF 23 (by decide))
  have t89 : sy_dv F' (.inr (.inl 89)) = .int ((sy_i F 23) + ((1 : Int32))) := hd_o (hs 2 _ rfl) b23 rfl rfl
  have a32 := hd_ba (F := F) (F' := F') (k := 32) (hF 32 (by decide))
  have t88 : sy_da F' (.inr (.inl 88)) = .inl (jm_upd (sy_ai F 32) (sy_i F 23).toNatClampNeg (((-13) : Int32))) := hd_up (hs 1 _ rfl) b23 rfl a32
  have b82 := hd_b (F := F) (F' := F') (k := 82) (hF 82 (by decide))
  have b83 := hd_b (F := F) (F' := F') (k := 83) (hF 83 (by decide))
  have t90 : sy_dv F' (.inr (.inl 90)) = .int ((sy_ai F 39).getD (sy_i F 33).toNatClampNeg 0) := hd_rd (hs 3 _ rfl) b33 a39
  have t91 : sy_dv F' (.inr (.inl 91)) = .int ((sy_i F 86) + ((1 : Int32))) := hd_o (hs 4 _ rfl) b86 rfl rfl
  have hB' : iv_in F' iv_B0 := iv_in_eq hB (fun j hj => hF j (Nat.lt_of_lt_of_le hj (by decide +kernel)))
  refine ⟨List.forall_mem_cons.mpr ⟨hd_p3 rfl b86 (by have hc : ((400) : Int32).toInt = 400 := (by decide); omega), List.forall_mem_cons.mpr ⟨hd_p1 b84 rfl (by have hc : ((0) : Int32).toInt = 0 := (by decide); omega), List.forall_mem_cons.mpr ⟨hd_p1 b85 rfl (by have hc : ((42) : Int32).toInt = 42 := (by decide); omega), List.forall_mem_cons.mpr ⟨hd_p0 b85 rfl (by have hc : ((47) : Int32).toInt = 47 := (by decide); omega), List.forall_mem_cons.mpr ⟨hd_p3 b33 rfl (by have hc : ((0) : Int32).toInt = 0 := (by decide); omega), List.forall_mem_cons.mpr ⟨hd_p3 rfl b33 (by have hc : ((400) : Int32).toInt = 400 := (by decide); omega), List.forall_mem_cons.mpr ⟨hd_pb b33 (by first | exact h6 | exact h6), List.forall_mem_cons.mpr ⟨hd_p0 t87 b85 h7, List.forall_mem_cons.mpr ⟨hd_p3 b33 rfl (by have hc : ((400) : Int32).toInt = 400 := (by decide); omega), List.forall_mem_cons.mpr ⟨hd_p1 b85 rfl (by have hc : ((42) : Int32).toInt = 42 := (by decide); omega), List.forall_mem_cons.mpr ⟨hd_p5 rfl b23 (by have hc : ((512) : Int32).toInt = 512 := (by decide); omega), List.forall_mem_cons.mpr ⟨hd_pb b23 (by first | exact h11 | exact h11), List.forall_mem_cons.mpr ⟨hd_p3 b33 rfl (by have hc : ((0) : Int32).toInt = 0 := (by decide); omega), List.forall_mem_cons.mpr ⟨hd_p3 rfl b33 (by have hc : ((400) : Int32).toInt = 400 := (by decide); omega), List.forall_mem_cons.mpr ⟨hd_pb b33 (by first | exact h14 | exact h14), fun _ h => absurd h List.not_mem_nil⟩⟩⟩⟩⟩⟩⟩⟩⟩⟩⟩⟩⟩⟩⟩, ?_⟩
  refine k _ ?_ ?_ ?_ ?_ ?_ ?_ ?_ ?_ ?_
  · exact fun j hj hn => (hd_keep hB' (Nat.lt_of_lt_of_le hj (by decide +kernel)) (by simp; omega)).trans (hF j (by omega))
  · exact hd_gi (x := .inr (.inl 89)) (by decide +kernel) t89
  · exact hd_ga (a := .inr (.inl 88)) (by decide +kernel) t88
  · exact hd_gi (x := .inl (.int 2)) (by decide +kernel) rfl
  · exact hd_gi (x := .inr (.inl 82)) (by decide +kernel) b82
  · exact hd_gi (x := .inr (.inl 83)) (by decide +kernel) b83
  · exact hd_gi (x := .inl (.int 0)) (by decide +kernel) rfl
  · exact hd_gi (x := .inr (.inl 90)) (by decide +kernel) t90
  · exact hd_gi (x := .inr (.inl 91)) (by decide +kernel) t91
theorem k0pp_23_p11 {Ls : Nat} {xs : Nat → Int32} {d : Nat} {Q : Option Value → jm_h → Prop} (hd : 4 ≤ d) (F : Nat → sy_d) (X1 X2 : List jm_c) (hB : iv_in F iv_B0)
    (h0 : (sy_i F 86).toInt ≤ 400)
    (h1 : (sy_i F 84).toInt ≠ 0)
    (h2 : (sy_i F 85).toInt ≠ 42)
    (h3 : (sy_i F 85).toInt = 47)
    (h4 : 0 ≤ (sy_i F 33).toInt)
    (h5 : (sy_i F 33).toInt ≤ 400)
    (h6 : 0 ≤ (sy_i F 33).toInt ∧ (sy_i F 33).toInt < 401)
    (h7 : ((sy_ai F 39).getD (sy_i F 33).toNatClampNeg 0).toInt ≠ (sy_i F 85).toInt)
    (h8 : (sy_i F 85).toInt ≠ 42)
    (h9 : 512 ≤ (sy_i F 23).toInt)
    (h10 : 0 ≤ (sy_i F 33).toInt)
    (h11 : (sy_i F 33).toInt ≤ 400)
    (h12 : 0 ≤ (sy_i F 33).toInt ∧ (sy_i F 33).toInt < 401)
    (k : ∀ F1 : Nat → sy_d, (∀ j, j < 82 → j ≠ 34 → F1 j = F j) → F1 34 = .inl (.int ((1 : Int32))) → F1 82 = .inl (.int (sy_i F 82)) → F1 83 = .inl (.int (sy_i F 83)) → F1 84 = .inl (.int ((0 : Int32))) → F1 85 = .inl (.int ((sy_ai F 39).getD (sy_i F 33).toNatClampNeg 0)) → F1 86 = .inl (.int ((sy_i F 86) + ((1 : Int32)))) → hd_W Ls xs d jm_M39 Q (23, sy_dL F1 [some (.inl (.ref 30)), some (.inr (.inl 82)), some (.inr (.inl 83)), some (.inr (.inl 84)), some (.inr (.inl 85)), some (.inr (.inl 86))], sy_dS F1 [], sy_dh F1 X1 X2 (iv_H 0), 0, 0)) :
    hd_W Ls xs d jm_M39 Q (23, sy_dL F [some (.inl (.ref 30)), some (.inr (.inl 82)), some (.inr (.inl 83)), some (.inr (.inl 84)), some (.inr (.inl 85)), some (.inr (.inl 86))], sy_dS F [], sy_dh F X1 X2 (iv_H 0), 0, 0) := by
  refine hd_run (s := 0) (nv := 87) (pc := 23) (L := [some (.inl (.ref 30)), some (.inr (.inl 82)), some (.inr (.inl 83)), some (.inr (.inl 84)), some (.inr (.inl 85)), some (.inr (.inl 86))]) (S := []) (uh := hd_ov (iv_id 0 iv_B0) [(34, .inl (.inl (.int 1)))]) (ul := [.inl (.inr (.inl 82)), .inl (.inr (.inl 83)), .inl (.inl (.int 0)), .inl (.inr (.inl 88)), .inl (.inr (.inl 89))]) (f := true) (sp := [23, 61]) (d0 := 3) (O := [false, false, false, false, false, false, false, true, true, false, false]) (T := [(30, [.inr (.inl 33)], [.inr (.inl 39)]), (30, [.inr (.inl 33)], [.inr (.inl 39)]), (0, [.inr (.inl 86), .inl (.int 1)], [])]) (P := [(3, .inl (.int 400), .inr (.inl 86)), (1, .inr (.inl 84), .inl (.int 0)), (1, .inr (.inl 85), .inl (.int 42)), (0, .inr (.inl 85), .inl (.int 47)), (3, .inr (.inl 33), .inl (.int 0)), (3, .inl (.int 400), .inr (.inl 33)), (6, .inr (.inl 33), .inl (.ref 401)), (1, .inr (.inl 87), .inr (.inl 85)), (1, .inr (.inl 85), .inl (.int 42)), (4, .inl (.int 512), .inr (.inl 23)), (3, .inr (.inl 33), .inl (.int 0)), (3, .inl (.int 400), .inr (.inl 33)), (6, .inr (.inl 33), .inl (.ref 401))]) jm_ok39 (by decide +kernel) (by decide +kernel) hd F X1 X2 (fun F' hF hs => ?_)
  have b86 := hd_b (F := F) (F' := F') (k := 86) (hF 86 (by decide))
  have b84 := hd_b (F := F) (F' := F') (k := 84) (hF 84 (by decide))
  have b85 := hd_b (F := F) (F' := F') (k := 85) (hF 85 (by decide))
  have b33 := hd_b (F := F) (F' := F') (k := 33) (hF 33 (by decide))
  have a39 := hd_ba (F := F) (F' := F') (k := 39) (hF 39 (by decide))
  have t87 : sy_dv F' (.inr (.inl 87)) = .int ((sy_ai F 39).getD (sy_i F 33).toNatClampNeg 0) := hd_rd (hs 0 _ rfl) b33 a39
  have b23 := hd_b (F := F) (F' := F') (k := 23) (hF 23 (by decide))
  have b82 := hd_b (F := F) (F' := F') (k := 82) (hF 82 (by decide))
  have b83 := hd_b (F := F) (F' := F') (k := 83) (hF 83 (by decide))
  have t88 : sy_dv F' (.inr (.inl 88)) = .int ((sy_ai F 39).getD (sy_i F 33).toNatClampNeg 0) := hd_rd (hs 1 _ rfl) b33 a39
  have t89 : sy_dv F' (.inr (.inl 89)) = .int ((sy_i F 86) + ((1 : Int32))) := hd_o (hs 2 _ rfl) b86 rfl rfl
  have hB' : iv_in F' iv_B0 := iv_in_eq hB (fun j hj => hF j (Nat.lt_of_lt_of_le hj (by decide +kernel)))
  refine ⟨List.forall_mem_cons.mpr ⟨hd_p3 rfl b86 (by have hc : ((400) : Int32).toInt = 400 := (by decide); omega), List.forall_mem_cons.mpr ⟨hd_p1 b84 rfl (by have hc : ((0) : Int32).toInt = 0 := (by decide); omega), List.forall_mem_cons.mpr ⟨hd_p1 b85 rfl (by have hc : ((42) : Int32).toInt = 42 := (by decide); omega), List.forall_mem_cons.mpr ⟨hd_p0 b85 rfl (by have hc : ((47) : Int32).toInt = 47 := (by decide); omega), List.forall_mem_cons.mpr ⟨hd_p3 b33 rfl (by have hc : ((0) : Int32).toInt = 0 := (by decide); omega), List.forall_mem_cons.mpr ⟨hd_p3 rfl b33 (by have hc : ((400) : Int32).toInt = 400 := (by decide); omega), List.forall_mem_cons.mpr ⟨hd_pb b33 (by first | exact h6 | exact h6), List.forall_mem_cons.mpr ⟨hd_p1 t87 b85 h7, List.forall_mem_cons.mpr ⟨hd_p1 b85 rfl (by have hc : ((42) : Int32).toInt = 42 := (by decide); omega), List.forall_mem_cons.mpr ⟨hd_p4 rfl b23 (by have hc : ((512) : Int32).toInt = 512 := (by decide); omega), List.forall_mem_cons.mpr ⟨hd_p3 b33 rfl (by have hc : ((0) : Int32).toInt = 0 := (by decide); omega), List.forall_mem_cons.mpr ⟨hd_p3 rfl b33 (by have hc : ((400) : Int32).toInt = 400 := (by decide); omega), List.forall_mem_cons.mpr ⟨hd_pb b33 (by first | exact h12 | exact h12), fun _ h => absurd h List.not_mem_nil⟩⟩⟩⟩⟩⟩⟩⟩⟩⟩⟩⟩⟩, ?_⟩
  refine k _ ?_ ?_ ?_ ?_ ?_ ?_ ?_
  · exact fun j hj hn => (hd_keep hB' (Nat.lt_of_lt_of_le hj (by decide +kernel)) (by simp; omega)).trans (hF j (by omega))
  · exact hd_gi (x := .inl (.int 1)) (by decide +kernel) rfl
  · exact hd_gi (x := .inr (.inl 82)) (by decide +kernel) b82
  · exact hd_gi (x := .inr (.inl 83)) (by decide +kernel) b83
  · exact hd_gi (x := .inl (.int 0)) (by decide +kernel) rfl
  · exact hd_gi (x := .inr (.inl 88)) (by decide +kernel) t88
  · exact hd_gi (x := .inr (.inl 89)) (by decide +kernel) t89
theorem k0pp_23_p12 {Ls : Nat} {xs : Nat → Int32} {d : Nat} {Q : Option Value → jm_h → Prop} (hd : 4 ≤ d) (F : Nat → sy_d) (X1 X2 : List jm_c) (hB : iv_in F iv_B0)
    (h0 : (sy_i F 86).toInt ≤ 400)
    (h1 : (sy_i F 84).toInt ≠ 0)
    (h2 : (sy_i F 85).toInt ≠ 42)
    (h3 : (sy_i F 85).toInt = 47)
    (h4 : 0 ≤ (sy_i F 33).toInt)
    (h5 : (sy_i F 33).toInt ≤ 400)
    (h6 : 0 ≤ (sy_i F 33).toInt ∧ (sy_i F 33).toInt < 401)
    (h7 : ((sy_ai F 39).getD (sy_i F 33).toNatClampNeg 0).toInt ≠ (sy_i F 85).toInt)
    (h8 : (sy_i F 85).toInt ≠ 42)
    (h9 : (sy_i F 23).toInt < 512)
    (h10 : 0 ≤ (sy_i F 23).toInt ∧ (sy_i F 23).toInt < 512)
    (h11 : 0 ≤ (sy_i F 33).toInt)
    (h12 : (sy_i F 33).toInt ≤ 400)
    (h13 : 0 ≤ (sy_i F 33).toInt ∧ (sy_i F 33).toInt < 401)
    (k : ∀ F1 : Nat → sy_d, (∀ j, j < 82 → j ≠ 23 ∧ j ≠ 32 ∧ j ≠ 34 → F1 j = F j) → F1 23 = .inl (.int ((sy_i F 23) + ((1 : Int32)))) → F1 32 = .inr (.inl (jm_upd (sy_ai F 32) (sy_i F 23).toNatClampNeg (((-13) : Int32)))) → F1 34 = .inl (.int ((1 : Int32))) → F1 82 = .inl (.int (sy_i F 82)) → F1 83 = .inl (.int (sy_i F 83)) → F1 84 = .inl (.int ((0 : Int32))) → F1 85 = .inl (.int ((sy_ai F 39).getD (sy_i F 33).toNatClampNeg 0)) → F1 86 = .inl (.int ((sy_i F 86) + ((1 : Int32)))) → hd_W Ls xs d jm_M39 Q (23, sy_dL F1 [some (.inl (.ref 30)), some (.inr (.inl 82)), some (.inr (.inl 83)), some (.inr (.inl 84)), some (.inr (.inl 85)), some (.inr (.inl 86))], sy_dS F1 [], sy_dh F1 X1 X2 (iv_H 0), 0, 0)) :
    hd_W Ls xs d jm_M39 Q (23, sy_dL F [some (.inl (.ref 30)), some (.inr (.inl 82)), some (.inr (.inl 83)), some (.inr (.inl 84)), some (.inr (.inl 85)), some (.inr (.inl 86))], sy_dS F [], sy_dh F X1 X2 (iv_H 0), 0, 0) := by
  refine hd_run (s := 0) (nv := 87) (pc := 23) (L := [some (.inl (.ref 30)), some (.inr (.inl 82)), some (.inr (.inl 83)), some (.inr (.inl 84)), some (.inr (.inl 85)), some (.inr (.inl 86))]) (S := []) (uh := hd_ov (iv_id 0 iv_B0) [(23, .inl (.inr (.inl 89))), (32, .inr (.inr (.inl 88))), (34, .inl (.inl (.int 1)))]) (ul := [.inl (.inr (.inl 82)), .inl (.inr (.inl 83)), .inl (.inl (.int 0)), .inl (.inr (.inl 90)), .inl (.inr (.inl 91))]) (f := true) (sp := [23, 61]) (d0 := 3) (O := [false, false, false, false, false, false, false, true, false, false, false]) (T := [(30, [.inr (.inl 33)], [.inr (.inl 39)]), (40, [.inr (.inl 23), .inl (.int (-13))], [.inr (.inl 32)]), (0, [.inr (.inl 23), .inl (.int 1)], []), (30, [.inr (.inl 33)], [.inr (.inl 39)]), (0, [.inr (.inl 86), .inl (.int 1)], [])]) (P := [(3, .inl (.int 400), .inr (.inl 86)), (1, .inr (.inl 84), .inl (.int 0)), (1, .inr (.inl 85), .inl (.int 42)), (0, .inr (.inl 85), .inl (.int 47)), (3, .inr (.inl 33), .inl (.int 0)), (3, .inl (.int 400), .inr (.inl 33)), (6, .inr (.inl 33), .inl (.ref 401)), (1, .inr (.inl 87), .inr (.inl 85)), (1, .inr (.inl 85), .inl (.int 42)), (5, .inl (.int 512), .inr (.inl 23)), (6, .inr (.inl 23), .inl (.ref 512)), (3, .inr (.inl 33), .inl (.int 0)), (3, .inl (.int 400), .inr (.inl 33)), (6, .inr (.inl 33), .inl (.ref 401))]) jm_ok39 (by decide +kernel) (by decide +kernel) hd F X1 X2 (fun F' hF hs => ?_)
  have b86 := hd_b (F := F) (F' := F') (k := 86) (hF 86 (by decide))
  have b84 := hd_b (F := F) (F' := F') (k := 84) (hF 84 (by decide))
  have b85 := hd_b (F := F) (F' := F') (k := 85) (hF 85 (by decide))
  have b33 := hd_b (F := F) (F' := F') (k := 33) (hF 33 (by decide))
  have a39 := hd_ba (F := F) (F' := F') (k := 39) (hF 39 (by decide))
  have t87 : sy_dv F' (.inr (.inl 87)) = .int ((sy_ai F 39).getD (sy_i F 33).toNatClampNeg 0) := hd_rd (hs 0 _ rfl) b33 a39
  have b23 := hd_b (F := F) (F' := F') (k := 23) (hF 23 (by decide))
  have t89 : sy_dv F' (.inr (.inl 89)) = .int ((sy_i F 23) + ((1 : Int32))) := hd_o (hs 2 _ rfl) b23 rfl rfl
  have a32 := hd_ba (F := F) (F' := F') (k := 32) (hF 32 (by decide))
  have t88 : sy_da F' (.inr (.inl 88)) = .inl (jm_upd (sy_ai F 32) (sy_i F 23).toNatClampNeg (((-13) : Int32))) := hd_up (hs 1 _ rfl) b23 rfl a32
  have b82 := hd_b (F := F) (F' := F') (k := 82) (hF 82 (by decide))
  have b83 := hd_b (F := F) (F' := F') (k := 83) (hF 83 (by decide))
  have t90 : sy_dv F' (.inr (.inl 90)) = .int ((sy_ai F 39).getD (sy_i F 33).toNatClampNeg 0) := hd_rd (hs 3 _ rfl) b33 a39
  have t91 : sy_dv F' (.inr (.inl 91)) = .int ((sy_i F 86) + ((1 : Int32))) := hd_o (hs 4 _ rfl) b86 rfl rfl
  have hB' : iv_in F' iv_B0 := iv_in_eq hB (fun j hj => hF j (Nat.lt_of_lt_of_le hj (by decide +kernel)))
  refine ⟨List.forall_mem_cons.mpr ⟨hd_p3 rfl b86 (by have hc : ((400) : Int32).toInt = 400 := (by decide); omega), List.forall_mem_cons.mpr ⟨hd_p1 b84 rfl (by have hc : ((0) : Int32).toInt = 0 := (by decide); omega), List.forall_mem_cons.mpr ⟨hd_p1 b85 rfl (by have hc : ((42) : Int32).toInt = 42 := (by decide); omega), List.forall_mem_cons.mpr ⟨hd_p0 b85 rfl (by have hc : ((47) : Int32).toInt = 47 := (by decide); omega), List.forall_mem_cons.mpr ⟨hd_p3 b33 rfl (by have hc : ((0) : Int32).toInt = 0 := (by decide); omega), List.forall_mem_cons.mpr ⟨hd_p3 rfl b33 (by have hc : ((400) : Int32).toInt = 400 := (by decide); omega), List.forall_mem_cons.mpr ⟨hd_pb b33 (by first | exact h6 | exact h6), List.forall_mem_cons.mpr ⟨hd_p1 t87 b85 h7, List.forall_mem_cons.mpr ⟨hd_p1 b85 rfl (by have hc : ((42) : Int32).toInt = 42 := (by decide); omega), List.forall_mem_cons.mpr ⟨hd_p5 rfl b23 (by have hc : ((512) : Int32).toInt = 512 := (by decide); omega), List.forall_mem_cons.mpr ⟨hd_pb b23 (by first | exact h10 | exact h10), List.forall_mem_cons.mpr ⟨hd_p3 b33 rfl (by have hc : ((0) : Int32).toInt = 0 := (by decide); omega), List.forall_mem_cons.mpr ⟨hd_p3 rfl b33 (by have hc : ((400) : Int32).toInt = 400 := (by decide); omega), List.forall_mem_cons.mpr ⟨hd_pb b33 (by first | exact h13 | exact h13), fun _ h => absurd h List.not_mem_nil⟩⟩⟩⟩⟩⟩⟩⟩⟩⟩⟩⟩⟩⟩, ?_⟩
  refine k _ ?_ ?_ ?_ ?_ ?_ ?_ ?_ ?_ ?_
  · exact fun j hj hn => (hd_keep hB' (Nat.lt_of_lt_of_le hj (by decide +kernel)) (by simp; omega)).trans (hF j (by omega))
  · exact hd_gi (x := .inr (.inl 89)) (by decide +kernel) t89
  · exact hd_ga (a := .inr (.inl 88)) (by decide +kernel) t88
  · exact hd_gi (x := .inl (.int 1)) (by decide +kernel) rfl
  · exact hd_gi (x := .inr (.inl 82)) (by decide +kernel) b82
  · exact hd_gi (x := .inr (.inl 83)) (by decide +kernel) b83
  · exact hd_gi (x := .inl (.int 0)) (by decide +kernel) rfl
  · exact hd_gi (x := .inr (.inl 90)) (by decide +kernel) t90
  · exact hd_gi (x := .inr (.inl 91)) (by decide +kernel) t91
theorem k0pp_23 {Ls : Nat} {xs : Nat → Int32} {d : Nat} {Q : Option Value → jm_h → Prop} (hd : 4 ≤ d) (F : Nat → sy_d) (X1 X2 : List jm_c) (hB : iv_in F iv_B0)
    (a86 : 0 ≤ (sy_i F 86).toInt ∧ (sy_i F 86).toInt ≤ 401)
    (o0 : 400 < (sy_i F 86).toInt → ((sy_i F 84).toInt = 0 ∨ (sy_i F 84).toInt = 1))
    (o1 : (sy_i F 86).toInt ≤ 400 → (sy_i F 84).toInt ≠ 0 → (sy_i F 85).toInt ≠ 42 → (sy_i F 85).toInt ≠ 47 → ((sy_i F 84).toInt = 0 ∨ (sy_i F 84).toInt = 1))
    (k0 : 400 < (sy_i F 86).toInt → ∀ F1 : Nat → sy_d, iv_in F1 iv_B0 → (∀ j, j < 82 → j ∉ ([] : List Nat) → F1 j = F j) → (sy_i F1 33).toInt = (sy_i F 33).toInt → (sy_i F1 34).toInt = (sy_i F 34).toInt → (sy_i F1 23).toInt = (sy_i F 23).toInt → sy_ai F1 39 = sy_ai F 39 → Q (some (.int (sy_i F 84))) (sy_dh F1 X1 X2 (iv_H 0)))
    (k1 : (sy_i F 86).toInt ≤ 400 → (sy_i F 84).toInt = 0 → ∀ F1 : Nat → sy_d, iv_in F1 iv_B0 → (∀ j, j < 82 → j ∉ ([] : List Nat) → F1 j = F j) → (sy_i F1 33).toInt = (sy_i F 33).toInt → (sy_i F1 34).toInt = (sy_i F 34).toInt → (sy_i F1 23).toInt = (sy_i F 23).toInt → sy_ai F1 39 = sy_ai F 39 → Q (some (.int (sy_i F 84))) (sy_dh F1 X1 X2 (iv_H 0)))
    (k2 : (sy_i F 86).toInt ≤ 400 → (sy_i F 84).toInt ≠ 0 → (sy_i F 85).toInt = 42 → 0 ≤ (sy_i F 33).toInt → (sy_i F 33).toInt ≤ 400 → ((sy_ai F 39).getD ((sy_i F 33).toInt).toNat 0).toInt = (sy_i F 85).toInt → (sy_i F 33).toInt < 400 → ∀ F1 : Nat → sy_d, iv_in F1 iv_B0 → (∀ j, j < 82 → j ∉ ([33] : List Nat) → F1 j = F j) → (sy_i F1 33).toInt = ((sy_i F 33).toInt + 1) → (sy_i F1 34).toInt = (sy_i F 34).toInt → (sy_i F1 23).toInt = (sy_i F 23).toInt → sy_ai F1 39 = sy_ai F 39 → (sy_i F1 82).toInt = (sy_i F 82).toInt → (sy_i F1 83).toInt = (sy_i F 83).toInt → (sy_i F1 84).toInt = (sy_i F 85).toInt → (sy_i F1 85).toInt = (sy_i F 86).toInt → hd_W Ls xs d jm_M39 Q (61, sy_dL F1 [some (.inl (.ref 30)), some (.inr (.inl 82)), some (.inr (.inl 83)), none, some (.inr (.inl 84)), some (.inr (.inl 85))], sy_dS F1 [.inr (.inl 83), .inr (.inl 82), .inl (.ref 30)], sy_dh F1 X1 X2 (iv_H 0), 0, 0))
    (k3 : (sy_i F 86).toInt ≤ 400 → (sy_i F 84).toInt ≠ 0 → (sy_i F 85).toInt = 42 → 0 ≤ (sy_i F 33).toInt → (sy_i F 33).toInt ≤ 400 → ((sy_ai F 39).getD ((sy_i F 33).toInt).toNat 0).toInt = (sy_i F 85).toInt → 400 ≤ (sy_i F 33).toInt → (sy_i F 85).toInt = 42 → 512 ≤ (sy_i F 23).toInt → 0 ≤ (sy_i F 33).toInt → (sy_i F 33).toInt ≤ 400 → ∀ F1 : Nat → sy_d, iv_in F1 iv_B0 → (∀ j, j < 82 → j ∉ ([34] : List Nat) → F1 j = F j) → (sy_i F1 33).toInt = (sy_i F 33).toInt → (sy_i F1 34).toInt = 2 → (sy_i F1 23).toInt = (sy_i F 23).toInt → sy_ai F1 39 = sy_ai F 39 → (sy_i F1 82).toInt = (sy_i F 82).toInt → (sy_i F1 83).toInt = (sy_i F 83).toInt → (sy_i F1 84).toInt = 0 → (sy_i F1 85).toInt = ((sy_ai F 39).getD ((sy_i F 33).toInt).toNat 0).toInt → (sy_i F1 86).toInt = ((sy_i F 86).toInt + 1) → hd_W Ls xs d jm_M39 Q (23, sy_dL F1 [some (.inl (.ref 30)), some (.inr (.inl 82)), some (.inr (.inl 83)), some (.inr (.inl 84)), some (.inr (.inl 85)), some (.inr (.inl 86))], sy_dS F1 [], sy_dh F1 X1 X2 (iv_H 0), 0, 0))
    (k4 : (sy_i F 86).toInt ≤ 400 → (sy_i F 84).toInt ≠ 0 → (sy_i F 85).toInt = 42 → 0 ≤ (sy_i F 33).toInt → (sy_i F 33).toInt ≤ 400 → ((sy_ai F 39).getD ((sy_i F 33).toInt).toNat 0).toInt = (sy_i F 85).toInt → 400 ≤ (sy_i F 33).toInt → (sy_i F 85).toInt = 42 → (sy_i F 23).toInt < 512 → 0 ≤ (sy_i F 33).toInt → (sy_i F 33).toInt ≤ 400 → ∀ F1 : Nat → sy_d, iv_in F1 iv_B0 → (∀ j, j < 82 → j ∉ ([23, 32, 34] : List Nat) → F1 j = F j) → (sy_i F1 33).toInt = (sy_i F 33).toInt → (sy_i F1 34).toInt = 2 → (sy_i F1 23).toInt = ((sy_i F 23).toInt + 1) → sy_ai F1 39 = sy_ai F 39 → (sy_i F1 82).toInt = (sy_i F 82).toInt → (sy_i F1 83).toInt = (sy_i F 83).toInt → (sy_i F1 84).toInt = 0 → (sy_i F1 85).toInt = ((sy_ai F 39).getD ((sy_i F 33).toInt).toNat 0).toInt → (sy_i F1 86).toInt = ((sy_i F 86).toInt + 1) → hd_W Ls xs d jm_M39 Q (23, sy_dL F1 [some (.inl (.ref 30)), some (.inr (.inl 82)), some (.inr (.inl 83)), some (.inr (.inl 84)), some (.inr (.inl 85)), some (.inr (.inl 86))], sy_dS F1 [], sy_dh F1 X1 X2 (iv_H 0), 0, 0))
    (k5 : (sy_i F 86).toInt ≤ 400 → (sy_i F 84).toInt ≠ 0 → (sy_i F 85).toInt = 42 → 0 ≤ (sy_i F 33).toInt → (sy_i F 33).toInt ≤ 400 → ((sy_ai F 39).getD ((sy_i F 33).toInt).toNat 0).toInt ≠ (sy_i F 85).toInt → (sy_i F 85).toInt = 42 → 512 ≤ (sy_i F 23).toInt → 0 ≤ (sy_i F 33).toInt → (sy_i F 33).toInt ≤ 400 → ∀ F1 : Nat → sy_d, iv_in F1 iv_B0 → (∀ j, j < 82 → j ∉ ([34] : List Nat) → F1 j = F j) → (sy_i F1 33).toInt = (sy_i F 33).toInt → (sy_i F1 34).toInt = 1 → (sy_i F1 23).toInt = (sy_i F 23).toInt → sy_ai F1 39 = sy_ai F 39 → (sy_i F1 82).toInt = (sy_i F 82).toInt → (sy_i F1 83).toInt = (sy_i F 83).toInt → (sy_i F1 84).toInt = 0 → (sy_i F1 85).toInt = ((sy_ai F 39).getD ((sy_i F 33).toInt).toNat 0).toInt → (sy_i F1 86).toInt = ((sy_i F 86).toInt + 1) → hd_W Ls xs d jm_M39 Q (23, sy_dL F1 [some (.inl (.ref 30)), some (.inr (.inl 82)), some (.inr (.inl 83)), some (.inr (.inl 84)), some (.inr (.inl 85)), some (.inr (.inl 86))], sy_dS F1 [], sy_dh F1 X1 X2 (iv_H 0), 0, 0))
    (k6 : (sy_i F 86).toInt ≤ 400 → (sy_i F 84).toInt ≠ 0 → (sy_i F 85).toInt = 42 → 0 ≤ (sy_i F 33).toInt → (sy_i F 33).toInt ≤ 400 → ((sy_ai F 39).getD ((sy_i F 33).toInt).toNat 0).toInt ≠ (sy_i F 85).toInt → (sy_i F 85).toInt = 42 → (sy_i F 23).toInt < 512 → 0 ≤ (sy_i F 33).toInt → (sy_i F 33).toInt ≤ 400 → ∀ F1 : Nat → sy_d, iv_in F1 iv_B0 → (∀ j, j < 82 → j ∉ ([23, 32, 34] : List Nat) → F1 j = F j) → (sy_i F1 33).toInt = (sy_i F 33).toInt → (sy_i F1 34).toInt = 1 → (sy_i F1 23).toInt = ((sy_i F 23).toInt + 1) → sy_ai F1 39 = sy_ai F 39 → (sy_i F1 82).toInt = (sy_i F 82).toInt → (sy_i F1 83).toInt = (sy_i F 83).toInt → (sy_i F1 84).toInt = 0 → (sy_i F1 85).toInt = ((sy_ai F 39).getD ((sy_i F 33).toInt).toNat 0).toInt → (sy_i F1 86).toInt = ((sy_i F 86).toInt + 1) → hd_W Ls xs d jm_M39 Q (23, sy_dL F1 [some (.inl (.ref 30)), some (.inr (.inl 82)), some (.inr (.inl 83)), some (.inr (.inl 84)), some (.inr (.inl 85)), some (.inr (.inl 86))], sy_dS F1 [], sy_dh F1 X1 X2 (iv_H 0), 0, 0))
    (k7 : (sy_i F 86).toInt ≤ 400 → (sy_i F 84).toInt ≠ 0 → (sy_i F 85).toInt ≠ 42 → (sy_i F 85).toInt ≠ 47 → ∀ F1 : Nat → sy_d, iv_in F1 iv_B0 → (∀ j, j < 82 → j ∉ ([] : List Nat) → F1 j = F j) → (sy_i F1 33).toInt = (sy_i F 33).toInt → (sy_i F1 34).toInt = (sy_i F 34).toInt → (sy_i F1 23).toInt = (sy_i F 23).toInt → sy_ai F1 39 = sy_ai F 39 → Q (some (.int (sy_i F 84))) (sy_dh F1 X1 X2 (iv_H 0)))
    (k8 : (sy_i F 86).toInt ≤ 400 → (sy_i F 84).toInt ≠ 0 → (sy_i F 85).toInt ≠ 42 → (sy_i F 85).toInt = 47 → 0 ≤ (sy_i F 33).toInt → (sy_i F 33).toInt ≤ 400 → ((sy_ai F 39).getD ((sy_i F 33).toInt).toNat 0).toInt = (sy_i F 85).toInt → (sy_i F 33).toInt < 400 → ∀ F1 : Nat → sy_d, iv_in F1 iv_B0 → (∀ j, j < 82 → j ∉ ([33] : List Nat) → F1 j = F j) → (sy_i F1 33).toInt = ((sy_i F 33).toInt + 1) → (sy_i F1 34).toInt = (sy_i F 34).toInt → (sy_i F1 23).toInt = (sy_i F 23).toInt → sy_ai F1 39 = sy_ai F 39 → (sy_i F1 82).toInt = (sy_i F 82).toInt → (sy_i F1 83).toInt = (sy_i F 83).toInt → (sy_i F1 84).toInt = (sy_i F 85).toInt → (sy_i F1 85).toInt = (sy_i F 86).toInt → hd_W Ls xs d jm_M39 Q (61, sy_dL F1 [some (.inl (.ref 30)), some (.inr (.inl 82)), some (.inr (.inl 83)), none, some (.inr (.inl 84)), some (.inr (.inl 85))], sy_dS F1 [.inr (.inl 83), .inr (.inl 82), .inl (.ref 30)], sy_dh F1 X1 X2 (iv_H 0), 0, 0))
    (k9 : (sy_i F 86).toInt ≤ 400 → (sy_i F 84).toInt ≠ 0 → (sy_i F 85).toInt ≠ 42 → (sy_i F 85).toInt = 47 → 0 ≤ (sy_i F 33).toInt → (sy_i F 33).toInt ≤ 400 → ((sy_ai F 39).getD ((sy_i F 33).toInt).toNat 0).toInt = (sy_i F 85).toInt → 400 ≤ (sy_i F 33).toInt → (sy_i F 85).toInt ≠ 42 → 512 ≤ (sy_i F 23).toInt → 0 ≤ (sy_i F 33).toInt → (sy_i F 33).toInt ≤ 400 → ∀ F1 : Nat → sy_d, iv_in F1 iv_B0 → (∀ j, j < 82 → j ∉ ([34] : List Nat) → F1 j = F j) → (sy_i F1 33).toInt = (sy_i F 33).toInt → (sy_i F1 34).toInt = 2 → (sy_i F1 23).toInt = (sy_i F 23).toInt → sy_ai F1 39 = sy_ai F 39 → (sy_i F1 82).toInt = (sy_i F 82).toInt → (sy_i F1 83).toInt = (sy_i F 83).toInt → (sy_i F1 84).toInt = 0 → (sy_i F1 85).toInt = ((sy_ai F 39).getD ((sy_i F 33).toInt).toNat 0).toInt → (sy_i F1 86).toInt = ((sy_i F 86).toInt + 1) → hd_W Ls xs d jm_M39 Q (23, sy_dL F1 [some (.inl (.ref 30)), some (.inr (.inl 82)), some (.inr (.inl 83)), some (.inr (.inl 84)), some (.inr (.inl 85)), some (.inr (.inl 86))], sy_dS F1 [], sy_dh F1 X1 X2 (iv_H 0), 0, 0))
    (k10 : (sy_i F 86).toInt ≤ 400 → (sy_i F 84).toInt ≠ 0 → (sy_i F 85).toInt ≠ 42 → (sy_i F 85).toInt = 47 → 0 ≤ (sy_i F 33).toInt → (sy_i F 33).toInt ≤ 400 → ((sy_ai F 39).getD ((sy_i F 33).toInt).toNat 0).toInt = (sy_i F 85).toInt → 400 ≤ (sy_i F 33).toInt → (sy_i F 85).toInt ≠ 42 → (sy_i F 23).toInt < 512 → 0 ≤ (sy_i F 33).toInt → (sy_i F 33).toInt ≤ 400 → ∀ F1 : Nat → sy_d, iv_in F1 iv_B0 → (∀ j, j < 82 → j ∉ ([23, 32, 34] : List Nat) → F1 j = F j) → (sy_i F1 33).toInt = (sy_i F 33).toInt → (sy_i F1 34).toInt = 2 → (sy_i F1 23).toInt = ((sy_i F 23).toInt + 1) → sy_ai F1 39 = sy_ai F 39 → (sy_i F1 82).toInt = (sy_i F 82).toInt → (sy_i F1 83).toInt = (sy_i F 83).toInt → (sy_i F1 84).toInt = 0 → (sy_i F1 85).toInt = ((sy_ai F 39).getD ((sy_i F 33).toInt).toNat 0).toInt → (sy_i F1 86).toInt = ((sy_i F 86).toInt + 1) → hd_W Ls xs d jm_M39 Q (23, sy_dL F1 [some (.inl (.ref 30)), some (.inr (.inl 82)), some (.inr (.inl 83)), some (.inr (.inl 84)), some (.inr (.inl 85)), some (.inr (.inl 86))], sy_dS F1 [], sy_dh F1 X1 X2 (iv_H 0), 0, 0))
    (k11 : (sy_i F 86).toInt ≤ 400 → (sy_i F 84).toInt ≠ 0 → (sy_i F 85).toInt ≠ 42 → (sy_i F 85).toInt = 47 → 0 ≤ (sy_i F 33).toInt → (sy_i F 33).toInt ≤ 400 → ((sy_ai F 39).getD ((sy_i F 33).toInt).toNat 0).toInt ≠ (sy_i F 85).toInt → (sy_i F 85).toInt ≠ 42 → 512 ≤ (sy_i F 23).toInt → 0 ≤ (sy_i F 33).toInt → (sy_i F 33).toInt ≤ 400 → ∀ F1 : Nat → sy_d, iv_in F1 iv_B0 → (∀ j, j < 82 → j ∉ ([34] : List Nat) → F1 j = F j) → (sy_i F1 33).toInt = (sy_i F 33).toInt → (sy_i F1 34).toInt = 1 → (sy_i F1 23).toInt = (sy_i F 23).toInt → sy_ai F1 39 = sy_ai F 39 → (sy_i F1 82).toInt = (sy_i F 82).toInt → (sy_i F1 83).toInt = (sy_i F 83).toInt → (sy_i F1 84).toInt = 0 → (sy_i F1 85).toInt = ((sy_ai F 39).getD ((sy_i F 33).toInt).toNat 0).toInt → (sy_i F1 86).toInt = ((sy_i F 86).toInt + 1) → hd_W Ls xs d jm_M39 Q (23, sy_dL F1 [some (.inl (.ref 30)), some (.inr (.inl 82)), some (.inr (.inl 83)), some (.inr (.inl 84)), some (.inr (.inl 85)), some (.inr (.inl 86))], sy_dS F1 [], sy_dh F1 X1 X2 (iv_H 0), 0, 0))
    (k12 : (sy_i F 86).toInt ≤ 400 → (sy_i F 84).toInt ≠ 0 → (sy_i F 85).toInt ≠ 42 → (sy_i F 85).toInt = 47 → 0 ≤ (sy_i F 33).toInt → (sy_i F 33).toInt ≤ 400 → ((sy_ai F 39).getD ((sy_i F 33).toInt).toNat 0).toInt ≠ (sy_i F 85).toInt → (sy_i F 85).toInt ≠ 42 → (sy_i F 23).toInt < 512 → 0 ≤ (sy_i F 33).toInt → (sy_i F 33).toInt ≤ 400 → ∀ F1 : Nat → sy_d, iv_in F1 iv_B0 → (∀ j, j < 82 → j ∉ ([23, 32, 34] : List Nat) → F1 j = F j) → (sy_i F1 33).toInt = (sy_i F 33).toInt → (sy_i F1 34).toInt = 1 → (sy_i F1 23).toInt = ((sy_i F 23).toInt + 1) → sy_ai F1 39 = sy_ai F 39 → (sy_i F1 82).toInt = (sy_i F 82).toInt → (sy_i F1 83).toInt = (sy_i F 83).toInt → (sy_i F1 84).toInt = 0 → (sy_i F1 85).toInt = ((sy_ai F 39).getD ((sy_i F 33).toInt).toNat 0).toInt → (sy_i F1 86).toInt = ((sy_i F 86).toInt + 1) → hd_W Ls xs d jm_M39 Q (23, sy_dL F1 [some (.inl (.ref 30)), some (.inr (.inl 82)), some (.inr (.inl 83)), some (.inr (.inl 84)), some (.inr (.inl 85)), some (.inr (.inl 86))], sy_dS F1 [], sy_dh F1 X1 X2 (iv_H 0), 0, 0)) :
    hd_W Ls xs d jm_M39 Q (23, sy_dL F [some (.inl (.ref 30)), some (.inr (.inl 82)), some (.inr (.inl 83)), some (.inr (.inl 84)), some (.inr (.inl 85)), some (.inr (.inl 86))], sy_dS F [], sy_dh F X1 X2 (iv_H 0), 0, 0) := by
  by_cases g0 : 400 < (sy_i F 86).toInt
  · exact k0pp_23_p0 hd F X1 X2 hB (by first | exact g0 | (simp only [nz_c]; exact g0)) (by first | exact (o0 g0) | (simp only [nz_c]; exact (o0 g0))) (fun F1 g  => by rw [(rfl : sy_i F 84 = sy_i F 84)]; exact k0 g0 F1 (nz_in0 hB [] (fun j hj hn => g j hj (by simp only [List.mem_cons, List.not_mem_nil, or_false, not_or] at hn; exact trivial)) (List.forall_mem_nil _)) (fun j hj hn => g j hj (by simp only [List.mem_cons, List.not_mem_nil, or_false, not_or] at hn; exact trivial)) (nz_fi (g 33 (by decide) (by decide))) (nz_fi (g 34 (by decide) (by decide))) (nz_fi (g 23 (by decide) (by decide))) (nz_fa (g 39 (by decide) (by decide))))
  replace g0 : (sy_i F 86).toInt ≤ 400 := by omega
  by_cases g1 : (sy_i F 84).toInt = 0
  · exact k0pp_23_p1 hd F X1 X2 hB (by first | exact g0 | (simp only [nz_c]; exact g0)) (by first | exact g1 | (simp only [nz_c]; exact g1)) (by first | exact (by omega) | (simp only [nz_c]; exact (by omega))) (fun F1 g  => by rw [(rfl : sy_i F 84 = sy_i F 84)]; exact k1 g0 g1 F1 (nz_in0 hB [] (fun j hj hn => g j hj (by simp only [List.mem_cons, List.not_mem_nil, or_false, not_or] at hn; exact trivial)) (List.forall_mem_nil _)) (fun j hj hn => g j hj (by simp only [List.mem_cons, List.not_mem_nil, or_false, not_or] at hn; exact trivial)) (nz_fi (g 33 (by decide) (by decide))) (nz_fi (g 34 (by decide) (by decide))) (nz_fi (g 23 (by decide) (by decide))) (nz_fa (g 39 (by decide) (by decide))))
  replace g1 : (sy_i F 84).toInt ≠ 0 := by omega
  by_cases g2 : (sy_i F 85).toInt = 42
  · by_cases g3 : (sy_i F 33).toInt < 0
    · have c33 := nz_bx hB (k := 33) (lo := 0) (hi := 400) rfl
      exfalso
      omega
    replace g3 : 0 ≤ (sy_i F 33).toInt := by omega
    by_cases g4 : 400 < (sy_i F 33).toInt
    · have c33 := nz_bx hB (k := 33) (lo := 0) (hi := 400) rfl
      exfalso
      omega
    replace g4 : (sy_i F 33).toInt ≤ 400 := by omega
    by_cases g5 : ((sy_ai F 39).getD ((sy_i F 33).toInt).toNat 0).toInt = (sy_i F 85).toInt
    · by_cases g6 : (sy_i F 33).toInt < 400
      · have c33 := nz_bx hB (k := 33) (lo := 0) (hi := 400) rfl
        have q87 : (sy_ai F 39).getD (sy_i F 33).toNatClampNeg 0 = (sy_ai F 39).getD ((sy_i F 33).toInt).toNat 0 := by simp only [nz_c]
        have n87 : ((sy_ai F 39).getD (sy_i F 33).toNatClampNeg 0).toInt = ((sy_ai F 39).getD ((sy_i F 33).toInt).toNat 0).toInt := congrArg Int32.toInt q87
        have n88 : ((sy_i F 33) + ((1 : Int32))).toInt = ((sy_i F 33).toInt + 1) := nz_add (rfl : (sy_i F 33).toInt = (sy_i F 33).toInt) (by decide : ((1 : Int32)).toInt = 1) (by omega) (by omega)
        exact k0pp_23_p2 hd F X1 X2 hB (by first | exact g0 | (simp only [nz_c]; exact g0)) (by first | exact g1 | (simp only [nz_c]; exact g1)) (by first | exact g2 | (simp only [nz_c]; exact g2)) (by first | exact g3 | (simp only [nz_c]; exact g3)) (by first | exact g4 | (simp only [nz_c]; exact g4)) (by first | exact ⟨by omega, by omega⟩ | (simp only [nz_c]; exact ⟨by omega, by omega⟩)) (by first | exact g5 | (simp only [nz_c]; exact g5) | (rw [n87]; exact g5)) (by first | exact g6 | (simp only [nz_c]; exact g6)) (fun F1 g e33 e82 e83 e84 e85 => k2 g0 g1 g2 g3 g4 g5 g6 F1 (nz_in0 hB [33] (fun j hj hn => g j hj (by simp only [List.mem_cons, List.not_mem_nil, or_false, not_or] at hn; omega)) (List.forall_mem_cons.mpr ⟨fun t ht => (Option.some.inj ht) ▸ (nz_hi e33 n88 (by omega) (by omega)), List.forall_mem_nil _⟩)) (fun j hj hn => g j hj (by simp only [List.mem_cons, List.not_mem_nil, or_false, not_or] at hn; omega)) ((congrArg Int32.toInt (zz_i e33)).trans n88) (nz_fi (g 34 (by decide) (by decide))) (nz_fi (g 23 (by decide) (by decide))) (nz_fa (g 39 (by decide) (by decide))) ((congrArg Int32.toInt (zz_i e82)).trans (rfl : (sy_i F 82).toInt = (sy_i F 82).toInt)) ((congrArg Int32.toInt (zz_i e83)).trans (rfl : (sy_i F 83).toInt = (sy_i F 83).toInt)) ((congrArg Int32.toInt (zz_i e84)).trans (rfl : (sy_i F 85).toInt = (sy_i F 85).toInt)) ((congrArg Int32.toInt (zz_i e85)).trans (rfl : (sy_i F 86).toInt = (sy_i F 86).toInt)))
      replace g6 : 400 ≤ (sy_i F 33).toInt := by omega
      by_cases g7 : (sy_i F 85).toInt ≠ 42
      · have c33 := nz_bx hB (k := 33) (lo := 0) (hi := 400) rfl
        have q87 : (sy_ai F 39).getD (sy_i F 33).toNatClampNeg 0 = (sy_ai F 39).getD ((sy_i F 33).toInt).toNat 0 := by simp only [nz_c]
        have n87 : ((sy_ai F 39).getD (sy_i F 33).toNatClampNeg 0).toInt = ((sy_ai F 39).getD ((sy_i F 33).toInt).toNat 0).toInt := congrArg Int32.toInt q87
        exfalso
        omega
      replace g7 : (sy_i F 85).toInt = 42 := by omega
      by_cases g8 : 512 ≤ (sy_i F 23).toInt
      · by_cases g9 : (sy_i F 33).toInt < 0
        · have c33 := nz_bx hB (k := 33) (lo := 0) (hi := 400) rfl
          have q87 : (sy_ai F 39).getD (sy_i F 33).toNatClampNeg 0 = (sy_ai F 39).getD ((sy_i F 33).toInt).toNat 0 := by simp only [nz_c]
          have n87 : ((sy_ai F 39).getD (sy_i F 33).toNatClampNeg 0).toInt = ((sy_ai F 39).getD ((sy_i F 33).toInt).toNat 0).toInt := congrArg Int32.toInt q87
          have c23 := nz_bx hB (k := 23) (lo := 0) (hi := 512) rfl
          exfalso
          omega
        replace g9 : 0 ≤ (sy_i F 33).toInt := by omega
        by_cases g10 : 400 < (sy_i F 33).toInt
        · have c33 := nz_bx hB (k := 33) (lo := 0) (hi := 400) rfl
          have q87 : (sy_ai F 39).getD (sy_i F 33).toNatClampNeg 0 = (sy_ai F 39).getD ((sy_i F 33).toInt).toNat 0 := by simp only [nz_c]
          have n87 : ((sy_ai F 39).getD (sy_i F 33).toNatClampNeg 0).toInt = ((sy_ai F 39).getD ((sy_i F 33).toInt).toNat 0).toInt := congrArg Int32.toInt q87
          have c23 := nz_bx hB (k := 23) (lo := 0) (hi := 512) rfl
          exfalso
          omega
        replace g10 : (sy_i F 33).toInt ≤ 400 := by omega
        have c33 := nz_bx hB (k := 33) (lo := 0) (hi := 400) rfl
        have q87 : (sy_ai F 39).getD (sy_i F 33).toNatClampNeg 0 = (sy_ai F 39).getD ((sy_i F 33).toInt).toNat 0 := by simp only [nz_c]
        have n87 : ((sy_ai F 39).getD (sy_i F 33).toNatClampNeg 0).toInt = ((sy_ai F 39).getD ((sy_i F 33).toInt).toNat 0).toInt := congrArg Int32.toInt q87
        have c23 := nz_bx hB (k := 23) (lo := 0) (hi := 512) rfl
        have q88 : (sy_ai F 39).getD (sy_i F 33).toNatClampNeg 0 = (sy_ai F 39).getD ((sy_i F 33).toInt).toNat 0 := by simp only [nz_c]
        have n88 : ((sy_ai F 39).getD (sy_i F 33).toNatClampNeg 0).toInt = ((sy_ai F 39).getD ((sy_i F 33).toInt).toNat 0).toInt := congrArg Int32.toInt q88
        have n89 : ((sy_i F 86) + ((1 : Int32))).toInt = ((sy_i F 86).toInt + 1) := nz_add (rfl : (sy_i F 86).toInt = (sy_i F 86).toInt) (by decide : ((1 : Int32)).toInt = 1) (by omega) (by omega)
        exact k0pp_23_p3 hd F X1 X2 hB (by first | exact g0 | (simp only [nz_c]; exact g0)) (by first | exact g1 | (simp only [nz_c]; exact g1)) (by first | exact g2 | (simp only [nz_c]; exact g2)) (by first | exact g3 | (simp only [nz_c]; exact g3)) (by first | exact g4 | (simp only [nz_c]; exact g4)) (by first | exact ⟨by omega, by omega⟩ | (simp only [nz_c]; exact ⟨by omega, by omega⟩)) (by first | exact g5 | (simp only [nz_c]; exact g5) | (rw [n87]; exact g5)) (by first | exact g6 | (simp only [nz_c]; exact g6)) (by first | exact g7 | (simp only [nz_c]; exact g7)) (by first | exact g8 | (simp only [nz_c]; exact g8)) (by first | exact g9 | (simp only [nz_c]; exact g9)) (by first | exact g10 | (simp only [nz_c]; exact g10)) (by first | exact ⟨by omega, by omega⟩ | (simp only [nz_c]; exact ⟨by omega, by omega⟩)) (fun F1 g e34 e82 e83 e84 e85 e86 => k3 g0 g1 g2 g3 g4 g5 g6 g7 g8 g9 g10 F1 (nz_in0 hB [34] (fun j hj hn => g j hj (by simp only [List.mem_cons, List.not_mem_nil, or_false, not_or] at hn; omega)) (List.forall_mem_cons.mpr ⟨fun t ht => (Option.some.inj ht) ▸ (nz_hz e34), List.forall_mem_nil _⟩)) (fun j hj hn => g j hj (by simp only [List.mem_cons, List.not_mem_nil, or_false, not_or] at hn; omega)) (nz_fi (g 33 (by decide) (by decide))) ((congrArg Int32.toInt (zz_i e34)).trans (by decide : ((2 : Int32)).toInt = 2)) (nz_fi (g 23 (by decide) (by decide))) (nz_fa (g 39 (by decide) (by decide))) ((congrArg Int32.toInt (zz_i e82)).trans (rfl : (sy_i F 82).toInt = (sy_i F 82).toInt)) ((congrArg Int32.toInt (zz_i e83)).trans (rfl : (sy_i F 83).toInt = (sy_i F 83).toInt)) ((congrArg Int32.toInt (zz_i e84)).trans (by decide : ((0 : Int32)).toInt = 0)) ((congrArg Int32.toInt (zz_i e85)).trans n88) ((congrArg Int32.toInt (zz_i e86)).trans n89))
      replace g8 : (sy_i F 23).toInt < 512 := by omega
      by_cases g9 : (sy_i F 33).toInt < 0
      · have c33 := nz_bx hB (k := 33) (lo := 0) (hi := 400) rfl
        have q87 : (sy_ai F 39).getD (sy_i F 33).toNatClampNeg 0 = (sy_ai F 39).getD ((sy_i F 33).toInt).toNat 0 := by simp only [nz_c]
        have n87 : ((sy_ai F 39).getD (sy_i F 33).toNatClampNeg 0).toInt = ((sy_ai F 39).getD ((sy_i F 33).toInt).toNat 0).toInt := congrArg Int32.toInt q87
        have c23 := nz_bx hB (k := 23) (lo := 0) (hi := 512) rfl
        exfalso
        omega
      replace g9 : 0 ≤ (sy_i F 33).toInt := by omega
      by_cases g10 : 400 < (sy_i F 33).toInt
      · have c33 := nz_bx hB (k := 33) (lo := 0) (hi := 400) rfl
        have q87 : (sy_ai F 39).getD (sy_i F 33).toNatClampNeg 0 = (sy_ai F 39).getD ((sy_i F 33).toInt).toNat 0 := by simp only [nz_c]
        have n87 : ((sy_ai F 39).getD (sy_i F 33).toNatClampNeg 0).toInt = ((sy_ai F 39).getD ((sy_i F 33).toInt).toNat 0).toInt := congrArg Int32.toInt q87
        have c23 := nz_bx hB (k := 23) (lo := 0) (hi := 512) rfl
        exfalso
        omega
      replace g10 : (sy_i F 33).toInt ≤ 400 := by omega
      have c33 := nz_bx hB (k := 33) (lo := 0) (hi := 400) rfl
      have q87 : (sy_ai F 39).getD (sy_i F 33).toNatClampNeg 0 = (sy_ai F 39).getD ((sy_i F 33).toInt).toNat 0 := by simp only [nz_c]
      have n87 : ((sy_ai F 39).getD (sy_i F 33).toNatClampNeg 0).toInt = ((sy_ai F 39).getD ((sy_i F 33).toInt).toNat 0).toInt := congrArg Int32.toInt q87
      have c23 := nz_bx hB (k := 23) (lo := 0) (hi := 512) rfl
      have n89 : ((sy_i F 23) + ((1 : Int32))).toInt = ((sy_i F 23).toInt + 1) := nz_add (rfl : (sy_i F 23).toInt = (sy_i F 23).toInt) (by decide : ((1 : Int32)).toInt = 1) (by omega) (by omega)
      have q90 : (sy_ai F 39).getD (sy_i F 33).toNatClampNeg 0 = (sy_ai F 39).getD ((sy_i F 33).toInt).toNat 0 := by simp only [nz_c]
      have n90 : ((sy_ai F 39).getD (sy_i F 33).toNatClampNeg 0).toInt = ((sy_ai F 39).getD ((sy_i F 33).toInt).toNat 0).toInt := congrArg Int32.toInt q90
      have n91 : ((sy_i F 86) + ((1 : Int32))).toInt = ((sy_i F 86).toInt + 1) := nz_add (rfl : (sy_i F 86).toInt = (sy_i F 86).toInt) (by decide : ((1 : Int32)).toInt = 1) (by omega) (by omega)
      exact k0pp_23_p4 hd F X1 X2 hB (by first | exact g0 | (simp only [nz_c]; exact g0)) (by first | exact g1 | (simp only [nz_c]; exact g1)) (by first | exact g2 | (simp only [nz_c]; exact g2)) (by first | exact g3 | (simp only [nz_c]; exact g3)) (by first | exact g4 | (simp only [nz_c]; exact g4)) (by first | exact ⟨by omega, by omega⟩ | (simp only [nz_c]; exact ⟨by omega, by omega⟩)) (by first | exact g5 | (simp only [nz_c]; exact g5) | (rw [n87]; exact g5)) (by first | exact g6 | (simp only [nz_c]; exact g6)) (by first | exact g7 | (simp only [nz_c]; exact g7)) (by first | exact g8 | (simp only [nz_c]; exact g8)) (by first | exact ⟨by omega, by omega⟩ | (simp only [nz_c]; exact ⟨by omega, by omega⟩)) (by first | exact g9 | (simp only [nz_c]; exact g9)) (by first | exact g10 | (simp only [nz_c]; exact g10)) (by first | exact ⟨by omega, by omega⟩ | (simp only [nz_c]; exact ⟨by omega, by omega⟩)) (fun F1 g e23 e32 e34 e82 e83 e84 e85 e86 => k4 g0 g1 g2 g3 g4 g5 g6 g7 g8 g9 g10 F1 (nz_in0 hB [23, 32, 34] (fun j hj hn => g j hj (by simp only [List.mem_cons, List.not_mem_nil, or_false, not_or] at hn; omega)) (List.forall_mem_cons.mpr ⟨fun t ht => (Option.some.inj ht) ▸ (nz_hi e23 n89 (by omega) (by omega)), List.forall_mem_cons.mpr ⟨fun t ht => (Option.some.inj ht) ▸ (nz_hA e32 (nz_up (nz_ba hB (k := 32) (lo := (-2147483648)) (hi := 2147483646) rfl) (by decide : (((-12) : Int32)).toInt = (-12 : Int)) (by omega) (by omega))), List.forall_mem_cons.mpr ⟨fun t ht => (Option.some.inj ht) ▸ (nz_hz e34), List.forall_mem_nil _⟩⟩⟩)) (fun j hj hn => g j hj (by simp only [List.mem_cons, List.not_mem_nil, or_false, not_or] at hn; omega)) (nz_fi (g 33 (by decide) (by decide))) ((congrArg Int32.toInt (zz_i e34)).trans (by decide : ((2 : Int32)).toInt = 2)) ((congrArg Int32.toInt (zz_i e23)).trans n89) (nz_fa (g 39 (by decide) (by decide))) ((congrArg Int32.toInt (zz_i e82)).trans (rfl : (sy_i F 82).toInt = (sy_i F 82).toInt)) ((congrArg Int32.toInt (zz_i e83)).trans (rfl : (sy_i F 83).toInt = (sy_i F 83).toInt)) ((congrArg Int32.toInt (zz_i e84)).trans (by decide : ((0 : Int32)).toInt = 0)) ((congrArg Int32.toInt (zz_i e85)).trans n90) ((congrArg Int32.toInt (zz_i e86)).trans n91))
    replace g5 : ((sy_ai F 39).getD ((sy_i F 33).toInt).toNat 0).toInt ≠ (sy_i F 85).toInt := by omega
    by_cases g6 : (sy_i F 85).toInt ≠ 42
    · have c33 := nz_bx hB (k := 33) (lo := 0) (hi := 400) rfl
      have q87 : (sy_ai F 39).getD (sy_i F 33).toNatClampNeg 0 = (sy_ai F 39).getD ((sy_i F 33).toInt).toNat 0 := by simp only [nz_c]
      have n87 : ((sy_ai F 39).getD (sy_i F 33).toNatClampNeg 0).toInt = ((sy_ai F 39).getD ((sy_i F 33).toInt).toNat 0).toInt := congrArg Int32.toInt q87
      exfalso
      omega
    replace g6 : (sy_i F 85).toInt = 42 := by omega
    by_cases g7 : 512 ≤ (sy_i F 23).toInt
    · by_cases g8 : (sy_i F 33).toInt < 0
      · have c33 := nz_bx hB (k := 33) (lo := 0) (hi := 400) rfl
        have q87 : (sy_ai F 39).getD (sy_i F 33).toNatClampNeg 0 = (sy_ai F 39).getD ((sy_i F 33).toInt).toNat 0 := by simp only [nz_c]
        have n87 : ((sy_ai F 39).getD (sy_i F 33).toNatClampNeg 0).toInt = ((sy_ai F 39).getD ((sy_i F 33).toInt).toNat 0).toInt := congrArg Int32.toInt q87
        have c23 := nz_bx hB (k := 23) (lo := 0) (hi := 512) rfl
        exfalso
        omega
      replace g8 : 0 ≤ (sy_i F 33).toInt := by omega
      by_cases g9 : 400 < (sy_i F 33).toInt
      · have c33 := nz_bx hB (k := 33) (lo := 0) (hi := 400) rfl
        have q87 : (sy_ai F 39).getD (sy_i F 33).toNatClampNeg 0 = (sy_ai F 39).getD ((sy_i F 33).toInt).toNat 0 := by simp only [nz_c]
        have n87 : ((sy_ai F 39).getD (sy_i F 33).toNatClampNeg 0).toInt = ((sy_ai F 39).getD ((sy_i F 33).toInt).toNat 0).toInt := congrArg Int32.toInt q87
        have c23 := nz_bx hB (k := 23) (lo := 0) (hi := 512) rfl
        exfalso
        omega
      replace g9 : (sy_i F 33).toInt ≤ 400 := by omega
      have c33 := nz_bx hB (k := 33) (lo := 0) (hi := 400) rfl
      have q87 : (sy_ai F 39).getD (sy_i F 33).toNatClampNeg 0 = (sy_ai F 39).getD ((sy_i F 33).toInt).toNat 0 := by simp only [nz_c]
      have n87 : ((sy_ai F 39).getD (sy_i F 33).toNatClampNeg 0).toInt = ((sy_ai F 39).getD ((sy_i F 33).toInt).toNat 0).toInt := congrArg Int32.toInt q87
      have c23 := nz_bx hB (k := 23) (lo := 0) (hi := 512) rfl
      have q88 : (sy_ai F 39).getD (sy_i F 33).toNatClampNeg 0 = (sy_ai F 39).getD ((sy_i F 33).toInt).toNat 0 := by simp only [nz_c]
      have n88 : ((sy_ai F 39).getD (sy_i F 33).toNatClampNeg 0).toInt = ((sy_ai F 39).getD ((sy_i F 33).toInt).toNat 0).toInt := congrArg Int32.toInt q88
      have n89 : ((sy_i F 86) + ((1 : Int32))).toInt = ((sy_i F 86).toInt + 1) := nz_add (rfl : (sy_i F 86).toInt = (sy_i F 86).toInt) (by decide : ((1 : Int32)).toInt = 1) (by omega) (by omega)
      exact k0pp_23_p5 hd F X1 X2 hB (by first | exact g0 | (simp only [nz_c]; exact g0)) (by first | exact g1 | (simp only [nz_c]; exact g1)) (by first | exact g2 | (simp only [nz_c]; exact g2)) (by first | exact g3 | (simp only [nz_c]; exact g3)) (by first | exact g4 | (simp only [nz_c]; exact g4)) (by first | exact ⟨by omega, by omega⟩ | (simp only [nz_c]; exact ⟨by omega, by omega⟩)) (by first | exact g5 | (simp only [nz_c]; exact g5) | (rw [n87]; exact g5)) (by first | exact g6 | (simp only [nz_c]; exact g6)) (by first | exact g7 | (simp only [nz_c]; exact g7)) (by first | exact g8 | (simp only [nz_c]; exact g8)) (by first | exact g9 | (simp only [nz_c]; exact g9)) (by first | exact ⟨by omega, by omega⟩ | (simp only [nz_c]; exact ⟨by omega, by omega⟩)) (fun F1 g e34 e82 e83 e84 e85 e86 => k5 g0 g1 g2 g3 g4 g5 g6 g7 g8 g9 F1 (nz_in0 hB [34] (fun j hj hn => g j hj (by simp only [List.mem_cons, List.not_mem_nil, or_false, not_or] at hn; omega)) (List.forall_mem_cons.mpr ⟨fun t ht => (Option.some.inj ht) ▸ (nz_hz e34), List.forall_mem_nil _⟩)) (fun j hj hn => g j hj (by simp only [List.mem_cons, List.not_mem_nil, or_false, not_or] at hn; omega)) (nz_fi (g 33 (by decide) (by decide))) ((congrArg Int32.toInt (zz_i e34)).trans (by decide : ((1 : Int32)).toInt = 1)) (nz_fi (g 23 (by decide) (by decide))) (nz_fa (g 39 (by decide) (by decide))) ((congrArg Int32.toInt (zz_i e82)).trans (rfl : (sy_i F 82).toInt = (sy_i F 82).toInt)) ((congrArg Int32.toInt (zz_i e83)).trans (rfl : (sy_i F 83).toInt = (sy_i F 83).toInt)) ((congrArg Int32.toInt (zz_i e84)).trans (by decide : ((0 : Int32)).toInt = 0)) ((congrArg Int32.toInt (zz_i e85)).trans n88) ((congrArg Int32.toInt (zz_i e86)).trans n89))
    replace g7 : (sy_i F 23).toInt < 512 := by omega
    by_cases g8 : (sy_i F 33).toInt < 0
    · have c33 := nz_bx hB (k := 33) (lo := 0) (hi := 400) rfl
      have q87 : (sy_ai F 39).getD (sy_i F 33).toNatClampNeg 0 = (sy_ai F 39).getD ((sy_i F 33).toInt).toNat 0 := by simp only [nz_c]
      have n87 : ((sy_ai F 39).getD (sy_i F 33).toNatClampNeg 0).toInt = ((sy_ai F 39).getD ((sy_i F 33).toInt).toNat 0).toInt := congrArg Int32.toInt q87
      have c23 := nz_bx hB (k := 23) (lo := 0) (hi := 512) rfl
      exfalso
      omega
    replace g8 : 0 ≤ (sy_i F 33).toInt := by omega
    by_cases g9 : 400 < (sy_i F 33).toInt
    · have c33 := nz_bx hB (k := 33) (lo := 0) (hi := 400) rfl
      have q87 : (sy_ai F 39).getD (sy_i F 33).toNatClampNeg 0 = (sy_ai F 39).getD ((sy_i F 33).toInt).toNat 0 := by simp only [nz_c]
      have n87 : ((sy_ai F 39).getD (sy_i F 33).toNatClampNeg 0).toInt = ((sy_ai F 39).getD ((sy_i F 33).toInt).toNat 0).toInt := congrArg Int32.toInt q87
      have c23 := nz_bx hB (k := 23) (lo := 0) (hi := 512) rfl
      exfalso
      omega
    replace g9 : (sy_i F 33).toInt ≤ 400 := by omega
    have c33 := nz_bx hB (k := 33) (lo := 0) (hi := 400) rfl
    have q87 : (sy_ai F 39).getD (sy_i F 33).toNatClampNeg 0 = (sy_ai F 39).getD ((sy_i F 33).toInt).toNat 0 := by simp only [nz_c]
    have n87 : ((sy_ai F 39).getD (sy_i F 33).toNatClampNeg 0).toInt = ((sy_ai F 39).getD ((sy_i F 33).toInt).toNat 0).toInt := congrArg Int32.toInt q87
    have c23 := nz_bx hB (k := 23) (lo := 0) (hi := 512) rfl
    have n89 : ((sy_i F 23) + ((1 : Int32))).toInt = ((sy_i F 23).toInt + 1) := nz_add (rfl : (sy_i F 23).toInt = (sy_i F 23).toInt) (by decide : ((1 : Int32)).toInt = 1) (by omega) (by omega)
    have q90 : (sy_ai F 39).getD (sy_i F 33).toNatClampNeg 0 = (sy_ai F 39).getD ((sy_i F 33).toInt).toNat 0 := by simp only [nz_c]
    have n90 : ((sy_ai F 39).getD (sy_i F 33).toNatClampNeg 0).toInt = ((sy_ai F 39).getD ((sy_i F 33).toInt).toNat 0).toInt := congrArg Int32.toInt q90
    have n91 : ((sy_i F 86) + ((1 : Int32))).toInt = ((sy_i F 86).toInt + 1) := nz_add (rfl : (sy_i F 86).toInt = (sy_i F 86).toInt) (by decide : ((1 : Int32)).toInt = 1) (by omega) (by omega)
    exact k0pp_23_p6 hd F X1 X2 hB (by first | exact g0 | (simp only [nz_c]; exact g0)) (by first | exact g1 | (simp only [nz_c]; exact g1)) (by first | exact g2 | (simp only [nz_c]; exact g2)) (by first | exact g3 | (simp only [nz_c]; exact g3)) (by first | exact g4 | (simp only [nz_c]; exact g4)) (by first | exact ⟨by omega, by omega⟩ | (simp only [nz_c]; exact ⟨by omega, by omega⟩)) (by first | exact g5 | (simp only [nz_c]; exact g5) | (rw [n87]; exact g5)) (by first | exact g6 | (simp only [nz_c]; exact g6)) (by first | exact g7 | (simp only [nz_c]; exact g7)) (by first | exact ⟨by omega, by omega⟩ | (simp only [nz_c]; exact ⟨by omega, by omega⟩)) (by first | exact g8 | (simp only [nz_c]; exact g8)) (by first | exact g9 | (simp only [nz_c]; exact g9)) (by first | exact ⟨by omega, by omega⟩ | (simp only [nz_c]; exact ⟨by omega, by omega⟩)) (fun F1 g e23 e32 e34 e82 e83 e84 e85 e86 => k6 g0 g1 g2 g3 g4 g5 g6 g7 g8 g9 F1 (nz_in0 hB [23, 32, 34] (fun j hj hn => g j hj (by simp only [List.mem_cons, List.not_mem_nil, or_false, not_or] at hn; omega)) (List.forall_mem_cons.mpr ⟨fun t ht => (Option.some.inj ht) ▸ (nz_hi e23 n89 (by omega) (by omega)), List.forall_mem_cons.mpr ⟨fun t ht => (Option.some.inj ht) ▸ (nz_hA e32 (nz_up (nz_ba hB (k := 32) (lo := (-2147483648)) (hi := 2147483646) rfl) (by decide : (((-12) : Int32)).toInt = (-12 : Int)) (by omega) (by omega))), List.forall_mem_cons.mpr ⟨fun t ht => (Option.some.inj ht) ▸ (nz_hz e34), List.forall_mem_nil _⟩⟩⟩)) (fun j hj hn => g j hj (by simp only [List.mem_cons, List.not_mem_nil, or_false, not_or] at hn; omega)) (nz_fi (g 33 (by decide) (by decide))) ((congrArg Int32.toInt (zz_i e34)).trans (by decide : ((1 : Int32)).toInt = 1)) ((congrArg Int32.toInt (zz_i e23)).trans n89) (nz_fa (g 39 (by decide) (by decide))) ((congrArg Int32.toInt (zz_i e82)).trans (rfl : (sy_i F 82).toInt = (sy_i F 82).toInt)) ((congrArg Int32.toInt (zz_i e83)).trans (rfl : (sy_i F 83).toInt = (sy_i F 83).toInt)) ((congrArg Int32.toInt (zz_i e84)).trans (by decide : ((0 : Int32)).toInt = 0)) ((congrArg Int32.toInt (zz_i e85)).trans n90) ((congrArg Int32.toInt (zz_i e86)).trans n91))
  replace g2 : (sy_i F 85).toInt ≠ 42 := by omega
  by_cases g3 : (sy_i F 85).toInt ≠ 47
  · exact k0pp_23_p7 hd F X1 X2 hB (by first | exact g0 | (simp only [nz_c]; exact g0)) (by first | exact g1 | (simp only [nz_c]; exact g1)) (by first | exact g2 | (simp only [nz_c]; exact g2)) (by first | exact g3 | (simp only [nz_c]; exact g3)) (by first | exact (o1 g0 g1 g2 g3) | (simp only [nz_c]; exact (o1 g0 g1 g2 g3))) (fun F1 g  => by rw [(rfl : sy_i F 84 = sy_i F 84)]; exact k7 g0 g1 g2 g3 F1 (nz_in0 hB [] (fun j hj hn => g j hj (by simp only [List.mem_cons, List.not_mem_nil, or_false, not_or] at hn; exact trivial)) (List.forall_mem_nil _)) (fun j hj hn => g j hj (by simp only [List.mem_cons, List.not_mem_nil, or_false, not_or] at hn; exact trivial)) (nz_fi (g 33 (by decide) (by decide))) (nz_fi (g 34 (by decide) (by decide))) (nz_fi (g 23 (by decide) (by decide))) (nz_fa (g 39 (by decide) (by decide))))
  replace g3 : (sy_i F 85).toInt = 47 := by omega
  by_cases g4 : (sy_i F 33).toInt < 0
  · have c33 := nz_bx hB (k := 33) (lo := 0) (hi := 400) rfl
    exfalso
    omega
  replace g4 : 0 ≤ (sy_i F 33).toInt := by omega
  by_cases g5 : 400 < (sy_i F 33).toInt
  · have c33 := nz_bx hB (k := 33) (lo := 0) (hi := 400) rfl
    exfalso
    omega
  replace g5 : (sy_i F 33).toInt ≤ 400 := by omega
  by_cases g6 : ((sy_ai F 39).getD ((sy_i F 33).toInt).toNat 0).toInt = (sy_i F 85).toInt
  · by_cases g7 : (sy_i F 33).toInt < 400
    · have c33 := nz_bx hB (k := 33) (lo := 0) (hi := 400) rfl
      have q87 : (sy_ai F 39).getD (sy_i F 33).toNatClampNeg 0 = (sy_ai F 39).getD ((sy_i F 33).toInt).toNat 0 := by simp only [nz_c]
      have n87 : ((sy_ai F 39).getD (sy_i F 33).toNatClampNeg 0).toInt = ((sy_ai F 39).getD ((sy_i F 33).toInt).toNat 0).toInt := congrArg Int32.toInt q87
      have n88 : ((sy_i F 33) + ((1 : Int32))).toInt = ((sy_i F 33).toInt + 1) := nz_add (rfl : (sy_i F 33).toInt = (sy_i F 33).toInt) (by decide : ((1 : Int32)).toInt = 1) (by omega) (by omega)
      exact k0pp_23_p8 hd F X1 X2 hB (by first | exact g0 | (simp only [nz_c]; exact g0)) (by first | exact g1 | (simp only [nz_c]; exact g1)) (by first | exact g2 | (simp only [nz_c]; exact g2)) (by first | exact g3 | (simp only [nz_c]; exact g3)) (by first | exact g4 | (simp only [nz_c]; exact g4)) (by first | exact g5 | (simp only [nz_c]; exact g5)) (by first | exact ⟨by omega, by omega⟩ | (simp only [nz_c]; exact ⟨by omega, by omega⟩)) (by first | exact g6 | (simp only [nz_c]; exact g6) | (rw [n87]; exact g6)) (by first | exact g7 | (simp only [nz_c]; exact g7)) (fun F1 g e33 e82 e83 e84 e85 => k8 g0 g1 g2 g3 g4 g5 g6 g7 F1 (nz_in0 hB [33] (fun j hj hn => g j hj (by simp only [List.mem_cons, List.not_mem_nil, or_false, not_or] at hn; omega)) (List.forall_mem_cons.mpr ⟨fun t ht => (Option.some.inj ht) ▸ (nz_hi e33 n88 (by omega) (by omega)), List.forall_mem_nil _⟩)) (fun j hj hn => g j hj (by simp only [List.mem_cons, List.not_mem_nil, or_false, not_or] at hn; omega)) ((congrArg Int32.toInt (zz_i e33)).trans n88) (nz_fi (g 34 (by decide) (by decide))) (nz_fi (g 23 (by decide) (by decide))) (nz_fa (g 39 (by decide) (by decide))) ((congrArg Int32.toInt (zz_i e82)).trans (rfl : (sy_i F 82).toInt = (sy_i F 82).toInt)) ((congrArg Int32.toInt (zz_i e83)).trans (rfl : (sy_i F 83).toInt = (sy_i F 83).toInt)) ((congrArg Int32.toInt (zz_i e84)).trans (rfl : (sy_i F 85).toInt = (sy_i F 85).toInt)) ((congrArg Int32.toInt (zz_i e85)).trans (rfl : (sy_i F 86).toInt = (sy_i F 86).toInt)))
    replace g7 : 400 ≤ (sy_i F 33).toInt := by omega
    by_cases g8 : (sy_i F 85).toInt ≠ 42
    · by_cases g9 : 512 ≤ (sy_i F 23).toInt
      · by_cases g10 : (sy_i F 33).toInt < 0
        · have c33 := nz_bx hB (k := 33) (lo := 0) (hi := 400) rfl
          have q87 : (sy_ai F 39).getD (sy_i F 33).toNatClampNeg 0 = (sy_ai F 39).getD ((sy_i F 33).toInt).toNat 0 := by simp only [nz_c]
          have n87 : ((sy_ai F 39).getD (sy_i F 33).toNatClampNeg 0).toInt = ((sy_ai F 39).getD ((sy_i F 33).toInt).toNat 0).toInt := congrArg Int32.toInt q87
          have c23 := nz_bx hB (k := 23) (lo := 0) (hi := 512) rfl
          exfalso
          omega
        replace g10 : 0 ≤ (sy_i F 33).toInt := by omega
        by_cases g11 : 400 < (sy_i F 33).toInt
        · have c33 := nz_bx hB (k := 33) (lo := 0) (hi := 400) rfl
          have q87 : (sy_ai F 39).getD (sy_i F 33).toNatClampNeg 0 = (sy_ai F 39).getD ((sy_i F 33).toInt).toNat 0 := by simp only [nz_c]
          have n87 : ((sy_ai F 39).getD (sy_i F 33).toNatClampNeg 0).toInt = ((sy_ai F 39).getD ((sy_i F 33).toInt).toNat 0).toInt := congrArg Int32.toInt q87
          have c23 := nz_bx hB (k := 23) (lo := 0) (hi := 512) rfl
          exfalso
          omega
        replace g11 : (sy_i F 33).toInt ≤ 400 := by omega
        have c33 := nz_bx hB (k := 33) (lo := 0) (hi := 400) rfl
        have q87 : (sy_ai F 39).getD (sy_i F 33).toNatClampNeg 0 = (sy_ai F 39).getD ((sy_i F 33).toInt).toNat 0 := by simp only [nz_c]
        have n87 : ((sy_ai F 39).getD (sy_i F 33).toNatClampNeg 0).toInt = ((sy_ai F 39).getD ((sy_i F 33).toInt).toNat 0).toInt := congrArg Int32.toInt q87
        have c23 := nz_bx hB (k := 23) (lo := 0) (hi := 512) rfl
        have q88 : (sy_ai F 39).getD (sy_i F 33).toNatClampNeg 0 = (sy_ai F 39).getD ((sy_i F 33).toInt).toNat 0 := by simp only [nz_c]
        have n88 : ((sy_ai F 39).getD (sy_i F 33).toNatClampNeg 0).toInt = ((sy_ai F 39).getD ((sy_i F 33).toInt).toNat 0).toInt := congrArg Int32.toInt q88
        have n89 : ((sy_i F 86) + ((1 : Int32))).toInt = ((sy_i F 86).toInt + 1) := nz_add (rfl : (sy_i F 86).toInt = (sy_i F 86).toInt) (by decide : ((1 : Int32)).toInt = 1) (by omega) (by omega)
        exact k0pp_23_p9 hd F X1 X2 hB (by first | exact g0 | (simp only [nz_c]; exact g0)) (by first | exact g1 | (simp only [nz_c]; exact g1)) (by first | exact g2 | (simp only [nz_c]; exact g2)) (by first | exact g3 | (simp only [nz_c]; exact g3)) (by first | exact g4 | (simp only [nz_c]; exact g4)) (by first | exact g5 | (simp only [nz_c]; exact g5)) (by first | exact ⟨by omega, by omega⟩ | (simp only [nz_c]; exact ⟨by omega, by omega⟩)) (by first | exact g6 | (simp only [nz_c]; exact g6) | (rw [n87]; exact g6)) (by first | exact g7 | (simp only [nz_c]; exact g7)) (by first | exact g8 | (simp only [nz_c]; exact g8)) (by first | exact g9 | (simp only [nz_c]; exact g9)) (by first | exact g10 | (simp only [nz_c]; exact g10)) (by first | exact g11 | (simp only [nz_c]; exact g11)) (by first | exact ⟨by omega, by omega⟩ | (simp only [nz_c]; exact ⟨by omega, by omega⟩)) (fun F1 g e34 e82 e83 e84 e85 e86 => k9 g0 g1 g2 g3 g4 g5 g6 g7 g8 g9 g10 g11 F1 (nz_in0 hB [34] (fun j hj hn => g j hj (by simp only [List.mem_cons, List.not_mem_nil, or_false, not_or] at hn; omega)) (List.forall_mem_cons.mpr ⟨fun t ht => (Option.some.inj ht) ▸ (nz_hz e34), List.forall_mem_nil _⟩)) (fun j hj hn => g j hj (by simp only [List.mem_cons, List.not_mem_nil, or_false, not_or] at hn; omega)) (nz_fi (g 33 (by decide) (by decide))) ((congrArg Int32.toInt (zz_i e34)).trans (by decide : ((2 : Int32)).toInt = 2)) (nz_fi (g 23 (by decide) (by decide))) (nz_fa (g 39 (by decide) (by decide))) ((congrArg Int32.toInt (zz_i e82)).trans (rfl : (sy_i F 82).toInt = (sy_i F 82).toInt)) ((congrArg Int32.toInt (zz_i e83)).trans (rfl : (sy_i F 83).toInt = (sy_i F 83).toInt)) ((congrArg Int32.toInt (zz_i e84)).trans (by decide : ((0 : Int32)).toInt = 0)) ((congrArg Int32.toInt (zz_i e85)).trans n88) ((congrArg Int32.toInt (zz_i e86)).trans n89))
      replace g9 : (sy_i F 23).toInt < 512 := by omega
      by_cases g10 : (sy_i F 33).toInt < 0
      · have c33 := nz_bx hB (k := 33) (lo := 0) (hi := 400) rfl
        have q87 : (sy_ai F 39).getD (sy_i F 33).toNatClampNeg 0 = (sy_ai F 39).getD ((sy_i F 33).toInt).toNat 0 := by simp only [nz_c]
        have n87 : ((sy_ai F 39).getD (sy_i F 33).toNatClampNeg 0).toInt = ((sy_ai F 39).getD ((sy_i F 33).toInt).toNat 0).toInt := congrArg Int32.toInt q87
        have c23 := nz_bx hB (k := 23) (lo := 0) (hi := 512) rfl
        exfalso
        omega
      replace g10 : 0 ≤ (sy_i F 33).toInt := by omega
      by_cases g11 : 400 < (sy_i F 33).toInt
      · have c33 := nz_bx hB (k := 33) (lo := 0) (hi := 400) rfl
        have q87 : (sy_ai F 39).getD (sy_i F 33).toNatClampNeg 0 = (sy_ai F 39).getD ((sy_i F 33).toInt).toNat 0 := by simp only [nz_c]
        have n87 : ((sy_ai F 39).getD (sy_i F 33).toNatClampNeg 0).toInt = ((sy_ai F 39).getD ((sy_i F 33).toInt).toNat 0).toInt := congrArg Int32.toInt q87
        have c23 := nz_bx hB (k := 23) (lo := 0) (hi := 512) rfl
        exfalso
        omega
      replace g11 : (sy_i F 33).toInt ≤ 400 := by omega
      have c33 := nz_bx hB (k := 33) (lo := 0) (hi := 400) rfl
      have q87 : (sy_ai F 39).getD (sy_i F 33).toNatClampNeg 0 = (sy_ai F 39).getD ((sy_i F 33).toInt).toNat 0 := by simp only [nz_c]
      have n87 : ((sy_ai F 39).getD (sy_i F 33).toNatClampNeg 0).toInt = ((sy_ai F 39).getD ((sy_i F 33).toInt).toNat 0).toInt := congrArg Int32.toInt q87
      have c23 := nz_bx hB (k := 23) (lo := 0) (hi := 512) rfl
      have n89 : ((sy_i F 23) + ((1 : Int32))).toInt = ((sy_i F 23).toInt + 1) := nz_add (rfl : (sy_i F 23).toInt = (sy_i F 23).toInt) (by decide : ((1 : Int32)).toInt = 1) (by omega) (by omega)
      have q90 : (sy_ai F 39).getD (sy_i F 33).toNatClampNeg 0 = (sy_ai F 39).getD ((sy_i F 33).toInt).toNat 0 := by simp only [nz_c]
      have n90 : ((sy_ai F 39).getD (sy_i F 33).toNatClampNeg 0).toInt = ((sy_ai F 39).getD ((sy_i F 33).toInt).toNat 0).toInt := congrArg Int32.toInt q90
      have n91 : ((sy_i F 86) + ((1 : Int32))).toInt = ((sy_i F 86).toInt + 1) := nz_add (rfl : (sy_i F 86).toInt = (sy_i F 86).toInt) (by decide : ((1 : Int32)).toInt = 1) (by omega) (by omega)
      exact k0pp_23_p10 hd F X1 X2 hB (by first | exact g0 | (simp only [nz_c]; exact g0)) (by first | exact g1 | (simp only [nz_c]; exact g1)) (by first | exact g2 | (simp only [nz_c]; exact g2)) (by first | exact g3 | (simp only [nz_c]; exact g3)) (by first | exact g4 | (simp only [nz_c]; exact g4)) (by first | exact g5 | (simp only [nz_c]; exact g5)) (by first | exact ⟨by omega, by omega⟩ | (simp only [nz_c]; exact ⟨by omega, by omega⟩)) (by first | exact g6 | (simp only [nz_c]; exact g6) | (rw [n87]; exact g6)) (by first | exact g7 | (simp only [nz_c]; exact g7)) (by first | exact g8 | (simp only [nz_c]; exact g8)) (by first | exact g9 | (simp only [nz_c]; exact g9)) (by first | exact ⟨by omega, by omega⟩ | (simp only [nz_c]; exact ⟨by omega, by omega⟩)) (by first | exact g10 | (simp only [nz_c]; exact g10)) (by first | exact g11 | (simp only [nz_c]; exact g11)) (by first | exact ⟨by omega, by omega⟩ | (simp only [nz_c]; exact ⟨by omega, by omega⟩)) (fun F1 g e23 e32 e34 e82 e83 e84 e85 e86 => k10 g0 g1 g2 g3 g4 g5 g6 g7 g8 g9 g10 g11 F1 (nz_in0 hB [23, 32, 34] (fun j hj hn => g j hj (by simp only [List.mem_cons, List.not_mem_nil, or_false, not_or] at hn; omega)) (List.forall_mem_cons.mpr ⟨fun t ht => (Option.some.inj ht) ▸ (nz_hi e23 n89 (by omega) (by omega)), List.forall_mem_cons.mpr ⟨fun t ht => (Option.some.inj ht) ▸ (nz_hA e32 (nz_up (nz_ba hB (k := 32) (lo := (-2147483648)) (hi := 2147483646) rfl) (by decide : (((-13) : Int32)).toInt = (-13 : Int)) (by omega) (by omega))), List.forall_mem_cons.mpr ⟨fun t ht => (Option.some.inj ht) ▸ (nz_hz e34), List.forall_mem_nil _⟩⟩⟩)) (fun j hj hn => g j hj (by simp only [List.mem_cons, List.not_mem_nil, or_false, not_or] at hn; omega)) (nz_fi (g 33 (by decide) (by decide))) ((congrArg Int32.toInt (zz_i e34)).trans (by decide : ((2 : Int32)).toInt = 2)) ((congrArg Int32.toInt (zz_i e23)).trans n89) (nz_fa (g 39 (by decide) (by decide))) ((congrArg Int32.toInt (zz_i e82)).trans (rfl : (sy_i F 82).toInt = (sy_i F 82).toInt)) ((congrArg Int32.toInt (zz_i e83)).trans (rfl : (sy_i F 83).toInt = (sy_i F 83).toInt)) ((congrArg Int32.toInt (zz_i e84)).trans (by decide : ((0 : Int32)).toInt = 0)) ((congrArg Int32.toInt (zz_i e85)).trans n90) ((congrArg Int32.toInt (zz_i e86)).trans n91))
    replace g8 : (sy_i F 85).toInt = 42 := by omega
    have c33 := nz_bx hB (k := 33) (lo := 0) (hi := 400) rfl
    have q87 : (sy_ai F 39).getD (sy_i F 33).toNatClampNeg 0 = (sy_ai F 39).getD ((sy_i F 33).toInt).toNat 0 := by simp only [nz_c]
    have n87 : ((sy_ai F 39).getD (sy_i F 33).toNatClampNeg 0).toInt = ((sy_ai F 39).getD ((sy_i F 33).toInt).toNat 0).toInt := congrArg Int32.toInt q87
    exfalso
    omega
  replace g6 : ((sy_ai F 39).getD ((sy_i F 33).toInt).toNat 0).toInt ≠ (sy_i F 85).toInt := by omega
  by_cases g7 : (sy_i F 85).toInt ≠ 42
  · by_cases g8 : 512 ≤ (sy_i F 23).toInt
    · by_cases g9 : (sy_i F 33).toInt < 0
      · have c33 := nz_bx hB (k := 33) (lo := 0) (hi := 400) rfl
        have q87 : (sy_ai F 39).getD (sy_i F 33).toNatClampNeg 0 = (sy_ai F 39).getD ((sy_i F 33).toInt).toNat 0 := by simp only [nz_c]
        have n87 : ((sy_ai F 39).getD (sy_i F 33).toNatClampNeg 0).toInt = ((sy_ai F 39).getD ((sy_i F 33).toInt).toNat 0).toInt := congrArg Int32.toInt q87
        have c23 := nz_bx hB (k := 23) (lo := 0) (hi := 512) rfl
        exfalso
        omega
      replace g9 : 0 ≤ (sy_i F 33).toInt := by omega
      by_cases g10 : 400 < (sy_i F 33).toInt
      · have c33 := nz_bx hB (k := 33) (lo := 0) (hi := 400) rfl
        have q87 : (sy_ai F 39).getD (sy_i F 33).toNatClampNeg 0 = (sy_ai F 39).getD ((sy_i F 33).toInt).toNat 0 := by simp only [nz_c]
        have n87 : ((sy_ai F 39).getD (sy_i F 33).toNatClampNeg 0).toInt = ((sy_ai F 39).getD ((sy_i F 33).toInt).toNat 0).toInt := congrArg Int32.toInt q87
        have c23 := nz_bx hB (k := 23) (lo := 0) (hi := 512) rfl
        exfalso
        omega
      replace g10 : (sy_i F 33).toInt ≤ 400 := by omega
      have c33 := nz_bx hB (k := 33) (lo := 0) (hi := 400) rfl
      have q87 : (sy_ai F 39).getD (sy_i F 33).toNatClampNeg 0 = (sy_ai F 39).getD ((sy_i F 33).toInt).toNat 0 := by simp only [nz_c]
      have n87 : ((sy_ai F 39).getD (sy_i F 33).toNatClampNeg 0).toInt = ((sy_ai F 39).getD ((sy_i F 33).toInt).toNat 0).toInt := congrArg Int32.toInt q87
      have c23 := nz_bx hB (k := 23) (lo := 0) (hi := 512) rfl
      have q88 : (sy_ai F 39).getD (sy_i F 33).toNatClampNeg 0 = (sy_ai F 39).getD ((sy_i F 33).toInt).toNat 0 := by simp only [nz_c]
      have n88 : ((sy_ai F 39).getD (sy_i F 33).toNatClampNeg 0).toInt = ((sy_ai F 39).getD ((sy_i F 33).toInt).toNat 0).toInt := congrArg Int32.toInt q88
      have n89 : ((sy_i F 86) + ((1 : Int32))).toInt = ((sy_i F 86).toInt + 1) := nz_add (rfl : (sy_i F 86).toInt = (sy_i F 86).toInt) (by decide : ((1 : Int32)).toInt = 1) (by omega) (by omega)
      exact k0pp_23_p11 hd F X1 X2 hB (by first | exact g0 | (simp only [nz_c]; exact g0)) (by first | exact g1 | (simp only [nz_c]; exact g1)) (by first | exact g2 | (simp only [nz_c]; exact g2)) (by first | exact g3 | (simp only [nz_c]; exact g3)) (by first | exact g4 | (simp only [nz_c]; exact g4)) (by first | exact g5 | (simp only [nz_c]; exact g5)) (by first | exact ⟨by omega, by omega⟩ | (simp only [nz_c]; exact ⟨by omega, by omega⟩)) (by first | exact g6 | (simp only [nz_c]; exact g6) | (rw [n87]; exact g6)) (by first | exact g7 | (simp only [nz_c]; exact g7)) (by first | exact g8 | (simp only [nz_c]; exact g8)) (by first | exact g9 | (simp only [nz_c]; exact g9)) (by first | exact g10 | (simp only [nz_c]; exact g10)) (by first | exact ⟨by omega, by omega⟩ | (simp only [nz_c]; exact ⟨by omega, by omega⟩)) (fun F1 g e34 e82 e83 e84 e85 e86 => k11 g0 g1 g2 g3 g4 g5 g6 g7 g8 g9 g10 F1 (nz_in0 hB [34] (fun j hj hn => g j hj (by simp only [List.mem_cons, List.not_mem_nil, or_false, not_or] at hn; omega)) (List.forall_mem_cons.mpr ⟨fun t ht => (Option.some.inj ht) ▸ (nz_hz e34), List.forall_mem_nil _⟩)) (fun j hj hn => g j hj (by simp only [List.mem_cons, List.not_mem_nil, or_false, not_or] at hn; omega)) (nz_fi (g 33 (by decide) (by decide))) ((congrArg Int32.toInt (zz_i e34)).trans (by decide : ((1 : Int32)).toInt = 1)) (nz_fi (g 23 (by decide) (by decide))) (nz_fa (g 39 (by decide) (by decide))) ((congrArg Int32.toInt (zz_i e82)).trans (rfl : (sy_i F 82).toInt = (sy_i F 82).toInt)) ((congrArg Int32.toInt (zz_i e83)).trans (rfl : (sy_i F 83).toInt = (sy_i F 83).toInt)) ((congrArg Int32.toInt (zz_i e84)).trans (by decide : ((0 : Int32)).toInt = 0)) ((congrArg Int32.toInt (zz_i e85)).trans n88) ((congrArg Int32.toInt (zz_i e86)).trans n89))
    replace g8 : (sy_i F 23).toInt < 512 := by omega
    by_cases g9 : (sy_i F 33).toInt < 0
    · have c33 := nz_bx hB (k := 33) (lo := 0) (hi := 400) rfl
      have q87 : (sy_ai F 39).getD (sy_i F 33).toNatClampNeg 0 = (sy_ai F 39).getD ((sy_i F 33).toInt).toNat 0 := by simp only [nz_c]
      have n87 : ((sy_ai F 39).getD (sy_i F 33).toNatClampNeg 0).toInt = ((sy_ai F 39).getD ((sy_i F 33).toInt).toNat 0).toInt := congrArg Int32.toInt q87
      have c23 := nz_bx hB (k := 23) (lo := 0) (hi := 512) rfl
      exfalso
      omega
    replace g9 : 0 ≤ (sy_i F 33).toInt := by omega
    by_cases g10 : 400 < (sy_i F 33).toInt
    · have c33 := nz_bx hB (k := 33) (lo := 0) (hi := 400) rfl
      have q87 : (sy_ai F 39).getD (sy_i F 33).toNatClampNeg 0 = (sy_ai F 39).getD ((sy_i F 33).toInt).toNat 0 := by simp only [nz_c]
      have n87 : ((sy_ai F 39).getD (sy_i F 33).toNatClampNeg 0).toInt = ((sy_ai F 39).getD ((sy_i F 33).toInt).toNat 0).toInt := congrArg Int32.toInt q87
      have c23 := nz_bx hB (k := 23) (lo := 0) (hi := 512) rfl
      exfalso
      omega
    replace g10 : (sy_i F 33).toInt ≤ 400 := by omega
    have c33 := nz_bx hB (k := 33) (lo := 0) (hi := 400) rfl
    have q87 : (sy_ai F 39).getD (sy_i F 33).toNatClampNeg 0 = (sy_ai F 39).getD ((sy_i F 33).toInt).toNat 0 := by simp only [nz_c]
    have n87 : ((sy_ai F 39).getD (sy_i F 33).toNatClampNeg 0).toInt = ((sy_ai F 39).getD ((sy_i F 33).toInt).toNat 0).toInt := congrArg Int32.toInt q87
    have c23 := nz_bx hB (k := 23) (lo := 0) (hi := 512) rfl
    have n89 : ((sy_i F 23) + ((1 : Int32))).toInt = ((sy_i F 23).toInt + 1) := nz_add (rfl : (sy_i F 23).toInt = (sy_i F 23).toInt) (by decide : ((1 : Int32)).toInt = 1) (by omega) (by omega)
    have q90 : (sy_ai F 39).getD (sy_i F 33).toNatClampNeg 0 = (sy_ai F 39).getD ((sy_i F 33).toInt).toNat 0 := by simp only [nz_c]
    have n90 : ((sy_ai F 39).getD (sy_i F 33).toNatClampNeg 0).toInt = ((sy_ai F 39).getD ((sy_i F 33).toInt).toNat 0).toInt := congrArg Int32.toInt q90
    have n91 : ((sy_i F 86) + ((1 : Int32))).toInt = ((sy_i F 86).toInt + 1) := nz_add (rfl : (sy_i F 86).toInt = (sy_i F 86).toInt) (by decide : ((1 : Int32)).toInt = 1) (by omega) (by omega)
    exact k0pp_23_p12 hd F X1 X2 hB (by first | exact g0 | (simp only [nz_c]; exact g0)) (by first | exact g1 | (simp only [nz_c]; exact g1)) (by first | exact g2 | (simp only [nz_c]; exact g2)) (by first | exact g3 | (simp only [nz_c]; exact g3)) (by first | exact g4 | (simp only [nz_c]; exact g4)) (by first | exact g5 | (simp only [nz_c]; exact g5)) (by first | exact ⟨by omega, by omega⟩ | (simp only [nz_c]; exact ⟨by omega, by omega⟩)) (by first | exact g6 | (simp only [nz_c]; exact g6) | (rw [n87]; exact g6)) (by first | exact g7 | (simp only [nz_c]; exact g7)) (by first | exact g8 | (simp only [nz_c]; exact g8)) (by first | exact ⟨by omega, by omega⟩ | (simp only [nz_c]; exact ⟨by omega, by omega⟩)) (by first | exact g9 | (simp only [nz_c]; exact g9)) (by first | exact g10 | (simp only [nz_c]; exact g10)) (by first | exact ⟨by omega, by omega⟩ | (simp only [nz_c]; exact ⟨by omega, by omega⟩)) (fun F1 g e23 e32 e34 e82 e83 e84 e85 e86 => k12 g0 g1 g2 g3 g4 g5 g6 g7 g8 g9 g10 F1 (nz_in0 hB [23, 32, 34] (fun j hj hn => g j hj (by simp only [List.mem_cons, List.not_mem_nil, or_false, not_or] at hn; omega)) (List.forall_mem_cons.mpr ⟨fun t ht => (Option.some.inj ht) ▸ (nz_hi e23 n89 (by omega) (by omega)), List.forall_mem_cons.mpr ⟨fun t ht => (Option.some.inj ht) ▸ (nz_hA e32 (nz_up (nz_ba hB (k := 32) (lo := (-2147483648)) (hi := 2147483646) rfl) (by decide : (((-13) : Int32)).toInt = (-13 : Int)) (by omega) (by omega))), List.forall_mem_cons.mpr ⟨fun t ht => (Option.some.inj ht) ▸ (nz_hz e34), List.forall_mem_nil _⟩⟩⟩)) (fun j hj hn => g j hj (by simp only [List.mem_cons, List.not_mem_nil, or_false, not_or] at hn; omega)) (nz_fi (g 33 (by decide) (by decide))) ((congrArg Int32.toInt (zz_i e34)).trans (by decide : ((1 : Int32)).toInt = 1)) ((congrArg Int32.toInt (zz_i e23)).trans n89) (nz_fa (g 39 (by decide) (by decide))) ((congrArg Int32.toInt (zz_i e82)).trans (rfl : (sy_i F 82).toInt = (sy_i F 82).toInt)) ((congrArg Int32.toInt (zz_i e83)).trans (rfl : (sy_i F 83).toInt = (sy_i F 83).toInt)) ((congrArg Int32.toInt (zz_i e84)).trans (by decide : ((0 : Int32)).toInt = 0)) ((congrArg Int32.toInt (zz_i e85)).trans n90) ((congrArg Int32.toInt (zz_i e86)).trans n91))
  replace g7 : (sy_i F 85).toInt = 42 := by omega
  have c33 := nz_bx hB (k := 33) (lo := 0) (hi := 400) rfl
  have q87 : (sy_ai F 39).getD (sy_i F 33).toNatClampNeg 0 = (sy_ai F 39).getD ((sy_i F 33).toInt).toNat 0 := by simp only [nz_c]
  have n87 : ((sy_ai F 39).getD (sy_i F 33).toNatClampNeg 0).toInt = ((sy_ai F 39).getD ((sy_i F 33).toInt).toNat 0).toInt := congrArg Int32.toInt q87
  exfalso
  omega
theorem k0pp_64_p0 {Ls : Nat} {xs : Nat → Int32} {d : Nat} {Q : Option Value → jm_h → Prop} (hd : 4 ≤ d) (F : Nat → sy_d) (X1 X2 : List jm_c) (hB : iv_in F iv_B0)
    (h0 : (sy_i F 86).toInt = 0)
    (h1 : (sy_i F 84).toInt ≠ 42)
    (h2 : 512 ≤ (sy_i F 23).toInt)
    (h3 : 0 ≤ (sy_i F 33).toInt)
    (h4 : (sy_i F 33).toInt ≤ 400)
    (h5 : 0 ≤ (sy_i F 33).toInt ∧ (sy_i F 33).toInt < 401)
    (k : ∀ F1 : Nat → sy_d, (∀ j, j < 82 → True → F1 j = F j) → F1 82 = .inl (.int (sy_i F 82)) → F1 83 = .inl (.int (sy_i F 83)) → F1 84 = .inl (.int ((0 : Int32))) → F1 85 = .inl (.int ((sy_ai F 39).getD (sy_i F 33).toNatClampNeg 0)) → F1 86 = .inl (.int ((sy_i F 85) + ((1 : Int32)))) → hd_W Ls xs d jm_M39 Q (23, sy_dL F1 [some (.inl (.ref 30)), some (.inr (.inl 82)), some (.inr (.inl 83)), some (.inr (.inl 84)), some (.inr (.inl 85)), some (.inr (.inl 86))], sy_dS F1 [], sy_dh F1 X1 X2 (iv_H 0), 0, 0)) :
    hd_W Ls xs d jm_M39 Q (64, sy_dL F [some (.inl (.ref 30)), some (.inr (.inl 82)), some (.inr (.inl 83)), none, some (.inr (.inl 84)), some (.inr (.inl 85))], sy_dS F [.inr (.inl 86)], sy_dh F X1 X2 (iv_H 0), 0, 0) := by
  refine hd_run (s := 0) (nv := 87) (pc := 23) (L := [some (.inl (.ref 30)), some (.inr (.inl 82)), some (.inr (.inl 83)), some (.inr (.inl 84)), some (.inr (.inl 85)), some (.inr (.inl 86))]) (S := []) (uh := hd_ov (iv_id 0 iv_B0) []) (ul := [.inl (.inr (.inl 82)), .inl (.inr (.inl 83)), .inl (.inl (.int 0)), .inl (.inr (.inl 87)), .inl (.inr (.inl 88))]) (f := false) (sp := [23]) (d0 := 3) (O := [true, true, true, false, false]) (T := [(30, [.inr (.inl 33)], [.inr (.inl 39)]), (0, [.inr (.inl 85), .inl (.int 1)], [])]) (P := [(0, .inr (.inl 86), .inl (.int 0)), (1, .inr (.inl 84), .inl (.int 42)), (4, .inl (.int 512), .inr (.inl 23)), (3, .inr (.inl 33), .inl (.int 0)), (3, .inl (.int 400), .inr (.inl 33)), (6, .inr (.inl 33), .inl (.ref 401))]) jm_ok39 (by decide +kernel) (by decide +kernel) hd F X1 X2 (fun F' hF hs => ?_)
  have b86 := hd_b (F := F) (F' := F') (k := 86) (hF 86 (by decide))
  have b84 := hd_b (F := F) (F' := F') (k := 84) (hF 84 (by decide))
  have b23 := hd_b (F := F) (F' := F') (k := 23) (hF 23 (by decide))
  have b33 := hd_b (F := F) (F' := F') (k := 33) (hF 33 (by decide))
  have b82 := hd_b (F := F) (F' := F') (k := 82) (hF 82 (by decide))
  have b83 := hd_b (F := F) (F' := F') (k := 83) (hF 83 (by decide))
  have a39 := hd_ba (F := F) (F' := F') (k := 39) (hF 39 (by decide))
  have t87 : sy_dv F' (.inr (.inl 87)) = .int ((sy_ai F 39).getD (sy_i F 33).toNatClampNeg 0) := hd_rd (hs 0 _ rfl) b33 a39
  have b85 := hd_b (F := F) (F' := F') (k := 85) (hF 85 (by decide))
  have t88 : sy_dv F' (.inr (.inl 88)) = .int ((sy_i F 85) + ((1 : Int32))) := hd_o (hs 1 _ rfl) b85 rfl rfl
  have hB' : iv_in F' iv_B0 := iv_in_eq hB (fun j hj => hF j (Nat.lt_of_lt_of_le hj (by decide +kernel)))
  refine ⟨List.forall_mem_cons.mpr ⟨hd_p0 b86 rfl (by have hc : ((0) : Int32).toInt = 0 := (by decide); omega), List.forall_mem_cons.mpr ⟨hd_p1 b84 rfl (by have hc : ((42) : Int32).toInt = 42 := (by decide); omega), List.forall_mem_cons.mpr ⟨hd_p4 rfl b23 (by have hc : ((512) : Int32).toInt = 512 := (by decide); omega), List.forall_mem_cons.mpr ⟨hd_p3 b33 rfl (by have hc : ((0) : Int32).toInt = 0 := (by decide); omega), List.forall_mem_cons.mpr ⟨hd_p3 rfl b33 (by have hc : ((400) : Int32).toInt = 400 := (by decide); omega), List.forall_mem_cons.mpr ⟨hd_pb b33 (by first | exact h5 | exact h5), fun _ h => absurd h List.not_mem_nil⟩⟩⟩⟩⟩⟩, ?_⟩
  refine k _ ?_ ?_ ?_ ?_ ?_ ?_
  · exact fun j hj _ => (hd_keep hB' (Nat.lt_of_lt_of_le hj (by decide +kernel)) (by simp)).trans (hF j (by omega))
  · exact hd_gi (x := .inr (.inl 82)) (by decide +kernel) b82
  · exact hd_gi (x := .inr (.inl 83)) (by decide +kernel) b83
  · exact hd_gi (x := .inl (.int 0)) (by decide +kernel) rfl
  · exact hd_gi (x := .inr (.inl 87)) (by decide +kernel) t87
  · exact hd_gi (x := .inr (.inl 88)) (by decide +kernel) t88
theorem k0pp_64_p1 {Ls : Nat} {xs : Nat → Int32} {d : Nat} {Q : Option Value → jm_h → Prop} (hd : 4 ≤ d) (F : Nat → sy_d) (X1 X2 : List jm_c) (hB : iv_in F iv_B0)
    (h0 : (sy_i F 86).toInt = 0)
    (h1 : (sy_i F 84).toInt ≠ 42)
    (h2 : (sy_i F 23).toInt < 512)
    (h3 : 0 ≤ (sy_i F 23).toInt ∧ (sy_i F 23).toInt < 512)
    (h4 : 0 ≤ (sy_i F 33).toInt)
    (h5 : (sy_i F 33).toInt ≤ 400)
    (h6 : 0 ≤ (sy_i F 33).toInt ∧ (sy_i F 33).toInt < 401)
    (k : ∀ F1 : Nat → sy_d, (∀ j, j < 82 → j ≠ 23 ∧ j ≠ 32 → F1 j = F j) → F1 23 = .inl (.int ((sy_i F 23) + ((1 : Int32)))) → F1 32 = .inr (.inl (jm_upd (sy_ai F 32) (sy_i F 23).toNatClampNeg (((-13) : Int32)))) → F1 82 = .inl (.int (sy_i F 82)) → F1 83 = .inl (.int (sy_i F 83)) → F1 84 = .inl (.int ((0 : Int32))) → F1 85 = .inl (.int ((sy_ai F 39).getD (sy_i F 33).toNatClampNeg 0)) → F1 86 = .inl (.int ((sy_i F 85) + ((1 : Int32)))) → hd_W Ls xs d jm_M39 Q (23, sy_dL F1 [some (.inl (.ref 30)), some (.inr (.inl 82)), some (.inr (.inl 83)), some (.inr (.inl 84)), some (.inr (.inl 85)), some (.inr (.inl 86))], sy_dS F1 [], sy_dh F1 X1 X2 (iv_H 0), 0, 0)) :
    hd_W Ls xs d jm_M39 Q (64, sy_dL F [some (.inl (.ref 30)), some (.inr (.inl 82)), some (.inr (.inl 83)), none, some (.inr (.inl 84)), some (.inr (.inl 85))], sy_dS F [.inr (.inl 86)], sy_dh F X1 X2 (iv_H 0), 0, 0) := by
  refine hd_run (s := 0) (nv := 87) (pc := 23) (L := [some (.inl (.ref 30)), some (.inr (.inl 82)), some (.inr (.inl 83)), some (.inr (.inl 84)), some (.inr (.inl 85)), some (.inr (.inl 86))]) (S := []) (uh := hd_ov (iv_id 0 iv_B0) [(23, .inl (.inr (.inl 88))), (32, .inr (.inr (.inl 87)))]) (ul := [.inl (.inr (.inl 82)), .inl (.inr (.inl 83)), .inl (.inl (.int 0)), .inl (.inr (.inl 89)), .inl (.inr (.inl 90))]) (f := false) (sp := [23]) (d0 := 3) (O := [true, true, false, false, false]) (T := [(40, [.inr (.inl 23), .inl (.int (-13))], [.inr (.inl 32)]), (0, [.inr (.inl 23), .inl (.int 1)], []), (30, [.inr (.inl 33)], [.inr (.inl 39)]), (0, [.inr (.inl 85), .inl (.int 1)], [])]) (P := [(0, .inr (.inl 86), .inl (.int 0)), (1, .inr (.inl 84), .inl (.int 42)), (5, .inl (.int 512), .inr (.inl 23)), (6, .inr (.inl 23), .inl (.ref 512)), (3, .inr (.inl 33), .inl (.int 0)), (3, .inl (.int 400), .inr (.inl 33)), (6, .inr (.inl 33), .inl (.ref 401))]) jm_ok39 (by decide +kernel) (by decide +kernel) hd F X1 X2 (fun F' hF hs => ?_)
  have b86 := hd_b (F := F) (F' := F') (k := 86) (hF 86 (by decide))
  have b84 := hd_b (F := F) (F' := F') (k := 84) (hF 84 (by decide))
  have b23 := hd_b (F := F) (F' := F') (k := 23) (hF 23 (by decide))
  have b33 := hd_b (F := F) (F' := F') (k := 33) (hF 33 (by decide))
  have t88 : sy_dv F' (.inr (.inl 88)) = .int ((sy_i F 23) + ((1 : Int32))) := hd_o (hs 1 _ rfl) b23 rfl rfl
  have a32 := hd_ba (F := F) (F' := F') (k := 32) (hF 32 (by decide))
  have t87 : sy_da F' (.inr (.inl 87)) = .inl (jm_upd (sy_ai F 32) (sy_i F 23).toNatClampNeg (((-13) : Int32))) := hd_up (hs 0 _ rfl) b23 rfl a32
  have b82 := hd_b (F := F) (F' := F') (k := 82) (hF 82 (by decide))
  have b83 := hd_b (F := F) (F' := F') (k := 83) (hF 83 (by decide))
  have a39 := hd_ba (F := F) (F' := F') (k := 39) (hF 39 (by decide))
  have t89 : sy_dv F' (.inr (.inl 89)) = .int ((sy_ai F 39).getD (sy_i F 33).toNatClampNeg 0) := hd_rd (hs 2 _ rfl) b33 a39
  have b85 := hd_b (F := F) (F' := F') (k := 85) (hF 85 (by decide))
  have t90 : sy_dv F' (.inr (.inl 90)) = .int ((sy_i F 85) + ((1 : Int32))) := hd_o (hs 3 _ rfl) b85 rfl rfl
  have hB' : iv_in F' iv_B0 := iv_in_eq hB (fun j hj => hF j (Nat.lt_of_lt_of_le hj (by decide +kernel)))
  refine ⟨List.forall_mem_cons.mpr ⟨hd_p0 b86 rfl (by have hc : ((0) : Int32).toInt = 0 := (by decide); omega), List.forall_mem_cons.mpr ⟨hd_p1 b84 rfl (by have hc : ((42) : Int32).toInt = 42 := (by decide); omega), List.forall_mem_cons.mpr ⟨hd_p5 rfl b23 (by have hc : ((512) : Int32).toInt = 512 := (by decide); omega), List.forall_mem_cons.mpr ⟨hd_pb b23 (by first | exact h3 | exact h3), List.forall_mem_cons.mpr ⟨hd_p3 b33 rfl (by have hc : ((0) : Int32).toInt = 0 := (by decide); omega), List.forall_mem_cons.mpr ⟨hd_p3 rfl b33 (by have hc : ((400) : Int32).toInt = 400 := (by decide); omega), List.forall_mem_cons.mpr ⟨hd_pb b33 (by first | exact h6 | exact h6), fun _ h => absurd h List.not_mem_nil⟩⟩⟩⟩⟩⟩⟩, ?_⟩
  refine k _ ?_ ?_ ?_ ?_ ?_ ?_ ?_ ?_
  · exact fun j hj hn => (hd_keep hB' (Nat.lt_of_lt_of_le hj (by decide +kernel)) (by simp; omega)).trans (hF j (by omega))
  · exact hd_gi (x := .inr (.inl 88)) (by decide +kernel) t88
  · exact hd_ga (a := .inr (.inl 87)) (by decide +kernel) t87
  · exact hd_gi (x := .inr (.inl 82)) (by decide +kernel) b82
  · exact hd_gi (x := .inr (.inl 83)) (by decide +kernel) b83
  · exact hd_gi (x := .inl (.int 0)) (by decide +kernel) rfl
  · exact hd_gi (x := .inr (.inl 89)) (by decide +kernel) t89
  · exact hd_gi (x := .inr (.inl 90)) (by decide +kernel) t90
theorem k0pp_64_p2 {Ls : Nat} {xs : Nat → Int32} {d : Nat} {Q : Option Value → jm_h → Prop} (hd : 4 ≤ d) (F : Nat → sy_d) (X1 X2 : List jm_c) (hB : iv_in F iv_B0)
    (h0 : (sy_i F 86).toInt = 0)
    (h1 : (sy_i F 84).toInt = 42)
    (h2 : 512 ≤ (sy_i F 23).toInt)
    (h3 : 0 ≤ (sy_i F 33).toInt)
    (h4 : (sy_i F 33).toInt ≤ 400)
    (h5 : 0 ≤ (sy_i F 33).toInt ∧ (sy_i F 33).toInt < 401)
    (k : ∀ F1 : Nat → sy_d, (∀ j, j < 82 → True → F1 j = F j) → F1 82 = .inl (.int (sy_i F 82)) → F1 83 = .inl (.int (sy_i F 83)) → F1 84 = .inl (.int ((0 : Int32))) → F1 85 = .inl (.int ((sy_ai F 39).getD (sy_i F 33).toNatClampNeg 0)) → F1 86 = .inl (.int ((sy_i F 85) + ((1 : Int32)))) → hd_W Ls xs d jm_M39 Q (23, sy_dL F1 [some (.inl (.ref 30)), some (.inr (.inl 82)), some (.inr (.inl 83)), some (.inr (.inl 84)), some (.inr (.inl 85)), some (.inr (.inl 86))], sy_dS F1 [], sy_dh F1 X1 X2 (iv_H 0), 0, 0)) :
    hd_W Ls xs d jm_M39 Q (64, sy_dL F [some (.inl (.ref 30)), some (.inr (.inl 82)), some (.inr (.inl 83)), none, some (.inr (.inl 84)), some (.inr (.inl 85))], sy_dS F [.inr (.inl 86)], sy_dh F X1 X2 (iv_H 0), 0, 0) := by
  refine hd_run (s := 0) (nv := 87) (pc := 23) (L := [some (.inl (.ref 30)), some (.inr (.inl 82)), some (.inr (.inl 83)), some (.inr (.inl 84)), some (.inr (.inl 85)), some (.inr (.inl 86))]) (S := []) (uh := hd_ov (iv_id 0 iv_B0) []) (ul := [.inl (.inr (.inl 82)), .inl (.inr (.inl 83)), .inl (.inl (.int 0)), .inl (.inr (.inl 87)), .inl (.inr (.inl 88))]) (f := false) (sp := [23]) (d0 := 3) (O := [true, false, true, false, false]) (T := [(30, [.inr (.inl 33)], [.inr (.inl 39)]), (0, [.inr (.inl 85), .inl (.int 1)], [])]) (P := [(0, .inr (.inl 86), .inl (.int 0)), (0, .inr (.inl 84), .inl (.int 42)), (4, .inl (.int 512), .inr (.inl 23)), (3, .inr (.inl 33), .inl (.int 0)), (3, .inl (.int 400), .inr (.inl 33)), (6, .inr (.inl 33), .inl (.ref 401))]) jm_ok39 (by decide +kernel) (by decide +kernel) hd F X1 X2 (fun F' hF hs => ?_)
  have b86 := hd_b (F := F) (F' := F') (k := 86) (hF 86 (by decide))
  have b84 := hd_b (F := F) (F' := F') (k := 84) (hF 84 (by decide))
  have b23 := hd_b (F := F) (F' := F') (k := 23) (hF 23 (by decide))
  have b33 := hd_b (F := F) (F' := F') (k := 33) (hF 33 (by decide))
  have b82 := hd_b (F := F) (F' := F') (k := 82) (hF 82 (by decide))
  have b83 := hd_b (F := F) (F' := F') (k := 83) (hF 83 (by decide))
  have a39 := hd_ba (F := F) (F' := F') (k := 39) (hF 39 (by decide))
  have t87 : sy_dv F' (.inr (.inl 87)) = .int ((sy_ai F 39).getD (sy_i F 33).toNatClampNeg 0) := hd_rd (hs 0 _ rfl) b33 a39
  have b85 := hd_b (F := F) (F' := F') (k := 85) (hF 85 (by decide))
  have t88 : sy_dv F' (.inr (.inl 88)) = .int ((sy_i F 85) + ((1 : Int32))) := hd_o (hs 1 _ rfl) b85 rfl rfl
  have hB' : iv_in F' iv_B0 := iv_in_eq hB (fun j hj => hF j (Nat.lt_of_lt_of_le hj (by decide +kernel)))
  refine ⟨List.forall_mem_cons.mpr ⟨hd_p0 b86 rfl (by have hc : ((0) : Int32).toInt = 0 := (by decide); omega), List.forall_mem_cons.mpr ⟨hd_p0 b84 rfl (by have hc : ((42) : Int32).toInt = 42 := (by decide); omega), List.forall_mem_cons.mpr ⟨hd_p4 rfl b23 (by have hc : ((512) : Int32).toInt = 512 := (by decide); omega), List.forall_mem_cons.mpr ⟨hd_p3 b33 rfl (by have hc : ((0) : Int32).toInt = 0 := (by decide); omega), List.forall_mem_cons.mpr ⟨hd_p3 rfl b33 (by have hc : ((400) : Int32).toInt = 400 := (by decide); omega), List.forall_mem_cons.mpr ⟨hd_pb b33 (by first | exact h5 | exact h5), fun _ h => absurd h List.not_mem_nil⟩⟩⟩⟩⟩⟩, ?_⟩
  refine k _ ?_ ?_ ?_ ?_ ?_ ?_
  · exact fun j hj _ => (hd_keep hB' (Nat.lt_of_lt_of_le hj (by decide +kernel)) (by simp)).trans (hF j (by omega))
  · exact hd_gi (x := .inr (.inl 82)) (by decide +kernel) b82
  · exact hd_gi (x := .inr (.inl 83)) (by decide +kernel) b83
  · exact hd_gi (x := .inl (.int 0)) (by decide +kernel) rfl
  · exact hd_gi (x := .inr (.inl 87)) (by decide +kernel) t87
  · exact hd_gi (x := .inr (.inl 88)) (by decide +kernel) t88
theorem k0pp_64_p3 {Ls : Nat} {xs : Nat → Int32} {d : Nat} {Q : Option Value → jm_h → Prop} (hd : 4 ≤ d) (F : Nat → sy_d) (X1 X2 : List jm_c) (hB : iv_in F iv_B0)
    (h0 : (sy_i F 86).toInt = 0)
    (h1 : (sy_i F 84).toInt = 42)
    (h2 : (sy_i F 23).toInt < 512)
    (h3 : 0 ≤ (sy_i F 23).toInt ∧ (sy_i F 23).toInt < 512)
    (h4 : 0 ≤ (sy_i F 33).toInt)
    (h5 : (sy_i F 33).toInt ≤ 400)
    (h6 : 0 ≤ (sy_i F 33).toInt ∧ (sy_i F 33).toInt < 401)
    (k : ∀ F1 : Nat → sy_d, (∀ j, j < 82 → j ≠ 23 ∧ j ≠ 32 → F1 j = F j) → F1 23 = .inl (.int ((sy_i F 23) + ((1 : Int32)))) → F1 32 = .inr (.inl (jm_upd (sy_ai F 32) (sy_i F 23).toNatClampNeg (((-12) : Int32)))) → F1 82 = .inl (.int (sy_i F 82)) → F1 83 = .inl (.int (sy_i F 83)) → F1 84 = .inl (.int ((0 : Int32))) → F1 85 = .inl (.int ((sy_ai F 39).getD (sy_i F 33).toNatClampNeg 0)) → F1 86 = .inl (.int ((sy_i F 85) + ((1 : Int32)))) → hd_W Ls xs d jm_M39 Q (23, sy_dL F1 [some (.inl (.ref 30)), some (.inr (.inl 82)), some (.inr (.inl 83)), some (.inr (.inl 84)), some (.inr (.inl 85)), some (.inr (.inl 86))], sy_dS F1 [], sy_dh F1 X1 X2 (iv_H 0), 0, 0)) :
    hd_W Ls xs d jm_M39 Q (64, sy_dL F [some (.inl (.ref 30)), some (.inr (.inl 82)), some (.inr (.inl 83)), none, some (.inr (.inl 84)), some (.inr (.inl 85))], sy_dS F [.inr (.inl 86)], sy_dh F X1 X2 (iv_H 0), 0, 0) := by
  refine hd_run (s := 0) (nv := 87) (pc := 23) (L := [some (.inl (.ref 30)), some (.inr (.inl 82)), some (.inr (.inl 83)), some (.inr (.inl 84)), some (.inr (.inl 85)), some (.inr (.inl 86))]) (S := []) (uh := hd_ov (iv_id 0 iv_B0) [(23, .inl (.inr (.inl 88))), (32, .inr (.inr (.inl 87)))]) (ul := [.inl (.inr (.inl 82)), .inl (.inr (.inl 83)), .inl (.inl (.int 0)), .inl (.inr (.inl 89)), .inl (.inr (.inl 90))]) (f := false) (sp := [23]) (d0 := 3) (O := [true, false, false, false, false]) (T := [(40, [.inr (.inl 23), .inl (.int (-12))], [.inr (.inl 32)]), (0, [.inr (.inl 23), .inl (.int 1)], []), (30, [.inr (.inl 33)], [.inr (.inl 39)]), (0, [.inr (.inl 85), .inl (.int 1)], [])]) (P := [(0, .inr (.inl 86), .inl (.int 0)), (0, .inr (.inl 84), .inl (.int 42)), (5, .inl (.int 512), .inr (.inl 23)), (6, .inr (.inl 23), .inl (.ref 512)), (3, .inr (.inl 33), .inl (.int 0)), (3, .inl (.int 400), .inr (.inl 33)), (6, .inr (.inl 33), .inl (.ref 401))]) jm_ok39 (by decide +kernel) (by decide +kernel) hd F X1 X2 (fun F' hF hs => ?_)
  have b86 := hd_b (F := F) (F' := F') (k := 86) (hF 86 (by decide))
  have b84 := hd_b (F := F) (F' := F') (k := 84) (hF 84 (by decide))
  have b23 := hd_b (F := F) (F' := F') (k := 23) (hF 23 (by decide))
  have b33 := hd_b (F := F) (F' := F') (k := 33) (hF 33 (by decide))
  have t88 : sy_dv F' (.inr (.inl 88)) = .int ((sy_i F 23) + ((1 : Int32))) := hd_o (hs 1 _ rfl) b23 rfl rfl
  have a32 := hd_ba (F := F) (F' := F') (k := 32) (hF 32 (by decide))
  have t87 : sy_da F' (.inr (.inl 87)) = .inl (jm_upd (sy_ai F 32) (sy_i F 23).toNatClampNeg (((-12) : Int32))) := hd_up (hs 0 _ rfl) b23 rfl a32
  have b82 := hd_b (F := F) (F' := F') (k := 82) (hF 82 (by decide))
  have b83 := hd_b (F := F) (F' := F') (k := 83) (hF 83 (by decide))
  have a39 := hd_ba (F := F) (F' := F') (k := 39) (hF 39 (by decide))
  have t89 : sy_dv F' (.inr (.inl 89)) = .int ((sy_ai F 39).getD (sy_i F 33).toNatClampNeg 0) := hd_rd (hs 2 _ rfl) b33 a39
  have b85 := hd_b (F := F) (F' := F') (k := 85) (hF 85 (by decide))
  have t90 : sy_dv F' (.inr (.inl 90)) = .int ((sy_i F 85) + ((1 : Int32))) := hd_o (hs 3 _ rfl) b85 rfl rfl
  have hB' : iv_in F' iv_B0 := iv_in_eq hB (fun j hj => hF j (Nat.lt_of_lt_of_le hj (by decide +kernel)))
  refine ⟨List.forall_mem_cons.mpr ⟨hd_p0 b86 rfl (by have hc : ((0) : Int32).toInt = 0 := (by decide); omega), List.forall_mem_cons.mpr ⟨hd_p0 b84 rfl (by have hc : ((42) : Int32).toInt = 42 := (by decide); omega), List.forall_mem_cons.mpr ⟨hd_p5 rfl b23 (by have hc : ((512) : Int32).toInt = 512 := (by decide); omega), List.forall_mem_cons.mpr ⟨hd_pb b23 (by first | exact h3 | exact h3), List.forall_mem_cons.mpr ⟨hd_p3 b33 rfl (by have hc : ((0) : Int32).toInt = 0 := (by decide); omega), List.forall_mem_cons.mpr ⟨hd_p3 rfl b33 (by have hc : ((400) : Int32).toInt = 400 := (by decide); omega), List.forall_mem_cons.mpr ⟨hd_pb b33 (by first | exact h6 | exact h6), fun _ h => absurd h List.not_mem_nil⟩⟩⟩⟩⟩⟩⟩, ?_⟩
  refine k _ ?_ ?_ ?_ ?_ ?_ ?_ ?_ ?_
  · exact fun j hj hn => (hd_keep hB' (Nat.lt_of_lt_of_le hj (by decide +kernel)) (by simp; omega)).trans (hF j (by omega))
  · exact hd_gi (x := .inr (.inl 88)) (by decide +kernel) t88
  · exact hd_ga (a := .inr (.inl 87)) (by decide +kernel) t87
  · exact hd_gi (x := .inr (.inl 82)) (by decide +kernel) b82
  · exact hd_gi (x := .inr (.inl 83)) (by decide +kernel) b83
  · exact hd_gi (x := .inl (.int 0)) (by decide +kernel) rfl
  · exact hd_gi (x := .inr (.inl 89)) (by decide +kernel) t89
  · exact hd_gi (x := .inr (.inl 90)) (by decide +kernel) t90
theorem k0pp_64_p4 {Ls : Nat} {xs : Nat → Int32} {d : Nat} {Q : Option Value → jm_h → Prop} (hd : 4 ≤ d) (F : Nat → sy_d) (X1 X2 : List jm_c) (hB : iv_in F iv_B0)
    (h0 : (sy_i F 86).toInt ≠ 0)
    (h1 : (sy_i F 84).toInt ≠ 42)
    (h2 : 512 ≤ (sy_i F 23).toInt)
    (h3 : 0 ≤ (sy_i F 33).toInt)
    (h4 : (sy_i F 33).toInt ≤ 400)
    (h5 : 0 ≤ (sy_i F 33).toInt ∧ (sy_i F 33).toInt < 401)
    (k : ∀ F1 : Nat → sy_d, (∀ j, j < 82 → True → F1 j = F j) → F1 82 = .inl (.int (sy_i F 82)) → F1 83 = .inl (.int (sy_i F 83)) → F1 84 = .inl (.int ((1 : Int32))) → F1 85 = .inl (.int ((sy_ai F 39).getD (sy_i F 33).toNatClampNeg 0)) → F1 86 = .inl (.int ((sy_i F 85) + ((1 : Int32)))) → hd_W Ls xs d jm_M39 Q (23, sy_dL F1 [some (.inl (.ref 30)), some (.inr (.inl 82)), some (.inr (.inl 83)), some (.inr (.inl 84)), some (.inr (.inl 85)), some (.inr (.inl 86))], sy_dS F1 [], sy_dh F1 X1 X2 (iv_H 0), 0, 0)) :
    hd_W Ls xs d jm_M39 Q (64, sy_dL F [some (.inl (.ref 30)), some (.inr (.inl 82)), some (.inr (.inl 83)), none, some (.inr (.inl 84)), some (.inr (.inl 85))], sy_dS F [.inr (.inl 86)], sy_dh F X1 X2 (iv_H 0), 0, 0) := by
  refine hd_run (s := 0) (nv := 87) (pc := 23) (L := [some (.inl (.ref 30)), some (.inr (.inl 82)), some (.inr (.inl 83)), some (.inr (.inl 84)), some (.inr (.inl 85)), some (.inr (.inl 86))]) (S := []) (uh := hd_ov (iv_id 0 iv_B0) []) (ul := [.inl (.inr (.inl 82)), .inl (.inr (.inl 83)), .inl (.inl (.int 1)), .inl (.inr (.inl 87)), .inl (.inr (.inl 88))]) (f := false) (sp := [23]) (d0 := 3) (O := [false, true, true, false, false]) (T := [(30, [.inr (.inl 33)], [.inr (.inl 39)]), (0, [.inr (.inl 85), .inl (.int 1)], [])]) (P := [(1, .inr (.inl 86), .inl (.int 0)), (1, .inr (.inl 84), .inl (.int 42)), (4, .inl (.int 512), .inr (.inl 23)), (3, .inr (.inl 33), .inl (.int 0)), (3, .inl (.int 400), .inr (.inl 33)), (6, .inr (.inl 33), .inl (.ref 401))]) jm_ok39 (by decide +kernel) (by decide +kernel) hd F X1 X2 (fun F' hF hs => ?_)
  have b86 := hd_b (F := F) (F' := F') (k := 86) (hF 86 (by decide))
  have b84 := hd_b (F := F) (F' := F') (k := 84) (hF 84 (by decide))
  have b23 := hd_b (F := F) (F' := F') (k := 23) (hF 23 (by decide))
  have b33 := hd_b (F := F) (F' := F') (k := 33) (hF 33 (by decide))
  have b82 := hd_b (F := F) (F' := F') (k := 82) (hF 82 (by decide))
  have b83 := hd_b (F := F) (F' := F') (k := 83) (hF 83 (by decide))
  have a39 := hd_ba (F := F) (F' := F') (k := 39) (hF 39 (by decide))
  have t87 : sy_dv F' (.inr (.inl 87)) = .int ((sy_ai F 39).getD (sy_i F 33).toNatClampNeg 0) := hd_rd (hs 0 _ rfl) b33 a39
  have b85 := hd_b (F := F) (F' := F') (k := 85) (hF 85 (by decide))
  have t88 : sy_dv F' (.inr (.inl 88)) = .int ((sy_i F 85) + ((1 : Int32))) := hd_o (hs 1 _ rfl) b85 rfl rfl
  have hB' : iv_in F' iv_B0 := iv_in_eq hB (fun j hj => hF j (Nat.lt_of_lt_of_le hj (by decide +kernel)))
  refine ⟨List.forall_mem_cons.mpr ⟨hd_p1 b86 rfl (by have hc : ((0) : Int32).toInt = 0 := (by decide); omega), List.forall_mem_cons.mpr ⟨hd_p1 b84 rfl (by have hc : ((42) : Int32).toInt = 42 := (by decide); omega), List.forall_mem_cons.mpr ⟨hd_p4 rfl b23 (by have hc : ((512) : Int32).toInt = 512 := (by decide); omega), List.forall_mem_cons.mpr ⟨hd_p3 b33 rfl (by have hc : ((0) : Int32).toInt = 0 := (by decide); omega), List.forall_mem_cons.mpr ⟨hd_p3 rfl b33 (by have hc : ((400) : Int32).toInt = 400 := (by decide); omega), List.forall_mem_cons.mpr ⟨hd_pb b33 (by first | exact h5 | exact h5), fun _ h => absurd h List.not_mem_nil⟩⟩⟩⟩⟩⟩, ?_⟩
  refine k _ ?_ ?_ ?_ ?_ ?_ ?_
  · exact fun j hj _ => (hd_keep hB' (Nat.lt_of_lt_of_le hj (by decide +kernel)) (by simp)).trans (hF j (by omega))
  · exact hd_gi (x := .inr (.inl 82)) (by decide +kernel) b82
  · exact hd_gi (x := .inr (.inl 83)) (by decide +kernel) b83
  · exact hd_gi (x := .inl (.int 1)) (by decide +kernel) rfl
  · exact hd_gi (x := .inr (.inl 87)) (by decide +kernel) t87
  · exact hd_gi (x := .inr (.inl 88)) (by decide +kernel) t88
theorem k0pp_64_p5 {Ls : Nat} {xs : Nat → Int32} {d : Nat} {Q : Option Value → jm_h → Prop} (hd : 4 ≤ d) (F : Nat → sy_d) (X1 X2 : List jm_c) (hB : iv_in F iv_B0)
    (h0 : (sy_i F 86).toInt ≠ 0)
    (h1 : (sy_i F 84).toInt ≠ 42)
    (h2 : (sy_i F 23).toInt < 512)
    (h3 : 0 ≤ (sy_i F 23).toInt ∧ (sy_i F 23).toInt < 512)
    (h4 : 0 ≤ (sy_i F 33).toInt)
    (h5 : (sy_i F 33).toInt ≤ 400)
    (h6 : 0 ≤ (sy_i F 33).toInt ∧ (sy_i F 33).toInt < 401)
    (k : ∀ F1 : Nat → sy_d, (∀ j, j < 82 → j ≠ 23 ∧ j ≠ 32 → F1 j = F j) → F1 23 = .inl (.int ((sy_i F 23) + ((1 : Int32)))) → F1 32 = .inr (.inl (jm_upd (sy_ai F 32) (sy_i F 23).toNatClampNeg (((-13) : Int32)))) → F1 82 = .inl (.int (sy_i F 82)) → F1 83 = .inl (.int (sy_i F 83)) → F1 84 = .inl (.int ((1 : Int32))) → F1 85 = .inl (.int ((sy_ai F 39).getD (sy_i F 33).toNatClampNeg 0)) → F1 86 = .inl (.int ((sy_i F 85) + ((1 : Int32)))) → hd_W Ls xs d jm_M39 Q (23, sy_dL F1 [some (.inl (.ref 30)), some (.inr (.inl 82)), some (.inr (.inl 83)), some (.inr (.inl 84)), some (.inr (.inl 85)), some (.inr (.inl 86))], sy_dS F1 [], sy_dh F1 X1 X2 (iv_H 0), 0, 0)) :
    hd_W Ls xs d jm_M39 Q (64, sy_dL F [some (.inl (.ref 30)), some (.inr (.inl 82)), some (.inr (.inl 83)), none, some (.inr (.inl 84)), some (.inr (.inl 85))], sy_dS F [.inr (.inl 86)], sy_dh F X1 X2 (iv_H 0), 0, 0) := by
  refine hd_run (s := 0) (nv := 87) (pc := 23) (L := [some (.inl (.ref 30)), some (.inr (.inl 82)), some (.inr (.inl 83)), some (.inr (.inl 84)), some (.inr (.inl 85)), some (.inr (.inl 86))]) (S := []) (uh := hd_ov (iv_id 0 iv_B0) [(23, .inl (.inr (.inl 88))), (32, .inr (.inr (.inl 87)))]) (ul := [.inl (.inr (.inl 82)), .inl (.inr (.inl 83)), .inl (.inl (.int 1)), .inl (.inr (.inl 89)), .inl (.inr (.inl 90))]) (f := false) (sp := [23]) (d0 := 3) (O := [false, true, false, false, false]) (T := [(40, [.inr (.inl 23), .inl (.int (-13))], [.inr (.inl 32)]), (0, [.inr (.inl 23), .inl (.int 1)], []), (30, [.inr (.inl 33)], [.inr (.inl 39)]), (0, [.inr (.inl 85), .inl (.int 1)], [])]) (P := [(1, .inr (.inl 86), .inl (.int 0)), (1, .inr (.inl 84), .inl (.int 42)), (5, .inl (.int 512), .inr (.inl 23)), (6, .inr (.inl 23), .inl (.ref 512)), (3, .inr (.inl 33), .inl (.int 0)), (3, .inl (.int 400), .inr (.inl 33)), (6, .inr (.inl 33), .inl (.ref 401))]) jm_ok39 (by decide +kernel) (by decide +kernel) hd F X1 X2 (fun F' hF hs => ?_)
  have b86 := hd_b (F := F) (F' := F') (k := 86) (hF 86 (by decide))
  have b84 := hd_b (F := F) (F' := F') (k := 84) (hF 84 (by decide))
  have b23 := hd_b (F := F) (F' := F') (k := 23) (hF 23 (by decide))
  have b33 := hd_b (F := F) (F' := F') (k := 33) (hF 33 (by decide))
  have t88 : sy_dv F' (.inr (.inl 88)) = .int ((sy_i F 23) + ((1 : Int32))) := hd_o (hs 1 _ rfl) b23 rfl rfl
  have a32 := hd_ba (F := F) (F' := F') (k := 32) (hF 32 (by decide))
  have t87 : sy_da F' (.inr (.inl 87)) = .inl (jm_upd (sy_ai F 32) (sy_i F 23).toNatClampNeg (((-13) : Int32))) := hd_up (hs 0 _ rfl) b23 rfl a32
  have b82 := hd_b (F := F) (F' := F') (k := 82) (hF 82 (by decide))
  have b83 := hd_b (F := F) (F' := F') (k := 83) (hF 83 (by decide))
  have a39 := hd_ba (F := F) (F' := F') (k := 39) (hF 39 (by decide))
  have t89 : sy_dv F' (.inr (.inl 89)) = .int ((sy_ai F 39).getD (sy_i F 33).toNatClampNeg 0) := hd_rd (hs 2 _ rfl) b33 a39
  have b85 := hd_b (F := F) (F' := F') (k := 85) (hF 85 (by decide))
  have t90 : sy_dv F' (.inr (.inl 90)) = .int ((sy_i F 85) + ((1 : Int32))) := hd_o (hs 3 _ rfl) b85 rfl rfl
  have hB' : iv_in F' iv_B0 := iv_in_eq hB (fun j hj => hF j (Nat.lt_of_lt_of_le hj (by decide +kernel)))
  refine ⟨List.forall_mem_cons.mpr ⟨hd_p1 b86 rfl (by have hc : ((0) : Int32).toInt = 0 := (by decide); omega), List.forall_mem_cons.mpr ⟨hd_p1 b84 rfl (by have hc : ((42) : Int32).toInt = 42 := (by decide); omega), List.forall_mem_cons.mpr ⟨hd_p5 rfl b23 (by have hc : ((512) : Int32).toInt = 512 := (by decide); omega), List.forall_mem_cons.mpr ⟨hd_pb b23 (by first | exact h3 | exact h3), List.forall_mem_cons.mpr ⟨hd_p3 b33 rfl (by have hc : ((0) : Int32).toInt = 0 := (by decide); omega), List.forall_mem_cons.mpr ⟨hd_p3 rfl b33 (by have hc : ((400) : Int32).toInt = 400 := (by decide); omega), List.forall_mem_cons.mpr ⟨hd_pb b33 (by first | exact h6 | exact h6), fun _ h => absurd h List.not_mem_nil⟩⟩⟩⟩⟩⟩⟩, ?_⟩
  refine k _ ?_ ?_ ?_ ?_ ?_ ?_ ?_ ?_
  · exact fun j hj hn => (hd_keep hB' (Nat.lt_of_lt_of_le hj (by decide +kernel)) (by simp; omega)).trans (hF j (by omega))
  · exact hd_gi (x := .inr (.inl 88)) (by decide +kernel) t88
  · exact hd_ga (a := .inr (.inl 87)) (by decide +kernel) t87
  · exact hd_gi (x := .inr (.inl 82)) (by decide +kernel) b82
  · exact hd_gi (x := .inr (.inl 83)) (by decide +kernel) b83
  · exact hd_gi (x := .inl (.int 1)) (by decide +kernel) rfl
  · exact hd_gi (x := .inr (.inl 89)) (by decide +kernel) t89
  · exact hd_gi (x := .inr (.inl 90)) (by decide +kernel) t90
theorem k0pp_64_p6 {Ls : Nat} {xs : Nat → Int32} {d : Nat} {Q : Option Value → jm_h → Prop} (hd : 4 ≤ d) (F : Nat → sy_d) (X1 X2 : List jm_c) (hB : iv_in F iv_B0)
    (h0 : (sy_i F 86).toInt ≠ 0)
    (h1 : (sy_i F 84).toInt = 42)
    (h2 : 512 ≤ (sy_i F 23).toInt)
    (h3 : 0 ≤ (sy_i F 33).toInt)
    (h4 : (sy_i F 33).toInt ≤ 400)
    (h5 : 0 ≤ (sy_i F 33).toInt ∧ (sy_i F 33).toInt < 401)
    (k : ∀ F1 : Nat → sy_d, (∀ j, j < 82 → True → F1 j = F j) → F1 82 = .inl (.int (sy_i F 82)) → F1 83 = .inl (.int (sy_i F 83)) → F1 84 = .inl (.int ((1 : Int32))) → F1 85 = .inl (.int ((sy_ai F 39).getD (sy_i F 33).toNatClampNeg 0)) → F1 86 = .inl (.int ((sy_i F 85) + ((1 : Int32)))) → hd_W Ls xs d jm_M39 Q (23, sy_dL F1 [some (.inl (.ref 30)), some (.inr (.inl 82)), some (.inr (.inl 83)), some (.inr (.inl 84)), some (.inr (.inl 85)), some (.inr (.inl 86))], sy_dS F1 [], sy_dh F1 X1 X2 (iv_H 0), 0, 0)) :
    hd_W Ls xs d jm_M39 Q (64, sy_dL F [some (.inl (.ref 30)), some (.inr (.inl 82)), some (.inr (.inl 83)), none, some (.inr (.inl 84)), some (.inr (.inl 85))], sy_dS F [.inr (.inl 86)], sy_dh F X1 X2 (iv_H 0), 0, 0) := by
  refine hd_run (s := 0) (nv := 87) (pc := 23) (L := [some (.inl (.ref 30)), some (.inr (.inl 82)), some (.inr (.inl 83)), some (.inr (.inl 84)), some (.inr (.inl 85)), some (.inr (.inl 86))]) (S := []) (uh := hd_ov (iv_id 0 iv_B0) []) (ul := [.inl (.inr (.inl 82)), .inl (.inr (.inl 83)), .inl (.inl (.int 1)), .inl (.inr (.inl 87)), .inl (.inr (.inl 88))]) (f := false) (sp := [23]) (d0 := 3) (O := [false, false, true, false, false]) (T := [(30, [.inr (.inl 33)], [.inr (.inl 39)]), (0, [.inr (.inl 85), .inl (.int 1)], [])]) (P := [(1, .inr (.inl 86), .inl (.int 0)), (0, .inr (.inl 84), .inl (.int 42)), (4, .inl (.int 512), .inr (.inl 23)), (3, .inr (.inl 33), .inl (.int 0)), (3, .inl (.int 400), .inr (.inl 33)), (6, .inr (.inl 33), .inl (.ref 401))]) jm_ok39 (by decide +kernel) (by decide +kernel) hd F X1 X2 (fun F' hF hs => ?_)
  have b86 := hd_b (F := F) (F' := F') (k := 86) (hF 86 (by decide))
  have b84 := hd_b (F := F) (F' := F') (k := 84) (hF 84 (by decide))
  have b23 := hd_b (F := F) (F' := F') (k := 23) (hF 23 (by decide))
  have b33 := hd_b (F := F) (F' := F') (k := 33) (hF 33 (by decide))
  have b82 := hd_b (F := F) (F' := F') (k := 82) (hF 82 (by decide))
  have b83 := hd_b (F := F) (F' := F') (k := 83) (hF 83 (by decide))
  have a39 := hd_ba (F := F) (F' := F') (k := 39) (hF 39 (by decide))
  have t87 : sy_dv F' (.inr (.inl 87)) = .int ((sy_ai F 39).getD (sy_i F 33).toNatClampNeg 0) := hd_rd (hs 0 _ rfl) b33 a39
  have b85 := hd_b (F := F) (F' := F') (k := 85) (hF 85 (by decide))
  have t88 : sy_dv F' (.inr (.inl 88)) = .int ((sy_i F 85) + ((1 : Int32))) := hd_o (hs 1 _ rfl) b85 rfl rfl
  have hB' : iv_in F' iv_B0 := iv_in_eq hB (fun j hj => hF j (Nat.lt_of_lt_of_le hj (by decide +kernel)))
  refine ⟨List.forall_mem_cons.mpr ⟨hd_p1 b86 rfl (by have hc : ((0) : Int32).toInt = 0 := (by decide); omega), List.forall_mem_cons.mpr ⟨hd_p0 b84 rfl (by have hc : ((42) : Int32).toInt = 42 := (by decide); omega), List.forall_mem_cons.mpr ⟨hd_p4 rfl b23 (by have hc : ((512) : Int32).toInt = 512 := (by decide); omega), List.forall_mem_cons.mpr ⟨hd_p3 b33 rfl (by have hc : ((0) : Int32).toInt = 0 := (by decide); omega), List.forall_mem_cons.mpr ⟨hd_p3 rfl b33 (by have hc : ((400) : Int32).toInt = 400 := (by decide); omega), List.forall_mem_cons.mpr ⟨hd_pb b33 (by first | exact h5 | exact h5), fun _ h => absurd h List.not_mem_nil⟩⟩⟩⟩⟩⟩, ?_⟩
  refine k _ ?_ ?_ ?_ ?_ ?_ ?_
  · exact fun j hj _ => (hd_keep hB' (Nat.lt_of_lt_of_le hj (by decide +kernel)) (by simp)).trans (hF j (by omega))
  · exact hd_gi (x := .inr (.inl 82)) (by decide +kernel) b82
  · exact hd_gi (x := .inr (.inl 83)) (by decide +kernel) b83
  · exact hd_gi (x := .inl (.int 1)) (by decide +kernel) rfl
  · exact hd_gi (x := .inr (.inl 87)) (by decide +kernel) t87
  · exact hd_gi (x := .inr (.inl 88)) (by decide +kernel) t88
theorem k0pp_64_p7 {Ls : Nat} {xs : Nat → Int32} {d : Nat} {Q : Option Value → jm_h → Prop} (hd : 4 ≤ d) (F : Nat → sy_d) (X1 X2 : List jm_c) (hB : iv_in F iv_B0)
    (h0 : (sy_i F 86).toInt ≠ 0)
    (h1 : (sy_i F 84).toInt = 42)
    (h2 : (sy_i F 23).toInt < 512)
    (h3 : 0 ≤ (sy_i F 23).toInt ∧ (sy_i F 23).toInt < 512)
    (h4 : 0 ≤ (sy_i F 33).toInt)
    (h5 : (sy_i F 33).toInt ≤ 400)
    (h6 : 0 ≤ (sy_i F 33).toInt ∧ (sy_i F 33).toInt < 401)
    (k : ∀ F1 : Nat → sy_d, (∀ j, j < 82 → j ≠ 23 ∧ j ≠ 32 → F1 j = F j) → F1 23 = .inl (.int ((sy_i F 23) + ((1 : Int32)))) → F1 32 = .inr (.inl (jm_upd (sy_ai F 32) (sy_i F 23).toNatClampNeg (((-12) : Int32)))) → F1 82 = .inl (.int (sy_i F 82)) → F1 83 = .inl (.int (sy_i F 83)) → F1 84 = .inl (.int ((1 : Int32))) → F1 85 = .inl (.int ((sy_ai F 39).getD (sy_i F 33).toNatClampNeg 0)) → F1 86 = .inl (.int ((sy_i F 85) + ((1 : Int32)))) → hd_W Ls xs d jm_M39 Q (23, sy_dL F1 [some (.inl (.ref 30)), some (.inr (.inl 82)), some (.inr (.inl 83)), some (.inr (.inl 84)), some (.inr (.inl 85)), some (.inr (.inl 86))], sy_dS F1 [], sy_dh F1 X1 X2 (iv_H 0), 0, 0)) :
    hd_W Ls xs d jm_M39 Q (64, sy_dL F [some (.inl (.ref 30)), some (.inr (.inl 82)), some (.inr (.inl 83)), none, some (.inr (.inl 84)), some (.inr (.inl 85))], sy_dS F [.inr (.inl 86)], sy_dh F X1 X2 (iv_H 0), 0, 0) := by
  refine hd_run (s := 0) (nv := 87) (pc := 23) (L := [some (.inl (.ref 30)), some (.inr (.inl 82)), some (.inr (.inl 83)), some (.inr (.inl 84)), some (.inr (.inl 85)), some (.inr (.inl 86))]) (S := []) (uh := hd_ov (iv_id 0 iv_B0) [(23, .inl (.inr (.inl 88))), (32, .inr (.inr (.inl 87)))]) (ul := [.inl (.inr (.inl 82)), .inl (.inr (.inl 83)), .inl (.inl (.int 1)), .inl (.inr (.inl 89)), .inl (.inr (.inl 90))]) (f := false) (sp := [23]) (d0 := 3) (O := [false, false, false, false, false]) (T := [(40, [.inr (.inl 23), .inl (.int (-12))], [.inr (.inl 32)]), (0, [.inr (.inl 23), .inl (.int 1)], []), (30, [.inr (.inl 33)], [.inr (.inl 39)]), (0, [.inr (.inl 85), .inl (.int 1)], [])]) (P := [(1, .inr (.inl 86), .inl (.int 0)), (0, .inr (.inl 84), .inl (.int 42)), (5, .inl (.int 512), .inr (.inl 23)), (6, .inr (.inl 23), .inl (.ref 512)), (3, .inr (.inl 33), .inl (.int 0)), (3, .inl (.int 400), .inr (.inl 33)), (6, .inr (.inl 33), .inl (.ref 401))]) jm_ok39 (by decide +kernel) (by decide +kernel) hd F X1 X2 (fun F' hF hs => ?_)
  have b86 := hd_b (F := F) (F' := F') (k := 86) (hF 86 (by decide))
  have b84 := hd_b (F := F) (F' := F') (k := 84) (hF 84 (by decide))
  have b23 := hd_b (F := F) (F' := F') (k := 23) (hF 23 (by decide))
  have b33 := hd_b (F := F) (F' := F') (k := 33) (hF 33 (by decide))
  have t88 : sy_dv F' (.inr (.inl 88)) = .int ((sy_i F 23) + ((1 : Int32))) := hd_o (hs 1 _ rfl) b23 rfl rfl
  have a32 := hd_ba (F := F) (F' := F') (k := 32) (hF 32 (by decide))
  have t87 : sy_da F' (.inr (.inl 87)) = .inl (jm_upd (sy_ai F 32) (sy_i F 23).toNatClampNeg (((-12) : Int32))) := hd_up (hs 0 _ rfl) b23 rfl a32
  have b82 := hd_b (F := F) (F' := F') (k := 82) (hF 82 (by decide))
  have b83 := hd_b (F := F) (F' := F') (k := 83) (hF 83 (by decide))
  have a39 := hd_ba (F := F) (F' := F') (k := 39) (hF 39 (by decide))
  have t89 : sy_dv F' (.inr (.inl 89)) = .int ((sy_ai F 39).getD (sy_i F 33).toNatClampNeg 0) := hd_rd (hs 2 _ rfl) b33 a39
  have b85 := hd_b (F := F) (F' := F') (k := 85) (hF 85 (by decide))
  have t90 : sy_dv F' (.inr (.inl 90)) = .int ((sy_i F 85) + ((1 : Int32))) := hd_o (hs 3 _ rfl) b85 rfl rfl
  have hB' : iv_in F' iv_B0 := iv_in_eq hB (fun j hj => hF j (Nat.lt_of_lt_of_le hj (by decide +kernel)))
  refine ⟨List.forall_mem_cons.mpr ⟨hd_p1 b86 rfl (by have hc : ((0) : Int32).toInt = 0 := (by decide); omega), List.forall_mem_cons.mpr ⟨hd_p0 b84 rfl (by have hc : ((42) : Int32).toInt = 42 := (by decide); omega), List.forall_mem_cons.mpr ⟨hd_p5 rfl b23 (by have hc : ((512) : Int32).toInt = 512 := (by decide); omega), List.forall_mem_cons.mpr ⟨hd_pb b23 (by first | exact h3 | exact h3), List.forall_mem_cons.mpr ⟨hd_p3 b33 rfl (by have hc : ((0) : Int32).toInt = 0 := (by decide); omega), List.forall_mem_cons.mpr ⟨hd_p3 rfl b33 (by have hc : ((400) : Int32).toInt = 400 := (by decide); omega), List.forall_mem_cons.mpr ⟨hd_pb b33 (by first | exact h6 | exact h6), fun _ h => absurd h List.not_mem_nil⟩⟩⟩⟩⟩⟩⟩, ?_⟩
  refine k _ ?_ ?_ ?_ ?_ ?_ ?_ ?_ ?_
  · exact fun j hj hn => (hd_keep hB' (Nat.lt_of_lt_of_le hj (by decide +kernel)) (by simp; omega)).trans (hF j (by omega))
  · exact hd_gi (x := .inr (.inl 88)) (by decide +kernel) t88
  · exact hd_ga (a := .inr (.inl 87)) (by decide +kernel) t87
  · exact hd_gi (x := .inr (.inl 82)) (by decide +kernel) b82
  · exact hd_gi (x := .inr (.inl 83)) (by decide +kernel) b83
  · exact hd_gi (x := .inl (.int 1)) (by decide +kernel) rfl
  · exact hd_gi (x := .inr (.inl 89)) (by decide +kernel) t89
  · exact hd_gi (x := .inr (.inl 90)) (by decide +kernel) t90
theorem k0pp_64 {Ls : Nat} {xs : Nat → Int32} {d : Nat} {Q : Option Value → jm_h → Prop} (hd : 4 ≤ d) (F : Nat → sy_d) (X1 X2 : List jm_c) (hB : iv_in F iv_B0)
    (a85 : 0 ≤ (sy_i F 85).toInt ∧ (sy_i F 85).toInt ≤ 400)
    (k0 : (sy_i F 86).toInt = 0 → (sy_i F 84).toInt ≠ 42 → 512 ≤ (sy_i F 23).toInt → 0 ≤ (sy_i F 33).toInt → (sy_i F 33).toInt ≤ 400 → ∀ F1 : Nat → sy_d, iv_in F1 iv_B0 → (∀ j, j < 82 → j ∉ ([] : List Nat) → F1 j = F j) → (sy_i F1 33).toInt = (sy_i F 33).toInt → (sy_i F1 34).toInt = (sy_i F 34).toInt → (sy_i F1 23).toInt = (sy_i F 23).toInt → sy_ai F1 39 = sy_ai F 39 → (sy_i F1 82).toInt = (sy_i F 82).toInt → (sy_i F1 83).toInt = (sy_i F 83).toInt → (sy_i F1 84).toInt = 0 → (sy_i F1 85).toInt = ((sy_ai F 39).getD ((sy_i F 33).toInt).toNat 0).toInt → (sy_i F1 86).toInt = ((sy_i F 85).toInt + 1) → hd_W Ls xs d jm_M39 Q (23, sy_dL F1 [some (.inl (.ref 30)), some (.inr (.inl 82)), some (.inr (.inl 83)), some (.inr (.inl 84)), some (.inr (.inl 85)), some (.inr (.inl 86))], sy_dS F1 [], sy_dh F1 X1 X2 (iv_H 0), 0, 0))
    (k1 : (sy_i F 86).toInt = 0 → (sy_i F 84).toInt ≠ 42 → (sy_i F 23).toInt < 512 → 0 ≤ (sy_i F 33).toInt → (sy_i F 33).toInt ≤ 400 → ∀ F1 : Nat → sy_d, iv_in F1 iv_B0 → (∀ j, j < 82 → j ∉ ([23, 32] : List Nat) → F1 j = F j) → (sy_i F1 33).toInt = (sy_i F 33).toInt → (sy_i F1 34).toInt = (sy_i F 34).toInt → (sy_i F1 23).toInt = ((sy_i F 23).toInt + 1) → sy_ai F1 39 = sy_ai F 39 → (sy_i F1 82).toInt = (sy_i F 82).toInt → (sy_i F1 83).toInt = (sy_i F 83).toInt → (sy_i F1 84).toInt = 0 → (sy_i F1 85).toInt = ((sy_ai F 39).getD ((sy_i F 33).toInt).toNat 0).toInt → (sy_i F1 86).toInt = ((sy_i F 85).toInt + 1) → hd_W Ls xs d jm_M39 Q (23, sy_dL F1 [some (.inl (.ref 30)), some (.inr (.inl 82)), some (.inr (.inl 83)), some (.inr (.inl 84)), some (.inr (.inl 85)), some (.inr (.inl 86))], sy_dS F1 [], sy_dh F1 X1 X2 (iv_H 0), 0, 0))
    (k2 : (sy_i F 86).toInt = 0 → (sy_i F 84).toInt = 42 → 512 ≤ (sy_i F 23).toInt → 0 ≤ (sy_i F 33).toInt → (sy_i F 33).toInt ≤ 400 → ∀ F1 : Nat → sy_d, iv_in F1 iv_B0 → (∀ j, j < 82 → j ∉ ([] : List Nat) → F1 j = F j) → (sy_i F1 33).toInt = (sy_i F 33).toInt → (sy_i F1 34).toInt = (sy_i F 34).toInt → (sy_i F1 23).toInt = (sy_i F 23).toInt → sy_ai F1 39 = sy_ai F 39 → (sy_i F1 82).toInt = (sy_i F 82).toInt → (sy_i F1 83).toInt = (sy_i F 83).toInt → (sy_i F1 84).toInt = 0 → (sy_i F1 85).toInt = ((sy_ai F 39).getD ((sy_i F 33).toInt).toNat 0).toInt → (sy_i F1 86).toInt = ((sy_i F 85).toInt + 1) → hd_W Ls xs d jm_M39 Q (23, sy_dL F1 [some (.inl (.ref 30)), some (.inr (.inl 82)), some (.inr (.inl 83)), some (.inr (.inl 84)), some (.inr (.inl 85)), some (.inr (.inl 86))], sy_dS F1 [], sy_dh F1 X1 X2 (iv_H 0), 0, 0))
    (k3 : (sy_i F 86).toInt = 0 → (sy_i F 84).toInt = 42 → (sy_i F 23).toInt < 512 → 0 ≤ (sy_i F 33).toInt → (sy_i F 33).toInt ≤ 400 → ∀ F1 : Nat → sy_d, iv_in F1 iv_B0 → (∀ j, j < 82 → j ∉ ([23, 32] : List Nat) → F1 j = F j) → (sy_i F1 33).toInt = (sy_i F 33).toInt → (sy_i F1 34).toInt = (sy_i F 34).toInt → (sy_i F1 23).toInt = ((sy_i F 23).toInt + 1) → sy_ai F1 39 = sy_ai F 39 → (sy_i F1 82).toInt = (sy_i F 82).toInt → (sy_i F1 83).toInt = (sy_i F 83).toInt → (sy_i F1 84).toInt = 0 → (sy_i F1 85).toInt = ((sy_ai F 39).getD ((sy_i F 33).toInt).toNat 0).toInt → (sy_i F1 86).toInt = ((sy_i F 85).toInt + 1) → hd_W Ls xs d jm_M39 Q (23, sy_dL F1 [some (.inl (.ref 30)), some (.inr (.inl 82)), some (.inr (.inl 83)), some (.inr (.inl 84)), some (.inr (.inl 85)), some (.inr (.inl 86))], sy_dS F1 [], sy_dh F1 X1 X2 (iv_H 0), 0, 0))
    (k4 : (sy_i F 86).toInt ≠ 0 → (sy_i F 84).toInt ≠ 42 → 512 ≤ (sy_i F 23).toInt → 0 ≤ (sy_i F 33).toInt → (sy_i F 33).toInt ≤ 400 → ∀ F1 : Nat → sy_d, iv_in F1 iv_B0 → (∀ j, j < 82 → j ∉ ([] : List Nat) → F1 j = F j) → (sy_i F1 33).toInt = (sy_i F 33).toInt → (sy_i F1 34).toInt = (sy_i F 34).toInt → (sy_i F1 23).toInt = (sy_i F 23).toInt → sy_ai F1 39 = sy_ai F 39 → (sy_i F1 82).toInt = (sy_i F 82).toInt → (sy_i F1 83).toInt = (sy_i F 83).toInt → (sy_i F1 84).toInt = 1 → (sy_i F1 85).toInt = ((sy_ai F 39).getD ((sy_i F 33).toInt).toNat 0).toInt → (sy_i F1 86).toInt = ((sy_i F 85).toInt + 1) → hd_W Ls xs d jm_M39 Q (23, sy_dL F1 [some (.inl (.ref 30)), some (.inr (.inl 82)), some (.inr (.inl 83)), some (.inr (.inl 84)), some (.inr (.inl 85)), some (.inr (.inl 86))], sy_dS F1 [], sy_dh F1 X1 X2 (iv_H 0), 0, 0))
    (k5 : (sy_i F 86).toInt ≠ 0 → (sy_i F 84).toInt ≠ 42 → (sy_i F 23).toInt < 512 → 0 ≤ (sy_i F 33).toInt → (sy_i F 33).toInt ≤ 400 → ∀ F1 : Nat → sy_d, iv_in F1 iv_B0 → (∀ j, j < 82 → j ∉ ([23, 32] : List Nat) → F1 j = F j) → (sy_i F1 33).toInt = (sy_i F 33).toInt → (sy_i F1 34).toInt = (sy_i F 34).toInt → (sy_i F1 23).toInt = ((sy_i F 23).toInt + 1) → sy_ai F1 39 = sy_ai F 39 → (sy_i F1 82).toInt = (sy_i F 82).toInt → (sy_i F1 83).toInt = (sy_i F 83).toInt → (sy_i F1 84).toInt = 1 → (sy_i F1 85).toInt = ((sy_ai F 39).getD ((sy_i F 33).toInt).toNat 0).toInt → (sy_i F1 86).toInt = ((sy_i F 85).toInt + 1) → hd_W Ls xs d jm_M39 Q (23, sy_dL F1 [some (.inl (.ref 30)), some (.inr (.inl 82)), some (.inr (.inl 83)), some (.inr (.inl 84)), some (.inr (.inl 85)), some (.inr (.inl 86))], sy_dS F1 [], sy_dh F1 X1 X2 (iv_H 0), 0, 0))
    (k6 : (sy_i F 86).toInt ≠ 0 → (sy_i F 84).toInt = 42 → 512 ≤ (sy_i F 23).toInt → 0 ≤ (sy_i F 33).toInt → (sy_i F 33).toInt ≤ 400 → ∀ F1 : Nat → sy_d, iv_in F1 iv_B0 → (∀ j, j < 82 → j ∉ ([] : List Nat) → F1 j = F j) → (sy_i F1 33).toInt = (sy_i F 33).toInt → (sy_i F1 34).toInt = (sy_i F 34).toInt → (sy_i F1 23).toInt = (sy_i F 23).toInt → sy_ai F1 39 = sy_ai F 39 → (sy_i F1 82).toInt = (sy_i F 82).toInt → (sy_i F1 83).toInt = (sy_i F 83).toInt → (sy_i F1 84).toInt = 1 → (sy_i F1 85).toInt = ((sy_ai F 39).getD ((sy_i F 33).toInt).toNat 0).toInt → (sy_i F1 86).toInt = ((sy_i F 85).toInt + 1) → hd_W Ls xs d jm_M39 Q (23, sy_dL F1 [some (.inl (.ref 30)), some (.inr (.inl 82)), some (.inr (.inl 83)), some (.inr (.inl 84)), some (.inr (.inl 85)), some (.inr (.inl 86))], sy_dS F1 [], sy_dh F1 X1 X2 (iv_H 0), 0, 0))
    (k7 : (sy_i F 86).toInt ≠ 0 → (sy_i F 84).toInt = 42 → (sy_i F 23).toInt < 512 → 0 ≤ (sy_i F 33).toInt → (sy_i F 33).toInt ≤ 400 → ∀ F1 : Nat → sy_d, iv_in F1 iv_B0 → (∀ j, j < 82 → j ∉ ([23, 32] : List Nat) → F1 j = F j) → (sy_i F1 33).toInt = (sy_i F 33).toInt → (sy_i F1 34).toInt = (sy_i F 34).toInt → (sy_i F1 23).toInt = ((sy_i F 23).toInt + 1) → sy_ai F1 39 = sy_ai F 39 → (sy_i F1 82).toInt = (sy_i F 82).toInt → (sy_i F1 83).toInt = (sy_i F 83).toInt → (sy_i F1 84).toInt = 1 → (sy_i F1 85).toInt = ((sy_ai F 39).getD ((sy_i F 33).toInt).toNat 0).toInt → (sy_i F1 86).toInt = ((sy_i F 85).toInt + 1) → hd_W Ls xs d jm_M39 Q (23, sy_dL F1 [some (.inl (.ref 30)), some (.inr (.inl 82)), some (.inr (.inl 83)), some (.inr (.inl 84)), some (.inr (.inl 85)), some (.inr (.inl 86))], sy_dS F1 [], sy_dh F1 X1 X2 (iv_H 0), 0, 0)) :
    hd_W Ls xs d jm_M39 Q (64, sy_dL F [some (.inl (.ref 30)), some (.inr (.inl 82)), some (.inr (.inl 83)), none, some (.inr (.inl 84)), some (.inr (.inl 85))], sy_dS F [.inr (.inl 86)], sy_dh F X1 X2 (iv_H 0), 0, 0) := by
  by_cases g0 : (sy_i F 86).toInt = 0
  · by_cases g1 : (sy_i F 84).toInt ≠ 42
    · by_cases g2 : 512 ≤ (sy_i F 23).toInt
      · by_cases g3 : (sy_i F 33).toInt < 0
        · have c23 := nz_bx hB (k := 23) (lo := 0) (hi := 512) rfl
          have c33 := nz_bx hB (k := 33) (lo := 0) (hi := 400) rfl
          exfalso
          omega
        replace g3 : 0 ≤ (sy_i F 33).toInt := by omega
        by_cases g4 : 400 < (sy_i F 33).toInt
        · have c23 := nz_bx hB (k := 23) (lo := 0) (hi := 512) rfl
          have c33 := nz_bx hB (k := 33) (lo := 0) (hi := 400) rfl
          exfalso
          omega
        replace g4 : (sy_i F 33).toInt ≤ 400 := by omega
        have c23 := nz_bx hB (k := 23) (lo := 0) (hi := 512) rfl
        have c33 := nz_bx hB (k := 33) (lo := 0) (hi := 400) rfl
        have q87 : (sy_ai F 39).getD (sy_i F 33).toNatClampNeg 0 = (sy_ai F 39).getD ((sy_i F 33).toInt).toNat 0 := by simp only [nz_c]
        have n87 : ((sy_ai F 39).getD (sy_i F 33).toNatClampNeg 0).toInt = ((sy_ai F 39).getD ((sy_i F 33).toInt).toNat 0).toInt := congrArg Int32.toInt q87
        have n88 : ((sy_i F 85) + ((1 : Int32))).toInt = ((sy_i F 85).toInt + 1) := nz_add (rfl : (sy_i F 85).toInt = (sy_i F 85).toInt) (by decide : ((1 : Int32)).toInt = 1) (by omega) (by omega)
        exact k0pp_64_p0 hd F X1 X2 hB (by first | exact g0 | (simp only [nz_c]; exact g0)) (by first | exact g1 | (simp only [nz_c]; exact g1)) (by first | exact g2 | (simp only [nz_c]; exact g2)) (by first | exact g3 | (simp only [nz_c]; exact g3)) (by first | exact g4 | (simp only [nz_c]; exact g4)) (by first | exact ⟨by omega, by omega⟩ | (simp only [nz_c]; exact ⟨by omega, by omega⟩)) (fun F1 g e82 e83 e84 e85 e86 => k0 g0 g1 g2 g3 g4 F1 (nz_in0 hB [] (fun j hj hn => g j hj (by simp only [List.mem_cons, List.not_mem_nil, or_false, not_or] at hn; exact trivial)) (List.forall_mem_nil _)) (fun j hj hn => g j hj (by simp only [List.mem_cons, List.not_mem_nil, or_false, not_or] at hn; exact trivial)) (nz_fi (g 33 (by decide) (by decide))) (nz_fi (g 34 (by decide) (by decide))) (nz_fi (g 23 (by decide) (by decide))) (nz_fa (g 39 (by decide) (by decide))) ((congrArg Int32.toInt (zz_i e82)).trans (rfl : (sy_i F 82).toInt = (sy_i F 82).toInt)) ((congrArg Int32.toInt (zz_i e83)).trans (rfl : (sy_i F 83).toInt = (sy_i F 83).toInt)) ((congrArg Int32.toInt (zz_i e84)).trans (by decide : ((0 : Int32)).toInt = 0)) ((congrArg Int32.toInt (zz_i e85)).trans n87) ((congrArg Int32.toInt (zz_i e86)).trans n88))
      replace g2 : (sy_i F 23).toInt < 512 := by omega
      by_cases g3 : (sy_i F 33).toInt < 0
      · have c23 := nz_bx hB (k := 23) (lo := 0) (hi := 512) rfl
        have c33 := nz_bx hB (k := 33) (lo := 0) (hi := 400) rfl
        exfalso
        omega
      replace g3 : 0 ≤ (sy_i F 33).toInt := by omega
      by_cases g4 : 400 < (sy_i F 33).toInt
      · have c23 := nz_bx hB (k := 23) (lo := 0) (hi := 512) rfl
        have c33 := nz_bx hB (k := 33) (lo := 0) (hi := 400) rfl
        exfalso
        omega
      replace g4 : (sy_i F 33).toInt ≤ 400 := by omega
      have c23 := nz_bx hB (k := 23) (lo := 0) (hi := 512) rfl
      have c33 := nz_bx hB (k := 33) (lo := 0) (hi := 400) rfl
      have n88 : ((sy_i F 23) + ((1 : Int32))).toInt = ((sy_i F 23).toInt + 1) := nz_add (rfl : (sy_i F 23).toInt = (sy_i F 23).toInt) (by decide : ((1 : Int32)).toInt = 1) (by omega) (by omega)
      have q89 : (sy_ai F 39).getD (sy_i F 33).toNatClampNeg 0 = (sy_ai F 39).getD ((sy_i F 33).toInt).toNat 0 := by simp only [nz_c]
      have n89 : ((sy_ai F 39).getD (sy_i F 33).toNatClampNeg 0).toInt = ((sy_ai F 39).getD ((sy_i F 33).toInt).toNat 0).toInt := congrArg Int32.toInt q89
      have n90 : ((sy_i F 85) + ((1 : Int32))).toInt = ((sy_i F 85).toInt + 1) := nz_add (rfl : (sy_i F 85).toInt = (sy_i F 85).toInt) (by decide : ((1 : Int32)).toInt = 1) (by omega) (by omega)
      exact k0pp_64_p1 hd F X1 X2 hB (by first | exact g0 | (simp only [nz_c]; exact g0)) (by first | exact g1 | (simp only [nz_c]; exact g1)) (by first | exact g2 | (simp only [nz_c]; exact g2)) (by first | exact ⟨by omega, by omega⟩ | (simp only [nz_c]; exact ⟨by omega, by omega⟩)) (by first | exact g3 | (simp only [nz_c]; exact g3)) (by first | exact g4 | (simp only [nz_c]; exact g4)) (by first | exact ⟨by omega, by omega⟩ | (simp only [nz_c]; exact ⟨by omega, by omega⟩)) (fun F1 g e23 e32 e82 e83 e84 e85 e86 => k1 g0 g1 g2 g3 g4 F1 (nz_in0 hB [23, 32] (fun j hj hn => g j hj (by simp only [List.mem_cons, List.not_mem_nil, or_false, not_or] at hn; omega)) (List.forall_mem_cons.mpr ⟨fun t ht => (Option.some.inj ht) ▸ (nz_hi e23 n88 (by omega) (by omega)), List.forall_mem_cons.mpr ⟨fun t ht => (Option.some.inj ht) ▸ (nz_hA e32 (nz_up (nz_ba hB (k := 32) (lo := (-2147483648)) (hi := 2147483646) rfl) (by decide : (((-13) : Int32)).toInt = (-13 : Int)) (by omega) (by omega))), List.forall_mem_nil _⟩⟩)) (fun j hj hn => g j hj (by simp only [List.mem_cons, List.not_mem_nil, or_false, not_or] at hn; omega)) (nz_fi (g 33 (by decide) (by decide))) (nz_fi (g 34 (by decide) (by decide))) ((congrArg Int32.toInt (zz_i e23)).trans n88) (nz_fa (g 39 (by decide) (by decide))) ((congrArg Int32.toInt (zz_i e82)).trans (rfl : (sy_i F 82).toInt = (sy_i F 82).toInt)) ((congrArg Int32.toInt (zz_i e83)).trans (rfl : (sy_i F 83).toInt = (sy_i F 83).toInt)) ((congrArg Int32.toInt (zz_i e84)).trans (by decide : ((0 : Int32)).toInt = 0)) ((congrArg Int32.toInt (zz_i e85)).trans n89) ((congrArg Int32.toInt (zz_i e86)).trans n90))
    replace g1 : (sy_i F 84).toInt = 42 := by omega
    by_cases g2 : 512 ≤ (sy_i F 23).toInt
    · by_cases g3 : (sy_i F 33).toInt < 0
      · have c23 := nz_bx hB (k := 23) (lo := 0) (hi := 512) rfl
        have c33 := nz_bx hB (k := 33) (lo := 0) (hi := 400) rfl
        exfalso
        omega
      replace g3 : 0 ≤ (sy_i F 33).toInt := by omega
      by_cases g4 : 400 < (sy_i F 33).toInt
      · have c23 := nz_bx hB (k := 23) (lo := 0) (hi := 512) rfl
        have c33 := nz_bx hB (k := 33) (lo := 0) (hi := 400) rfl
        exfalso
        omega
      replace g4 : (sy_i F 33).toInt ≤ 400 := by omega
      have c23 := nz_bx hB (k := 23) (lo := 0) (hi := 512) rfl
      have c33 := nz_bx hB (k := 33) (lo := 0) (hi := 400) rfl
      have q87 : (sy_ai F 39).getD (sy_i F 33).toNatClampNeg 0 = (sy_ai F 39).getD ((sy_i F 33).toInt).toNat 0 := by simp only [nz_c]
      have n87 : ((sy_ai F 39).getD (sy_i F 33).toNatClampNeg 0).toInt = ((sy_ai F 39).getD ((sy_i F 33).toInt).toNat 0).toInt := congrArg Int32.toInt q87
      have n88 : ((sy_i F 85) + ((1 : Int32))).toInt = ((sy_i F 85).toInt + 1) := nz_add (rfl : (sy_i F 85).toInt = (sy_i F 85).toInt) (by decide : ((1 : Int32)).toInt = 1) (by omega) (by omega)
      exact k0pp_64_p2 hd F X1 X2 hB (by first | exact g0 | (simp only [nz_c]; exact g0)) (by first | exact g1 | (simp only [nz_c]; exact g1)) (by first | exact g2 | (simp only [nz_c]; exact g2)) (by first | exact g3 | (simp only [nz_c]; exact g3)) (by first | exact g4 | (simp only [nz_c]; exact g4)) (by first | exact ⟨by omega, by omega⟩ | (simp only [nz_c]; exact ⟨by omega, by omega⟩)) (fun F1 g e82 e83 e84 e85 e86 => k2 g0 g1 g2 g3 g4 F1 (nz_in0 hB [] (fun j hj hn => g j hj (by simp only [List.mem_cons, List.not_mem_nil, or_false, not_or] at hn; exact trivial)) (List.forall_mem_nil _)) (fun j hj hn => g j hj (by simp only [List.mem_cons, List.not_mem_nil, or_false, not_or] at hn; exact trivial)) (nz_fi (g 33 (by decide) (by decide))) (nz_fi (g 34 (by decide) (by decide))) (nz_fi (g 23 (by decide) (by decide))) (nz_fa (g 39 (by decide) (by decide))) ((congrArg Int32.toInt (zz_i e82)).trans (rfl : (sy_i F 82).toInt = (sy_i F 82).toInt)) ((congrArg Int32.toInt (zz_i e83)).trans (rfl : (sy_i F 83).toInt = (sy_i F 83).toInt)) ((congrArg Int32.toInt (zz_i e84)).trans (by decide : ((0 : Int32)).toInt = 0)) ((congrArg Int32.toInt (zz_i e85)).trans n87) ((congrArg Int32.toInt (zz_i e86)).trans n88))
    replace g2 : (sy_i F 23).toInt < 512 := by omega
    by_cases g3 : (sy_i F 33).toInt < 0
    · have c23 := nz_bx hB (k := 23) (lo := 0) (hi := 512) rfl
      have c33 := nz_bx hB (k := 33) (lo := 0) (hi := 400) rfl
      exfalso
      omega
    replace g3 : 0 ≤ (sy_i F 33).toInt := by omega
    by_cases g4 : 400 < (sy_i F 33).toInt
    · have c23 := nz_bx hB (k := 23) (lo := 0) (hi := 512) rfl
      have c33 := nz_bx hB (k := 33) (lo := 0) (hi := 400) rfl
      exfalso
      omega
    replace g4 : (sy_i F 33).toInt ≤ 400 := by omega
    have c23 := nz_bx hB (k := 23) (lo := 0) (hi := 512) rfl
    have c33 := nz_bx hB (k := 33) (lo := 0) (hi := 400) rfl
    have n88 : ((sy_i F 23) + ((1 : Int32))).toInt = ((sy_i F 23).toInt + 1) := nz_add (rfl : (sy_i F 23).toInt = (sy_i F 23).toInt) (by decide : ((1 : Int32)).toInt = 1) (by omega) (by omega)
    have q89 : (sy_ai F 39).getD (sy_i F 33).toNatClampNeg 0 = (sy_ai F 39).getD ((sy_i F 33).toInt).toNat 0 := by simp only [nz_c]
    have n89 : ((sy_ai F 39).getD (sy_i F 33).toNatClampNeg 0).toInt = ((sy_ai F 39).getD ((sy_i F 33).toInt).toNat 0).toInt := congrArg Int32.toInt q89
    have n90 : ((sy_i F 85) + ((1 : Int32))).toInt = ((sy_i F 85).toInt + 1) := nz_add (rfl : (sy_i F 85).toInt = (sy_i F 85).toInt) (by decide : ((1 : Int32)).toInt = 1) (by omega) (by omega)
    exact k0pp_64_p3 hd F X1 X2 hB (by first | exact g0 | (simp only [nz_c]; exact g0)) (by first | exact g1 | (simp only [nz_c]; exact g1)) (by first | exact g2 | (simp only [nz_c]; exact g2)) (by first | exact ⟨by omega, by omega⟩ | (simp only [nz_c]; exact ⟨by omega, by omega⟩)) (by first | exact g3 | (simp only [nz_c]; exact g3)) (by first | exact g4 | (simp only [nz_c]; exact g4)) (by first | exact ⟨by omega, by omega⟩ | (simp only [nz_c]; exact ⟨by omega, by omega⟩)) (fun F1 g e23 e32 e82 e83 e84 e85 e86 => k3 g0 g1 g2 g3 g4 F1 (nz_in0 hB [23, 32] (fun j hj hn => g j hj (by simp only [List.mem_cons, List.not_mem_nil, or_false, not_or] at hn; omega)) (List.forall_mem_cons.mpr ⟨fun t ht => (Option.some.inj ht) ▸ (nz_hi e23 n88 (by omega) (by omega)), List.forall_mem_cons.mpr ⟨fun t ht => (Option.some.inj ht) ▸ (nz_hA e32 (nz_up (nz_ba hB (k := 32) (lo := (-2147483648)) (hi := 2147483646) rfl) (by decide : (((-12) : Int32)).toInt = (-12 : Int)) (by omega) (by omega))), List.forall_mem_nil _⟩⟩)) (fun j hj hn => g j hj (by simp only [List.mem_cons, List.not_mem_nil, or_false, not_or] at hn; omega)) (nz_fi (g 33 (by decide) (by decide))) (nz_fi (g 34 (by decide) (by decide))) ((congrArg Int32.toInt (zz_i e23)).trans n88) (nz_fa (g 39 (by decide) (by decide))) ((congrArg Int32.toInt (zz_i e82)).trans (rfl : (sy_i F 82).toInt = (sy_i F 82).toInt)) ((congrArg Int32.toInt (zz_i e83)).trans (rfl : (sy_i F 83).toInt = (sy_i F 83).toInt)) ((congrArg Int32.toInt (zz_i e84)).trans (by decide : ((0 : Int32)).toInt = 0)) ((congrArg Int32.toInt (zz_i e85)).trans n89) ((congrArg Int32.toInt (zz_i e86)).trans n90))
  replace g0 : (sy_i F 86).toInt ≠ 0 := by omega
  by_cases g1 : (sy_i F 84).toInt ≠ 42
  · by_cases g2 : 512 ≤ (sy_i F 23).toInt
    · by_cases g3 : (sy_i F 33).toInt < 0
      · have c23 := nz_bx hB (k := 23) (lo := 0) (hi := 512) rfl
        have c33 := nz_bx hB (k := 33) (lo := 0) (hi := 400) rfl
        exfalso
        omega
      replace g3 : 0 ≤ (sy_i F 33).toInt := by omega
      by_cases g4 : 400 < (sy_i F 33).toInt
      · have c23 := nz_bx hB (k := 23) (lo := 0) (hi := 512) rfl
        have c33 := nz_bx hB (k := 33) (lo := 0) (hi := 400) rfl
        exfalso
        omega
      replace g4 : (sy_i F 33).toInt ≤ 400 := by omega
      have c23 := nz_bx hB (k := 23) (lo := 0) (hi := 512) rfl
      have c33 := nz_bx hB (k := 33) (lo := 0) (hi := 400) rfl
      have q87 : (sy_ai F 39).getD (sy_i F 33).toNatClampNeg 0 = (sy_ai F 39).getD ((sy_i F 33).toInt).toNat 0 := by simp only [nz_c]
      have n87 : ((sy_ai F 39).getD (sy_i F 33).toNatClampNeg 0).toInt = ((sy_ai F 39).getD ((sy_i F 33).toInt).toNat 0).toInt := congrArg Int32.toInt q87
      have n88 : ((sy_i F 85) + ((1 : Int32))).toInt = ((sy_i F 85).toInt + 1) := nz_add (rfl : (sy_i F 85).toInt = (sy_i F 85).toInt) (by decide : ((1 : Int32)).toInt = 1) (by omega) (by omega)
      exact k0pp_64_p4 hd F X1 X2 hB (by first | exact g0 | (simp only [nz_c]; exact g0)) (by first | exact g1 | (simp only [nz_c]; exact g1)) (by first | exact g2 | (simp only [nz_c]; exact g2)) (by first | exact g3 | (simp only [nz_c]; exact g3)) (by first | exact g4 | (simp only [nz_c]; exact g4)) (by first | exact ⟨by omega, by omega⟩ | (simp only [nz_c]; exact ⟨by omega, by omega⟩)) (fun F1 g e82 e83 e84 e85 e86 => k4 g0 g1 g2 g3 g4 F1 (nz_in0 hB [] (fun j hj hn => g j hj (by simp only [List.mem_cons, List.not_mem_nil, or_false, not_or] at hn; exact trivial)) (List.forall_mem_nil _)) (fun j hj hn => g j hj (by simp only [List.mem_cons, List.not_mem_nil, or_false, not_or] at hn; exact trivial)) (nz_fi (g 33 (by decide) (by decide))) (nz_fi (g 34 (by decide) (by decide))) (nz_fi (g 23 (by decide) (by decide))) (nz_fa (g 39 (by decide) (by decide))) ((congrArg Int32.toInt (zz_i e82)).trans (rfl : (sy_i F 82).toInt = (sy_i F 82).toInt)) ((congrArg Int32.toInt (zz_i e83)).trans (rfl : (sy_i F 83).toInt = (sy_i F 83).toInt)) ((congrArg Int32.toInt (zz_i e84)).trans (by decide : ((1 : Int32)).toInt = 1)) ((congrArg Int32.toInt (zz_i e85)).trans n87) ((congrArg Int32.toInt (zz_i e86)).trans n88))
    replace g2 : (sy_i F 23).toInt < 512 := by omega
    by_cases g3 : (sy_i F 33).toInt < 0
    · have c23 := nz_bx hB (k := 23) (lo := 0) (hi := 512) rfl
      have c33 := nz_bx hB (k := 33) (lo := 0) (hi := 400) rfl
      exfalso
      omega
    replace g3 : 0 ≤ (sy_i F 33).toInt := by omega
    by_cases g4 : 400 < (sy_i F 33).toInt
    · have c23 := nz_bx hB (k := 23) (lo := 0) (hi := 512) rfl
      have c33 := nz_bx hB (k := 33) (lo := 0) (hi := 400) rfl
      exfalso
      omega
    replace g4 : (sy_i F 33).toInt ≤ 400 := by omega
    have c23 := nz_bx hB (k := 23) (lo := 0) (hi := 512) rfl
    have c33 := nz_bx hB (k := 33) (lo := 0) (hi := 400) rfl
    have n88 : ((sy_i F 23) + ((1 : Int32))).toInt = ((sy_i F 23).toInt + 1) := nz_add (rfl : (sy_i F 23).toInt = (sy_i F 23).toInt) (by decide : ((1 : Int32)).toInt = 1) (by omega) (by omega)
    have q89 : (sy_ai F 39).getD (sy_i F 33).toNatClampNeg 0 = (sy_ai F 39).getD ((sy_i F 33).toInt).toNat 0 := by simp only [nz_c]
    have n89 : ((sy_ai F 39).getD (sy_i F 33).toNatClampNeg 0).toInt = ((sy_ai F 39).getD ((sy_i F 33).toInt).toNat 0).toInt := congrArg Int32.toInt q89
    have n90 : ((sy_i F 85) + ((1 : Int32))).toInt = ((sy_i F 85).toInt + 1) := nz_add (rfl : (sy_i F 85).toInt = (sy_i F 85).toInt) (by decide : ((1 : Int32)).toInt = 1) (by omega) (by omega)
    exact k0pp_64_p5 hd F X1 X2 hB (by first | exact g0 | (simp only [nz_c]; exact g0)) (by first | exact g1 | (simp only [nz_c]; exact g1)) (by first | exact g2 | (simp only [nz_c]; exact g2)) (by first | exact ⟨by omega, by omega⟩ | (simp only [nz_c]; exact ⟨by omega, by omega⟩)) (by first | exact g3 | (simp only [nz_c]; exact g3)) (by first | exact g4 | (simp only [nz_c]; exact g4)) (by first | exact ⟨by omega, by omega⟩ | (simp only [nz_c]; exact ⟨by omega, by omega⟩)) (fun F1 g e23 e32 e82 e83 e84 e85 e86 => k5 g0 g1 g2 g3 g4 F1 (nz_in0 hB [23, 32] (fun j hj hn => g j hj (by simp only [List.mem_cons, List.not_mem_nil, or_false, not_or] at hn; omega)) (List.forall_mem_cons.mpr ⟨fun t ht => (Option.some.inj ht) ▸ (nz_hi e23 n88 (by omega) (by omega)), List.forall_mem_cons.mpr ⟨fun t ht => (Option.some.inj ht) ▸ (nz_hA e32 (nz_up (nz_ba hB (k := 32) (lo := (-2147483648)) (hi := 2147483646) rfl) (by decide : (((-13) : Int32)).toInt = (-13 : Int)) (by omega) (by omega))), List.forall_mem_nil _⟩⟩)) (fun j hj hn => g j hj (by simp only [List.mem_cons, List.not_mem_nil, or_false, not_or] at hn; omega)) (nz_fi (g 33 (by decide) (by decide))) (nz_fi (g 34 (by decide) (by decide))) ((congrArg Int32.toInt (zz_i e23)).trans n88) (nz_fa (g 39 (by decide) (by decide))) ((congrArg Int32.toInt (zz_i e82)).trans (rfl : (sy_i F 82).toInt = (sy_i F 82).toInt)) ((congrArg Int32.toInt (zz_i e83)).trans (rfl : (sy_i F 83).toInt = (sy_i F 83).toInt)) ((congrArg Int32.toInt (zz_i e84)).trans (by decide : ((1 : Int32)).toInt = 1)) ((congrArg Int32.toInt (zz_i e85)).trans n89) ((congrArg Int32.toInt (zz_i e86)).trans n90))
  replace g1 : (sy_i F 84).toInt = 42 := by omega
  by_cases g2 : 512 ≤ (sy_i F 23).toInt
  · by_cases g3 : (sy_i F 33).toInt < 0
    · have c23 := nz_bx hB (k := 23) (lo := 0) (hi := 512) rfl
      have c33 := nz_bx hB (k := 33) (lo := 0) (hi := 400) rfl
      exfalso
      omega
    replace g3 : 0 ≤ (sy_i F 33).toInt := by omega
    by_cases g4 : 400 < (sy_i F 33).toInt
    · have c23 := nz_bx hB (k := 23) (lo := 0) (hi := 512) rfl
      have c33 := nz_bx hB (k := 33) (lo := 0) (hi := 400) rfl
      exfalso
      omega
    replace g4 : (sy_i F 33).toInt ≤ 400 := by omega
    have c23 := nz_bx hB (k := 23) (lo := 0) (hi := 512) rfl
    have c33 := nz_bx hB (k := 33) (lo := 0) (hi := 400) rfl
    have q87 : (sy_ai F 39).getD (sy_i F 33).toNatClampNeg 0 = (sy_ai F 39).getD ((sy_i F 33).toInt).toNat 0 := by simp only [nz_c]
    have n87 : ((sy_ai F 39).getD (sy_i F 33).toNatClampNeg 0).toInt = ((sy_ai F 39).getD ((sy_i F 33).toInt).toNat 0).toInt := congrArg Int32.toInt q87
    have n88 : ((sy_i F 85) + ((1 : Int32))).toInt = ((sy_i F 85).toInt + 1) := nz_add (rfl : (sy_i F 85).toInt = (sy_i F 85).toInt) (by decide : ((1 : Int32)).toInt = 1) (by omega) (by omega)
    exact k0pp_64_p6 hd F X1 X2 hB (by first | exact g0 | (simp only [nz_c]; exact g0)) (by first | exact g1 | (simp only [nz_c]; exact g1)) (by first | exact g2 | (simp only [nz_c]; exact g2)) (by first | exact g3 | (simp only [nz_c]; exact g3)) (by first | exact g4 | (simp only [nz_c]; exact g4)) (by first | exact ⟨by omega, by omega⟩ | (simp only [nz_c]; exact ⟨by omega, by omega⟩)) (fun F1 g e82 e83 e84 e85 e86 => k6 g0 g1 g2 g3 g4 F1 (nz_in0 hB [] (fun j hj hn => g j hj (by simp only [List.mem_cons, List.not_mem_nil, or_false, not_or] at hn; exact trivial)) (List.forall_mem_nil _)) (fun j hj hn => g j hj (by simp only [List.mem_cons, List.not_mem_nil, or_false, not_or] at hn; exact trivial)) (nz_fi (g 33 (by decide) (by decide))) (nz_fi (g 34 (by decide) (by decide))) (nz_fi (g 23 (by decide) (by decide))) (nz_fa (g 39 (by decide) (by decide))) ((congrArg Int32.toInt (zz_i e82)).trans (rfl : (sy_i F 82).toInt = (sy_i F 82).toInt)) ((congrArg Int32.toInt (zz_i e83)).trans (rfl : (sy_i F 83).toInt = (sy_i F 83).toInt)) ((congrArg Int32.toInt (zz_i e84)).trans (by decide : ((1 : Int32)).toInt = 1)) ((congrArg Int32.toInt (zz_i e85)).trans n87) ((congrArg Int32.toInt (zz_i e86)).trans n88))
  replace g2 : (sy_i F 23).toInt < 512 := by omega
  by_cases g3 : (sy_i F 33).toInt < 0
  · have c23 := nz_bx hB (k := 23) (lo := 0) (hi := 512) rfl
    have c33 := nz_bx hB (k := 33) (lo := 0) (hi := 400) rfl
    exfalso
    omega
  replace g3 : 0 ≤ (sy_i F 33).toInt := by omega
  by_cases g4 : 400 < (sy_i F 33).toInt
  · have c23 := nz_bx hB (k := 23) (lo := 0) (hi := 512) rfl
    have c33 := nz_bx hB (k := 33) (lo := 0) (hi := 400) rfl
    exfalso
    omega
  replace g4 : (sy_i F 33).toInt ≤ 400 := by omega
  have c23 := nz_bx hB (k := 23) (lo := 0) (hi := 512) rfl
  have c33 := nz_bx hB (k := 33) (lo := 0) (hi := 400) rfl
  have n88 : ((sy_i F 23) + ((1 : Int32))).toInt = ((sy_i F 23).toInt + 1) := nz_add (rfl : (sy_i F 23).toInt = (sy_i F 23).toInt) (by decide : ((1 : Int32)).toInt = 1) (by omega) (by omega)
  have q89 : (sy_ai F 39).getD (sy_i F 33).toNatClampNeg 0 = (sy_ai F 39).getD ((sy_i F 33).toInt).toNat 0 := by simp only [nz_c]
  have n89 : ((sy_ai F 39).getD (sy_i F 33).toNatClampNeg 0).toInt = ((sy_ai F 39).getD ((sy_i F 33).toInt).toNat 0).toInt := congrArg Int32.toInt q89
  have n90 : ((sy_i F 85) + ((1 : Int32))).toInt = ((sy_i F 85).toInt + 1) := nz_add (rfl : (sy_i F 85).toInt = (sy_i F 85).toInt) (by decide : ((1 : Int32)).toInt = 1) (by omega) (by omega)
  exact k0pp_64_p7 hd F X1 X2 hB (by first | exact g0 | (simp only [nz_c]; exact g0)) (by first | exact g1 | (simp only [nz_c]; exact g1)) (by first | exact g2 | (simp only [nz_c]; exact g2)) (by first | exact ⟨by omega, by omega⟩ | (simp only [nz_c]; exact ⟨by omega, by omega⟩)) (by first | exact g3 | (simp only [nz_c]; exact g3)) (by first | exact g4 | (simp only [nz_c]; exact g4)) (by first | exact ⟨by omega, by omega⟩ | (simp only [nz_c]; exact ⟨by omega, by omega⟩)) (fun F1 g e23 e32 e82 e83 e84 e85 e86 => k7 g0 g1 g2 g3 g4 F1 (nz_in0 hB [23, 32] (fun j hj hn => g j hj (by simp only [List.mem_cons, List.not_mem_nil, or_false, not_or] at hn; omega)) (List.forall_mem_cons.mpr ⟨fun t ht => (Option.some.inj ht) ▸ (nz_hi e23 n88 (by omega) (by omega)), List.forall_mem_cons.mpr ⟨fun t ht => (Option.some.inj ht) ▸ (nz_hA e32 (nz_up (nz_ba hB (k := 32) (lo := (-2147483648)) (hi := 2147483646) rfl) (by decide : (((-12) : Int32)).toInt = (-12 : Int)) (by omega) (by omega))), List.forall_mem_nil _⟩⟩)) (fun j hj hn => g j hj (by simp only [List.mem_cons, List.not_mem_nil, or_false, not_or] at hn; omega)) (nz_fi (g 33 (by decide) (by decide))) (nz_fi (g 34 (by decide) (by decide))) ((congrArg Int32.toInt (zz_i e23)).trans n88) (nz_fa (g 39 (by decide) (by decide))) ((congrArg Int32.toInt (zz_i e82)).trans (rfl : (sy_i F 82).toInt = (sy_i F 82).toInt)) ((congrArg Int32.toInt (zz_i e83)).trans (rfl : (sy_i F 83).toInt = (sy_i F 83).toInt)) ((congrArg Int32.toInt (zz_i e84)).trans (by decide : ((1 : Int32)).toInt = 1)) ((congrArg Int32.toInt (zz_i e85)).trans n89) ((congrArg Int32.toInt (zz_i e86)).trans n90))
theorem k0ps_0_p0 {Ls : Nat} {xs : Nat → Int32} {d : Nat} {Q : Option Value → jm_h → Prop} (hd : 4 ≤ d) (F : Nat → sy_d) (X1 X2 : List jm_c) (hB : iv_in F iv_B0)
    (k : ∀ F1 : Nat → sy_d, (∀ j, j < 82 → True → F1 j = F j) → F1 82 = .inl (.int (sy_i F 82)) → F1 83 = .inl (.int (sy_i F 83)) → hd_W Ls xs d jm_M38 Q (3, sy_dL F1 [some (.inl (.ref 30)), some (.inr (.inl 82)), some (.inr (.inl 83)), none, none, none], sy_dS F1 [.inr (.inl 83), .inr (.inl 82), .inl (.ref 30)], sy_dh F1 X1 X2 (iv_H 0), 0, 0)) :
    hd_W Ls xs d jm_M38 Q (0, sy_dL F [some (.inl (.ref 30)), some (.inr (.inl 82)), some (.inr (.inl 83)), none, none, none], sy_dS F [], sy_dh F X1 X2 (iv_H 0), 0, 0) := by
  refine hd_run (s := 0) (nv := 84) (pc := 3) (L := [some (.inl (.ref 30)), some (.inr (.inl 82)), some (.inr (.inl 83)), none, none, none]) (S := [.inr (.inl 83), .inr (.inl 82), .inl (.ref 30)]) (uh := hd_ov (iv_id 0 iv_B0) []) (ul := [.inl (.inr (.inl 82)), .inl (.inr (.inl 83))]) (f := true) (sp := [3]) (d0 := 3) (O := []) (T := []) (P := []) jm_ok38 (by decide +kernel) (by decide +kernel) hd F X1 X2 (fun F' hF hs => ?_)
  have b82 := hd_b (F := F) (F' := F') (k := 82) (hF 82 (by decide))
  have b83 := hd_b (F := F) (F' := F') (k := 83) (hF 83 (by decide))
  have hB' : iv_in F' iv_B0 := iv_in_eq hB (fun j hj => hF j (Nat.lt_of_lt_of_le hj (by decide +kernel)))
  refine ⟨fun _ h => absurd h List.not_mem_nil, ?_⟩
  refine k _ ?_ ?_ ?_
  · exact fun j hj _ => (hd_keep hB' (Nat.lt_of_lt_of_le hj (by decide +kernel)) (by simp)).trans (hF j (by omega))
  · exact hd_gi (x := .inr (.inl 82)) (by decide +kernel) b82
  · exact hd_gi (x := .inr (.inl 83)) (by decide +kernel) b83
theorem k0ps_0 {Ls : Nat} {xs : Nat → Int32} {d : Nat} {Q : Option Value → jm_h → Prop} (hd : 4 ≤ d) (F : Nat → sy_d) (X1 X2 : List jm_c) (hB : iv_in F iv_B0)
    (k0 : ∀ F1 : Nat → sy_d, iv_in F1 iv_B0 → (∀ j, j < 82 → j ∉ ([] : List Nat) → F1 j = F j) → (sy_i F1 33).toInt = (sy_i F 33).toInt → (sy_i F1 34).toInt = (sy_i F 34).toInt → (sy_i F1 23).toInt = (sy_i F 23).toInt → sy_ai F1 39 = sy_ai F 39 → (sy_i F1 82).toInt = (sy_i F 82).toInt → (sy_i F1 83).toInt = (sy_i F 83).toInt → hd_W Ls xs d jm_M38 Q (3, sy_dL F1 [some (.inl (.ref 30)), some (.inr (.inl 82)), some (.inr (.inl 83)), none, none, none], sy_dS F1 [.inr (.inl 83), .inr (.inl 82), .inl (.ref 30)], sy_dh F1 X1 X2 (iv_H 0), 0, 0)) :
    hd_W Ls xs d jm_M38 Q (0, sy_dL F [some (.inl (.ref 30)), some (.inr (.inl 82)), some (.inr (.inl 83)), none, none, none], sy_dS F [], sy_dh F X1 X2 (iv_H 0), 0, 0) := by
  exact k0ps_0_p0 hd F X1 X2 hB  (fun F1 g e82 e83 => k0 F1 (nz_in0 hB [] (fun j hj hn => g j hj (by simp only [List.mem_cons, List.not_mem_nil, or_false, not_or] at hn; exact trivial)) (List.forall_mem_nil _)) (fun j hj hn => g j hj (by simp only [List.mem_cons, List.not_mem_nil, or_false, not_or] at hn; exact trivial)) (nz_fi (g 33 (by decide) (by decide))) (nz_fi (g 34 (by decide) (by decide))) (nz_fi (g 23 (by decide) (by decide))) (nz_fa (g 39 (by decide) (by decide))) ((congrArg Int32.toInt (zz_i e82)).trans (rfl : (sy_i F 82).toInt = (sy_i F 82).toInt)) ((congrArg Int32.toInt (zz_i e83)).trans (rfl : (sy_i F 83).toInt = (sy_i F 83).toInt)))
theorem k0ps_6_p0 {Ls : Nat} {xs : Nat → Int32} {d : Nat} {Q : Option Value → jm_h → Prop} (hd : 4 ≤ d) (F : Nat → sy_d) (X1 X2 : List jm_c) (hB : iv_in F iv_B0)
    (h0 : 0 ≤ (sy_i F 33).toInt)
    (h1 : (sy_i F 33).toInt ≤ 400)
    (h2 : 0 ≤ (sy_i F 33).toInt ∧ (sy_i F 33).toInt < 401)
    (k : ∀ F1 : Nat → sy_d, (∀ j, j < 82 → True → F1 j = F j) → F1 82 = .inl (.int (sy_i F 82)) → F1 83 = .inl (.int (sy_i F 83)) → F1 84 = .inl (.int (sy_i F 84)) → F1 85 = .inl (.int ((sy_ai F 39).getD (sy_i F 33).toNatClampNeg 0)) → F1 86 = .inl (.int ((0 : Int32))) → hd_W Ls xs d jm_M38 Q (23, sy_dL F1 [some (.inl (.ref 30)), some (.inr (.inl 82)), some (.inr (.inl 83)), some (.inr (.inl 84)), some (.inr (.inl 85)), some (.inr (.inl 86))], sy_dS F1 [], sy_dh F1 X1 X2 (iv_H 0), 0, 0)) :
    hd_W Ls xs d jm_M38 Q (6, sy_dL F [some (.inl (.ref 30)), some (.inr (.inl 82)), some (.inr (.inl 83)), none, none, none], sy_dS F [.inr (.inl 84)], sy_dh F X1 X2 (iv_H 0), 0, 0) := by
  refine hd_run (s := 0) (nv := 85) (pc := 23) (L := [some (.inl (.ref 30)), some (.inr (.inl 82)), some (.inr (.inl 83)), some (.inr (.inl 84)), some (.inr (.inl 85)), some (.inr (.inl 86))]) (S := []) (uh := hd_ov (iv_id 0 iv_B0) []) (ul := [.inl (.inr (.inl 82)), .inl (.inr (.inl 83)), .inl (.inr (.inl 84)), .inl (.inr (.inl 85)), .inl (.inl (.int 0))]) (f := false) (sp := [23]) (d0 := 3) (O := [false, false]) (T := [(30, [.inr (.inl 33)], [.inr (.inl 39)])]) (P := [(3, .inr (.inl 33), .inl (.int 0)), (3, .inl (.int 400), .inr (.inl 33)), (6, .inr (.inl 33), .inl (.ref 401))]) jm_ok38 (by decide +kernel) (by decide +kernel) hd F X1 X2 (fun F' hF hs => ?_)
  have b33 := hd_b (F := F) (F' := F') (k := 33) (hF 33 (by decide))
  have b82 := hd_b (F := F) (F' := F') (k := 82) (hF 82 (by decide))
  have b83 := hd_b (F := F) (F' := F') (k := 83) (hF 83 (by decide))
  have b84 := hd_b (F := F) (F' := F') (k := 84) (hF 84 (by decide))
  have a39 := hd_ba (F := F) (F' := F') (k := 39) (hF 39 (by decide))
  have t85 : sy_dv F' (.inr (.inl 85)) = .int ((sy_ai F 39).getD (sy_i F 33).toNatClampNeg 0) := hd_rd (hs 0 _ rfl) b33 a39
  have hB' : iv_in F' iv_B0 := iv_in_eq hB (fun j hj => hF j (Nat.lt_of_lt_of_le hj (by decide +kernel)))
  refine ⟨List.forall_mem_cons.mpr ⟨hd_p3 b33 rfl (by have hc : ((0) : Int32).toInt = 0 := (by decide); omega), List.forall_mem_cons.mpr ⟨hd_p3 rfl b33 (by have hc : ((400) : Int32).toInt = 400 := (by decide); omega), List.forall_mem_cons.mpr ⟨hd_pb b33 (by first | exact h2 | exact h2), fun _ h => absurd h List.not_mem_nil⟩⟩⟩, ?_⟩
  refine k _ ?_ ?_ ?_ ?_ ?_ ?_
  · exact fun j hj _ => (hd_keep hB' (Nat.lt_of_lt_of_le hj (by decide +kernel)) (by simp)).trans (hF j (by omega))
  · exact hd_gi (x := .inr (.inl 82)) (by decide +kernel) b82
  · exact hd_gi (x := .inr (.inl 83)) (by decide +kernel) b83
  · exact hd_gi (x := .inr (.inl 84)) (by decide +kernel) b84
  · exact hd_gi (x := .inr (.inl 85)) (by decide +kernel) t85
  · exact hd_gi (x := .inl (.int 0)) (by decide +kernel) rfl
theorem k0ps_6 {Ls : Nat} {xs : Nat → Int32} {d : Nat} {Q : Option Value → jm_h → Prop} (hd : 4 ≤ d) (F : Nat → sy_d) (X1 X2 : List jm_c) (hB : iv_in F iv_B0)
    (k0 : 0 ≤ (sy_i F 33).toInt → (sy_i F 33).toInt ≤ 400 → ∀ F1 : Nat → sy_d, iv_in F1 iv_B0 → (∀ j, j < 82 → j ∉ ([] : List Nat) → F1 j = F j) → (sy_i F1 33).toInt = (sy_i F 33).toInt → (sy_i F1 34).toInt = (sy_i F 34).toInt → (sy_i F1 23).toInt = (sy_i F 23).toInt → sy_ai F1 39 = sy_ai F 39 → (sy_i F1 82).toInt = (sy_i F 82).toInt → (sy_i F1 83).toInt = (sy_i F 83).toInt → (sy_i F1 84).toInt = (sy_i F 84).toInt → (sy_i F1 85).toInt = ((sy_ai F 39).getD ((sy_i F 33).toInt).toNat 0).toInt → (sy_i F1 86).toInt = 0 → hd_W Ls xs d jm_M38 Q (23, sy_dL F1 [some (.inl (.ref 30)), some (.inr (.inl 82)), some (.inr (.inl 83)), some (.inr (.inl 84)), some (.inr (.inl 85)), some (.inr (.inl 86))], sy_dS F1 [], sy_dh F1 X1 X2 (iv_H 0), 0, 0)) :
    hd_W Ls xs d jm_M38 Q (6, sy_dL F [some (.inl (.ref 30)), some (.inr (.inl 82)), some (.inr (.inl 83)), none, none, none], sy_dS F [.inr (.inl 84)], sy_dh F X1 X2 (iv_H 0), 0, 0) := by
  by_cases g0 : (sy_i F 33).toInt < 0
  · have c33 := nz_bx hB (k := 33) (lo := 0) (hi := 400) rfl
    exfalso
    omega
  replace g0 : 0 ≤ (sy_i F 33).toInt := by omega
  by_cases g1 : 400 < (sy_i F 33).toInt
  · have c33 := nz_bx hB (k := 33) (lo := 0) (hi := 400) rfl
    exfalso
    omega
  replace g1 : (sy_i F 33).toInt ≤ 400 := by omega
  have c33 := nz_bx hB (k := 33) (lo := 0) (hi := 400) rfl
  have q85 : (sy_ai F 39).getD (sy_i F 33).toNatClampNeg 0 = (sy_ai F 39).getD ((sy_i F 33).toInt).toNat 0 := by simp only [nz_c]
  have n85 : ((sy_ai F 39).getD (sy_i F 33).toNatClampNeg 0).toInt = ((sy_ai F 39).getD ((sy_i F 33).toInt).toNat 0).toInt := congrArg Int32.toInt q85
  exact k0ps_6_p0 hd F X1 X2 hB (by first | exact g0 | (simp only [nz_c]; exact g0)) (by first | exact g1 | (simp only [nz_c]; exact g1)) (by first | exact ⟨by omega, by omega⟩ | (simp only [nz_c]; exact ⟨by omega, by omega⟩)) (fun F1 g e82 e83 e84 e85 e86 => k0 g0 g1 F1 (nz_in0 hB [] (fun j hj hn => g j hj (by simp only [List.mem_cons, List.not_mem_nil, or_false, not_or] at hn; exact trivial)) (List.forall_mem_nil _)) (fun j hj hn => g j hj (by simp only [List.mem_cons, List.not_mem_nil, or_false, not_or] at hn; exact trivial)) (nz_fi (g 33 (by decide) (by decide))) (nz_fi (g 34 (by decide) (by decide))) (nz_fi (g 23 (by decide) (by decide))) (nz_fa (g 39 (by decide) (by decide))) ((congrArg Int32.toInt (zz_i e82)).trans (rfl : (sy_i F 82).toInt = (sy_i F 82).toInt)) ((congrArg Int32.toInt (zz_i e83)).trans (rfl : (sy_i F 83).toInt = (sy_i F 83).toInt)) ((congrArg Int32.toInt (zz_i e84)).trans (rfl : (sy_i F 84).toInt = (sy_i F 84).toInt)) ((congrArg Int32.toInt (zz_i e85)).trans n85) ((congrArg Int32.toInt (zz_i e86)).trans (by decide : ((0 : Int32)).toInt = 0)))
theorem k0ps_23_p0 {Ls : Nat} {xs : Nat → Int32} {d : Nat} {Q : Option Value → jm_h → Prop} (hd : 4 ≤ d) (F : Nat → sy_d) (X1 X2 : List jm_c) (hB : iv_in F iv_B0)
    (h0 : 400 < (sy_i F 86).toInt)
    (h1 : (sy_i F 84).toInt = 0 ∨ (sy_i F 84).toInt = 1)
    (k : ∀ F1 : Nat → sy_d, (∀ j, j < 82 → True → F1 j = F j) → Q (some (.int (sy_i F 84))) (sy_dh F1 X1 X2 (iv_H 0))) :
    hd_W Ls xs d jm_M38 Q (23, sy_dL F [some (.inl (.ref 30)), some (.inr (.inl 82)), some (.inr (.inl 83)), some (.inr (.inl 84)), some (.inr (.inl 85)), some (.inr (.inl 86))], sy_dS F [], sy_dh F X1 X2 (iv_H 0), 0, 0) := by
  refine hd_ret (s := 0) (nv := 87) (v := some (.inr (.inl 84))) (uh := hd_ov (iv_id 0 iv_B0) []) (f := true) (sp := [23, 61]) (d0 := 3) (O := [true]) (T := []) (P := [(2, .inl (.int 400), .inr (.inl 86)), (6, .inr (.inl 84), .inl (.int 0))]) jm_ok38 (by decide +kernel) (by decide +kernel) hd F X1 X2 (fun F' hF hs => ?_)
  have b86 := hd_b (F := F) (F' := F') (k := 86) (hF 86 (by decide))
  have b84 := hd_b (F := F) (F' := F') (k := 84) (hF 84 (by decide))
  have hB' : iv_in F' iv_B0 := iv_in_eq hB (fun j hj => hF j (Nat.lt_of_lt_of_le hj (by decide +kernel)))
  have hk := k (sy_cm F' (hd_ov (iv_id 0 iv_B0) [] ++ [])) (fun j hj _ => (hd_keep hB' (Nat.lt_of_lt_of_le hj (by decide +kernel)) (by simp)).trans (hF j (by omega)))
  refine ⟨List.forall_mem_cons.mpr ⟨hd_p2 rfl b86 (by have hc : ((400) : Int32).toInt = 400 := (by decide); omega), List.forall_mem_cons.mpr ⟨hd_p6 b84 h1, fun _ h => absurd h List.not_mem_nil⟩⟩, ?_⟩
  show Q (some (sy_dv F' (.inr (.inl 84)))) _
  rw [b84]
  exact hk
theorem k0ps_23_p1 {Ls : Nat} {xs : Nat → Int32} {d : Nat} {Q : Option Value → jm_h → Prop} (hd : 4 ≤ d) (F : Nat → sy_d) (X1 X2 : List jm_c) (hB : iv_in F iv_B0)
    (h0 : (sy_i F 86).toInt ≤ 400)
    (h1 : (sy_i F 84).toInt = 0)
    (h2 : (sy_i F 84).toInt = 0 ∨ (sy_i F 84).toInt = 1)
    (k : ∀ F1 : Nat → sy_d, (∀ j, j < 82 → True → F1 j = F j) → Q (some (.int (sy_i F 84))) (sy_dh F1 X1 X2 (iv_H 0))) :
    hd_W Ls xs d jm_M38 Q (23, sy_dL F [some (.inl (.ref 30)), some (.inr (.inl 82)), some (.inr (.inl 83)), some (.inr (.inl 84)), some (.inr (.inl 85)), some (.inr (.inl 86))], sy_dS F [], sy_dh F X1 X2 (iv_H 0), 0, 0) := by
  refine hd_ret (s := 0) (nv := 87) (v := some (.inr (.inl 84))) (uh := hd_ov (iv_id 0 iv_B0) []) (f := true) (sp := [23, 61]) (d0 := 3) (O := [false, true]) (T := []) (P := [(3, .inl (.int 400), .inr (.inl 86)), (0, .inr (.inl 84), .inl (.int 0)), (6, .inr (.inl 84), .inl (.int 0))]) jm_ok38 (by decide +kernel) (by decide +kernel) hd F X1 X2 (fun F' hF hs => ?_)
  have b86 := hd_b (F := F) (F' := F') (k := 86) (hF 86 (by decide))
  have b84 := hd_b (F := F) (F' := F') (k := 84) (hF 84 (by decide))
  have hB' : iv_in F' iv_B0 := iv_in_eq hB (fun j hj => hF j (Nat.lt_of_lt_of_le hj (by decide +kernel)))
  have hk := k (sy_cm F' (hd_ov (iv_id 0 iv_B0) [] ++ [])) (fun j hj _ => (hd_keep hB' (Nat.lt_of_lt_of_le hj (by decide +kernel)) (by simp)).trans (hF j (by omega)))
  refine ⟨List.forall_mem_cons.mpr ⟨hd_p3 rfl b86 (by have hc : ((400) : Int32).toInt = 400 := (by decide); omega), List.forall_mem_cons.mpr ⟨hd_p0 b84 rfl (by have hc : ((0) : Int32).toInt = 0 := (by decide); omega), List.forall_mem_cons.mpr ⟨hd_p6 b84 h2, fun _ h => absurd h List.not_mem_nil⟩⟩⟩, ?_⟩
  show Q (some (sy_dv F' (.inr (.inl 84)))) _
  rw [b84]
  exact hk
theorem k0ps_23_p2 {Ls : Nat} {xs : Nat → Int32} {d : Nat} {Q : Option Value → jm_h → Prop} (hd : 4 ≤ d) (F : Nat → sy_d) (X1 X2 : List jm_c) (hB : iv_in F iv_B0)
    (h0 : (sy_i F 86).toInt ≤ 400)
    (h1 : (sy_i F 84).toInt ≠ 0)
    (h2 : (sy_i F 85).toInt = 43)
    (h3 : 0 ≤ (sy_i F 33).toInt)
    (h4 : (sy_i F 33).toInt ≤ 400)
    (h5 : 0 ≤ (sy_i F 33).toInt ∧ (sy_i F 33).toInt < 401)
    (h6 : ((sy_ai F 39).getD (sy_i F 33).toNatClampNeg 0).toInt = (sy_i F 85).toInt)
    (h7 : (sy_i F 33).toInt < 400)
    (k : ∀ F1 : Nat → sy_d, (∀ j, j < 82 → j ≠ 33 → F1 j = F j) → F1 33 = .inl (.int ((sy_i F 33) + ((1 : Int32)))) → F1 82 = .inl (.int (sy_i F 82)) → F1 83 = .inl (.int (sy_i F 83)) → F1 84 = .inl (.int (sy_i F 85)) → F1 85 = .inl (.int (sy_i F 86)) → hd_W Ls xs d jm_M38 Q (61, sy_dL F1 [some (.inl (.ref 30)), some (.inr (.inl 82)), some (.inr (.inl 83)), none, some (.inr (.inl 84)), some (.inr (.inl 85))], sy_dS F1 [.inr (.inl 83), .inr (.inl 82), .inl (.ref 30)], sy_dh F1 X1 X2 (iv_H 0), 0, 0)) :
    hd_W Ls xs d jm_M38 Q (23, sy_dL F [some (.inl (.ref 30)), some (.inr (.inl 82)), some (.inr (.inl 83)), some (.inr (.inl 84)), some (.inr (.inl 85)), some (.inr (.inl 86))], sy_dS F [], sy_dh F X1 X2 (iv_H 0), 0, 0) := by
  refine hd_run (s := 0) (nv := 87) (pc := 61) (L := [some (.inl (.ref 30)), some (.inr (.inl 82)), some (.inr (.inl 83)), none, some (.inr (.inl 84)), some (.inr (.inl 85))]) (S := [.inr (.inl 83), .inr (.inl 82), .inl (.ref 30)]) (uh := hd_ov (iv_id 0 iv_B0) [(33, .inl (.inr (.inl 88)))]) (ul := [.inl (.inr (.inl 82)), .inl (.inr (.inl 83)), .inl (.inr (.inl 85)), .inl (.inr (.inl 86))]) (f := true) (sp := [23, 61]) (d0 := 3) (O := [false, false, true, false, false, true, true]) (T := [(30, [.inr (.inl 33)], [.inr (.inl 39)]), (0, [.inr (.inl 33), .inl (.int 1)], [])]) (P := [(3, .inl (.int 400), .inr (.inl 86)), (1, .inr (.inl 84), .inl (.int 0)), (0, .inr (.inl 85), .inl (.int 43)), (3, .inr (.inl 33), .inl (.int 0)), (3, .inl (.int 400), .inr (.inl 33)), (6, .inr (.inl 33), .inl (.ref 401)), (0, .inr (.inl 87), .inr (.inl 85)), (2, .inr (.inl 33), .inl (.int 400))]) jm_ok38 (by decide +kernel) (by decide +kernel) hd F X1 X2 (fun F' hF hs => ?_)
  have b86 := hd_b (F := F) (F' := F') (k := 86) (hF 86 (by decide))
  have b84 := hd_b (F := F) (F' := F') (k := 84) (hF 84 (by decide))
  have b85 := hd_b (F := F) (F' := F') (k := 85) (hF 85 (by decide))
  have b33 := hd_b (F := F) (F' := F') (k := 33) (hF 33 (by decide))
  have a39 := hd_ba (F := F) (F' := F') (k := 39) (hF 39 (by decide))
  have t87 : sy_dv F' (.inr (.inl 87)) = .int ((sy_ai F 39).getD (sy_i F 33).toNatClampNeg 0) := hd_rd (hs 0 _ rfl) b33 a39
  have t88 : sy_dv F' (.inr (.inl 88)) = .int ((sy_i F 33) + ((1 : Int32))) := hd_o (hs 1 _ rfl) b33 rfl rfl
  have b82 := hd_b (F := F) (F' := F') (k := 82) (hF 82 (by decide))
  have b83 := hd_b (F := F) (F' := F') (k := 83) (hF 83 (by decide))
  have hB' : iv_in F' iv_B0 := iv_in_eq hB (fun j hj => hF j (Nat.lt_of_lt_of_le hj (by decide +kernel)))
  refine ⟨List.forall_mem_cons.mpr ⟨hd_p3 rfl b86 (by have hc : ((400) : Int32).toInt = 400 := (by decide); omega), List.forall_mem_cons.mpr ⟨hd_p1 b84 rfl (by have hc : ((0) : Int32).toInt = 0 := (by decide); omega), List.forall_mem_cons.mpr ⟨hd_p0 b85 rfl (by have hc : ((43) : Int32).toInt = 43 := (by decide); omega), List.forall_mem_cons.mpr ⟨hd_p3 b33 rfl (by have hc : ((0) : Int32).toInt = 0 := (by decide); omega), List.forall_mem_cons.mpr ⟨hd_p3 rfl b33 (by have hc : ((400) : Int32).toInt = 400 := (by decide); omega), List.forall_mem_cons.mpr ⟨hd_pb b33 (by first | exact h5 | exact h5), List.forall_mem_cons.mpr ⟨hd_p0 t87 b85 h6, List.forall_mem_cons.mpr ⟨hd_p2 b33 rfl (by have hc : ((400) : Int32).toInt = 400 := (by decide); omega), fun _ h => absurd h List.not_mem_nil⟩⟩⟩⟩⟩⟩⟩⟩, ?_⟩
  refine k _ ?_ ?_ ?_ ?_ ?_ ?_
  · exact fun j hj hn => (hd_keep hB' (Nat.lt_of_lt_of_le hj (by decide +kernel)) (by simp; omega)).trans (hF j (by omega))
  · exact hd_gi (x := .inr (.inl 88)) (by decide +kernel) t88
  · exact hd_gi (x := .inr (.inl 82)) (by decide +kernel) b82
  · exact hd_gi (x := .inr (.inl 83)) (by decide +kernel) b83
  · exact hd_gi (x := .inr (.inl 85)) (by decide +kernel) b85
  · exact hd_gi (x := .inr (.inl 86)) (by decide +kernel) b86
theorem k0ps_23_p3 {Ls : Nat} {xs : Nat → Int32} {d : Nat} {Q : Option Value → jm_h → Prop} (hd : 4 ≤ d) (F : Nat → sy_d) (X1 X2 : List jm_c) (hB : iv_in F iv_B0)
    (h0 : (sy_i F 86).toInt ≤ 400)
    (h1 : (sy_i F 84).toInt ≠ 0)
    (h2 : (sy_i F 85).toInt = 43)
    (h3 : 0 ≤ (sy_i F 33).toInt)
    (h4 : (sy_i F 33).toInt ≤ 400)
    (h5 : 0 ≤ (sy_i F 33).toInt ∧ (sy_i F 33).toInt < 401)
    (h6 : ((sy_ai F 39).getD (sy_i F 33).toNatClampNeg 0).toInt = (sy_i F 85).toInt)
    (h7 : 400 ≤ (sy_i F 33).toInt)
    (h8 : (sy_i F 85).toInt = 43)
    (h9 : 512 ≤ (sy_i F 23).toInt)
    (h10 : 0 ≤ (sy_i F 33).toInt)
    (h11 : (sy_i F 33).toInt ≤ 400)
    (h12 : 0 ≤ (sy_i F 33).toInt ∧ (sy_i F 33).toInt < 401)
    (k : ∀ F1 : Nat → sy_d, (∀ j, j < 82 → j ≠ 34 → F1 j = F j) → F1 34 = .inl (.int ((2 : Int32))) → F1 82 = .inl (.int (sy_i F 82)) → F1 83 = .inl (.int (sy_i F 83)) → F1 84 = .inl (.int ((0 : Int32))) → F1 85 = .inl (.int ((sy_ai F 39).getD (sy_i F 33).toNatClampNeg 0)) → F1 86 = .inl (.int ((sy_i F 86) + ((1 : Int32)))) → hd_W Ls xs d jm_M38 Q (23, sy_dL F1 [some (.inl (.ref 30)), some (.inr (.inl 82)), some (.inr (.inl 83)), some (.inr (.inl 84)), some (.inr (.inl 85)), some (.inr (.inl 86))], sy_dS F1 [], sy_dh F1 X1 X2 (iv_H 0), 0, 0)) :
    hd_W Ls xs d jm_M38 Q (23, sy_dL F [some (.inl (.ref 30)), some (.inr (.inl 82)), some (.inr (.inl 83)), some (.inr (.inl 84)), some (.inr (.inl 85)), some (.inr (.inl 86))], sy_dS F [], sy_dh F X1 X2 (iv_H 0), 0, 0) := by
  refine hd_run (s := 0) (nv := 87) (pc := 23) (L := [some (.inl (.ref 30)), some (.inr (.inl 82)), some (.inr (.inl 83)), some (.inr (.inl 84)), some (.inr (.inl 85)), some (.inr (.inl 86))]) (S := []) (uh := hd_ov (iv_id 0 iv_B0) [(34, .inl (.inl (.int 2)))]) (ul := [.inl (.inr (.inl 82)), .inl (.inr (.inl 83)), .inl (.inl (.int 0)), .inl (.inr (.inl 88)), .inl (.inr (.inl 89))]) (f := true) (sp := [23, 61]) (d0 := 3) (O := [false, false, true, false, false, true, false, false, true, false, false]) (T := [(30, [.inr (.inl 33)], [.inr (.inl 39)]), (30, [.inr (.inl 33)], [.inr (.inl 39)]), (0, [.inr (.inl 86), .inl (.int 1)], [])]) (P := [(3, .inl (.int 400), .inr (.inl 86)), (1, .inr (.inl 84), .inl (.int 0)), (0, .inr (.inl 85), .inl (.int 43)), (3, .inr (.inl 33), .inl (.int 0)), (3, .inl (.int 400), .inr (.inl 33)), (6, .inr (.inl 33), .inl (.ref 401)), (0, .inr (.inl 87), .inr (.inl 85)), (3, .inr (.inl 33), .inl (.int 400)), (0, .inr (.inl 85), .inl (.int 43)), (4, .inl (.int 512), .inr (.inl 23)), (3, .inr (.inl 33), .inl (.int 0)), (3, .inl (.int 400), .inr (.inl 33)), (6, .inr (.inl 33), .inl (.ref 401))]) jm_ok38 (by decide +kernel) (by decide +kernel) hd F X1 X2 (fun F' hF hs => ?_)
  have b86 := hd_b (F := F) (F' := F') (k := 86) (hF 86 (by decide))
  have b84 := hd_b (F := F) (F' := F') (k := 84) (hF 84 (by decide))
  have b85 := hd_b (F := F) (F' := F') (k := 85) (hF 85 (by decide))
  have b33 := hd_b (F := F) (F' := F') (k := 33) (hF 33 (by decide))
  have a39 := hd_ba (F := F) (F' := F') (k := 39) (hF 39 (by decide))
  have t87 : sy_dv F' (.inr (.inl 87)) = .int ((sy_ai F 39).getD (sy_i F 33).toNatClampNeg 0) := hd_rd (hs 0 _ rfl) b33 a39
  have b23 := hd_b (F := F) (F' := F') (k := 23) (hF 23 (by decide))
  have b82 := hd_b (F := F) (F' := F') (k := 82) (hF 82 (by decide))
  have b83 := hd_b (F := F) (F' := F') (k := 83) (hF 83 (by decide))
  have t88 : sy_dv F' (.inr (.inl 88)) = .int ((sy_ai F 39).getD (sy_i F 33).toNatClampNeg 0) := hd_rd (hs 1 _ rfl) b33 a39
  have t89 : sy_dv F' (.inr (.inl 89)) = .int ((sy_i F 86) + ((1 : Int32))) := hd_o (hs 2 _ rfl) b86 rfl rfl
  have hB' : iv_in F' iv_B0 := iv_in_eq hB (fun j hj => hF j (Nat.lt_of_lt_of_le hj (by decide +kernel)))
  refine ⟨List.forall_mem_cons.mpr ⟨hd_p3 rfl b86 (by have hc : ((400) : Int32).toInt = 400 := (by decide); omega), List.forall_mem_cons.mpr ⟨hd_p1 b84 rfl (by have hc : ((0) : Int32).toInt = 0 := (by decide); omega), List.forall_mem_cons.mpr ⟨hd_p0 b85 rfl (by have hc : ((43) : Int32).toInt = 43 := (by decide); omega), List.forall_mem_cons.mpr ⟨hd_p3 b33 rfl (by have hc : ((0) : Int32).toInt = 0 := (by decide); omega), List.forall_mem_cons.mpr ⟨hd_p3 rfl b33 (by have hc : ((400) : Int32).toInt = 400 := (by decide); omega), List.forall_mem_cons.mpr ⟨hd_pb b33 (by first | exact h5 | exact h5), List.forall_mem_cons.mpr ⟨hd_p0 t87 b85 h6, List.forall_mem_cons.mpr ⟨hd_p3 b33 rfl (by have hc : ((400) : Int32).toInt = 400 := (by decide); omega), List.forall_mem_cons.mpr ⟨hd_p0 b85 rfl (by have hc : ((43) : Int32).toInt = 43 := (by decide); omega), List.forall_mem_cons.mpr ⟨hd_p4 rfl b23 (by have hc : ((512) : Int32).toInt = 512 := (by decide); omega), List.forall_mem_cons.mpr ⟨hd_p3 b33 rfl (by have hc : ((0) : Int32).toInt = 0 := (by decide); omega), List.forall_mem_cons.mpr ⟨hd_p3 rfl b33 (by have hc : ((400) : Int32).toInt = 400 := (by decide); omega), List.forall_mem_cons.mpr ⟨hd_pb b33 (by first | exact h12 | exact h12), fun _ h => absurd h List.not_mem_nil⟩⟩⟩⟩⟩⟩⟩⟩⟩⟩⟩⟩⟩, ?_⟩
  refine k _ ?_ ?_ ?_ ?_ ?_ ?_ ?_
  · exact fun j hj hn => (hd_keep hB' (Nat.lt_of_lt_of_le hj (by decide +kernel)) (by simp; omega)).trans (hF j (by omega))
  · exact hd_gi (x := .inl (.int 2)) (by decide +kernel) rfl
  · exact hd_gi (x := .inr (.inl 82)) (by decide +kernel) b82
  · exact hd_gi (x := .inr (.inl 83)) (by decide +kernel) b83
  · exact hd_gi (x := .inl (.int 0)) (by decide +kernel) rfl
  · exact hd_gi (x := .inr (.inl 88)) (by decide +kernel) t88
  · exact hd_gi (x := .inr (.inl 89)) (by decide +kernel) t89
theorem k0ps_23_p4 {Ls : Nat} {xs : Nat → Int32} {d : Nat} {Q : Option Value → jm_h → Prop} (hd : 4 ≤ d) (F : Nat → sy_d) (X1 X2 : List jm_c) (hB : iv_in F iv_B0)
    (h0 : (sy_i F 86).toInt ≤ 400)
    (h1 : (sy_i F 84).toInt ≠ 0)
    (h2 : (sy_i F 85).toInt = 43)
    (h3 : 0 ≤ (sy_i F 33).toInt)
    (h4 : (sy_i F 33).toInt ≤ 400)
    (h5 : 0 ≤ (sy_i F 33).toInt ∧ (sy_i F 33).toInt < 401)
    (h6 : ((sy_ai F 39).getD (sy_i F 33).toNatClampNeg 0).toInt = (sy_i F 85).toInt)
    (h7 : 400 ≤ (sy_i F 33).toInt)
    (h8 : (sy_i F 85).toInt = 43)
    (h9 : (sy_i F 23).toInt < 512)
    (h10 : 0 ≤ (sy_i F 23).toInt ∧ (sy_i F 23).toInt < 512)
    (h11 : 0 ≤ (sy_i F 33).toInt)
    (h12 : (sy_i F 33).toInt ≤ 400)
    (h13 : 0 ≤ (sy_i F 33).toInt ∧ (sy_i F 33).toInt < 401)
    (k : ∀ F1 : Nat → sy_d, (∀ j, j < 82 → j ≠ 23 ∧ j ≠ 32 ∧ j ≠ 34 → F1 j = F j) → F1 23 = .inl (.int ((sy_i F 23) + ((1 : Int32)))) → F1 32 = .inr (.inl (jm_upd (sy_ai F 32) (sy_i F 23).toNatClampNeg (((-10) : Int32)))) → F1 34 = .inl (.int ((2 : Int32))) → F1 82 = .inl (.int (sy_i F 82)) → F1 83 = .inl (.int (sy_i F 83)) → F1 84 = .inl (.int ((0 : Int32))) → F1 85 = .inl (.int ((sy_ai F 39).getD (sy_i F 33).toNatClampNeg 0)) → F1 86 = .inl (.int ((sy_i F 86) + ((1 : Int32)))) → hd_W Ls xs d jm_M38 Q (23, sy_dL F1 [some (.inl (.ref 30)), some (.inr (.inl 82)), some (.inr (.inl 83)), some (.inr (.inl 84)), some (.inr (.inl 85)), some (.inr (.inl 86))], sy_dS F1 [], sy_dh F1 X1 X2 (iv_H 0), 0, 0)) :
    hd_W Ls xs d jm_M38 Q (23, sy_dL F [some (.inl (.ref 30)), some (.inr (.inl 82)), some (.inr (.inl 83)), some (.inr (.inl 84)), some (.inr (.inl 85)), some (.inr (.inl 86))], sy_dS F [], sy_dh F X1 X2 (iv_H 0), 0, 0) := by
  refine hd_run (s := 0) (nv := 87) (pc := 23) (L := [some (.inl (.ref 30)), some (.inr (.inl 82)), some (.inr (.inl 83)), some (.inr (.inl 84)), some (.inr (.inl 85)), some (.inr (.inl 86))]) (S := []) (uh := hd_ov (iv_id 0 iv_B0) [(23, .inl (.inr (.inl 89))), (32, .inr (.inr (.inl 88))), (34, .inl (.inl (.int 2)))]) (ul := [.inl (.inr (.inl 82)), .inl (.inr (.inl 83)), .inl (.inl (.int 0)), .inl (.inr (.inl 90)), .inl (.inr (.inl 91))]) (f := true) (sp := [23, 61]) (d0 := 3) (O := [false, false, true, false, false, true, false, false, false, false, false]) (T := [(30, [.inr (.inl 33)], [.inr (.inl 39)]), (40, [.inr (.inl 23), .inl (.int (-10))], [.inr (.inl 32)]), (0, [.inr (.inl 23), .inl (.int 1)], []), (30, [.inr (.inl 33)], [.inr (.inl 39)]), (0, [.inr (.inl 86), .inl (.int 1)], [])]) (P := [(3, .inl (.int 400), .inr (.inl 86)), (1, .inr (.inl 84), .inl (.int 0)), (0, .inr (.inl 85), .inl (.int 43)), (3, .inr (.inl 33), .inl (.int 0)), (3, .inl (.int 400), .inr (.inl 33)), (6, .inr (.inl 33), .inl (.ref 401)), (0, .inr (.inl 87), .inr (.inl 85)), (3, .inr (.inl 33), .inl (.int 400)), (0, .inr (.inl 85), .inl (.int 43)), (5, .inl (.int 512), .inr (.inl 23)), (6, .inr (.inl 23), .inl (.ref 512)), (3, .inr (.inl 33), .inl (.int 0)), (3, .inl (.int 400), .inr (.inl 33)), (6, .inr (.inl 33), .inl (.ref 401))]) jm_ok38 (by decide +kernel) (by decide +kernel) hd F X1 X2 (fun F' hF hs => ?_)
  have b86 := hd_b (F := F) (F' := F') (k := 86) (hF 86 (by decide))
  have b84 := hd_b (F := F) (F' := F') (k := 84) (hF 84 (by decide))
  have b85 := hd_b (F := F) (F' := F') (k := 85) (hF 85 (by decide))
  have b33 := hd_b (F := F) (F' := F') (k := 33) (hF 33 (by decide))
  have a39 := hd_ba (F := F) (F' := F') (k := 39) (hF 39 (by decide))
  have t87 : sy_dv F' (.inr (.inl 87)) = .int ((sy_ai F 39).getD (sy_i F 33).toNatClampNeg 0) := hd_rd (hs 0 _ rfl) b33 a39
  have b23 := hd_b (F := F) (F' := F') (k := 23) (hF 23 (by decide))
  have t89 : sy_dv F' (.inr (.inl 89)) = .int ((sy_i F 23) + ((1 : Int32))) := hd_o (hs 2 _ rfl) b23 rfl rfl
  have a32 := hd_ba (F := F) (F' := F') (k := 32) (hF 32 (by decide))
  have t88 : sy_da F' (.inr (.inl 88)) = .inl (jm_upd (sy_ai F 32) (sy_i F 23).toNatClampNeg (((-10) : Int32))) := hd_up (hs 1 _ rfl) b23 rfl a32
  have b82 := hd_b (F := F) (F' := F') (k := 82) (hF 82 (by decide))
  have b83 := hd_b (F := F) (F' := F') (k := 83) (hF 83 (by decide))
  have t90 : sy_dv F' (.inr (.inl 90)) = .int ((sy_ai F 39).getD (sy_i F 33).toNatClampNeg 0) := hd_rd (hs 3 _ rfl) b33 a39
  have t91 : sy_dv F' (.inr (.inl 91)) = .int ((sy_i F 86) + ((1 : Int32))) := hd_o (hs 4 _ rfl) b86 rfl rfl
  have hB' : iv_in F' iv_B0 := iv_in_eq hB (fun j hj => hF j (Nat.lt_of_lt_of_le hj (by decide +kernel)))
  refine ⟨List.forall_mem_cons.mpr ⟨hd_p3 rfl b86 (by have hc : ((400) : Int32).toInt = 400 := (by decide); omega), List.forall_mem_cons.mpr ⟨hd_p1 b84 rfl (by have hc : ((0) : Int32).toInt = 0 := (by decide); omega), List.forall_mem_cons.mpr ⟨hd_p0 b85 rfl (by have hc : ((43) : Int32).toInt = 43 := (by decide); omega), List.forall_mem_cons.mpr ⟨hd_p3 b33 rfl (by have hc : ((0) : Int32).toInt = 0 := (by decide); omega), List.forall_mem_cons.mpr ⟨hd_p3 rfl b33 (by have hc : ((400) : Int32).toInt = 400 := (by decide); omega), List.forall_mem_cons.mpr ⟨hd_pb b33 (by first | exact h5 | exact h5), List.forall_mem_cons.mpr ⟨hd_p0 t87 b85 h6, List.forall_mem_cons.mpr ⟨hd_p3 b33 rfl (by have hc : ((400) : Int32).toInt = 400 := (by decide); omega), List.forall_mem_cons.mpr ⟨hd_p0 b85 rfl (by have hc : ((43) : Int32).toInt = 43 := (by decide); omega), List.forall_mem_cons.mpr ⟨hd_p5 rfl b23 (by have hc : ((512) : Int32).toInt = 512 := (by decide); omega), List.forall_mem_cons.mpr ⟨hd_pb b23 (by first | exact h10 | exact h10), List.forall_mem_cons.mpr ⟨hd_p3 b33 rfl (by have hc : ((0) : Int32).toInt = 0 := (by decide); omega), List.forall_mem_cons.mpr ⟨hd_p3 rfl b33 (by have hc : ((400) : Int32).toInt = 400 := (by decide); omega), List.forall_mem_cons.mpr ⟨hd_pb b33 (by first | exact h13 | exact h13), fun _ h => absurd h List.not_mem_nil⟩⟩⟩⟩⟩⟩⟩⟩⟩⟩⟩⟩⟩⟩, ?_⟩
  refine k _ ?_ ?_ ?_ ?_ ?_ ?_ ?_ ?_ ?_
  · exact fun j hj hn => (hd_keep hB' (Nat.lt_of_lt_of_le hj (by decide +kernel)) (by simp; omega)).trans (hF j (by omega))
  · exact hd_gi (x := .inr (.inl 89)) (by decide +kernel) t89
  · exact hd_ga (a := .inr (.inl 88)) (by decide +kernel) t88
  · exact hd_gi (x := .inl (.int 2)) (by decide +kernel) rfl
  · exact hd_gi (x := .inr (.inl 82)) (by decide +kernel) b82
  · exact hd_gi (x := .inr (.inl 83)) (by decide +kernel) b83
  · exact hd_gi (x := .inl (.int 0)) (by decide +kernel) rfl
  · exact hd_gi (x := .inr (.inl 90)) (by decide +kernel) t90
  · exact hd_gi (x := .inr (.inl 91)) (by decide +kernel) t91
theorem k0ps_23_p5 {Ls : Nat} {xs : Nat → Int32} {d : Nat} {Q : Option Value → jm_h → Prop} (hd : 4 ≤ d) (F : Nat → sy_d) (X1 X2 : List jm_c) (hB : iv_in F iv_B0)
    (h0 : (sy_i F 86).toInt ≤ 400)
    (h1 : (sy_i F 84).toInt ≠ 0)
    (h2 : (sy_i F 85).toInt = 43)
    (h3 : 0 ≤ (sy_i F 33).toInt)
    (h4 : (sy_i F 33).toInt ≤ 400)
    (h5 : 0 ≤ (sy_i F 33).toInt ∧ (sy_i F 33).toInt < 401)
    (h6 : ((sy_ai F 39).getD (sy_i F 33).toNatClampNeg 0).toInt ≠ (sy_i F 85).toInt)
    (h7 : (sy_i F 85).toInt = 43)
    (h8 : 512 ≤ (sy_i F 23).toInt)
    (h9 : 0 ≤ (sy_i F 33).toInt)
    (h10 : (sy_i F 33).toInt ≤ 400)
    (h11 : 0 ≤ (sy_i F 33).toInt ∧ (sy_i F 33).toInt < 401)
    (k : ∀ F1 : Nat → sy_d, (∀ j, j < 82 → j ≠ 34 → F1 j = F j) → F1 34 = .inl (.int ((1 : Int32))) → F1 82 = .inl (.int (sy_i F 82)) → F1 83 = .inl (.int (sy_i F 83)) → F1 84 = .inl (.int ((0 : Int32))) → F1 85 = .inl (.int ((sy_ai F 39).getD (sy_i F 33).toNatClampNeg 0)) → F1 86 = .inl (.int ((sy_i F 86) + ((1 : Int32)))) → hd_W Ls xs d jm_M38 Q (23, sy_dL F1 [some (.inl (.ref 30)), some (.inr (.inl 82)), some (.inr (.inl 83)), some (.inr (.inl 84)), some (.inr (.inl 85)), some (.inr (.inl 86))], sy_dS F1 [], sy_dh F1 X1 X2 (iv_H 0), 0, 0)) :
    hd_W Ls xs d jm_M38 Q (23, sy_dL F [some (.inl (.ref 30)), some (.inr (.inl 82)), some (.inr (.inl 83)), some (.inr (.inl 84)), some (.inr (.inl 85)), some (.inr (.inl 86))], sy_dS F [], sy_dh F X1 X2 (iv_H 0), 0, 0) := by
  refine hd_run (s := 0) (nv := 87) (pc := 23) (L := [some (.inl (.ref 30)), some (.inr (.inl 82)), some (.inr (.inl 83)), some (.inr (.inl 84)), some (.inr (.inl 85)), some (.inr (.inl 86))]) (S := []) (uh := hd_ov (iv_id 0 iv_B0) [(34, .inl (.inl (.int 1)))]) (ul := [.inl (.inr (.inl 82)), .inl (.inr (.inl 83)), .inl (.inl (.int 0)), .inl (.inr (.inl 88)), .inl (.inr (.inl 89))]) (f := true) (sp := [23, 61]) (d0 := 3) (O := [false, false, true, false, false, false, false, true, false, false]) (T := [(30, [.inr (.inl 33)], [.inr (.inl 39)]), (30, [.inr (.inl 33)], [.inr (.inl 39)]), (0, [.inr (.inl 86), .inl (.int 1)], [])]) (P := [(3, .inl (.int 400), .inr (.inl 86)), (1, .inr (.inl 84), .inl (.int 0)), (0, .inr (.inl 85), .inl (.int 43)), (3, .inr (.inl 33), .inl (.int 0)), (3, .inl (.int 400), .inr (.inl 33)), (6, .inr (.inl 33), .inl (.ref 401)), (1, .inr (.inl 87), .inr (.inl 85)), (0, .inr (.inl 85), .inl (.int 43)), (4, .inl (.int 512), .inr (.inl 23)), (3, .inr (.inl 33), .inl (.int 0)), (3, .inl (.int 400), .inr (.inl 33)), (6, .inr (.inl 33), .inl (.ref 401))]) jm_ok38 (by decide +kernel) (by decide +kernel) hd F X1 X2 (fun F' hF hs => ?_)
  have b86 := hd_b (F := F) (F' := F') (k := 86) (hF 86 (by decide))
  have b84 := hd_b (F := F) (F' := F') (k := 84) (hF 84 (by decide))
  have b85 := hd_b (F := F) (F' := F') (k := 85) (hF 85 (by decide))
  have b33 := hd_b (F := F) (F' := F') (k := 33) (hF 33 (by decide))
  have a39 := hd_ba (F := F) (F' := F') (k := 39) (hF 39 (by decide))
  have t87 : sy_dv F' (.inr (.inl 87)) = .int ((sy_ai F 39).getD (sy_i F 33).toNatClampNeg 0) := hd_rd (hs 0 _ rfl) b33 a39
  have b23 := hd_b (F := F) (F' := F') (k := 23) (hF 23 (by decide))
  have b82 := hd_b (F := F) (F' := F') (k := 82) (hF 82 (by decide))
  have b83 := hd_b (F := F) (F' := F') (k := 83) (hF 83 (by decide))
  have t88 : sy_dv F' (.inr (.inl 88)) = .int ((sy_ai F 39).getD (sy_i F 33).toNatClampNeg 0) := hd_rd (hs 1 _ rfl) b33 a39
  have t89 : sy_dv F' (.inr (.inl 89)) = .int ((sy_i F 86) + ((1 : Int32))) := hd_o (hs 2 _ rfl) b86 rfl rfl
  have hB' : iv_in F' iv_B0 := iv_in_eq hB (fun j hj => hF j (Nat.lt_of_lt_of_le hj (by decide +kernel)))
  refine ⟨List.forall_mem_cons.mpr ⟨hd_p3 rfl b86 (by have hc : ((400) : Int32).toInt = 400 := (by decide); omega), List.forall_mem_cons.mpr ⟨hd_p1 b84 rfl (by have hc : ((0) : Int32).toInt = 0 := (by decide); omega), List.forall_mem_cons.mpr ⟨hd_p0 b85 rfl (by have hc : ((43) : Int32).toInt = 43 := (by decide); omega), List.forall_mem_cons.mpr ⟨hd_p3 b33 rfl (by have hc : ((0) : Int32).toInt = 0 := (by decide); omega), List.forall_mem_cons.mpr ⟨hd_p3 rfl b33 (by have hc : ((400) : Int32).toInt = 400 := (by decide); omega), List.forall_mem_cons.mpr ⟨hd_pb b33 (by first | exact h5 | exact h5), List.forall_mem_cons.mpr ⟨hd_p1 t87 b85 h6, List.forall_mem_cons.mpr ⟨hd_p0 b85 rfl (by have hc : ((43) : Int32).toInt = 43 := (by decide); omega), List.forall_mem_cons.mpr ⟨hd_p4 rfl b23 (by have hc : ((512) : Int32).toInt = 512 := (by decide); omega), List.forall_mem_cons.mpr ⟨hd_p3 b33 rfl (by have hc : ((0) : Int32).toInt = 0 := (by decide); omega), List.forall_mem_cons.mpr ⟨hd_p3 rfl b33 (by have hc : ((400) : Int32).toInt = 400 := (by decide); omega), List.forall_mem_cons.mpr ⟨hd_pb b33 (by first | exact h11 | exact h11), fun _ h => absurd h List.not_mem_nil⟩⟩⟩⟩⟩⟩⟩⟩⟩⟩⟩⟩, ?_⟩
  refine k _ ?_ ?_ ?_ ?_ ?_ ?_ ?_
  · exact fun j hj hn => (hd_keep hB' (Nat.lt_of_lt_of_le hj (by decide +kernel)) (by simp; omega)).trans (hF j (by omega))
  · exact hd_gi (x := .inl (.int 1)) (by decide +kernel) rfl
  · exact hd_gi (x := .inr (.inl 82)) (by decide +kernel) b82
  · exact hd_gi (x := .inr (.inl 83)) (by decide +kernel) b83
  · exact hd_gi (x := .inl (.int 0)) (by decide +kernel) rfl
  · exact hd_gi (x := .inr (.inl 88)) (by decide +kernel) t88
  · exact hd_gi (x := .inr (.inl 89)) (by decide +kernel) t89
theorem k0ps_23_p6 {Ls : Nat} {xs : Nat → Int32} {d : Nat} {Q : Option Value → jm_h → Prop} (hd : 4 ≤ d) (F : Nat → sy_d) (X1 X2 : List jm_c) (hB : iv_in F iv_B0)
    (h0 : (sy_i F 86).toInt ≤ 400)
    (h1 : (sy_i F 84).toInt ≠ 0)
    (h2 : (sy_i F 85).toInt = 43)
    (h3 : 0 ≤ (sy_i F 33).toInt)
    (h4 : (sy_i F 33).toInt ≤ 400)
    (h5 : 0 ≤ (sy_i F 33).toInt ∧ (sy_i F 33).toInt < 401)
    (h6 : ((sy_ai F 39).getD (sy_i F 33).toNatClampNeg 0).toInt ≠ (sy_i F 85).toInt)
    (h7 : (sy_i F 85).toInt = 43)
    (h8 : (sy_i F 23).toInt < 512)
    (h9 : 0 ≤ (sy_i F 23).toInt ∧ (sy_i F 23).toInt < 512)
    (h10 : 0 ≤ (sy_i F 33).toInt)
    (h11 : (sy_i F 33).toInt ≤ 400)
    (h12 : 0 ≤ (sy_i F 33).toInt ∧ (sy_i F 33).toInt < 401)
    (k : ∀ F1 : Nat → sy_d, (∀ j, j < 82 → j ≠ 23 ∧ j ≠ 32 ∧ j ≠ 34 → F1 j = F j) → F1 23 = .inl (.int ((sy_i F 23) + ((1 : Int32)))) → F1 32 = .inr (.inl (jm_upd (sy_ai F 32) (sy_i F 23).toNatClampNeg (((-10) : Int32)))) → F1 34 = .inl (.int ((1 : Int32))) → F1 82 = .inl (.int (sy_i F 82)) → F1 83 = .inl (.int (sy_i F 83)) → F1 84 = .inl (.int ((0 : Int32))) → F1 85 = .inl (.int ((sy_ai F 39).getD (sy_i F 33).toNatClampNeg 0)) → F1 86 = .inl (.int ((sy_i F 86) + ((1 : Int32)))) → hd_W Ls xs d jm_M38 Q (23, sy_dL F1 [some (.inl (.ref 30)), some (.inr (.inl 82)), some (.inr (.inl 83)), some (.inr (.inl 84)), some (.inr (.inl 85)), some (.inr (.inl 86))], sy_dS F1 [], sy_dh F1 X1 X2 (iv_H 0), 0, 0)) :
    hd_W Ls xs d jm_M38 Q (23, sy_dL F [some (.inl (.ref 30)), some (.inr (.inl 82)), some (.inr (.inl 83)), some (.inr (.inl 84)), some (.inr (.inl 85)), some (.inr (.inl 86))], sy_dS F [], sy_dh F X1 X2 (iv_H 0), 0, 0) := by
  refine hd_run (s := 0) (nv := 87) (pc := 23) (L := [some (.inl (.ref 30)), some (.inr (.inl 82)), some (.inr (.inl 83)), some (.inr (.inl 84)), some (.inr (.inl 85)), some (.inr (.inl 86))]) (S := []) (uh := hd_ov (iv_id 0 iv_B0) [(23, .inl (.inr (.inl 89))), (32, .inr (.inr (.inl 88))), (34, .inl (.inl (.int 1)))]) (ul := [.inl (.inr (.inl 82)), .inl (.inr (.inl 83)), .inl (.inl (.int 0)), .inl (.inr (.inl 90)), .inl (.inr (.inl 91))]) (f := true) (sp := [23, 61]) (d0 := 3) (O := [false, false, true, false, false, false, false, false, false, false]) (T := [(30, [.inr (.inl 33)], [.inr (.inl 39)]), (40, [.inr (.inl 23), .inl (.int (-10))], [.inr (.inl 32)]), (0, [.inr (.inl 23), .inl (.int 1)], []), (30, [.inr (.inl 33)], [.inr (.inl 39)]), (0, [.inr (.inl 86), .inl (.int 1)], [])]) (P := [(3, .inl (.int 400), .inr (.inl 86)), (1, .inr (.inl 84), .inl (.int 0)), (0, .inr (.inl 85), .inl (.int 43)), (3, .inr (.inl 33), .inl (.int 0)), (3, .inl (.int 400), .inr (.inl 33)), (6, .inr (.inl 33), .inl (.ref 401)), (1, .inr (.inl 87), .inr (.inl 85)), (0, .inr (.inl 85), .inl (.int 43)), (5, .inl (.int 512), .inr (.inl 23)), (6, .inr (.inl 23), .inl (.ref 512)), (3, .inr (.inl 33), .inl (.int 0)), (3, .inl (.int 400), .inr (.inl 33)), (6, .inr (.inl 33), .inl (.ref 401))]) jm_ok38 (by decide +kernel) (by decide +kernel) hd F X1 X2 (fun F' hF hs => ?_)
  have b86 := hd_b (F := F) (F' := F') (k := 86) (hF 86 (by decide))
  have b84 := hd_b (F := F) (F' := F') (k := 84) (hF 84 (by decide))
  have b85 := hd_b (F := F) (F' := F') (k := 85) (hF 85 (by decide))
  have b33 := hd_b (F := F) (F' := F') (k := 33) (hF 33 (by decide))
  have a39 := hd_ba (F := F) (F' := F') (k := 39) (hF 39 (by decide))
  have t87 : sy_dv F' (.inr (.inl 87)) = .int ((sy_ai F 39).getD (sy_i F 33).toNatClampNeg 0) := hd_rd (hs 0 _ rfl) b33 a39
  have b23 := hd_b (F := F) (F' := F') (k := 23) (hF 23 (by decide))
  have t89 : sy_dv F' (.inr (.inl 89)) = .int ((sy_i F 23) + ((1 : Int32))) := hd_o (hs 2 _ rfl) b23 rfl rfl
  have a32 := hd_ba (F := F) (F' := F') (k := 32) (hF 32 (by decide))
  have t88 : sy_da F' (.inr (.inl 88)) = .inl (jm_upd (sy_ai F 32) (sy_i F 23).toNatClampNeg (((-10) : Int32))) := hd_up (hs 1 _ rfl) b23 rfl a32
  have b82 := hd_b (F := F) (F' := F') (k := 82) (hF 82 (by decide))
  have b83 := hd_b (F := F) (F' := F') (k := 83) (hF 83 (by decide))
  have t90 : sy_dv F' (.inr (.inl 90)) = .int ((sy_ai F 39).getD (sy_i F 33).toNatClampNeg 0) := hd_rd (hs 3 _ rfl) b33 a39
  have t91 : sy_dv F' (.inr (.inl 91)) = .int ((sy_i F 86) + ((1 : Int32))) := hd_o (hs 4 _ rfl) b86 rfl rfl
  have hB' : iv_in F' iv_B0 := iv_in_eq hB (fun j hj => hF j (Nat.lt_of_lt_of_le hj (by decide +kernel)))
  refine ⟨List.forall_mem_cons.mpr ⟨hd_p3 rfl b86 (by have hc : ((400) : Int32).toInt = 400 := (by decide); omega), List.forall_mem_cons.mpr ⟨hd_p1 b84 rfl (by have hc : ((0) : Int32).toInt = 0 := (by decide); omega), List.forall_mem_cons.mpr ⟨hd_p0 b85 rfl (by have hc : ((43) : Int32).toInt = 43 := (by decide); omega), List.forall_mem_cons.mpr ⟨hd_p3 b33 rfl (by have hc : ((0) : Int32).toInt = 0 := (by decide); omega), List.forall_mem_cons.mpr ⟨hd_p3 rfl b33 (by have hc : ((400) : Int32).toInt = 400 := (by decide); omega), List.forall_mem_cons.mpr ⟨hd_pb b33 (by first | exact h5 | exact h5), List.forall_mem_cons.mpr ⟨hd_p1 t87 b85 h6, List.forall_mem_cons.mpr ⟨hd_p0 b85 rfl (by have hc : ((43) : Int32).toInt = 43 := (by decide); omega), List.forall_mem_cons.mpr ⟨hd_p5 rfl b23 (by have hc : ((512) : Int32).toInt = 512 := (by decide); omega), List.forall_mem_cons.mpr ⟨hd_pb b23 (by first | exact h9 | exact h9), List.forall_mem_cons.mpr ⟨hd_p3 b33 rfl (by have hc : ((0) : Int32).toInt = 0 := (by decide); omega), List.forall_mem_cons.mpr ⟨hd_p3 rfl b33 (by have hc : ((400) : Int32).toInt = 400 := (by decide); omega), List.forall_mem_cons.mpr ⟨hd_pb b33 (by first | exact h12 | exact h12), fun _ h => absurd h List.not_mem_nil⟩⟩⟩⟩⟩⟩⟩⟩⟩⟩⟩⟩⟩, ?_⟩
  refine k _ ?_ ?_ ?_ ?_ ?_ ?_ ?_ ?_ ?_
  · exact fun j hj hn => (hd_keep hB' (Nat.lt_of_lt_of_le hj (by decide +kernel)) (by simp; omega)).trans (hF j (by omega))
  · exact hd_gi (x := .inr (.inl 89)) (by decide +kernel) t89
  · exact hd_ga (a := .inr (.inl 88)) (by decide +kernel) t88
  · exact hd_gi (x := .inl (.int 1)) (by decide +kernel) rfl
  · exact hd_gi (x := .inr (.inl 82)) (by decide +kernel) b82
  · exact hd_gi (x := .inr (.inl 83)) (by decide +kernel) b83
  · exact hd_gi (x := .inl (.int 0)) (by decide +kernel) rfl
  · exact hd_gi (x := .inr (.inl 90)) (by decide +kernel) t90
  · exact hd_gi (x := .inr (.inl 91)) (by decide +kernel) t91
theorem k0ps_23_p7 {Ls : Nat} {xs : Nat → Int32} {d : Nat} {Q : Option Value → jm_h → Prop} (hd : 4 ≤ d) (F : Nat → sy_d) (X1 X2 : List jm_c) (hB : iv_in F iv_B0)
    (h0 : (sy_i F 86).toInt ≤ 400)
    (h1 : (sy_i F 84).toInt ≠ 0)
    (h2 : (sy_i F 85).toInt ≠ 43)
    (h3 : (sy_i F 85).toInt ≠ 45)
    (h4 : (sy_i F 84).toInt = 0 ∨ (sy_i F 84).toInt = 1)
    (k : ∀ F1 : Nat → sy_d, (∀ j, j < 82 → True → F1 j = F j) → Q (some (.int (sy_i F 84))) (sy_dh F1 X1 X2 (iv_H 0))) :
    hd_W Ls xs d jm_M38 Q (23, sy_dL F [some (.inl (.ref 30)), some (.inr (.inl 82)), some (.inr (.inl 83)), some (.inr (.inl 84)), some (.inr (.inl 85)), some (.inr (.inl 86))], sy_dS F [], sy_dh F X1 X2 (iv_H 0), 0, 0) := by
  refine hd_ret (s := 0) (nv := 87) (v := some (.inr (.inl 84))) (uh := hd_ov (iv_id 0 iv_B0) []) (f := true) (sp := [23, 61]) (d0 := 3) (O := [false, false, false, true]) (T := []) (P := [(3, .inl (.int 400), .inr (.inl 86)), (1, .inr (.inl 84), .inl (.int 0)), (1, .inr (.inl 85), .inl (.int 43)), (1, .inr (.inl 85), .inl (.int 45)), (6, .inr (.inl 84), .inl (.int 0))]) jm_ok38 (by decide +kernel) (by decide +kernel) hd F X1 X2 (fun F' hF hs => ?_)
  have b86 := hd_b (F := F) (F' := F') (k := 86) (hF 86 (by decide))
  have b84 := hd_b (F := F) (F' := F') (k := 84) (hF 84 (by decide))
  have b85 := hd_b (F := F) (F' := F') (k := 85) (hF 85 (by decide))
  have hB' : iv_in F' iv_B0 := iv_in_eq hB (fun j hj => hF j (Nat.lt_of_lt_of_le hj (by decide +kernel)))
  have hk := k (sy_cm F' (hd_ov (iv_id 0 iv_B0) [] ++ [])) (fun j hj _ => (hd_keep hB' (Nat.lt_of_lt_of_le hj (by decide +kernel)) (by simp)).trans (hF j (by omega)))
  refine ⟨List.forall_mem_cons.mpr ⟨hd_p3 rfl b86 (by have hc : ((400) : Int32).toInt = 400 := (by decide); omega), List.forall_mem_cons.mpr ⟨hd_p1 b84 rfl (by have hc : ((0) : Int32).toInt = 0 := (by decide); omega), List.forall_mem_cons.mpr ⟨hd_p1 b85 rfl (by have hc : ((43) : Int32).toInt = 43 := (by decide); omega), List.forall_mem_cons.mpr ⟨hd_p1 b85 rfl (by have hc : ((45) : Int32).toInt = 45 := (by decide); omega), List.forall_mem_cons.mpr ⟨hd_p6 b84 h4, fun _ h => absurd h List.not_mem_nil⟩⟩⟩⟩⟩, ?_⟩
  show Q (some (sy_dv F' (.inr (.inl 84)))) _
  rw [b84]
  exact hk
theorem k0ps_23_p8 {Ls : Nat} {xs : Nat → Int32} {d : Nat} {Q : Option Value → jm_h → Prop} (hd : 4 ≤ d) (F : Nat → sy_d) (X1 X2 : List jm_c) (hB : iv_in F iv_B0)
    (h0 : (sy_i F 86).toInt ≤ 400)
    (h1 : (sy_i F 84).toInt ≠ 0)
    (h2 : (sy_i F 85).toInt ≠ 43)
    (h3 : (sy_i F 85).toInt = 45)
    (h4 : 0 ≤ (sy_i F 33).toInt)
    (h5 : (sy_i F 33).toInt ≤ 400)
    (h6 : 0 ≤ (sy_i F 33).toInt ∧ (sy_i F 33).toInt < 401)
    (h7 : ((sy_ai F 39).getD (sy_i F 33).toNatClampNeg 0).toInt = (sy_i F 85).toInt)
    (h8 : (sy_i F 33).toInt < 400)
    (k : ∀ F1 : Nat → sy_d, (∀ j, j < 82 → j ≠ 33 → F1 j = F j) → F1 33 = .inl (.int ((sy_i F 33) + ((1 : Int32)))) → F1 82 = .inl (.int (sy_i F 82)) → F1 83 = .inl (.int (sy_i F 83)) → F1 84 = .inl (.int (sy_i F 85)) → F1 85 = .inl (.int (sy_i F 86)) → hd_W Ls xs d jm_M38 Q (61, sy_dL F1 [some (.inl (.ref 30)), some (.inr (.inl 82)), some (.inr (.inl 83)), none, some (.inr (.inl 84)), some (.inr (.inl 85))], sy_dS F1 [.inr (.inl 83), .inr (.inl 82), .inl (.ref 30)], sy_dh F1 X1 X2 (iv_H 0), 0, 0)) :
    hd_W Ls xs d jm_M38 Q (23, sy_dL F [some (.inl (.ref 30)), some (.inr (.inl 82)), some (.inr (.inl 83)), some (.inr (.inl 84)), some (.inr (.inl 85)), some (.inr (.inl 86))], sy_dS F [], sy_dh F X1 X2 (iv_H 0), 0, 0) := by
  refine hd_run (s := 0) (nv := 87) (pc := 61) (L := [some (.inl (.ref 30)), some (.inr (.inl 82)), some (.inr (.inl 83)), none, some (.inr (.inl 84)), some (.inr (.inl 85))]) (S := [.inr (.inl 83), .inr (.inl 82), .inl (.ref 30)]) (uh := hd_ov (iv_id 0 iv_B0) [(33, .inl (.inr (.inl 88)))]) (ul := [.inl (.inr (.inl 82)), .inl (.inr (.inl 83)), .inl (.inr (.inl 85)), .inl (.inr (.inl 86))]) (f := true) (sp := [23, 61]) (d0 := 3) (O := [false, false, false, false, false, false, true, true]) (T := [(30, [.inr (.inl 33)], [.inr (.inl 39)]), (0, [.inr (.inl 33), .inl (.int 1)], [])]) (P := [(3, .inl (.int 400), .inr (.inl 86)), (1, .inr (.inl 84), .inl (.int 0)), (1, .inr (.inl 85), .inl (.int 43)), (0, .inr (.inl 85), .inl (.int 45)), (3, .inr (.inl 33), .inl (.int 0)), (3, .inl (.int 400), .inr (.inl 33)), (6, .inr (.inl 33), .inl (.ref 401)), (0, .inr (.inl 87), .inr (.inl 85)), (2, .inr (.inl 33), .inl (.int 400))]) jm_ok38 (by decide +kernel) (by decide +kernel) hd F X1 X2 (fun F' hF hs => ?_)
  have b86 := hd_b (F := F) (F' := F') (k := 86) (hF 86 (by decide))
  have b84 := hd_b (F := F) (F' := F') (k := 84) (hF 84 (by decide))
  have b85 := hd_b (F := F) (F' := F') (k := 85) (hF 85 (by decide))
  have b33 := hd_b (F := F) (F' := F') (k := 33) (hF 33 (by decide))
  have a39 := hd_ba (F := F) (F' := F') (k := 39) (hF 39 (by decide))
  have t87 : sy_dv F' (.inr (.inl 87)) = .int ((sy_ai F 39).getD (sy_i F 33).toNatClampNeg 0) := hd_rd (hs 0 _ rfl) b33 a39
  have t88 : sy_dv F' (.inr (.inl 88)) = .int ((sy_i F 33) + ((1 : Int32))) := hd_o (hs 1 _ rfl) b33 rfl rfl
  have b82 := hd_b (F := F) (F' := F') (k := 82) (hF 82 (by decide))
  have b83 := hd_b (F := F) (F' := F') (k := 83) (hF 83 (by decide))
  have hB' : iv_in F' iv_B0 := iv_in_eq hB (fun j hj => hF j (Nat.lt_of_lt_of_le hj (by decide +kernel)))
  refine ⟨List.forall_mem_cons.mpr ⟨hd_p3 rfl b86 (by have hc : ((400) : Int32).toInt = 400 := (by decide); omega), List.forall_mem_cons.mpr ⟨hd_p1 b84 rfl (by have hc : ((0) : Int32).toInt = 0 := (by decide); omega), List.forall_mem_cons.mpr ⟨hd_p1 b85 rfl (by have hc : ((43) : Int32).toInt = 43 := (by decide); omega), List.forall_mem_cons.mpr ⟨hd_p0 b85 rfl (by have hc : ((45) : Int32).toInt = 45 := (by decide); omega), List.forall_mem_cons.mpr ⟨hd_p3 b33 rfl (by have hc : ((0) : Int32).toInt = 0 := (by decide); omega), List.forall_mem_cons.mpr ⟨hd_p3 rfl b33 (by have hc : ((400) : Int32).toInt = 400 := (by decide); omega), List.forall_mem_cons.mpr ⟨hd_pb b33 (by first | exact h6 | exact h6), List.forall_mem_cons.mpr ⟨hd_p0 t87 b85 h7, List.forall_mem_cons.mpr ⟨hd_p2 b33 rfl (by have hc : ((400) : Int32).toInt = 400 := (by decide); omega), fun _ h => absurd h List.not_mem_nil⟩⟩⟩⟩⟩⟩⟩⟩⟩, ?_⟩
  refine k _ ?_ ?_ ?_ ?_ ?_ ?_
  · exact fun j hj hn => (hd_keep hB' (Nat.lt_of_lt_of_le hj (by decide +kernel)) (by simp; omega)).trans (hF j (by omega))
  · exact hd_gi (x := .inr (.inl 88)) (by decide +kernel) t88
  · exact hd_gi (x := .inr (.inl 82)) (by decide +kernel) b82
  · exact hd_gi (x := .inr (.inl 83)) (by decide +kernel) b83
  · exact hd_gi (x := .inr (.inl 85)) (by decide +kernel) b85
  · exact hd_gi (x := .inr (.inl 86)) (by decide +kernel) b86
theorem k0ps_23_p9 {Ls : Nat} {xs : Nat → Int32} {d : Nat} {Q : Option Value → jm_h → Prop} (hd : 4 ≤ d) (F : Nat → sy_d) (X1 X2 : List jm_c) (hB : iv_in F iv_B0)
    (h0 : (sy_i F 86).toInt ≤ 400)
    (h1 : (sy_i F 84).toInt ≠ 0)
    (h2 : (sy_i F 85).toInt ≠ 43)
    (h3 : (sy_i F 85).toInt = 45)
    (h4 : 0 ≤ (sy_i F 33).toInt)
    (h5 : (sy_i F 33).toInt ≤ 400)
    (h6 : 0 ≤ (sy_i F 33).toInt ∧ (sy_i F 33).toInt < 401)
    (h7 : ((sy_ai F 39).getD (sy_i F 33).toNatClampNeg 0).toInt = (sy_i F 85).toInt)
    (h8 : 400 ≤ (sy_i F 33).toInt)
    (h9 : (sy_i F 85).toInt ≠ 43)
    (h10 : 512 ≤ (sy_i F 23).toInt)
    (h11 : 0 ≤ (sy_i F 33).toInt)
    (h12 : (sy_i F 33).toInt ≤ 400)
    (h13 : 0 ≤ (sy_i F 33).toInt ∧ (sy_i F 33).toInt < 401)
    (k : ∀ F1 : Nat → sy_d, (∀ j, j < 82 → j ≠ 34 → F1 j = F j) → F1 34 = .inl (.int ((2 : Int32))) → F1 82 = .inl (.int (sy_i F 82)) → F1 83 = .inl (.int (sy_i F 83)) → F1 84 = .inl (.int ((0 : Int32))) → F1 85 = .inl (.int ((sy_ai F 39).getD (sy_i F 33).toNatClampNeg 0)) → F1 86 = .inl (.int ((sy_i F 86) + ((1 : Int32)))) → hd_W Ls xs d jm_M38 Q (23, sy_dL F1 [some (.inl (.ref 30)), some (.inr (.inl 82)), some (.inr (.inl 83)), some (.inr (.inl 84)), some (.inr (.inl 85)), some (.inr (.inl 86))], sy_dS F1 [], sy_dh F1 X1 X2 (iv_H 0), 0, 0)) :
    hd_W Ls xs d jm_M38 Q (23, sy_dL F [some (.inl (.ref 30)), some (.inr (.inl 82)), some (.inr (.inl 83)), some (.inr (.inl 84)), some (.inr (.inl 85)), some (.inr (.inl 86))], sy_dS F [], sy_dh F X1 X2 (iv_H 0), 0, 0) := by
  refine hd_run (s := 0) (nv := 87) (pc := 23) (L := [some (.inl (.ref 30)), some (.inr (.inl 82)), some (.inr (.inl 83)), some (.inr (.inl 84)), some (.inr (.inl 85)), some (.inr (.inl 86))]) (S := []) (uh := hd_ov (iv_id 0 iv_B0) [(34, .inl (.inl (.int 2)))]) (ul := [.inl (.inr (.inl 82)), .inl (.inr (.inl 83)), .inl (.inl (.int 0)), .inl (.inr (.inl 88)), .inl (.inr (.inl 89))]) (f := true) (sp := [23, 61]) (d0 := 3) (O := [false, false, false, false, false, false, true, false, true, true, false, false]) (T := [(30, [.inr (.inl 33)], [.inr (.inl 39)]), (30, [.inr (.inl 33)], [.inr (.inl 39)]), (0, [.inr (.inl 86), .inl (.int 1)], [])]) (P := [(3, .inl (.int 400), .inr (.inl 86)), (1, .inr (.inl 84), .inl (.int 0)), (1, .inr (.inl 85), .inl (.int 43)), (0, .inr (.inl 85), .inl (.int 45)), (3, .inr (.inl 33), .inl (.int 0)), (3, .inl (.int 400), .inr (.inl 33)), (6, .inr (.inl 33), .inl (.ref 401)), (0, .inr (.inl 87), .inr (.inl 85)), (3, .inr (.inl 33), .inl (.int 400)), (1, .inr (.inl 85), .inl (.int 43)), (4, .inl (.int 512), .inr (.inl 23)), (3, .inr (.inl 33), .inl (.int 0)), (3, .inl (.int 400), .inr (.inl 33)), (6, .inr (.inl 33), .inl (.ref 401))]) jm_ok38 (by decide +kernel) (by decide +kernel) hd F X1 X2 (fun F' hF hs => ?_)
  have b86 := hd_b (F := F) (F' := F') (k := 86) (hF 86 (by decide))
  have b84 := hd_b (F := F) (F' := F') (k := 84) (hF 84 (by decide))
  have b85 := hd_b (F := F) (F' := F') (k := 85) (hF 85 (by decide))
  have b33 := hd_b (F := F) (F' := F') (k := 33) (hF 33 (by decide))
  have a39 := hd_ba (F := F) (F' := F') (k := 39) (hF 39 (by decide))
  have t87 : sy_dv F' (.inr (.inl 87)) = .int ((sy_ai F 39).getD (sy_i F 33).toNatClampNeg 0) := hd_rd (hs 0 _ rfl) b33 a39
  have b23 := hd_b (F := F) (F' := F') (k := 23) (hF 23 (by decide))
  have b82 := hd_b (F := F) (F' := F') (k := 82) (hF 82 (by decide))
  have b83 := hd_b (F := F) (F' := F') (k := 83) (hF 83 (by decide))
  have t88 : sy_dv F' (.inr (.inl 88)) = .int ((sy_ai F 39).getD (sy_i F 33).toNatClampNeg 0) := hd_rd (hs 1 _ rfl) b33 a39
  have t89 : sy_dv F' (.inr (.inl 89)) = .int ((sy_i F 86) + ((1 : Int32))) := hd_o (hs 2 _ rfl) b86 rfl rfl
  have hB' : iv_in F' iv_B0 := iv_in_eq hB (fun j hj => hF j (Nat.lt_of_lt_of_le hj (by decide +kernel)))
  refine ⟨List.forall_mem_cons.mpr ⟨hd_p3 rfl b86 (by have hc : ((400) : Int32).toInt = 400 := (by decide); omega), List.forall_mem_cons.mpr ⟨hd_p1 b84 rfl (by have hc : ((0) : Int32).toInt = 0 := (by decide); omega), List.forall_mem_cons.mpr ⟨hd_p1 b85 rfl (by have hc : ((43) : Int32).toInt = 43 := (by decide); omega), List.forall_mem_cons.mpr ⟨hd_p0 b85 rfl (by have hc : ((45) : Int32).toInt = 45 := (by decide); omega), List.forall_mem_cons.mpr ⟨hd_p3 b33 rfl (by have hc : ((0) : Int32).toInt = 0 := (by decide); omega), List.forall_mem_cons.mpr ⟨hd_p3 rfl b33 (by have hc : ((400) : Int32).toInt = 400 := (by decide); omega), List.forall_mem_cons.mpr ⟨hd_pb b33 (by first | exact h6 | exact h6), List.forall_mem_cons.mpr ⟨hd_p0 t87 b85 h7, List.forall_mem_cons.mpr ⟨hd_p3 b33 rfl (by have hc : ((400) : Int32).toInt = 400 := (by decide); omega), List.forall_mem_cons.mpr ⟨hd_p1 b85 rfl (by have hc : ((43) : Int32).toInt = 43 := (by decide); omega), List.forall_mem_cons.mpr ⟨hd_p4 rfl b23 (by have hc : ((512) : Int32).toInt = 512 := (by decide); omega), List.forall_mem_cons.mpr ⟨hd_p3 b33 rfl (by have hc : ((0) : Int32).toInt = 0 := (by decide); omega), List.forall_mem_cons.mpr ⟨hd_p3 rfl b33 (by have hc : ((400) : Int32).toInt = 400 := (by decide); omega), List.forall_mem_cons.mpr ⟨hd_pb b33 (by first | exact h13 | exact h13), fun _ h => absurd h List.not_mem_nil⟩⟩⟩⟩⟩⟩⟩⟩⟩⟩⟩⟩⟩⟩, ?_⟩
  refine k _ ?_ ?_ ?_ ?_ ?_ ?_ ?_
  · exact fun j hj hn => (hd_keep hB' (Nat.lt_of_lt_of_le hj (by decide +kernel)) (by simp; omega)).trans (hF j (by omega))
  · exact hd_gi (x := .inl (.int 2)) (by decide +kernel) rfl
  · exact hd_gi (x := .inr (.inl 82)) (by decide +kernel) b82
  · exact hd_gi (x := .inr (.inl 83)) (by decide +kernel) b83
  · exact hd_gi (x := .inl (.int 0)) (by decide +kernel) rfl
  · exact hd_gi (x := .inr (.inl 88)) (by decide +kernel) t88
  · exact hd_gi (x := .inr (.inl 89)) (by decide +kernel) t89
theorem k0ps_23_p10 {Ls : Nat} {xs : Nat → Int32} {d : Nat} {Q : Option Value → jm_h → Prop} (hd : 4 ≤ d) (F : Nat → sy_d) (X1 X2 : List jm_c) (hB : iv_in F iv_B0)
    (h0 : (sy_i F 86).toInt ≤ 400)
    (h1 : (sy_i F 84).toInt ≠ 0)
    (h2 : (sy_i F 85).toInt ≠ 43)
    (h3 : (sy_i F 85).toInt = 45)
    (h4 : 0 ≤ (sy_i F 33).toInt)
    (h5 : (sy_i F 33).toInt ≤ 400)
    (h6 : 0 ≤ (sy_i F 33).toInt ∧ (sy_i F 33).toInt < 401)
    (h7 : ((sy_ai F 39).getD (sy_i F 33).toNatClampNeg 0).toInt = (sy_i F 85).toInt)
    (h8 : 400 ≤ (sy_i F 33).toInt)
    (h9 : (sy_i F 85).toInt ≠ 43)
    (h10 : (sy_i F 23).toInt < 512)
    (h11 : 0 ≤ (sy_i F 23).toInt ∧ (sy_i F 23).toInt < 512)
    (h12 : 0 ≤ (sy_i F 33).toInt)
    (h13 : (sy_i F 33).toInt ≤ 400)
    (h14 : 0 ≤ (sy_i F 33).toInt ∧ (sy_i F 33).toInt < 401)
    (k : ∀ F1 : Nat → sy_d, (∀ j, j < 82 → j ≠ 23 ∧ j ≠ 32 ∧ j ≠ 34 → F1 j = F j) → F1 23 = .inl (.int ((sy_i F 23) + ((1 : Int32)))) → F1 32 = .inr (.inl (jm_upd (sy_ai F 32) (sy_i F 23).toNatClampNeg (((-11) : Int32)))) → F1 34 = .inl (.int ((2 : Int32))) → F1 82 = .inl (.int (sy_i F 82)) → F1 83 = .inl (.int (sy_i F 83)) → F1 84 = .inl (.int ((0 : Int32))) → F1 85 = .inl (.int ((sy_ai F 39).getD (sy_i F 33).toNatClampNeg 0)) → F1 86 = .inl (.int ((sy_i F 86) + ((1 : Int32)))) → hd_W Ls xs d jm_M38 Q (23, sy_dL F1 [some (.inl (.ref 30)), some (.inr (.inl 82)), some (.inr (.inl 83)), some (.inr (.inl 84)), some (.inr (.inl 85)), some (.inr (.inl 86))], sy_dS F1 [], sy_dh F1 X1 X2 (iv_H 0), 0, 0)) :
    hd_W Ls xs d jm_M38 Q (23, sy_dL F [some (.inl (.ref 30)), some (.inr (.inl 82)), some (.inr (.inl 83)), some (.inr (.inl 84)), some (.inr (.inl 85)), some (.inr (.inl 86))], sy_dS F [], sy_dh F X1 X2 (iv_H 0), 0, 0) := by
  refine hd_run (s := 0) (nv := 87) (pc := 23) (L := [some (.inl (.ref 30)), some (.inr (.inl 82)), some (.inr (.inl 83)), some (.inr (.inl 84)), some (.inr (.inl 85)), some (.inr (.inl 86))]) (S := []) (uh := hd_ov (iv_id 0 iv_B0) [(23, .inl (.inr (.inl 89))), (32, .inr (.inr (.inl 88))), (34, .inl (.inl (.int 2)))]) (ul := [.inl (.inr (.inl 82)), .inl (.inr (.inl 83)), .inl (.inl (.int 0)), .inl (.inr (.inl 90)), .inl (.inr (.inl 91))]) (f := true) (sp := [23, 61]) (d0 := 3) (O := [false, false, false, false, false, false, true, false, true, false, false, false]) (T := [(30, [.inr (.inl 33)], [.inr (.inl 39)]), (40, [.inr (.inl 23), .inl (.int (-11))], [.inr (.inl 32)]), (0, [.inr (.inl 23), .inl (.int 1)], []), (30, [.inr (.inl 33)], [.inr (.inl 39)]), (0, [.inr (.inl 86), .inl (.int 1)], [])]) (P := [(3, .inl (.int 400), .inr (.inl 86)), (1, .inr (.inl 84), .inl (.int 0)), (1, .inr (.inl 85), .inl (.int 43)), (0, .inr (.inl 85), .inl (.int 45)), (3, .inr (.inl 33), .inl (.int 0)), (3, .inl (.int 400), .inr (.inl 33)), (6, .inr (.inl 33), .inl (.ref 401)), (0, .inr (.inl 87), .inr (.inl 85)), (3, .inr (.inl 33), .inl (.int 400)), (1, .inr (.inl 85), .inl (.int 43)), (5, .inl (.int 512), .inr (.inl 23)), (6, .inr (.inl 23), .inl (.ref 512)), (3, .inr (.inl 33), .inl (.int 0)), (3, .inl (.int 400), .inr (.inl 33)), (6, .inr (.inl 33), .inl (.ref 401))]) jm_ok38 (by decide +kernel) (by decide +kernel) hd F X1 X2 (fun F' hF hs => ?_)
  have b86 := hd_b (F := F) (F' := F') (k := 86) (hF 86 (by decide))
  have b84 := hd_b (F := F) (F' := F') (k := 84) (hF 84 (by decide))
  have b85 := hd_b (F := F) (F' := F') (k := 85) (hF 85 (by decide))
  have b33 := hd_b (F := F) (F' := F') (k := 33) (hF 33 (by decide))
  have a39 := hd_ba (F := F) (F' := F') (k := 39) (hF 39 (by decide))
  have t87 : sy_dv F' (.inr (.inl 87)) = .int ((sy_ai F 39).getD (sy_i F 33).toNatClampNeg 0) := hd_rd (hs 0 _ rfl) b33 a39
  have b23 := hd_b (F := F) (F' := F') (k := 23) (hF 23 (by decide))
  have t89 : sy_dv F' (.inr (.inl 89)) = .int ((sy_i F 23) + ((1 : Int32))) := hd_o (hs 2 _ rfl) b23 rfl rfl
  have a32 := hd_ba (F := F) (F' := F') (k := 32) (hF 32 (by decide))
  have t88 : sy_da F' (.inr (.inl 88)) = .inl (jm_upd (sy_ai F 32) (sy_i F 23).toNatClampNeg (((-11) : Int32))) := hd_up (hs 1 _ rfl) b23 rfl a32
  have b82 := hd_b (F := F) (F' := F') (k := 82) (hF 82 (by decide))
  have b83 := hd_b (F := F) (F' := F') (k := 83) (hF 83 (by decide))
  have t90 : sy_dv F' (.inr (.inl 90)) = .int ((sy_ai F 39).getD (sy_i F 33).toNatClampNeg 0) := hd_rd (hs 3 _ rfl) b33 a39
  have t91 : sy_dv F' (.inr (.inl 91)) = .int ((sy_i F 86) + ((1 : Int32))) := hd_o (hs 4 _ rfl) b86 rfl rfl
  have hB' : iv_in F' iv_B0 := iv_in_eq hB (fun j hj => hF j (Nat.lt_of_lt_of_le hj (by decide +kernel)))
  refine ⟨List.forall_mem_cons.mpr ⟨hd_p3 rfl b86 (by have hc : ((400) : Int32).toInt = 400 := (by decide); omega), List.forall_mem_cons.mpr ⟨hd_p1 b84 rfl (by have hc : ((0) : Int32).toInt = 0 := (by decide); omega), List.forall_mem_cons.mpr ⟨hd_p1 b85 rfl (by have hc : ((43) : Int32).toInt = 43 := (by decide); omega), List.forall_mem_cons.mpr ⟨hd_p0 b85 rfl (by have hc : ((45) : Int32).toInt = 45 := (by decide); omega), List.forall_mem_cons.mpr ⟨hd_p3 b33 rfl (by have hc : ((0) : Int32).toInt = 0 := (by decide); omega), List.forall_mem_cons.mpr ⟨hd_p3 rfl b33 (by have hc : ((400) : Int32).toInt = 400 := (by decide); omega), List.forall_mem_cons.mpr ⟨hd_pb b33 (by first | exact h6 | exact h6), List.forall_mem_cons.mpr ⟨hd_p0 t87 b85 h7, List.forall_mem_cons.mpr ⟨hd_p3 b33 rfl (by have hc : ((400) : Int32).toInt = 400 := (by decide); omega), List.forall_mem_cons.mpr ⟨hd_p1 b85 rfl (by have hc : ((43) : Int32).toInt = 43 := (by decide); omega), List.forall_mem_cons.mpr ⟨hd_p5 rfl b23 (by have hc : ((512) : Int32).toInt = 512 := (by decide); omega), List.forall_mem_cons.mpr ⟨hd_pb b23 (by first | exact h11 | exact h11), List.forall_mem_cons.mpr ⟨hd_p3 b33 rfl (by have hc : ((0) : Int32).toInt = 0 := (by decide); omega), List.forall_mem_cons.mpr ⟨hd_p3 rfl b33 (by have hc : ((400) : Int32).toInt = 400 := (by decide); omega), List.forall_mem_cons.mpr ⟨hd_pb b33 (by first | exact h14 | exact h14), fun _ h => absurd h List.not_mem_nil⟩⟩⟩⟩⟩⟩⟩⟩⟩⟩⟩⟩⟩⟩⟩, ?_⟩
  refine k _ ?_ ?_ ?_ ?_ ?_ ?_ ?_ ?_ ?_
  · exact fun j hj hn => (hd_keep hB' (Nat.lt_of_lt_of_le hj (by decide +kernel)) (by simp; omega)).trans (hF j (by omega))
  · exact hd_gi (x := .inr (.inl 89)) (by decide +kernel) t89
  · exact hd_ga (a := .inr (.inl 88)) (by decide +kernel) t88
  · exact hd_gi (x := .inl (.int 2)) (by decide +kernel) rfl
  · exact hd_gi (x := .inr (.inl 82)) (by decide +kernel) b82
  · exact hd_gi (x := .inr (.inl 83)) (by decide +kernel) b83
  · exact hd_gi (x := .inl (.int 0)) (by decide +kernel) rfl
  · exact hd_gi (x := .inr (.inl 90)) (by decide +kernel) t90
  · exact hd_gi (x := .inr (.inl 91)) (by decide +kernel) t91
theorem k0ps_23_p11 {Ls : Nat} {xs : Nat → Int32} {d : Nat} {Q : Option Value → jm_h → Prop} (hd : 4 ≤ d) (F : Nat → sy_d) (X1 X2 : List jm_c) (hB : iv_in F iv_B0)
    (h0 : (sy_i F 86).toInt ≤ 400)
    (h1 : (sy_i F 84).toInt ≠ 0)
    (h2 : (sy_i F 85).toInt ≠ 43)
    (h3 : (sy_i F 85).toInt = 45)
    (h4 : 0 ≤ (sy_i F 33).toInt)
    (h5 : (sy_i F 33).toInt ≤ 400)
    (h6 : 0 ≤ (sy_i F 33).toInt ∧ (sy_i F 33).toInt < 401)
    (h7 : ((sy_ai F 39).getD (sy_i F 33).toNatClampNeg 0).toInt ≠ (sy_i F 85).toInt)
    (h8 : (sy_i F 85).toInt ≠ 43)
    (h9 : 512 ≤ (sy_i F 23).toInt)
    (h10 : 0 ≤ (sy_i F 33).toInt)
    (h11 : (sy_i F 33).toInt ≤ 400)
    (h12 : 0 ≤ (sy_i F 33).toInt ∧ (sy_i F 33).toInt < 401)
    (k : ∀ F1 : Nat → sy_d, (∀ j, j < 82 → j ≠ 34 → F1 j = F j) → F1 34 = .inl (.int ((1 : Int32))) → F1 82 = .inl (.int (sy_i F 82)) → F1 83 = .inl (.int (sy_i F 83)) → F1 84 = .inl (.int ((0 : Int32))) → F1 85 = .inl (.int ((sy_ai F 39).getD (sy_i F 33).toNatClampNeg 0)) → F1 86 = .inl (.int ((sy_i F 86) + ((1 : Int32)))) → hd_W Ls xs d jm_M38 Q (23, sy_dL F1 [some (.inl (.ref 30)), some (.inr (.inl 82)), some (.inr (.inl 83)), some (.inr (.inl 84)), some (.inr (.inl 85)), some (.inr (.inl 86))], sy_dS F1 [], sy_dh F1 X1 X2 (iv_H 0), 0, 0)) :
    hd_W Ls xs d jm_M38 Q (23, sy_dL F [some (.inl (.ref 30)), some (.inr (.inl 82)), some (.inr (.inl 83)), some (.inr (.inl 84)), some (.inr (.inl 85)), some (.inr (.inl 86))], sy_dS F [], sy_dh F X1 X2 (iv_H 0), 0, 0) := by
  refine hd_run (s := 0) (nv := 87) (pc := 23) (L := [some (.inl (.ref 30)), some (.inr (.inl 82)), some (.inr (.inl 83)), some (.inr (.inl 84)), some (.inr (.inl 85)), some (.inr (.inl 86))]) (S := []) (uh := hd_ov (iv_id 0 iv_B0) [(34, .inl (.inl (.int 1)))]) (ul := [.inl (.inr (.inl 82)), .inl (.inr (.inl 83)), .inl (.inl (.int 0)), .inl (.inr (.inl 88)), .inl (.inr (.inl 89))]) (f := true) (sp := [23, 61]) (d0 := 3) (O := [false, false, false, false, false, false, false, true, true, false, false]) (T := [(30, [.inr (.inl 33)], [.inr (.inl 39)]), (30, [.inr (.inl 33)], [.inr (.inl 39)]), (0, [.inr (.inl 86), .inl (.int 1)], [])]) (P := [(3, .inl (.int 400), .inr (.inl 86)), (1, .inr (.inl 84), .inl (.int 0)), (1, .inr (.inl 85), .inl (.int 43)), (0, .inr (.inl 85), .inl (.int 45)), (3, .inr (.inl 33), .inl (.int 0)), (3, .inl (.int 400), .inr (.inl 33)), (6, .inr (.inl 33), .inl (.ref 401)), (1, .inr (.inl 87), .inr (.inl 85)), (1, .inr (.inl 85), .inl (.int 43)), (4, .inl (.int 512), .inr (.inl 23)), (3, .inr (.inl 33), .inl (.int 0)), (3, .inl (.int 400), .inr (.inl 33)), (6, .inr (.inl 33), .inl (.ref 401))]) jm_ok38 (by decide +kernel) (by decide +kernel) hd F X1 X2 (fun F' hF hs => ?_)
  have b86 := hd_b (F := F) (F' := F') (k := 86) (hF 86 (by decide))
  have b84 := hd_b (F := F) (F' := F') (k := 84) (hF 84 (by decide))
  have b85 := hd_b (F := F) (F' := F') (k := 85) (hF 85 (by decide))
  have b33 := hd_b (F := F) (F' := F') (k := 33) (hF 33 (by decide))
  have a39 := hd_ba (F := F) (F' := F') (k := 39) (hF 39 (by decide))
  have t87 : sy_dv F' (.inr (.inl 87)) = .int ((sy_ai F 39).getD (sy_i F 33).toNatClampNeg 0) := hd_rd (hs 0 _ rfl) b33 a39
  have b23 := hd_b (F := F) (F' := F') (k := 23) (hF 23 (by decide))
  have b82 := hd_b (F := F) (F' := F') (k := 82) (hF 82 (by decide))
  have b83 := hd_b (F := F) (F' := F') (k := 83) (hF 83 (by decide))
  have t88 : sy_dv F' (.inr (.inl 88)) = .int ((sy_ai F 39).getD (sy_i F 33).toNatClampNeg 0) := hd_rd (hs 1 _ rfl) b33 a39
  have t89 : sy_dv F' (.inr (.inl 89)) = .int ((sy_i F 86) + ((1 : Int32))) := hd_o (hs 2 _ rfl) b86 rfl rfl
  have hB' : iv_in F' iv_B0 := iv_in_eq hB (fun j hj => hF j (Nat.lt_of_lt_of_le hj (by decide +kernel)))
  refine ⟨List.forall_mem_cons.mpr ⟨hd_p3 rfl b86 (by have hc : ((400) : Int32).toInt = 400 := (by decide); omega), List.forall_mem_cons.mpr ⟨hd_p1 b84 rfl (by have hc : ((0) : Int32).toInt = 0 := (by decide); omega), List.forall_mem_cons.mpr ⟨hd_p1 b85 rfl (by have hc : ((43) : Int32).toInt = 43 := (by decide); omega), List.forall_mem_cons.mpr ⟨hd_p0 b85 rfl (by have hc : ((45) : Int32).toInt = 45 := (by decide); omega), List.forall_mem_cons.mpr ⟨hd_p3 b33 rfl (by have hc : ((0) : Int32).toInt = 0 := (by decide); omega), List.forall_mem_cons.mpr ⟨hd_p3 rfl b33 (by have hc : ((400) : Int32).toInt = 400 := (by decide); omega), List.forall_mem_cons.mpr ⟨hd_pb b33 (by first | exact h6 | exact h6), List.forall_mem_cons.mpr ⟨hd_p1 t87 b85 h7, List.forall_mem_cons.mpr ⟨hd_p1 b85 rfl (by have hc : ((43) : Int32).toInt = 43 := (by decide); omega), List.forall_mem_cons.mpr ⟨hd_p4 rfl b23 (by have hc : ((512) : Int32).toInt = 512 := (by decide); omega), List.forall_mem_cons.mpr ⟨hd_p3 b33 rfl (by have hc : ((0) : Int32).toInt = 0 := (by decide); omega), List.forall_mem_cons.mpr ⟨hd_p3 rfl b33 (by have hc : ((400) : Int32).toInt = 400 := (by decide); omega), List.forall_mem_cons.mpr ⟨hd_pb b33 (by first | exact h12 | exact h12), fun _ h => absurd h List.not_mem_nil⟩⟩⟩⟩⟩⟩⟩⟩⟩⟩⟩⟩⟩, ?_⟩
  refine k _ ?_ ?_ ?_ ?_ ?_ ?_ ?_
  · exact fun j hj hn => (hd_keep hB' (Nat.lt_of_lt_of_le hj (by decide +kernel)) (by simp; omega)).trans (hF j (by omega))
  · exact hd_gi (x := .inl (.int 1)) (by decide +kernel) rfl
  · exact hd_gi (x := .inr (.inl 82)) (by decide +kernel) b82
  · exact hd_gi (x := .inr (.inl 83)) (by decide +kernel) b83
  · exact hd_gi (x := .inl (.int 0)) (by decide +kernel) rfl
  · exact hd_gi (x := .inr (.inl 88)) (by decide +kernel) t88
  · exact hd_gi (x := .inr (.inl 89)) (by decide +kernel) t89
theorem k0ps_23_p12 {Ls : Nat} {xs : Nat → Int32} {d : Nat} {Q : Option Value → jm_h → Prop} (hd : 4 ≤ d) (F : Nat → sy_d) (X1 X2 : List jm_c) (hB : iv_in F iv_B0)
    (h0 : (sy_i F 86).toInt ≤ 400)
    (h1 : (sy_i F 84).toInt ≠ 0)
    (h2 : (sy_i F 85).toInt ≠ 43)
    (h3 : (sy_i F 85).toInt = 45)
    (h4 : 0 ≤ (sy_i F 33).toInt)
    (h5 : (sy_i F 33).toInt ≤ 400)
    (h6 : 0 ≤ (sy_i F 33).toInt ∧ (sy_i F 33).toInt < 401)
    (h7 : ((sy_ai F 39).getD (sy_i F 33).toNatClampNeg 0).toInt ≠ (sy_i F 85).toInt)
    (h8 : (sy_i F 85).toInt ≠ 43)
    (h9 : (sy_i F 23).toInt < 512)
    (h10 : 0 ≤ (sy_i F 23).toInt ∧ (sy_i F 23).toInt < 512)
    (h11 : 0 ≤ (sy_i F 33).toInt)
    (h12 : (sy_i F 33).toInt ≤ 400)
    (h13 : 0 ≤ (sy_i F 33).toInt ∧ (sy_i F 33).toInt < 401)
    (k : ∀ F1 : Nat → sy_d, (∀ j, j < 82 → j ≠ 23 ∧ j ≠ 32 ∧ j ≠ 34 → F1 j = F j) → F1 23 = .inl (.int ((sy_i F 23) + ((1 : Int32)))) → F1 32 = .inr (.inl (jm_upd (sy_ai F 32) (sy_i F 23).toNatClampNeg (((-11) : Int32)))) → F1 34 = .inl (.int ((1 : Int32))) → F1 82 = .inl (.int (sy_i F 82)) → F1 83 = .inl (.int (sy_i F 83)) → F1 84 = .inl (.int ((0 : Int32))) → F1 85 = .inl (.int ((sy_ai F 39).getD (sy_i F 33).toNatClampNeg 0)) → F1 86 = .inl (.int ((sy_i F 86) + ((1 : Int32)))) → hd_W Ls xs d jm_M38 Q (23, sy_dL F1 [some (.inl (.ref 30)), some (.inr (.inl 82)), some (.inr (.inl 83)), some (.inr (.inl 84)), some (.inr (.inl 85)), some (.inr (.inl 86))], sy_dS F1 [], sy_dh F1 X1 X2 (iv_H 0), 0, 0)) :
    hd_W Ls xs d jm_M38 Q (23, sy_dL F [some (.inl (.ref 30)), some (.inr (.inl 82)), some (.inr (.inl 83)), some (.inr (.inl 84)), some (.inr (.inl 85)), some (.inr (.inl 86))], sy_dS F [], sy_dh F X1 X2 (iv_H 0), 0, 0) := by
  refine hd_run (s := 0) (nv := 87) (pc := 23) (L := [some (.inl (.ref 30)), some (.inr (.inl 82)), some (.inr (.inl 83)), some (.inr (.inl 84)), some (.inr (.inl 85)), some (.inr (.inl 86))]) (S := []) (uh := hd_ov (iv_id 0 iv_B0) [(23, .inl (.inr (.inl 89))), (32, .inr (.inr (.inl 88))), (34, .inl (.inl (.int 1)))]) (ul := [.inl (.inr (.inl 82)), .inl (.inr (.inl 83)), .inl (.inl (.int 0)), .inl (.inr (.inl 90)), .inl (.inr (.inl 91))]) (f := true) (sp := [23, 61]) (d0 := 3) (O := [false, false, false, false, false, false, false, true, false, false, false]) (T := [(30, [.inr (.inl 33)], [.inr (.inl 39)]), (40, [.inr (.inl 23), .inl (.int (-11))], [.inr (.inl 32)]), (0, [.inr (.inl 23), .inl (.int 1)], []), (30, [.inr (.inl 33)], [.inr (.inl 39)]), (0, [.inr (.inl 86), .inl (.int 1)], [])]) (P := [(3, .inl (.int 400), .inr (.inl 86)), (1, .inr (.inl 84), .inl (.int 0)), (1, .inr (.inl 85), .inl (.int 43)), (0, .inr (.inl 85), .inl (.int 45)), (3, .inr (.inl 33), .inl (.int 0)), (3, .inl (.int 400), .inr (.inl 33)), (6, .inr (.inl 33), .inl (.ref 401)), (1, .inr (.inl 87), .inr (.inl 85)), (1, .inr (.inl 85), .inl (.int 43)), (5, .inl (.int 512), .inr (.inl 23)), (6, .inr (.inl 23), .inl (.ref 512)), (3, .inr (.inl 33), .inl (.int 0)), (3, .inl (.int 400), .inr (.inl 33)), (6, .inr (.inl 33), .inl (.ref 401))]) jm_ok38 (by decide +kernel) (by decide +kernel) hd F X1 X2 (fun F' hF hs => ?_)
  have b86 := hd_b (F := F) (F' := F') (k := 86) (hF 86 (by decide))
  have b84 := hd_b (F := F) (F' := F') (k := 84) (hF 84 (by decide))
  have b85 := hd_b (F := F) (F' := F') (k := 85) (hF 85 (by decide))
  have b33 := hd_b (F := F) (F' := F') (k := 33) (hF 33 (by decide))
  have a39 := hd_ba (F := F) (F' := F') (k := 39) (hF 39 (by decide))
  have t87 : sy_dv F' (.inr (.inl 87)) = .int ((sy_ai F 39).getD (sy_i F 33).toNatClampNeg 0) := hd_rd (hs 0 _ rfl) b33 a39
  have b23 := hd_b (F := F) (F' := F') (k := 23) (hF 23 (by decide))
  have t89 : sy_dv F' (.inr (.inl 89)) = .int ((sy_i F 23) + ((1 : Int32))) := hd_o (hs 2 _ rfl) b23 rfl rfl
  have a32 := hd_ba (F := F) (F' := F') (k := 32) (hF 32 (by decide))
  have t88 : sy_da F' (.inr (.inl 88)) = .inl (jm_upd (sy_ai F 32) (sy_i F 23).toNatClampNeg (((-11) : Int32))) := hd_up (hs 1 _ rfl) b23 rfl a32
  have b82 := hd_b (F := F) (F' := F') (k := 82) (hF 82 (by decide))
  have b83 := hd_b (F := F) (F' := F') (k := 83) (hF 83 (by decide))
  have t90 : sy_dv F' (.inr (.inl 90)) = .int ((sy_ai F 39).getD (sy_i F 33).toNatClampNeg 0) := hd_rd (hs 3 _ rfl) b33 a39
  have t91 : sy_dv F' (.inr (.inl 91)) = .int ((sy_i F 86) + ((1 : Int32))) := hd_o (hs 4 _ rfl) b86 rfl rfl
  have hB' : iv_in F' iv_B0 := iv_in_eq hB (fun j hj => hF j (Nat.lt_of_lt_of_le hj (by decide +kernel)))
  refine ⟨List.forall_mem_cons.mpr ⟨hd_p3 rfl b86 (by have hc : ((400) : Int32).toInt = 400 := (by decide); omega), List.forall_mem_cons.mpr ⟨hd_p1 b84 rfl (by have hc : ((0) : Int32).toInt = 0 := (by decide); omega), List.forall_mem_cons.mpr ⟨hd_p1 b85 rfl (by have hc : ((43) : Int32).toInt = 43 := (by decide); omega), List.forall_mem_cons.mpr ⟨hd_p0 b85 rfl (by have hc : ((45) : Int32).toInt = 45 := (by decide); omega), List.forall_mem_cons.mpr ⟨hd_p3 b33 rfl (by have hc : ((0) : Int32).toInt = 0 := (by decide); omega), List.forall_mem_cons.mpr ⟨hd_p3 rfl b33 (by have hc : ((400) : Int32).toInt = 400 := (by decide); omega), List.forall_mem_cons.mpr ⟨hd_pb b33 (by first | exact h6 | exact h6), List.forall_mem_cons.mpr ⟨hd_p1 t87 b85 h7, List.forall_mem_cons.mpr ⟨hd_p1 b85 rfl (by have hc : ((43) : Int32).toInt = 43 := (by decide); omega), List.forall_mem_cons.mpr ⟨hd_p5 rfl b23 (by have hc : ((512) : Int32).toInt = 512 := (by decide); omega), List.forall_mem_cons.mpr ⟨hd_pb b23 (by first | exact h10 | exact h10), List.forall_mem_cons.mpr ⟨hd_p3 b33 rfl (by have hc : ((0) : Int32).toInt = 0 := (by decide); omega), List.forall_mem_cons.mpr ⟨hd_p3 rfl b33 (by have hc : ((400) : Int32).toInt = 400 := (by decide); omega), List.forall_mem_cons.mpr ⟨hd_pb b33 (by first | exact h13 | exact h13), fun _ h => absurd h List.not_mem_nil⟩⟩⟩⟩⟩⟩⟩⟩⟩⟩⟩⟩⟩⟩, ?_⟩
  refine k _ ?_ ?_ ?_ ?_ ?_ ?_ ?_ ?_ ?_
  · exact fun j hj hn => (hd_keep hB' (Nat.lt_of_lt_of_le hj (by decide +kernel)) (by simp; omega)).trans (hF j (by omega))
  · exact hd_gi (x := .inr (.inl 89)) (by decide +kernel) t89
  · exact hd_ga (a := .inr (.inl 88)) (by decide +kernel) t88
  · exact hd_gi (x := .inl (.int 1)) (by decide +kernel) rfl
  · exact hd_gi (x := .inr (.inl 82)) (by decide +kernel) b82
  · exact hd_gi (x := .inr (.inl 83)) (by decide +kernel) b83
  · exact hd_gi (x := .inl (.int 0)) (by decide +kernel) rfl
  · exact hd_gi (x := .inr (.inl 90)) (by decide +kernel) t90
  · exact hd_gi (x := .inr (.inl 91)) (by decide +kernel) t91
theorem k0ps_23 {Ls : Nat} {xs : Nat → Int32} {d : Nat} {Q : Option Value → jm_h → Prop} (hd : 4 ≤ d) (F : Nat → sy_d) (X1 X2 : List jm_c) (hB : iv_in F iv_B0)
    (a86 : 0 ≤ (sy_i F 86).toInt ∧ (sy_i F 86).toInt ≤ 401)
    (o0 : 400 < (sy_i F 86).toInt → ((sy_i F 84).toInt = 0 ∨ (sy_i F 84).toInt = 1))
    (o1 : (sy_i F 86).toInt ≤ 400 → (sy_i F 84).toInt ≠ 0 → (sy_i F 85).toInt ≠ 43 → (sy_i F 85).toInt ≠ 45 → ((sy_i F 84).toInt = 0 ∨ (sy_i F 84).toInt = 1))
    (k0 : 400 < (sy_i F 86).toInt → ∀ F1 : Nat → sy_d, iv_in F1 iv_B0 → (∀ j, j < 82 → j ∉ ([] : List Nat) → F1 j = F j) → (sy_i F1 33).toInt = (sy_i F 33).toInt → (sy_i F1 34).toInt = (sy_i F 34).toInt → (sy_i F1 23).toInt = (sy_i F 23).toInt → sy_ai F1 39 = sy_ai F 39 → Q (some (.int (sy_i F 84))) (sy_dh F1 X1 X2 (iv_H 0)))
    (k1 : (sy_i F 86).toInt ≤ 400 → (sy_i F 84).toInt = 0 → ∀ F1 : Nat → sy_d, iv_in F1 iv_B0 → (∀ j, j < 82 → j ∉ ([] : List Nat) → F1 j = F j) → (sy_i F1 33).toInt = (sy_i F 33).toInt → (sy_i F1 34).toInt = (sy_i F 34).toInt → (sy_i F1 23).toInt = (sy_i F 23).toInt → sy_ai F1 39 = sy_ai F 39 → Q (some (.int (sy_i F 84))) (sy_dh F1 X1 X2 (iv_H 0)))
    (k2 : (sy_i F 86).toInt ≤ 400 → (sy_i F 84).toInt ≠ 0 → (sy_i F 85).toInt = 43 → 0 ≤ (sy_i F 33).toInt → (sy_i F 33).toInt ≤ 400 → ((sy_ai F 39).getD ((sy_i F 33).toInt).toNat 0).toInt = (sy_i F 85).toInt → (sy_i F 33).toInt < 400 → ∀ F1 : Nat → sy_d, iv_in F1 iv_B0 → (∀ j, j < 82 → j ∉ ([33] : List Nat) → F1 j = F j) → (sy_i F1 33).toInt = ((sy_i F 33).toInt + 1) → (sy_i F1 34).toInt = (sy_i F 34).toInt → (sy_i F1 23).toInt = (sy_i F 23).toInt → sy_ai F1 39 = sy_ai F 39 → (sy_i F1 82).toInt = (sy_i F 82).toInt → (sy_i F1 83).toInt = (sy_i F 83).toInt → (sy_i F1 84).toInt = (sy_i F 85).toInt → (sy_i F1 85).toInt = (sy_i F 86).toInt → hd_W Ls xs d jm_M38 Q (61, sy_dL F1 [some (.inl (.ref 30)), some (.inr (.inl 82)), some (.inr (.inl 83)), none, some (.inr (.inl 84)), some (.inr (.inl 85))], sy_dS F1 [.inr (.inl 83), .inr (.inl 82), .inl (.ref 30)], sy_dh F1 X1 X2 (iv_H 0), 0, 0))
    (k3 : (sy_i F 86).toInt ≤ 400 → (sy_i F 84).toInt ≠ 0 → (sy_i F 85).toInt = 43 → 0 ≤ (sy_i F 33).toInt → (sy_i F 33).toInt ≤ 400 → ((sy_ai F 39).getD ((sy_i F 33).toInt).toNat 0).toInt = (sy_i F 85).toInt → 400 ≤ (sy_i F 33).toInt → (sy_i F 85).toInt = 43 → 512 ≤ (sy_i F 23).toInt → 0 ≤ (sy_i F 33).toInt → (sy_i F 33).toInt ≤ 400 → ∀ F1 : Nat → sy_d, iv_in F1 iv_B0 → (∀ j, j < 82 → j ∉ ([34] : List Nat) → F1 j = F j) → (sy_i F1 33).toInt = (sy_i F 33).toInt → (sy_i F1 34).toInt = 2 → (sy_i F1 23).toInt = (sy_i F 23).toInt → sy_ai F1 39 = sy_ai F 39 → (sy_i F1 82).toInt = (sy_i F 82).toInt → (sy_i F1 83).toInt = (sy_i F 83).toInt → (sy_i F1 84).toInt = 0 → (sy_i F1 85).toInt = ((sy_ai F 39).getD ((sy_i F 33).toInt).toNat 0).toInt → (sy_i F1 86).toInt = ((sy_i F 86).toInt + 1) → hd_W Ls xs d jm_M38 Q (23, sy_dL F1 [some (.inl (.ref 30)), some (.inr (.inl 82)), some (.inr (.inl 83)), some (.inr (.inl 84)), some (.inr (.inl 85)), some (.inr (.inl 86))], sy_dS F1 [], sy_dh F1 X1 X2 (iv_H 0), 0, 0))
    (k4 : (sy_i F 86).toInt ≤ 400 → (sy_i F 84).toInt ≠ 0 → (sy_i F 85).toInt = 43 → 0 ≤ (sy_i F 33).toInt → (sy_i F 33).toInt ≤ 400 → ((sy_ai F 39).getD ((sy_i F 33).toInt).toNat 0).toInt = (sy_i F 85).toInt → 400 ≤ (sy_i F 33).toInt → (sy_i F 85).toInt = 43 → (sy_i F 23).toInt < 512 → 0 ≤ (sy_i F 33).toInt → (sy_i F 33).toInt ≤ 400 → ∀ F1 : Nat → sy_d, iv_in F1 iv_B0 → (∀ j, j < 82 → j ∉ ([23, 32, 34] : List Nat) → F1 j = F j) → (sy_i F1 33).toInt = (sy_i F 33).toInt → (sy_i F1 34).toInt = 2 → (sy_i F1 23).toInt = ((sy_i F 23).toInt + 1) → sy_ai F1 39 = sy_ai F 39 → (sy_i F1 82).toInt = (sy_i F 82).toInt → (sy_i F1 83).toInt = (sy_i F 83).toInt → (sy_i F1 84).toInt = 0 → (sy_i F1 85).toInt = ((sy_ai F 39).getD ((sy_i F 33).toInt).toNat 0).toInt → (sy_i F1 86).toInt = ((sy_i F 86).toInt + 1) → hd_W Ls xs d jm_M38 Q (23, sy_dL F1 [some (.inl (.ref 30)), some (.inr (.inl 82)), some (.inr (.inl 83)), some (.inr (.inl 84)), some (.inr (.inl 85)), some (.inr (.inl 86))], sy_dS F1 [], sy_dh F1 X1 X2 (iv_H 0), 0, 0))
    (k5 : (sy_i F 86).toInt ≤ 400 → (sy_i F 84).toInt ≠ 0 → (sy_i F 85).toInt = 43 → 0 ≤ (sy_i F 33).toInt → (sy_i F 33).toInt ≤ 400 → ((sy_ai F 39).getD ((sy_i F 33).toInt).toNat 0).toInt ≠ (sy_i F 85).toInt → (sy_i F 85).toInt = 43 → 512 ≤ (sy_i F 23).toInt → 0 ≤ (sy_i F 33).toInt → (sy_i F 33).toInt ≤ 400 → ∀ F1 : Nat → sy_d, iv_in F1 iv_B0 → (∀ j, j < 82 → j ∉ ([34] : List Nat) → F1 j = F j) → (sy_i F1 33).toInt = (sy_i F 33).toInt → (sy_i F1 34).toInt = 1 → (sy_i F1 23).toInt = (sy_i F 23).toInt → sy_ai F1 39 = sy_ai F 39 → (sy_i F1 82).toInt = (sy_i F 82).toInt → (sy_i F1 83).toInt = (sy_i F 83).toInt → (sy_i F1 84).toInt = 0 → (sy_i F1 85).toInt = ((sy_ai F 39).getD ((sy_i F 33).toInt).toNat 0).toInt → (sy_i F1 86).toInt = ((sy_i F 86).toInt + 1) → hd_W Ls xs d jm_M38 Q (23, sy_dL F1 [some (.inl (.ref 30)), some (.inr (.inl 82)), some (.inr (.inl 83)), some (.inr (.inl 84)), some (.inr (.inl 85)), some (.inr (.inl 86))], sy_dS F1 [], sy_dh F1 X1 X2 (iv_H 0), 0, 0))
    (k6 : (sy_i F 86).toInt ≤ 400 → (sy_i F 84).toInt ≠ 0 → (sy_i F 85).toInt = 43 → 0 ≤ (sy_i F 33).toInt → (sy_i F 33).toInt ≤ 400 → ((sy_ai F 39).getD ((sy_i F 33).toInt).toNat 0).toInt ≠ (sy_i F 85).toInt → (sy_i F 85).toInt = 43 → (sy_i F 23).toInt < 512 → 0 ≤ (sy_i F 33).toInt → (sy_i F 33).toInt ≤ 400 → ∀ F1 : Nat → sy_d, iv_in F1 iv_B0 → (∀ j, j < 82 → j ∉ ([23, 32, 34] : List Nat) → F1 j = F j) → (sy_i F1 33).toInt = (sy_i F 33).toInt → (sy_i F1 34).toInt = 1 → (sy_i F1 23).toInt = ((sy_i F 23).toInt + 1) → sy_ai F1 39 = sy_ai F 39 → (sy_i F1 82).toInt = (sy_i F 82).toInt → (sy_i F1 83).toInt = (sy_i F 83).toInt → (sy_i F1 84).toInt = 0 → (sy_i F1 85).toInt = ((sy_ai F 39).getD ((sy_i F 33).toInt).toNat 0).toInt → (sy_i F1 86).toInt = ((sy_i F 86).toInt + 1) → hd_W Ls xs d jm_M38 Q (23, sy_dL F1 [some (.inl (.ref 30)), some (.inr (.inl 82)), some (.inr (.inl 83)), some (.inr (.inl 84)), some (.inr (.inl 85)), some (.inr (.inl 86))], sy_dS F1 [], sy_dh F1 X1 X2 (iv_H 0), 0, 0))
    (k7 : (sy_i F 86).toInt ≤ 400 → (sy_i F 84).toInt ≠ 0 → (sy_i F 85).toInt ≠ 43 → (sy_i F 85).toInt ≠ 45 → ∀ F1 : Nat → sy_d, iv_in F1 iv_B0 → (∀ j, j < 82 → j ∉ ([] : List Nat) → F1 j = F j) → (sy_i F1 33).toInt = (sy_i F 33).toInt → (sy_i F1 34).toInt = (sy_i F 34).toInt → (sy_i F1 23).toInt = (sy_i F 23).toInt → sy_ai F1 39 = sy_ai F 39 → Q (some (.int (sy_i F 84))) (sy_dh F1 X1 X2 (iv_H 0)))
    (k8 : (sy_i F 86).toInt ≤ 400 → (sy_i F 84).toInt ≠ 0 → (sy_i F 85).toInt ≠ 43 → (sy_i F 85).toInt = 45 → 0 ≤ (sy_i F 33).toInt → (sy_i F 33).toInt ≤ 400 → ((sy_ai F 39).getD ((sy_i F 33).toInt).toNat 0).toInt = (sy_i F 85).toInt → (sy_i F 33).toInt < 400 → ∀ F1 : Nat → sy_d, iv_in F1 iv_B0 → (∀ j, j < 82 → j ∉ ([33] : List Nat) → F1 j = F j) → (sy_i F1 33).toInt = ((sy_i F 33).toInt + 1) → (sy_i F1 34).toInt = (sy_i F 34).toInt → (sy_i F1 23).toInt = (sy_i F 23).toInt → sy_ai F1 39 = sy_ai F 39 → (sy_i F1 82).toInt = (sy_i F 82).toInt → (sy_i F1 83).toInt = (sy_i F 83).toInt → (sy_i F1 84).toInt = (sy_i F 85).toInt → (sy_i F1 85).toInt = (sy_i F 86).toInt → hd_W Ls xs d jm_M38 Q (61, sy_dL F1 [some (.inl (.ref 30)), some (.inr (.inl 82)), some (.inr (.inl 83)), none, some (.inr (.inl 84)), some (.inr (.inl 85))], sy_dS F1 [.inr (.inl 83), .inr (.inl 82), .inl (.ref 30)], sy_dh F1 X1 X2 (iv_H 0), 0, 0))
    (k9 : (sy_i F 86).toInt ≤ 400 → (sy_i F 84).toInt ≠ 0 → (sy_i F 85).toInt ≠ 43 → (sy_i F 85).toInt = 45 → 0 ≤ (sy_i F 33).toInt → (sy_i F 33).toInt ≤ 400 → ((sy_ai F 39).getD ((sy_i F 33).toInt).toNat 0).toInt = (sy_i F 85).toInt → 400 ≤ (sy_i F 33).toInt → (sy_i F 85).toInt ≠ 43 → 512 ≤ (sy_i F 23).toInt → 0 ≤ (sy_i F 33).toInt → (sy_i F 33).toInt ≤ 400 → ∀ F1 : Nat → sy_d, iv_in F1 iv_B0 → (∀ j, j < 82 → j ∉ ([34] : List Nat) → F1 j = F j) → (sy_i F1 33).toInt = (sy_i F 33).toInt → (sy_i F1 34).toInt = 2 → (sy_i F1 23).toInt = (sy_i F 23).toInt → sy_ai F1 39 = sy_ai F 39 → (sy_i F1 82).toInt = (sy_i F 82).toInt → (sy_i F1 83).toInt = (sy_i F 83).toInt → (sy_i F1 84).toInt = 0 → (sy_i F1 85).toInt = ((sy_ai F 39).getD ((sy_i F 33).toInt).toNat 0).toInt → (sy_i F1 86).toInt = ((sy_i F 86).toInt + 1) → hd_W Ls xs d jm_M38 Q (23, sy_dL F1 [some (.inl (.ref 30)), some (.inr (.inl 82)), some (.inr (.inl 83)), some (.inr (.inl 84)), some (.inr (.inl 85)), some (.inr (.inl 86))], sy_dS F1 [], sy_dh F1 X1 X2 (iv_H 0), 0, 0))
    (k10 : (sy_i F 86).toInt ≤ 400 → (sy_i F 84).toInt ≠ 0 → (sy_i F 85).toInt ≠ 43 → (sy_i F 85).toInt = 45 → 0 ≤ (sy_i F 33).toInt → (sy_i F 33).toInt ≤ 400 → ((sy_ai F 39).getD ((sy_i F 33).toInt).toNat 0).toInt = (sy_i F 85).toInt → 400 ≤ (sy_i F 33).toInt → (sy_i F 85).toInt ≠ 43 → (sy_i F 23).toInt < 512 → 0 ≤ (sy_i F 33).toInt → (sy_i F 33).toInt ≤ 400 → ∀ F1 : Nat → sy_d, iv_in F1 iv_B0 → (∀ j, j < 82 → j ∉ ([23, 32, 34] : List Nat) → F1 j = F j) → (sy_i F1 33).toInt = (sy_i F 33).toInt → (sy_i F1 34).toInt = 2 → (sy_i F1 23).toInt = ((sy_i F 23).toInt + 1) → sy_ai F1 39 = sy_ai F 39 → (sy_i F1 82).toInt = (sy_i F 82).toInt → (sy_i F1 83).toInt = (sy_i F 83).toInt → (sy_i F1 84).toInt = 0 → (sy_i F1 85).toInt = ((sy_ai F 39).getD ((sy_i F 33).toInt).toNat 0).toInt → (sy_i F1 86).toInt = ((sy_i F 86).toInt + 1) → hd_W Ls xs d jm_M38 Q (23, sy_dL F1 [some (.inl (.ref 30)), some (.inr (.inl 82)), some (.inr (.inl 83)), some (.inr (.inl 84)), some (.inr (.inl 85)), some (.inr (.inl 86))], sy_dS F1 [], sy_dh F1 X1 X2 (iv_H 0), 0, 0))
    (k11 : (sy_i F 86).toInt ≤ 400 → (sy_i F 84).toInt ≠ 0 → (sy_i F 85).toInt ≠ 43 → (sy_i F 85).toInt = 45 → 0 ≤ (sy_i F 33).toInt → (sy_i F 33).toInt ≤ 400 → ((sy_ai F 39).getD ((sy_i F 33).toInt).toNat 0).toInt ≠ (sy_i F 85).toInt → (sy_i F 85).toInt ≠ 43 → 512 ≤ (sy_i F 23).toInt → 0 ≤ (sy_i F 33).toInt → (sy_i F 33).toInt ≤ 400 → ∀ F1 : Nat → sy_d, iv_in F1 iv_B0 → (∀ j, j < 82 → j ∉ ([34] : List Nat) → F1 j = F j) → (sy_i F1 33).toInt = (sy_i F 33).toInt → (sy_i F1 34).toInt = 1 → (sy_i F1 23).toInt = (sy_i F 23).toInt → sy_ai F1 39 = sy_ai F 39 → (sy_i F1 82).toInt = (sy_i F 82).toInt → (sy_i F1 83).toInt = (sy_i F 83).toInt → (sy_i F1 84).toInt = 0 → (sy_i F1 85).toInt = ((sy_ai F 39).getD ((sy_i F 33).toInt).toNat 0).toInt → (sy_i F1 86).toInt = ((sy_i F 86).toInt + 1) → hd_W Ls xs d jm_M38 Q (23, sy_dL F1 [some (.inl (.ref 30)), some (.inr (.inl 82)), some (.inr (.inl 83)), some (.inr (.inl 84)), some (.inr (.inl 85)), some (.inr (.inl 86))], sy_dS F1 [], sy_dh F1 X1 X2 (iv_H 0), 0, 0))
    (k12 : (sy_i F 86).toInt ≤ 400 → (sy_i F 84).toInt ≠ 0 → (sy_i F 85).toInt ≠ 43 → (sy_i F 85).toInt = 45 → 0 ≤ (sy_i F 33).toInt → (sy_i F 33).toInt ≤ 400 → ((sy_ai F 39).getD ((sy_i F 33).toInt).toNat 0).toInt ≠ (sy_i F 85).toInt → (sy_i F 85).toInt ≠ 43 → (sy_i F 23).toInt < 512 → 0 ≤ (sy_i F 33).toInt → (sy_i F 33).toInt ≤ 400 → ∀ F1 : Nat → sy_d, iv_in F1 iv_B0 → (∀ j, j < 82 → j ∉ ([23, 32, 34] : List Nat) → F1 j = F j) → (sy_i F1 33).toInt = (sy_i F 33).toInt → (sy_i F1 34).toInt = 1 → (sy_i F1 23).toInt = ((sy_i F 23).toInt + 1) → sy_ai F1 39 = sy_ai F 39 → (sy_i F1 82).toInt = (sy_i F 82).toInt → (sy_i F1 83).toInt = (sy_i F 83).toInt → (sy_i F1 84).toInt = 0 → (sy_i F1 85).toInt = ((sy_ai F 39).getD ((sy_i F 33).toInt).toNat 0).toInt → (sy_i F1 86).toInt = ((sy_i F 86).toInt + 1) → hd_W Ls xs d jm_M38 Q (23, sy_dL F1 [some (.inl (.ref 30)), some (.inr (.inl 82)), some (.inr (.inl 83)), some (.inr (.inl 84)), some (.inr (.inl 85)), some (.inr (.inl 86))], sy_dS F1 [], sy_dh F1 X1 X2 (iv_H 0), 0, 0)) :
    hd_W Ls xs d jm_M38 Q (23, sy_dL F [some (.inl (.ref 30)), some (.inr (.inl 82)), some (.inr (.inl 83)), some (.inr (.inl 84)), some (.inr (.inl 85)), some (.inr (.inl 86))], sy_dS F [], sy_dh F X1 X2 (iv_H 0), 0, 0) := by
  by_cases g0 : 400 < (sy_i F 86).toInt
  · exact k0ps_23_p0 hd F X1 X2 hB (by first | exact g0 | (simp only [nz_c]; exact g0)) (by first | exact (o0 g0) | (simp only [nz_c]; exact (o0 g0))) (fun F1 g  => by rw [(rfl : sy_i F 84 = sy_i F 84)]; exact k0 g0 F1 (nz_in0 hB [] (fun j hj hn => g j hj (by simp only [List.mem_cons, List.not_mem_nil, or_false, not_or] at hn; exact trivial)) (List.forall_mem_nil _)) (fun j hj hn => g j hj (by simp only [List.mem_cons, List.not_mem_nil, or_false, not_or] at hn; exact trivial)) (nz_fi (g 33 (by decide) (by decide))) (nz_fi (g 34 (by decide) (by decide))) (nz_fi (g 23 (by decide) (by decide))) (nz_fa (g 39 (by decide) (by decide))))
  replace g0 : (sy_i F 86).toInt ≤ 400 := by omega
  by_cases g1 : (sy_i F 84).toInt = 0
  · exact k0ps_23_p1 hd F X1 X2 hB (by first | exact g0 | (simp only [nz_c]; exact g0)) (by first | exact g1 | (simp only [nz_c]; exact g1)) (by first | exact (by omega) | (simp only [nz_c]; exact (by omega))) (fun F1 g  => by rw [(rfl : sy_i F 84 = sy_i F 84)]; exact k1 g0 g1 F1 (nz_in0 hB [] (fun j hj hn => g j hj (by simp only [List.mem_cons, List.not_mem_nil, or_false, not_or] at hn; exact trivial)) (List.forall_mem_nil _)) (fun j hj hn => g j hj (by simp only [List.mem_cons, List.not_mem_nil, or_false, not_or] at hn; exact trivial)) (nz_fi (g 33 (by decide) (by decide))) (nz_fi (g 34 (by decide) (by decide))) (nz_fi (g 23 (by decide) (by decide))) (nz_fa (g 39 (by decide) (by decide))))
  replace g1 : (sy_i F 84).toInt ≠ 0 := by omega
  by_cases g2 : (sy_i F 85).toInt = 43
  · by_cases g3 : (sy_i F 33).toInt < 0
    · have c33 := nz_bx hB (k := 33) (lo := 0) (hi := 400) rfl
      exfalso
      omega
    replace g3 : 0 ≤ (sy_i F 33).toInt := by omega
    by_cases g4 : 400 < (sy_i F 33).toInt
    · have c33 := nz_bx hB (k := 33) (lo := 0) (hi := 400) rfl
      exfalso
      omega
    replace g4 : (sy_i F 33).toInt ≤ 400 := by omega
    by_cases g5 : ((sy_ai F 39).getD ((sy_i F 33).toInt).toNat 0).toInt = (sy_i F 85).toInt
    · by_cases g6 : (sy_i F 33).toInt < 400
      · have c33 := nz_bx hB (k := 33) (lo := 0) (hi := 400) rfl
        have q87 : (sy_ai F 39).getD (sy_i F 33).toNatClampNeg 0 = (sy_ai F 39).getD ((sy_i F 33).toInt).toNat 0 := by simp only [nz_c]
        have n87 : ((sy_ai F 39).getD (sy_i F 33).toNatClampNeg 0).toInt = ((sy_ai F 39).getD ((sy_i F 33).toInt).toNat 0).toInt := congrArg Int32.toInt q87
        have n88 : ((sy_i F 33) + ((1 : Int32))).toInt = ((sy_i F 33).toInt + 1) := nz_add (rfl : (sy_i F 33).toInt = (sy_i F 33).toInt) (by decide : ((1 : Int32)).toInt = 1) (by omega) (by omega)
        exact k0ps_23_p2 hd F X1 X2 hB (by first | exact g0 | (simp only [nz_c]; exact g0)) (by first | exact g1 | (simp only [nz_c]; exact g1)) (by first | exact g2 | (simp only [nz_c]; exact g2)) (by first | exact g3 | (simp only [nz_c]; exact g3)) (by first | exact g4 | (simp only [nz_c]; exact g4)) (by first | exact ⟨by omega, by omega⟩ | (simp only [nz_c]; exact ⟨by omega, by omega⟩)) (by first | exact g5 | (simp only [nz_c]; exact g5) | (rw [n87]; exact g5)) (by first | exact g6 | (simp only [nz_c]; exact g6)) (fun F1 g e33 e82 e83 e84 e85 => k2 g0 g1 g2 g3 g4 g5 g6 F1 (nz_in0 hB [33] (fun j hj hn => g j hj (by simp only [List.mem_cons, List.not_mem_nil, or_false, not_or] at hn; omega)) (List.forall_mem_cons.mpr ⟨fun t ht => (Option.some.inj ht) ▸ (nz_hi e33 n88 (by omega) (by omega)), List.forall_mem_nil _⟩)) (fun j hj hn => g j hj (by simp only [List.mem_cons, List.not_mem_nil, or_false, not_or] at hn; omega)) ((congrArg Int32.toInt (zz_i e33)).trans n88) (nz_fi (g 34 (by decide) (by decide))) (nz_fi (g 23 (by decide) (by decide))) (nz_fa (g 39 (by decide) (by decide))) ((congrArg Int32.toInt (zz_i e82)).trans (rfl : (sy_i F 82).toInt = (sy_i F 82).toInt)) ((congrArg Int32.toInt (zz_i e83)).trans (rfl : (sy_i F 83).toInt = (sy_i F 83).toInt)) ((congrArg Int32.toInt (zz_i e84)).trans (rfl : (sy_i F 85).toInt = (sy_i F 85).toInt)) ((congrArg Int32.toInt (zz_i e85)).trans (rfl : (sy_i F 86).toInt = (sy_i F 86).toInt)))
      replace g6 : 400 ≤ (sy_i F 33).toInt := by omega
      by_cases g7 : (sy_i F 85).toInt ≠ 43
      · have c33 := nz_bx hB (k := 33) (lo := 0) (hi := 400) rfl
        have q87 : (sy_ai F 39).getD (sy_i F 33).toNatClampNeg 0 = (sy_ai F 39).getD ((sy_i F 33).toInt).toNat 0 := by simp only [nz_c]
        have n87 : ((sy_ai F 39).getD (sy_i F 33).toNatClampNeg 0).toInt = ((sy_ai F 39).getD ((sy_i F 33).toInt).toNat 0).toInt := congrArg Int32.toInt q87
        exfalso
        omega
      replace g7 : (sy_i F 85).toInt = 43 := by omega
      by_cases g8 : 512 ≤ (sy_i F 23).toInt
      · by_cases g9 : (sy_i F 33).toInt < 0
        · have c33 := nz_bx hB (k := 33) (lo := 0) (hi := 400) rfl
          have q87 : (sy_ai F 39).getD (sy_i F 33).toNatClampNeg 0 = (sy_ai F 39).getD ((sy_i F 33).toInt).toNat 0 := by simp only [nz_c]
          have n87 : ((sy_ai F 39).getD (sy_i F 33).toNatClampNeg 0).toInt = ((sy_ai F 39).getD ((sy_i F 33).toInt).toNat 0).toInt := congrArg Int32.toInt q87
          have c23 := nz_bx hB (k := 23) (lo := 0) (hi := 512) rfl
          exfalso
          omega
        replace g9 : 0 ≤ (sy_i F 33).toInt := by omega
        by_cases g10 : 400 < (sy_i F 33).toInt
        · have c33 := nz_bx hB (k := 33) (lo := 0) (hi := 400) rfl
          have q87 : (sy_ai F 39).getD (sy_i F 33).toNatClampNeg 0 = (sy_ai F 39).getD ((sy_i F 33).toInt).toNat 0 := by simp only [nz_c]
          have n87 : ((sy_ai F 39).getD (sy_i F 33).toNatClampNeg 0).toInt = ((sy_ai F 39).getD ((sy_i F 33).toInt).toNat 0).toInt := congrArg Int32.toInt q87
          have c23 := nz_bx hB (k := 23) (lo := 0) (hi := 512) rfl
          exfalso
          omega
        replace g10 : (sy_i F 33).toInt ≤ 400 := by omega
        have c33 := nz_bx hB (k := 33) (lo := 0) (hi := 400) rfl
        have q87 : (sy_ai F 39).getD (sy_i F 33).toNatClampNeg 0 = (sy_ai F 39).getD ((sy_i F 33).toInt).toNat 0 := by simp only [nz_c]
        have n87 : ((sy_ai F 39).getD (sy_i F 33).toNatClampNeg 0).toInt = ((sy_ai F 39).getD ((sy_i F 33).toInt).toNat 0).toInt := congrArg Int32.toInt q87
        have c23 := nz_bx hB (k := 23) (lo := 0) (hi := 512) rfl
        have q88 : (sy_ai F 39).getD (sy_i F 33).toNatClampNeg 0 = (sy_ai F 39).getD ((sy_i F 33).toInt).toNat 0 := by simp only [nz_c]
        have n88 : ((sy_ai F 39).getD (sy_i F 33).toNatClampNeg 0).toInt = ((sy_ai F 39).getD ((sy_i F 33).toInt).toNat 0).toInt := congrArg Int32.toInt q88
        have n89 : ((sy_i F 86) + ((1 : Int32))).toInt = ((sy_i F 86).toInt + 1) := nz_add (rfl : (sy_i F 86).toInt = (sy_i F 86).toInt) (by decide : ((1 : Int32)).toInt = 1) (by omega) (by omega)
        exact k0ps_23_p3 hd F X1 X2 hB (by first | exact g0 | (simp only [nz_c]; exact g0)) (by first | exact g1 | (simp only [nz_c]; exact g1)) (by first | exact g2 | (simp only [nz_c]; exact g2)) (by first | exact g3 | (simp only [nz_c]; exact g3)) (by first | exact g4 | (simp only [nz_c]; exact g4)) (by first | exact ⟨by omega, by omega⟩ | (simp only [nz_c]; exact ⟨by omega, by omega⟩)) (by first | exact g5 | (simp only [nz_c]; exact g5) | (rw [n87]; exact g5)) (by first | exact g6 | (simp only [nz_c]; exact g6)) (by first | exact g7 | (simp only [nz_c]; exact g7)) (by first | exact g8 | (simp only [nz_c]; exact g8)) (by first | exact g9 | (simp only [nz_c]; exact g9)) (by first | exact g10 | (simp only [nz_c]; exact g10)) (by first | exact ⟨by omega, by omega⟩ | (simp only [nz_c]; exact ⟨by omega, by omega⟩)) (fun F1 g e34 e82 e83 e84 e85 e86 => k3 g0 g1 g2 g3 g4 g5 g6 g7 g8 g9 g10 F1 (nz_in0 hB [34] (fun j hj hn => g j hj (by simp only [List.mem_cons, List.not_mem_nil, or_false, not_or] at hn; omega)) (List.forall_mem_cons.mpr ⟨fun t ht => (Option.some.inj ht) ▸ (nz_hz e34), List.forall_mem_nil _⟩)) (fun j hj hn => g j hj (by simp only [List.mem_cons, List.not_mem_nil, or_false, not_or] at hn; omega)) (nz_fi (g 33 (by decide) (by decide))) ((congrArg Int32.toInt (zz_i e34)).trans (by decide : ((2 : Int32)).toInt = 2)) (nz_fi (g 23 (by decide) (by decide))) (nz_fa (g 39 (by decide) (by decide))) ((congrArg Int32.toInt (zz_i e82)).trans (rfl : (sy_i F 82).toInt = (sy_i F 82).toInt)) ((congrArg Int32.toInt (zz_i e83)).trans (rfl : (sy_i F 83).toInt = (sy_i F 83).toInt)) ((congrArg Int32.toInt (zz_i e84)).trans (by decide : ((0 : Int32)).toInt = 0)) ((congrArg Int32.toInt (zz_i e85)).trans n88) ((congrArg Int32.toInt (zz_i e86)).trans n89))
      replace g8 : (sy_i F 23).toInt < 512 := by omega
      by_cases g9 : (sy_i F 33).toInt < 0
      · have c33 := nz_bx hB (k := 33) (lo := 0) (hi := 400) rfl
        have q87 : (sy_ai F 39).getD (sy_i F 33).toNatClampNeg 0 = (sy_ai F 39).getD ((sy_i F 33).toInt).toNat 0 := by simp only [nz_c]
        have n87 : ((sy_ai F 39).getD (sy_i F 33).toNatClampNeg 0).toInt = ((sy_ai F 39).getD ((sy_i F 33).toInt).toNat 0).toInt := congrArg Int32.toInt q87
        have c23 := nz_bx hB (k := 23) (lo := 0) (hi := 512) rfl
        exfalso
        omega
      replace g9 : 0 ≤ (sy_i F 33).toInt := by omega
      by_cases g10 : 400 < (sy_i F 33).toInt
      · have c33 := nz_bx hB (k := 33) (lo := 0) (hi := 400) rfl
        have q87 : (sy_ai F 39).getD (sy_i F 33).toNatClampNeg 0 = (sy_ai F 39).getD ((sy_i F 33).toInt).toNat 0 := by simp only [nz_c]
        have n87 : ((sy_ai F 39).getD (sy_i F 33).toNatClampNeg 0).toInt = ((sy_ai F 39).getD ((sy_i F 33).toInt).toNat 0).toInt := congrArg Int32.toInt q87
        have c23 := nz_bx hB (k := 23) (lo := 0) (hi := 512) rfl
        exfalso
        omega
      replace g10 : (sy_i F 33).toInt ≤ 400 := by omega
      have c33 := nz_bx hB (k := 33) (lo := 0) (hi := 400) rfl
      have q87 : (sy_ai F 39).getD (sy_i F 33).toNatClampNeg 0 = (sy_ai F 39).getD ((sy_i F 33).toInt).toNat 0 := by simp only [nz_c]
      have n87 : ((sy_ai F 39).getD (sy_i F 33).toNatClampNeg 0).toInt = ((sy_ai F 39).getD ((sy_i F 33).toInt).toNat 0).toInt := congrArg Int32.toInt q87
      have c23 := nz_bx hB (k := 23) (lo := 0) (hi := 512) rfl
      have n89 : ((sy_i F 23) + ((1 : Int32))).toInt = ((sy_i F 23).toInt + 1) := nz_add (rfl : (sy_i F 23).toInt = (sy_i F 23).toInt) (by decide : ((1 : Int32)).toInt = 1) (by omega) (by omega)
      have q90 : (sy_ai F 39).getD (sy_i F 33).toNatClampNeg 0 = (sy_ai F 39).getD ((sy_i F 33).toInt).toNat 0 := by simp only [nz_c]
      have n90 : ((sy_ai F 39).getD (sy_i F 33).toNatClampNeg 0).toInt = ((sy_ai F 39).getD ((sy_i F 33).toInt).toNat 0).toInt := congrArg Int32.toInt q90
      have n91 : ((sy_i F 86) + ((1 : Int32))).toInt = ((sy_i F 86).toInt + 1) := nz_add (rfl : (sy_i F 86).toInt = (sy_i F 86).toInt) (by decide : ((1 : Int32)).toInt = 1) (by omega) (by omega)
      exact k0ps_23_p4 hd F X1 X2 hB (by first | exact g0 | (simp only [nz_c]; exact g0)) (by first | exact g1 | (simp only [nz_c]; exact g1)) (by first | exact g2 | (simp only [nz_c]; exact g2)) (by first | exact g3 | (simp only [nz_c]; exact g3)) (by first | exact g4 | (simp only [nz_c]; exact g4)) (by first | exact ⟨by omega, by omega⟩ | (simp only [nz_c]; exact ⟨by omega, by omega⟩)) (by first | exact g5 | (simp only [nz_c]; exact g5) | (rw [n87]; exact g5)) (by first | exact g6 | (simp only [nz_c]; exact g6)) (by first | exact g7 | (simp only [nz_c]; exact g7)) (by first | exact g8 | (simp only [nz_c]; exact g8)) (by first | exact ⟨by omega, by omega⟩ | (simp only [nz_c]; exact ⟨by omega, by omega⟩)) (by first | exact g9 | (simp only [nz_c]; exact g9)) (by first | exact g10 | (simp only [nz_c]; exact g10)) (by first | exact ⟨by omega, by omega⟩ | (simp only [nz_c]; exact ⟨by omega, by omega⟩)) (fun F1 g e23 e32 e34 e82 e83 e84 e85 e86 => k4 g0 g1 g2 g3 g4 g5 g6 g7 g8 g9 g10 F1 (nz_in0 hB [23, 32, 34] (fun j hj hn => g j hj (by simp only [List.mem_cons, List.not_mem_nil, or_false, not_or] at hn; omega)) (List.forall_mem_cons.mpr ⟨fun t ht => (Option.some.inj ht) ▸ (nz_hi e23 n89 (by omega) (by omega)), List.forall_mem_cons.mpr ⟨fun t ht => (Option.some.inj ht) ▸ (nz_hA e32 (nz_up (nz_ba hB (k := 32) (lo := (-2147483648)) (hi := 2147483646) rfl) (by decide : (((-10) : Int32)).toInt = (-10 : Int)) (by omega) (by omega))), List.forall_mem_cons.mpr ⟨fun t ht => (Option.some.inj ht) ▸ (nz_hz e34), List.forall_mem_nil _⟩⟩⟩)) (fun j hj hn => g j hj (by simp only [List.mem_cons, List.not_mem_nil, or_false, not_or] at hn; omega)) (nz_fi (g 33 (by decide) (by decide))) ((congrArg Int32.toInt (zz_i e34)).trans (by decide : ((2 : Int32)).toInt = 2)) ((congrArg Int32.toInt (zz_i e23)).trans n89) (nz_fa (g 39 (by decide) (by decide))) ((congrArg Int32.toInt (zz_i e82)).trans (rfl : (sy_i F 82).toInt = (sy_i F 82).toInt)) ((congrArg Int32.toInt (zz_i e83)).trans (rfl : (sy_i F 83).toInt = (sy_i F 83).toInt)) ((congrArg Int32.toInt (zz_i e84)).trans (by decide : ((0 : Int32)).toInt = 0)) ((congrArg Int32.toInt (zz_i e85)).trans n90) ((congrArg Int32.toInt (zz_i e86)).trans n91))
    replace g5 : ((sy_ai F 39).getD ((sy_i F 33).toInt).toNat 0).toInt ≠ (sy_i F 85).toInt := by omega
    by_cases g6 : (sy_i F 85).toInt ≠ 43
    · have c33 := nz_bx hB (k := 33) (lo := 0) (hi := 400) rfl
      have q87 : (sy_ai F 39).getD (sy_i F 33).toNatClampNeg 0 = (sy_ai F 39).getD ((sy_i F 33).toInt).toNat 0 := by simp only [nz_c]
      have n87 : ((sy_ai F 39).getD (sy_i F 33).toNatClampNeg 0).toInt = ((sy_ai F 39).getD ((sy_i F 33).toInt).toNat 0).toInt := congrArg Int32.toInt q87
      exfalso
      omega
    replace g6 : (sy_i F 85).toInt = 43 := by omega
    by_cases g7 : 512 ≤ (sy_i F 23).toInt
    · by_cases g8 : (sy_i F 33).toInt < 0
      · have c33 := nz_bx hB (k := 33) (lo := 0) (hi := 400) rfl
        have q87 : (sy_ai F 39).getD (sy_i F 33).toNatClampNeg 0 = (sy_ai F 39).getD ((sy_i F 33).toInt).toNat 0 := by simp only [nz_c]
        have n87 : ((sy_ai F 39).getD (sy_i F 33).toNatClampNeg 0).toInt = ((sy_ai F 39).getD ((sy_i F 33).toInt).toNat 0).toInt := congrArg Int32.toInt q87
        have c23 := nz_bx hB (k := 23) (lo := 0) (hi := 512) rfl
        exfalso
        omega
      replace g8 : 0 ≤ (sy_i F 33).toInt := by omega
      by_cases g9 : 400 < (sy_i F 33).toInt
      · have c33 := nz_bx hB (k := 33) (lo := 0) (hi := 400) rfl
        have q87 : (sy_ai F 39).getD (sy_i F 33).toNatClampNeg 0 = (sy_ai F 39).getD ((sy_i F 33).toInt).toNat 0 := by simp only [nz_c]
        have n87 : ((sy_ai F 39).getD (sy_i F 33).toNatClampNeg 0).toInt = ((sy_ai F 39).getD ((sy_i F 33).toInt).toNat 0).toInt := congrArg Int32.toInt q87
        have c23 := nz_bx hB (k := 23) (lo := 0) (hi := 512) rfl
        exfalso
        omega
      replace g9 : (sy_i F 33).toInt ≤ 400 := by omega
      have c33 := nz_bx hB (k := 33) (lo := 0) (hi := 400) rfl
      have q87 : (sy_ai F 39).getD (sy_i F 33).toNatClampNeg 0 = (sy_ai F 39).getD ((sy_i F 33).toInt).toNat 0 := by simp only [nz_c]
      have n87 : ((sy_ai F 39).getD (sy_i F 33).toNatClampNeg 0).toInt = ((sy_ai F 39).getD ((sy_i F 33).toInt).toNat 0).toInt := congrArg Int32.toInt q87
      have c23 := nz_bx hB (k := 23) (lo := 0) (hi := 512) rfl
      have q88 : (sy_ai F 39).getD (sy_i F 33).toNatClampNeg 0 = (sy_ai F 39).getD ((sy_i F 33).toInt).toNat 0 := by simp only [nz_c]
      have n88 : ((sy_ai F 39).getD (sy_i F 33).toNatClampNeg 0).toInt = ((sy_ai F 39).getD ((sy_i F 33).toInt).toNat 0).toInt := congrArg Int32.toInt q88
      have n89 : ((sy_i F 86) + ((1 : Int32))).toInt = ((sy_i F 86).toInt + 1) := nz_add (rfl : (sy_i F 86).toInt = (sy_i F 86).toInt) (by decide : ((1 : Int32)).toInt = 1) (by omega) (by omega)
      exact k0ps_23_p5 hd F X1 X2 hB (by first | exact g0 | (simp only [nz_c]; exact g0)) (by first | exact g1 | (simp only [nz_c]; exact g1)) (by first | exact g2 | (simp only [nz_c]; exact g2)) (by first | exact g3 | (simp only [nz_c]; exact g3)) (by first | exact g4 | (simp only [nz_c]; exact g4)) (by first | exact ⟨by omega, by omega⟩ | (simp only [nz_c]; exact ⟨by omega, by omega⟩)) (by first | exact g5 | (simp only [nz_c]; exact g5) | (rw [n87]; exact g5)) (by first | exact g6 | (simp only [nz_c]; exact g6)) (by first | exact g7 | (simp only [nz_c]; exact g7)) (by first | exact g8 | (simp only [nz_c]; exact g8)) (by first | exact g9 | (simp only [nz_c]; exact g9)) (by first | exact ⟨by omega, by omega⟩ | (simp only [nz_c]; exact ⟨by omega, by omega⟩)) (fun F1 g e34 e82 e83 e84 e85 e86 => k5 g0 g1 g2 g3 g4 g5 g6 g7 g8 g9 F1 (nz_in0 hB [34] (fun j hj hn => g j hj (by simp only [List.mem_cons, List.not_mem_nil, or_false, not_or] at hn; omega)) (List.forall_mem_cons.mpr ⟨fun t ht => (Option.some.inj ht) ▸ (nz_hz e34), List.forall_mem_nil _⟩)) (fun j hj hn => g j hj (by simp only [List.mem_cons, List.not_mem_nil, or_false, not_or] at hn; omega)) (nz_fi (g 33 (by decide) (by decide))) ((congrArg Int32.toInt (zz_i e34)).trans (by decide : ((1 : Int32)).toInt = 1)) (nz_fi (g 23 (by decide) (by decide))) (nz_fa (g 39 (by decide) (by decide))) ((congrArg Int32.toInt (zz_i e82)).trans (rfl : (sy_i F 82).toInt = (sy_i F 82).toInt)) ((congrArg Int32.toInt (zz_i e83)).trans (rfl : (sy_i F 83).toInt = (sy_i F 83).toInt)) ((congrArg Int32.toInt (zz_i e84)).trans (by decide : ((0 : Int32)).toInt = 0)) ((congrArg Int32.toInt (zz_i e85)).trans n88) ((congrArg Int32.toInt (zz_i e86)).trans n89))
    replace g7 : (sy_i F 23).toInt < 512 := by omega
    by_cases g8 : (sy_i F 33).toInt < 0
    · have c33 := nz_bx hB (k := 33) (lo := 0) (hi := 400) rfl
      have q87 : (sy_ai F 39).getD (sy_i F 33).toNatClampNeg 0 = (sy_ai F 39).getD ((sy_i F 33).toInt).toNat 0 := by simp only [nz_c]
      have n87 : ((sy_ai F 39).getD (sy_i F 33).toNatClampNeg 0).toInt = ((sy_ai F 39).getD ((sy_i F 33).toInt).toNat 0).toInt := congrArg Int32.toInt q87
      have c23 := nz_bx hB (k := 23) (lo := 0) (hi := 512) rfl
      exfalso
      omega
    replace g8 : 0 ≤ (sy_i F 33).toInt := by omega
    by_cases g9 : 400 < (sy_i F 33).toInt
    · have c33 := nz_bx hB (k := 33) (lo := 0) (hi := 400) rfl
      have q87 : (sy_ai F 39).getD (sy_i F 33).toNatClampNeg 0 = (sy_ai F 39).getD ((sy_i F 33).toInt).toNat 0 := by simp only [nz_c]
      have n87 : ((sy_ai F 39).getD (sy_i F 33).toNatClampNeg 0).toInt = ((sy_ai F 39).getD ((sy_i F 33).toInt).toNat 0).toInt := congrArg Int32.toInt q87
      have c23 := nz_bx hB (k := 23) (lo := 0) (hi := 512) rfl
      exfalso
      omega
    replace g9 : (sy_i F 33).toInt ≤ 400 := by omega
    have c33 := nz_bx hB (k := 33) (lo := 0) (hi := 400) rfl
    have q87 : (sy_ai F 39).getD (sy_i F 33).toNatClampNeg 0 = (sy_ai F 39).getD ((sy_i F 33).toInt).toNat 0 := by simp only [nz_c]
    have n87 : ((sy_ai F 39).getD (sy_i F 33).toNatClampNeg 0).toInt = ((sy_ai F 39).getD ((sy_i F 33).toInt).toNat 0).toInt := congrArg Int32.toInt q87
    have c23 := nz_bx hB (k := 23) (lo := 0) (hi := 512) rfl
    have n89 : ((sy_i F 23) + ((1 : Int32))).toInt = ((sy_i F 23).toInt + 1) := nz_add (rfl : (sy_i F 23).toInt = (sy_i F 23).toInt) (by decide : ((1 : Int32)).toInt = 1) (by omega) (by omega)
    have q90 : (sy_ai F 39).getD (sy_i F 33).toNatClampNeg 0 = (sy_ai F 39).getD ((sy_i F 33).toInt).toNat 0 := by simp only [nz_c]
    have n90 : ((sy_ai F 39).getD (sy_i F 33).toNatClampNeg 0).toInt = ((sy_ai F 39).getD ((sy_i F 33).toInt).toNat 0).toInt := congrArg Int32.toInt q90
    have n91 : ((sy_i F 86) + ((1 : Int32))).toInt = ((sy_i F 86).toInt + 1) := nz_add (rfl : (sy_i F 86).toInt = (sy_i F 86).toInt) (by decide : ((1 : Int32)).toInt = 1) (by omega) (by omega)
    exact k0ps_23_p6 hd F X1 X2 hB (by first | exact g0 | (simp only [nz_c]; exact g0)) (by first | exact g1 | (simp only [nz_c]; exact g1)) (by first | exact g2 | (simp only [nz_c]; exact g2)) (by first | exact g3 | (simp only [nz_c]; exact g3)) (by first | exact g4 | (simp only [nz_c]; exact g4)) (by first | exact ⟨by omega, by omega⟩ | (simp only [nz_c]; exact ⟨by omega, by omega⟩)) (by first | exact g5 | (simp only [nz_c]; exact g5) | (rw [n87]; exact g5)) (by first | exact g6 | (simp only [nz_c]; exact g6)) (by first | exact g7 | (simp only [nz_c]; exact g7)) (by first | exact ⟨by omega, by omega⟩ | (simp only [nz_c]; exact ⟨by omega, by omega⟩)) (by first | exact g8 | (simp only [nz_c]; exact g8)) (by first | exact g9 | (simp only [nz_c]; exact g9)) (by first | exact ⟨by omega, by omega⟩ | (simp only [nz_c]; exact ⟨by omega, by omega⟩)) (fun F1 g e23 e32 e34 e82 e83 e84 e85 e86 => k6 g0 g1 g2 g3 g4 g5 g6 g7 g8 g9 F1 (nz_in0 hB [23, 32, 34] (fun j hj hn => g j hj (by simp only [List.mem_cons, List.not_mem_nil, or_false, not_or] at hn; omega)) (List.forall_mem_cons.mpr ⟨fun t ht => (Option.some.inj ht) ▸ (nz_hi e23 n89 (by omega) (by omega)), List.forall_mem_cons.mpr ⟨fun t ht => (Option.some.inj ht) ▸ (nz_hA e32 (nz_up (nz_ba hB (k := 32) (lo := (-2147483648)) (hi := 2147483646) rfl) (by decide : (((-10) : Int32)).toInt = (-10 : Int)) (by omega) (by omega))), List.forall_mem_cons.mpr ⟨fun t ht => (Option.some.inj ht) ▸ (nz_hz e34), List.forall_mem_nil _⟩⟩⟩)) (fun j hj hn => g j hj (by simp only [List.mem_cons, List.not_mem_nil, or_false, not_or] at hn; omega)) (nz_fi (g 33 (by decide) (by decide))) ((congrArg Int32.toInt (zz_i e34)).trans (by decide : ((1 : Int32)).toInt = 1)) ((congrArg Int32.toInt (zz_i e23)).trans n89) (nz_fa (g 39 (by decide) (by decide))) ((congrArg Int32.toInt (zz_i e82)).trans (rfl : (sy_i F 82).toInt = (sy_i F 82).toInt)) ((congrArg Int32.toInt (zz_i e83)).trans (rfl : (sy_i F 83).toInt = (sy_i F 83).toInt)) ((congrArg Int32.toInt (zz_i e84)).trans (by decide : ((0 : Int32)).toInt = 0)) ((congrArg Int32.toInt (zz_i e85)).trans n90) ((congrArg Int32.toInt (zz_i e86)).trans n91))
  replace g2 : (sy_i F 85).toInt ≠ 43 := by omega
  by_cases g3 : (sy_i F 85).toInt ≠ 45
  · exact k0ps_23_p7 hd F X1 X2 hB (by first | exact g0 | (simp only [nz_c]; exact g0)) (by first | exact g1 | (simp only [nz_c]; exact g1)) (by first | exact g2 | (simp only [nz_c]; exact g2)) (by first | exact g3 | (simp only [nz_c]; exact g3)) (by first | exact (o1 g0 g1 g2 g3) | (simp only [nz_c]; exact (o1 g0 g1 g2 g3))) (fun F1 g  => by rw [(rfl : sy_i F 84 = sy_i F 84)]; exact k7 g0 g1 g2 g3 F1 (nz_in0 hB [] (fun j hj hn => g j hj (by simp only [List.mem_cons, List.not_mem_nil, or_false, not_or] at hn; exact trivial)) (List.forall_mem_nil _)) (fun j hj hn => g j hj (by simp only [List.mem_cons, List.not_mem_nil, or_false, not_or] at hn; exact trivial)) (nz_fi (g 33 (by decide) (by decide))) (nz_fi (g 34 (by decide) (by decide))) (nz_fi (g 23 (by decide) (by decide))) (nz_fa (g 39 (by decide) (by decide))))
  replace g3 : (sy_i F 85).toInt = 45 := by omega
  by_cases g4 : (sy_i F 33).toInt < 0
  · have c33 := nz_bx hB (k := 33) (lo := 0) (hi := 400) rfl
    exfalso
    omega
  replace g4 : 0 ≤ (sy_i F 33).toInt := by omega
  by_cases g5 : 400 < (sy_i F 33).toInt
  · have c33 := nz_bx hB (k := 33) (lo := 0) (hi := 400) rfl
    exfalso
    omega
  replace g5 : (sy_i F 33).toInt ≤ 400 := by omega
  by_cases g6 : ((sy_ai F 39).getD ((sy_i F 33).toInt).toNat 0).toInt = (sy_i F 85).toInt
  · by_cases g7 : (sy_i F 33).toInt < 400
    · have c33 := nz_bx hB (k := 33) (lo := 0) (hi := 400) rfl
      have q87 : (sy_ai F 39).getD (sy_i F 33).toNatClampNeg 0 = (sy_ai F 39).getD ((sy_i F 33).toInt).toNat 0 := by simp only [nz_c]
      have n87 : ((sy_ai F 39).getD (sy_i F 33).toNatClampNeg 0).toInt = ((sy_ai F 39).getD ((sy_i F 33).toInt).toNat 0).toInt := congrArg Int32.toInt q87
      have n88 : ((sy_i F 33) + ((1 : Int32))).toInt = ((sy_i F 33).toInt + 1) := nz_add (rfl : (sy_i F 33).toInt = (sy_i F 33).toInt) (by decide : ((1 : Int32)).toInt = 1) (by omega) (by omega)
      exact k0ps_23_p8 hd F X1 X2 hB (by first | exact g0 | (simp only [nz_c]; exact g0)) (by first | exact g1 | (simp only [nz_c]; exact g1)) (by first | exact g2 | (simp only [nz_c]; exact g2)) (by first | exact g3 | (simp only [nz_c]; exact g3)) (by first | exact g4 | (simp only [nz_c]; exact g4)) (by first | exact g5 | (simp only [nz_c]; exact g5)) (by first | exact ⟨by omega, by omega⟩ | (simp only [nz_c]; exact ⟨by omega, by omega⟩)) (by first | exact g6 | (simp only [nz_c]; exact g6) | (rw [n87]; exact g6)) (by first | exact g7 | (simp only [nz_c]; exact g7)) (fun F1 g e33 e82 e83 e84 e85 => k8 g0 g1 g2 g3 g4 g5 g6 g7 F1 (nz_in0 hB [33] (fun j hj hn => g j hj (by simp only [List.mem_cons, List.not_mem_nil, or_false, not_or] at hn; omega)) (List.forall_mem_cons.mpr ⟨fun t ht => (Option.some.inj ht) ▸ (nz_hi e33 n88 (by omega) (by omega)), List.forall_mem_nil _⟩)) (fun j hj hn => g j hj (by simp only [List.mem_cons, List.not_mem_nil, or_false, not_or] at hn; omega)) ((congrArg Int32.toInt (zz_i e33)).trans n88) (nz_fi (g 34 (by decide) (by decide))) (nz_fi (g 23 (by decide) (by decide))) (nz_fa (g 39 (by decide) (by decide))) ((congrArg Int32.toInt (zz_i e82)).trans (rfl : (sy_i F 82).toInt = (sy_i F 82).toInt)) ((congrArg Int32.toInt (zz_i e83)).trans (rfl : (sy_i F 83).toInt = (sy_i F 83).toInt)) ((congrArg Int32.toInt (zz_i e84)).trans (rfl : (sy_i F 85).toInt = (sy_i F 85).toInt)) ((congrArg Int32.toInt (zz_i e85)).trans (rfl : (sy_i F 86).toInt = (sy_i F 86).toInt)))
    replace g7 : 400 ≤ (sy_i F 33).toInt := by omega
    by_cases g8 : (sy_i F 85).toInt ≠ 43
    · by_cases g9 : 512 ≤ (sy_i F 23).toInt
      · by_cases g10 : (sy_i F 33).toInt < 0
        · have c33 := nz_bx hB (k := 33) (lo := 0) (hi := 400) rfl
          have q87 : (sy_ai F 39).getD (sy_i F 33).toNatClampNeg 0 = (sy_ai F 39).getD ((sy_i F 33).toInt).toNat 0 := by simp only [nz_c]
          have n87 : ((sy_ai F 39).getD (sy_i F 33).toNatClampNeg 0).toInt = ((sy_ai F 39).getD ((sy_i F 33).toInt).toNat 0).toInt := congrArg Int32.toInt q87
          have c23 := nz_bx hB (k := 23) (lo := 0) (hi := 512) rfl
          exfalso
          omega
        replace g10 : 0 ≤ (sy_i F 33).toInt := by omega
        by_cases g11 : 400 < (sy_i F 33).toInt
        · have c33 := nz_bx hB (k := 33) (lo := 0) (hi := 400) rfl
          have q87 : (sy_ai F 39).getD (sy_i F 33).toNatClampNeg 0 = (sy_ai F 39).getD ((sy_i F 33).toInt).toNat 0 := by simp only [nz_c]
          have n87 : ((sy_ai F 39).getD (sy_i F 33).toNatClampNeg 0).toInt = ((sy_ai F 39).getD ((sy_i F 33).toInt).toNat 0).toInt := congrArg Int32.toInt q87
          have c23 := nz_bx hB (k := 23) (lo := 0) (hi := 512) rfl
          exfalso
          omega
        replace g11 : (sy_i F 33).toInt ≤ 400 := by omega
        have c33 := nz_bx hB (k := 33) (lo := 0) (hi := 400) rfl
        have q87 : (sy_ai F 39).getD (sy_i F 33).toNatClampNeg 0 = (sy_ai F 39).getD ((sy_i F 33).toInt).toNat 0 := by simp only [nz_c]
        have n87 : ((sy_ai F 39).getD (sy_i F 33).toNatClampNeg 0).toInt = ((sy_ai F 39).getD ((sy_i F 33).toInt).toNat 0).toInt := congrArg Int32.toInt q87
        have c23 := nz_bx hB (k := 23) (lo := 0) (hi := 512) rfl
        have q88 : (sy_ai F 39).getD (sy_i F 33).toNatClampNeg 0 = (sy_ai F 39).getD ((sy_i F 33).toInt).toNat 0 := by simp only [nz_c]
        have n88 : ((sy_ai F 39).getD (sy_i F 33).toNatClampNeg 0).toInt = ((sy_ai F 39).getD ((sy_i F 33).toInt).toNat 0).toInt := congrArg Int32.toInt q88
        have n89 : ((sy_i F 86) + ((1 : Int32))).toInt = ((sy_i F 86).toInt + 1) := nz_add (rfl : (sy_i F 86).toInt = (sy_i F 86).toInt) (by decide : ((1 : Int32)).toInt = 1) (by omega) (by omega)
        exact k0ps_23_p9 hd F X1 X2 hB (by first | exact g0 | (simp only [nz_c]; exact g0)) (by first | exact g1 | (simp only [nz_c]; exact g1)) (by first | exact g2 | (simp only [nz_c]; exact g2)) (by first | exact g3 | (simp only [nz_c]; exact g3)) (by first | exact g4 | (simp only [nz_c]; exact g4)) (by first | exact g5 | (simp only [nz_c]; exact g5)) (by first | exact ⟨by omega, by omega⟩ | (simp only [nz_c]; exact ⟨by omega, by omega⟩)) (by first | exact g6 | (simp only [nz_c]; exact g6) | (rw [n87]; exact g6)) (by first | exact g7 | (simp only [nz_c]; exact g7)) (by first | exact g8 | (simp only [nz_c]; exact g8)) (by first | exact g9 | (simp only [nz_c]; exact g9)) (by first | exact g10 | (simp only [nz_c]; exact g10)) (by first | exact g11 | (simp only [nz_c]; exact g11)) (by first | exact ⟨by omega, by omega⟩ | (simp only [nz_c]; exact ⟨by omega, by omega⟩)) (fun F1 g e34 e82 e83 e84 e85 e86 => k9 g0 g1 g2 g3 g4 g5 g6 g7 g8 g9 g10 g11 F1 (nz_in0 hB [34] (fun j hj hn => g j hj (by simp only [List.mem_cons, List.not_mem_nil, or_false, not_or] at hn; omega)) (List.forall_mem_cons.mpr ⟨fun t ht => (Option.some.inj ht) ▸ (nz_hz e34), List.forall_mem_nil _⟩)) (fun j hj hn => g j hj (by simp only [List.mem_cons, List.not_mem_nil, or_false, not_or] at hn; omega)) (nz_fi (g 33 (by decide) (by decide))) ((congrArg Int32.toInt (zz_i e34)).trans (by decide : ((2 : Int32)).toInt = 2)) (nz_fi (g 23 (by decide) (by decide))) (nz_fa (g 39 (by decide) (by decide))) ((congrArg Int32.toInt (zz_i e82)).trans (rfl : (sy_i F 82).toInt = (sy_i F 82).toInt)) ((congrArg Int32.toInt (zz_i e83)).trans (rfl : (sy_i F 83).toInt = (sy_i F 83).toInt)) ((congrArg Int32.toInt (zz_i e84)).trans (by decide : ((0 : Int32)).toInt = 0)) ((congrArg Int32.toInt (zz_i e85)).trans n88) ((congrArg Int32.toInt (zz_i e86)).trans n89))
      replace g9 : (sy_i F 23).toInt < 512 := by omega
      by_cases g10 : (sy_i F 33).toInt < 0
      · have c33 := nz_bx hB (k := 33) (lo := 0) (hi := 400) rfl
        have q87 : (sy_ai F 39).getD (sy_i F 33).toNatClampNeg 0 = (sy_ai F 39).getD ((sy_i F 33).toInt).toNat 0 := by simp only [nz_c]
        have n87 : ((sy_ai F 39).getD (sy_i F 33).toNatClampNeg 0).toInt = ((sy_ai F 39).getD ((sy_i F 33).toInt).toNat 0).toInt := congrArg Int32.toInt q87
        have c23 := nz_bx hB (k := 23) (lo := 0) (hi := 512) rfl
        exfalso
        omega
      replace g10 : 0 ≤ (sy_i F 33).toInt := by omega
      by_cases g11 : 400 < (sy_i F 33).toInt
      · have c33 := nz_bx hB (k := 33) (lo := 0) (hi := 400) rfl
        have q87 : (sy_ai F 39).getD (sy_i F 33).toNatClampNeg 0 = (sy_ai F 39).getD ((sy_i F 33).toInt).toNat 0 := by simp only [nz_c]
        have n87 : ((sy_ai F 39).getD (sy_i F 33).toNatClampNeg 0).toInt = ((sy_ai F 39).getD ((sy_i F 33).toInt).toNat 0).toInt := congrArg Int32.toInt q87
        have c23 := nz_bx hB (k := 23) (lo := 0) (hi := 512) rfl
        exfalso
        omega
      replace g11 : (sy_i F 33).toInt ≤ 400 := by omega
      have c33 := nz_bx hB (k := 33) (lo := 0) (hi := 400) rfl
      have q87 : (sy_ai F 39).getD (sy_i F 33).toNatClampNeg 0 = (sy_ai F 39).getD ((sy_i F 33).toInt).toNat 0 := by simp only [nz_c]
      have n87 : ((sy_ai F 39).getD (sy_i F 33).toNatClampNeg 0).toInt = ((sy_ai F 39).getD ((sy_i F 33).toInt).toNat 0).toInt := congrArg Int32.toInt q87
      have c23 := nz_bx hB (k := 23) (lo := 0) (hi := 512) rfl
      have n89 : ((sy_i F 23) + ((1 : Int32))).toInt = ((sy_i F 23).toInt + 1) := nz_add (rfl : (sy_i F 23).toInt = (sy_i F 23).toInt) (by decide : ((1 : Int32)).toInt = 1) (by omega) (by omega)
      have q90 : (sy_ai F 39).getD (sy_i F 33).toNatClampNeg 0 = (sy_ai F 39).getD ((sy_i F 33).toInt).toNat 0 := by simp only [nz_c]
      have n90 : ((sy_ai F 39).getD (sy_i F 33).toNatClampNeg 0).toInt = ((sy_ai F 39).getD ((sy_i F 33).toInt).toNat 0).toInt := congrArg Int32.toInt q90
      have n91 : ((sy_i F 86) + ((1 : Int32))).toInt = ((sy_i F 86).toInt + 1) := nz_add (rfl : (sy_i F 86).toInt = (sy_i F 86).toInt) (by decide : ((1 : Int32)).toInt = 1) (by omega) (by omega)
      exact k0ps_23_p10 hd F X1 X2 hB (by first | exact g0 | (simp only [nz_c]; exact g0)) (by first | exact g1 | (simp only [nz_c]; exact g1)) (by first | exact g2 | (simp only [nz_c]; exact g2)) (by first | exact g3 | (simp only [nz_c]; exact g3)) (by first | exact g4 | (simp only [nz_c]; exact g4)) (by first | exact g5 | (simp only [nz_c]; exact g5)) (by first | exact ⟨by omega, by omega⟩ | (simp only [nz_c]; exact ⟨by omega, by omega⟩)) (by first | exact g6 | (simp only [nz_c]; exact g6) | (rw [n87]; exact g6)) (by first | exact g7 | (simp only [nz_c]; exact g7)) (by first | exact g8 | (simp only [nz_c]; exact g8)) (by first | exact g9 | (simp only [nz_c]; exact g9)) (by first | exact ⟨by omega, by omega⟩ | (simp only [nz_c]; exact ⟨by omega, by omega⟩)) (by first | exact g10 | (simp only [nz_c]; exact g10)) (by first | exact g11 | (simp only [nz_c]; exact g11)) (by first | exact ⟨by omega, by omega⟩ | (simp only [nz_c]; exact ⟨by omega, by omega⟩)) (fun F1 g e23 e32 e34 e82 e83 e84 e85 e86 => k10 g0 g1 g2 g3 g4 g5 g6 g7 g8 g9 g10 g11 F1 (nz_in0 hB [23, 32, 34] (fun j hj hn => g j hj (by simp only [List.mem_cons, List.not_mem_nil, or_false, not_or] at hn; omega)) (List.forall_mem_cons.mpr ⟨fun t ht => (Option.some.inj ht) ▸ (nz_hi e23 n89 (by omega) (by omega)), List.forall_mem_cons.mpr ⟨fun t ht => (Option.some.inj ht) ▸ (nz_hA e32 (nz_up (nz_ba hB (k := 32) (lo := (-2147483648)) (hi := 2147483646) rfl) (by decide : (((-11) : Int32)).toInt = (-11 : Int)) (by omega) (by omega))), List.forall_mem_cons.mpr ⟨fun t ht => (Option.some.inj ht) ▸ (nz_hz e34), List.forall_mem_nil _⟩⟩⟩)) (fun j hj hn => g j hj (by simp only [List.mem_cons, List.not_mem_nil, or_false, not_or] at hn; omega)) (nz_fi (g 33 (by decide) (by decide))) ((congrArg Int32.toInt (zz_i e34)).trans (by decide : ((2 : Int32)).toInt = 2)) ((congrArg Int32.toInt (zz_i e23)).trans n89) (nz_fa (g 39 (by decide) (by decide))) ((congrArg Int32.toInt (zz_i e82)).trans (rfl : (sy_i F 82).toInt = (sy_i F 82).toInt)) ((congrArg Int32.toInt (zz_i e83)).trans (rfl : (sy_i F 83).toInt = (sy_i F 83).toInt)) ((congrArg Int32.toInt (zz_i e84)).trans (by decide : ((0 : Int32)).toInt = 0)) ((congrArg Int32.toInt (zz_i e85)).trans n90) ((congrArg Int32.toInt (zz_i e86)).trans n91))
    replace g8 : (sy_i F 85).toInt = 43 := by omega
    have c33 := nz_bx hB (k := 33) (lo := 0) (hi := 400) rfl
    have q87 : (sy_ai F 39).getD (sy_i F 33).toNatClampNeg 0 = (sy_ai F 39).getD ((sy_i F 33).toInt).toNat 0 := by simp only [nz_c]
    have n87 : ((sy_ai F 39).getD (sy_i F 33).toNatClampNeg 0).toInt = ((sy_ai F 39).getD ((sy_i F 33).toInt).toNat 0).toInt := congrArg Int32.toInt q87
    exfalso
    omega
  replace g6 : ((sy_ai F 39).getD ((sy_i F 33).toInt).toNat 0).toInt ≠ (sy_i F 85).toInt := by omega
  by_cases g7 : (sy_i F 85).toInt ≠ 43
  · by_cases g8 : 512 ≤ (sy_i F 23).toInt
    · by_cases g9 : (sy_i F 33).toInt < 0
      · have c33 := nz_bx hB (k := 33) (lo := 0) (hi := 400) rfl
        have q87 : (sy_ai F 39).getD (sy_i F 33).toNatClampNeg 0 = (sy_ai F 39).getD ((sy_i F 33).toInt).toNat 0 := by simp only [nz_c]
        have n87 : ((sy_ai F 39).getD (sy_i F 33).toNatClampNeg 0).toInt = ((sy_ai F 39).getD ((sy_i F 33).toInt).toNat 0).toInt := congrArg Int32.toInt q87
        have c23 := nz_bx hB (k := 23) (lo := 0) (hi := 512) rfl
        exfalso
        omega
      replace g9 : 0 ≤ (sy_i F 33).toInt := by omega
      by_cases g10 : 400 < (sy_i F 33).toInt
      · have c33 := nz_bx hB (k := 33) (lo := 0) (hi := 400) rfl
        have q87 : (sy_ai F 39).getD (sy_i F 33).toNatClampNeg 0 = (sy_ai F 39).getD ((sy_i F 33).toInt).toNat 0 := by simp only [nz_c]
        have n87 : ((sy_ai F 39).getD (sy_i F 33).toNatClampNeg 0).toInt = ((sy_ai F 39).getD ((sy_i F 33).toInt).toNat 0).toInt := congrArg Int32.toInt q87
        have c23 := nz_bx hB (k := 23) (lo := 0) (hi := 512) rfl
        exfalso
        omega
      replace g10 : (sy_i F 33).toInt ≤ 400 := by omega
      have c33 := nz_bx hB (k := 33) (lo := 0) (hi := 400) rfl
      have q87 : (sy_ai F 39).getD (sy_i F 33).toNatClampNeg 0 = (sy_ai F 39).getD ((sy_i F 33).toInt).toNat 0 := by simp only [nz_c]
      have n87 : ((sy_ai F 39).getD (sy_i F 33).toNatClampNeg 0).toInt = ((sy_ai F 39).getD ((sy_i F 33).toInt).toNat 0).toInt := congrArg Int32.toInt q87
      have c23 := nz_bx hB (k := 23) (lo := 0) (hi := 512) rfl
      have q88 : (sy_ai F 39).getD (sy_i F 33).toNatClampNeg 0 = (sy_ai F 39).getD ((sy_i F 33).toInt).toNat 0 := by simp only [nz_c]
      have n88 : ((sy_ai F 39).getD (sy_i F 33).toNatClampNeg 0).toInt = ((sy_ai F 39).getD ((sy_i F 33).toInt).toNat 0).toInt := congrArg Int32.toInt q88
      have n89 : ((sy_i F 86) + ((1 : Int32))).toInt = ((sy_i F 86).toInt + 1) := nz_add (rfl : (sy_i F 86).toInt = (sy_i F 86).toInt) (by decide : ((1 : Int32)).toInt = 1) (by omega) (by omega)
      exact k0ps_23_p11 hd F X1 X2 hB (by first | exact g0 | (simp only [nz_c]; exact g0)) (by first | exact g1 | (simp only [nz_c]; exact g1)) (by first | exact g2 | (simp only [nz_c]; exact g2)) (by first | exact g3 | (simp only [nz_c]; exact g3)) (by first | exact g4 | (simp only [nz_c]; exact g4)) (by first | exact g5 | (simp only [nz_c]; exact g5)) (by first | exact ⟨by omega, by omega⟩ | (simp only [nz_c]; exact ⟨by omega, by omega⟩)) (by first | exact g6 | (simp only [nz_c]; exact g6) | (rw [n87]; exact g6)) (by first | exact g7 | (simp only [nz_c]; exact g7)) (by first | exact g8 | (simp only [nz_c]; exact g8)) (by first | exact g9 | (simp only [nz_c]; exact g9)) (by first | exact g10 | (simp only [nz_c]; exact g10)) (by first | exact ⟨by omega, by omega⟩ | (simp only [nz_c]; exact ⟨by omega, by omega⟩)) (fun F1 g e34 e82 e83 e84 e85 e86 => k11 g0 g1 g2 g3 g4 g5 g6 g7 g8 g9 g10 F1 (nz_in0 hB [34] (fun j hj hn => g j hj (by simp only [List.mem_cons, List.not_mem_nil, or_false, not_or] at hn; omega)) (List.forall_mem_cons.mpr ⟨fun t ht => (Option.some.inj ht) ▸ (nz_hz e34), List.forall_mem_nil _⟩)) (fun j hj hn => g j hj (by simp only [List.mem_cons, List.not_mem_nil, or_false, not_or] at hn; omega)) (nz_fi (g 33 (by decide) (by decide))) ((congrArg Int32.toInt (zz_i e34)).trans (by decide : ((1 : Int32)).toInt = 1)) (nz_fi (g 23 (by decide) (by decide))) (nz_fa (g 39 (by decide) (by decide))) ((congrArg Int32.toInt (zz_i e82)).trans (rfl : (sy_i F 82).toInt = (sy_i F 82).toInt)) ((congrArg Int32.toInt (zz_i e83)).trans (rfl : (sy_i F 83).toInt = (sy_i F 83).toInt)) ((congrArg Int32.toInt (zz_i e84)).trans (by decide : ((0 : Int32)).toInt = 0)) ((congrArg Int32.toInt (zz_i e85)).trans n88) ((congrArg Int32.toInt (zz_i e86)).trans n89))
    replace g8 : (sy_i F 23).toInt < 512 := by omega
    by_cases g9 : (sy_i F 33).toInt < 0
    · have c33 := nz_bx hB (k := 33) (lo := 0) (hi := 400) rfl
      have q87 : (sy_ai F 39).getD (sy_i F 33).toNatClampNeg 0 = (sy_ai F 39).getD ((sy_i F 33).toInt).toNat 0 := by simp only [nz_c]
      have n87 : ((sy_ai F 39).getD (sy_i F 33).toNatClampNeg 0).toInt = ((sy_ai F 39).getD ((sy_i F 33).toInt).toNat 0).toInt := congrArg Int32.toInt q87
      have c23 := nz_bx hB (k := 23) (lo := 0) (hi := 512) rfl
      exfalso
      omega
    replace g9 : 0 ≤ (sy_i F 33).toInt := by omega
    by_cases g10 : 400 < (sy_i F 33).toInt
    · have c33 := nz_bx hB (k := 33) (lo := 0) (hi := 400) rfl
      have q87 : (sy_ai F 39).getD (sy_i F 33).toNatClampNeg 0 = (sy_ai F 39).getD ((sy_i F 33).toInt).toNat 0 := by simp only [nz_c]
      have n87 : ((sy_ai F 39).getD (sy_i F 33).toNatClampNeg 0).toInt = ((sy_ai F 39).getD ((sy_i F 33).toInt).toNat 0).toInt := congrArg Int32.toInt q87
      have c23 := nz_bx hB (k := 23) (lo := 0) (hi := 512) rfl
      exfalso
      omega
    replace g10 : (sy_i F 33).toInt ≤ 400 := by omega
    have c33 := nz_bx hB (k := 33) (lo := 0) (hi := 400) rfl
    have q87 : (sy_ai F 39).getD (sy_i F 33).toNatClampNeg 0 = (sy_ai F 39).getD ((sy_i F 33).toInt).toNat 0 := by simp only [nz_c]
    have n87 : ((sy_ai F 39).getD (sy_i F 33).toNatClampNeg 0).toInt = ((sy_ai F 39).getD ((sy_i F 33).toInt).toNat 0).toInt := congrArg Int32.toInt q87
    have c23 := nz_bx hB (k := 23) (lo := 0) (hi := 512) rfl
    have n89 : ((sy_i F 23) + ((1 : Int32))).toInt = ((sy_i F 23).toInt + 1) := nz_add (rfl : (sy_i F 23).toInt = (sy_i F 23).toInt) (by decide : ((1 : Int32)).toInt = 1) (by omega) (by omega)
    have q90 : (sy_ai F 39).getD (sy_i F 33).toNatClampNeg 0 = (sy_ai F 39).getD ((sy_i F 33).toInt).toNat 0 := by simp only [nz_c]
    have n90 : ((sy_ai F 39).getD (sy_i F 33).toNatClampNeg 0).toInt = ((sy_ai F 39).getD ((sy_i F 33).toInt).toNat 0).toInt := congrArg Int32.toInt q90
    have n91 : ((sy_i F 86) + ((1 : Int32))).toInt = ((sy_i F 86).toInt + 1) := nz_add (rfl : (sy_i F 86).toInt = (sy_i F 86).toInt) (by decide : ((1 : Int32)).toInt = 1) (by omega) (by omega)
    exact k0ps_23_p12 hd F X1 X2 hB (by first | exact g0 | (simp only [nz_c]; exact g0)) (by first | exact g1 | (simp only [nz_c]; exact g1)) (by first | exact g2 | (simp only [nz_c]; exact g2)) (by first | exact g3 | (simp only [nz_c]; exact g3)) (by first | exact g4 | (simp only [nz_c]; exact g4)) (by first | exact g5 | (simp only [nz_c]; exact g5)) (by first | exact ⟨by omega, by omega⟩ | (simp only [nz_c]; exact ⟨by omega, by omega⟩)) (by first | exact g6 | (simp only [nz_c]; exact g6) | (rw [n87]; exact g6)) (by first | exact g7 | (simp only [nz_c]; exact g7)) (by first | exact g8 | (simp only [nz_c]; exact g8)) (by first | exact ⟨by omega, by omega⟩ | (simp only [nz_c]; exact ⟨by omega, by omega⟩)) (by first | exact g9 | (simp only [nz_c]; exact g9)) (by first | exact g10 | (simp only [nz_c]; exact g10)) (by first | exact ⟨by omega, by omega⟩ | (simp only [nz_c]; exact ⟨by omega, by omega⟩)) (fun F1 g e23 e32 e34 e82 e83 e84 e85 e86 => k12 g0 g1 g2 g3 g4 g5 g6 g7 g8 g9 g10 F1 (nz_in0 hB [23, 32, 34] (fun j hj hn => g j hj (by simp only [List.mem_cons, List.not_mem_nil, or_false, not_or] at hn; omega)) (List.forall_mem_cons.mpr ⟨fun t ht => (Option.some.inj ht) ▸ (nz_hi e23 n89 (by omega) (by omega)), List.forall_mem_cons.mpr ⟨fun t ht => (Option.some.inj ht) ▸ (nz_hA e32 (nz_up (nz_ba hB (k := 32) (lo := (-2147483648)) (hi := 2147483646) rfl) (by decide : (((-11) : Int32)).toInt = (-11 : Int)) (by omega) (by omega))), List.forall_mem_cons.mpr ⟨fun t ht => (Option.some.inj ht) ▸ (nz_hz e34), List.forall_mem_nil _⟩⟩⟩)) (fun j hj hn => g j hj (by simp only [List.mem_cons, List.not_mem_nil, or_false, not_or] at hn; omega)) (nz_fi (g 33 (by decide) (by decide))) ((congrArg Int32.toInt (zz_i e34)).trans (by decide : ((1 : Int32)).toInt = 1)) ((congrArg Int32.toInt (zz_i e23)).trans n89) (nz_fa (g 39 (by decide) (by decide))) ((congrArg Int32.toInt (zz_i e82)).trans (rfl : (sy_i F 82).toInt = (sy_i F 82).toInt)) ((congrArg Int32.toInt (zz_i e83)).trans (rfl : (sy_i F 83).toInt = (sy_i F 83).toInt)) ((congrArg Int32.toInt (zz_i e84)).trans (by decide : ((0 : Int32)).toInt = 0)) ((congrArg Int32.toInt (zz_i e85)).trans n90) ((congrArg Int32.toInt (zz_i e86)).trans n91))
  replace g7 : (sy_i F 85).toInt = 43 := by omega
  have c33 := nz_bx hB (k := 33) (lo := 0) (hi := 400) rfl
  have q87 : (sy_ai F 39).getD (sy_i F 33).toNatClampNeg 0 = (sy_ai F 39).getD ((sy_i F 33).toInt).toNat 0 := by simp only [nz_c]
  have n87 : ((sy_ai F 39).getD (sy_i F 33).toNatClampNeg 0).toInt = ((sy_ai F 39).getD ((sy_i F 33).toInt).toNat 0).toInt := congrArg Int32.toInt q87
  exfalso
  omega
theorem k0ps_64_p0 {Ls : Nat} {xs : Nat → Int32} {d : Nat} {Q : Option Value → jm_h → Prop} (hd : 4 ≤ d) (F : Nat → sy_d) (X1 X2 : List jm_c) (hB : iv_in F iv_B0)
    (h0 : (sy_i F 86).toInt = 0)
    (h1 : (sy_i F 84).toInt ≠ 43)
    (h2 : 512 ≤ (sy_i F 23).toInt)
    (h3 : 0 ≤ (sy_i F 33).toInt)
    (h4 : (sy_i F 33).toInt ≤ 400)
    (h5 : 0 ≤ (sy_i F 33).toInt ∧ (sy_i F 33).toInt < 401)
    (k : ∀ F1 : Nat → sy_d, (∀ j, j < 82 → True → F1 j = F j) → F1 82 = .inl (.int (sy_i F 82)) → F1 83 = .inl (.int (sy_i F 83)) → F1 84 = .inl (.int ((0 : Int32))) → F1 85 = .inl (.int ((sy_ai F 39).getD (sy_i F 33).toNatClampNeg 0)) → F1 86 = .inl (.int ((sy_i F 85) + ((1 : Int32)))) → hd_W Ls xs d jm_M38 Q (23, sy_dL F1 [some (.inl (.ref 30)), some (.inr (.inl 82)), some (.inr (.inl 83)), some (.inr (.inl 84)), some (.inr (.inl 85)), some (.inr (.inl 86))], sy_dS F1 [], sy_dh F1 X1 X2 (iv_H 0), 0, 0)) :
    hd_W Ls xs d jm_M38 Q (64, sy_dL F [some (.inl (.ref 30)), some (.inr (.inl 82)), some (.inr (.inl 83)), none, some (.inr (.inl 84)), some (.inr (.inl 85))], sy_dS F [.inr (.inl 86)], sy_dh F X1 X2 (iv_H 0), 0, 0) := by
  refine hd_run (s := 0) (nv := 87) (pc := 23) (L := [some (.inl (.ref 30)), some (.inr (.inl 82)), some (.inr (.inl 83)), some (.inr (.inl 84)), some (.inr (.inl 85)), some (.inr (.inl 86))]) (S := []) (uh := hd_ov (iv_id 0 iv_B0) []) (ul := [.inl (.inr (.inl 82)), .inl (.inr (.inl 83)), .inl (.inl (.int 0)), .inl (.inr (.inl 87)), .inl (.inr (.inl 88))]) (f := false) (sp := [23]) (d0 := 3) (O := [true, true, true, false, false]) (T := [(30, [.inr (.inl 33)], [.inr (.inl 39)]), (0, [.inr (.inl 85), .inl (.int 1)], [])]) (P := [(0, .inr (.inl 86), .inl (.int 0)), (1, .inr (.inl 84), .inl (.int 43)), (4, .inl (.int 512), .inr (.inl 23)), (3, .inr (.inl 33), .inl (.int 0)), (3, .inl (.int 400), .inr (.inl 33)), (6, .inr (.inl 33), .inl (.ref 401))]) jm_ok38 (by decide +kernel) (by decide +kernel) hd F X1 X2 (fun F' hF hs => ?_)
  have b86 := hd_b (F := F) (F' := F') (k := 86) (hF 86 (by decide))
  have b84 := hd_b (F := F) (F' := F') (k := 84) (hF 84 (by decide))
  have b23 := hd_b (F := F) (F' := F') (k := 23) (hF 23 (by decide))
  have b33 := hd_b (F := F) (F' := F') (k := 33) (hF 33 (by decide))
  have b82 := hd_b (F := F) (F' := F') (k := 82) (hF 82 (by decide))
  have b83 := hd_b (F := F) (F' := F') (k := 83) (hF 83 (by decide))
  have a39 := hd_ba (F := F) (F' := F') (k := 39) (hF 39 (by decide))
  have t87 : sy_dv F' (.inr (.inl 87)) = .int ((sy_ai F 39).getD (sy_i F 33).toNatClampNeg 0) := hd_rd (hs 0 _ rfl) b33 a39
  have b85 := hd_b (F := F) (F' := F') (k := 85) (hF 85 (by decide))
  have t88 : sy_dv F' (.inr (.inl 88)) = .int ((sy_i F 85) + ((1 : Int32))) := hd_o (hs 1 _ rfl) b85 rfl rfl
  have hB' : iv_in F' iv_B0 := iv_in_eq hB (fun j hj => hF j (Nat.lt_of_lt_of_le hj (by decide +kernel)))
  refine ⟨List.forall_mem_cons.mpr ⟨hd_p0 b86 rfl (by have hc : ((0) : Int32).toInt = 0 := (by decide); omega), List.forall_mem_cons.mpr ⟨hd_p1 b84 rfl (by have hc : ((43) : Int32).toInt = 43 := (by decide); omega), List.forall_mem_cons.mpr ⟨hd_p4 rfl b23 (by have hc : ((512) : Int32).toInt = 512 := (by decide); omega), List.forall_mem_cons.mpr ⟨hd_p3 b33 rfl (by have hc : ((0) : Int32).toInt = 0 := (by decide); omega), List.forall_mem_cons.mpr ⟨hd_p3 rfl b33 (by have hc : ((400) : Int32).toInt = 400 := (by decide); omega), List.forall_mem_cons.mpr ⟨hd_pb b33 (by first | exact h5 | exact h5), fun _ h => absurd h List.not_mem_nil⟩⟩⟩⟩⟩⟩, ?_⟩
  refine k _ ?_ ?_ ?_ ?_ ?_ ?_
  · exact fun j hj _ => (hd_keep hB' (Nat.lt_of_lt_of_le hj (by decide +kernel)) (by simp)).trans (hF j (by omega))
  · exact hd_gi (x := .inr (.inl 82)) (by decide +kernel) b82
  · exact hd_gi (x := .inr (.inl 83)) (by decide +kernel) b83
  · exact hd_gi (x := .inl (.int 0)) (by decide +kernel) rfl
  · exact hd_gi (x := .inr (.inl 87)) (by decide +kernel) t87
  · exact hd_gi (x := .inr (.inl 88)) (by decide +kernel) t88
theorem k0ps_64_p1 {Ls : Nat} {xs : Nat → Int32} {d : Nat} {Q : Option Value → jm_h → Prop} (hd : 4 ≤ d) (F : Nat → sy_d) (X1 X2 : List jm_c) (hB : iv_in F iv_B0)
    (h0 : (sy_i F 86).toInt = 0)
    (h1 : (sy_i F 84).toInt ≠ 43)
    (h2 : (sy_i F 23).toInt < 512)
    (h3 : 0 ≤ (sy_i F 23).toInt ∧ (sy_i F 23).toInt < 512)
    (h4 : 0 ≤ (sy_i F 33).toInt)
    (h5 : (sy_i F 33).toInt ≤ 400)
    (h6 : 0 ≤ (sy_i F 33).toInt ∧ (sy_i F 33).toInt < 401)
    (k : ∀ F1 : Nat → sy_d, (∀ j, j < 82 → j ≠ 23 ∧ j ≠ 32 → F1 j = F j) → F1 23 = .inl (.int ((sy_i F 23) + ((1 : Int32)))) → F1 32 = .inr (.inl (jm_upd (sy_ai F 32) (sy_i F 23).toNatClampNeg (((-11) : Int32)))) → F1 82 = .inl (.int (sy_i F 82)) → F1 83 = .inl (.int (sy_i F 83)) → F1 84 = .inl (.int ((0 : Int32))) → F1 85 = .inl (.int ((sy_ai F 39).getD (sy_i F 33).toNatClampNeg 0)) → F1 86 = .inl (.int ((sy_i F 85) + ((1 : Int32)))) → hd_W Ls xs d jm_M38 Q (23, sy_dL F1 [some (.inl (.ref 30)), some (.inr (.inl 82)), some (.inr (.inl 83)), some (.inr (.inl 84)), some (.inr (.inl 85)), some (.inr (.inl 86))], sy_dS F1 [], sy_dh F1 X1 X2 (iv_H 0), 0, 0)) :
    hd_W Ls xs d jm_M38 Q (64, sy_dL F [some (.inl (.ref 30)), some (.inr (.inl 82)), some (.inr (.inl 83)), none, some (.inr (.inl 84)), some (.inr (.inl 85))], sy_dS F [.inr (.inl 86)], sy_dh F X1 X2 (iv_H 0), 0, 0) := by
  refine hd_run (s := 0) (nv := 87) (pc := 23) (L := [some (.inl (.ref 30)), some (.inr (.inl 82)), some (.inr (.inl 83)), some (.inr (.inl 84)), some (.inr (.inl 85)), some (.inr (.inl 86))]) (S := []) (uh := hd_ov (iv_id 0 iv_B0) [(23, .inl (.inr (.inl 88))), (32, .inr (.inr (.inl 87)))]) (ul := [.inl (.inr (.inl 82)), .inl (.inr (.inl 83)), .inl (.inl (.int 0)), .inl (.inr (.inl 89)), .inl (.inr (.inl 90))]) (f := false) (sp := [23]) (d0 := 3) (O := [true, true, false, false, false]) (T := [(40, [.inr (.inl 23), .inl (.int (-11))], [.inr (.inl 32)]), (0, [.inr (.inl 23), .inl (.int 1)], []), (30, [.inr (.inl 33)], [.inr (.inl 39)]), (0, [.inr (.inl 85), .inl (.int 1)], [])]) (P := [(0, .inr (.inl 86), .inl (.int 0)), (1, .inr (.inl 84), .inl (.int 43)), (5, .inl (.int 512), .inr (.inl 23)), (6, .inr (.inl 23), .inl (.ref 512)), (3, .inr (.inl 33), .inl (.int 0)), (3, .inl (.int 400), .inr (.inl 33)), (6, .inr (.inl 33), .inl (.ref 401))]) jm_ok38 (by decide +kernel) (by decide +kernel) hd F X1 X2 (fun F' hF hs => ?_)
  have b86 := hd_b (F := F) (F' := F') (k := 86) (hF 86 (by decide))
  have b84 := hd_b (F := F) (F' := F') (k := 84) (hF 84 (by decide))
  have b23 := hd_b (F := F) (F' := F') (k := 23) (hF 23 (by decide))
  have b33 := hd_b (F := F) (F' := F') (k := 33) (hF 33 (by decide))
  have t88 : sy_dv F' (.inr (.inl 88)) = .int ((sy_i F 23) + ((1 : Int32))) := hd_o (hs 1 _ rfl) b23 rfl rfl
  have a32 := hd_ba (F := F) (F' := F') (k := 32) (hF 32 (by decide))
  have t87 : sy_da F' (.inr (.inl 87)) = .inl (jm_upd (sy_ai F 32) (sy_i F 23).toNatClampNeg (((-11) : Int32))) := hd_up (hs 0 _ rfl) b23 rfl a32
  have b82 := hd_b (F := F) (F' := F') (k := 82) (hF 82 (by decide))
  have b83 := hd_b (F := F) (F' := F') (k := 83) (hF 83 (by decide))
  have a39 := hd_ba (F := F) (F' := F') (k := 39) (hF 39 (by decide))
  have t89 : sy_dv F' (.inr (.inl 89)) = .int ((sy_ai F 39).getD (sy_i F 33).toNatClampNeg 0) := hd_rd (hs 2 _ rfl) b33 a39
  have b85 := hd_b (F := F) (F' := F') (k := 85) (hF 85 (by decide))
  have t90 : sy_dv F' (.inr (.inl 90)) = .int ((sy_i F 85) + ((1 : Int32))) := hd_o (hs 3 _ rfl) b85 rfl rfl
  have hB' : iv_in F' iv_B0 := iv_in_eq hB (fun j hj => hF j (Nat.lt_of_lt_of_le hj (by decide +kernel)))
  refine ⟨List.forall_mem_cons.mpr ⟨hd_p0 b86 rfl (by have hc : ((0) : Int32).toInt = 0 := (by decide); omega), List.forall_mem_cons.mpr ⟨hd_p1 b84 rfl (by have hc : ((43) : Int32).toInt = 43 := (by decide); omega), List.forall_mem_cons.mpr ⟨hd_p5 rfl b23 (by have hc : ((512) : Int32).toInt = 512 := (by decide); omega), List.forall_mem_cons.mpr ⟨hd_pb b23 (by first | exact h3 | exact h3), List.forall_mem_cons.mpr ⟨hd_p3 b33 rfl (by have hc : ((0) : Int32).toInt = 0 := (by decide); omega), List.forall_mem_cons.mpr ⟨hd_p3 rfl b33 (by have hc : ((400) : Int32).toInt = 400 := (by decide); omega), List.forall_mem_cons.mpr ⟨hd_pb b33 (by first | exact h6 | exact h6), fun _ h => absurd h List.not_mem_nil⟩⟩⟩⟩⟩⟩⟩, ?_⟩
  refine k _ ?_ ?_ ?_ ?_ ?_ ?_ ?_ ?_
  · exact fun j hj hn => (hd_keep hB' (Nat.lt_of_lt_of_le hj (by decide +kernel)) (by simp; omega)).trans (hF j (by omega))
  · exact hd_gi (x := .inr (.inl 88)) (by decide +kernel) t88
  · exact hd_ga (a := .inr (.inl 87)) (by decide +kernel) t87
  · exact hd_gi (x := .inr (.inl 82)) (by decide +kernel) b82
  · exact hd_gi (x := .inr (.inl 83)) (by decide +kernel) b83
  · exact hd_gi (x := .inl (.int 0)) (by decide +kernel) rfl
  · exact hd_gi (x := .inr (.inl 89)) (by decide +kernel) t89
  · exact hd_gi (x := .inr (.inl 90)) (by decide +kernel) t90
theorem k0ps_64_p2 {Ls : Nat} {xs : Nat → Int32} {d : Nat} {Q : Option Value → jm_h → Prop} (hd : 4 ≤ d) (F : Nat → sy_d) (X1 X2 : List jm_c) (hB : iv_in F iv_B0)
    (h0 : (sy_i F 86).toInt = 0)
    (h1 : (sy_i F 84).toInt = 43)
    (h2 : 512 ≤ (sy_i F 23).toInt)
    (h3 : 0 ≤ (sy_i F 33).toInt)
    (h4 : (sy_i F 33).toInt ≤ 400)
    (h5 : 0 ≤ (sy_i F 33).toInt ∧ (sy_i F 33).toInt < 401)
    (k : ∀ F1 : Nat → sy_d, (∀ j, j < 82 → True → F1 j = F j) → F1 82 = .inl (.int (sy_i F 82)) → F1 83 = .inl (.int (sy_i F 83)) → F1 84 = .inl (.int ((0 : Int32))) → F1 85 = .inl (.int ((sy_ai F 39).getD (sy_i F 33).toNatClampNeg 0)) → F1 86 = .inl (.int ((sy_i F 85) + ((1 : Int32)))) → hd_W Ls xs d jm_M38 Q (23, sy_dL F1 [some (.inl (.ref 30)), some (.inr (.inl 82)), some (.inr (.inl 83)), some (.inr (.inl 84)), some (.inr (.inl 85)), some (.inr (.inl 86))], sy_dS F1 [], sy_dh F1 X1 X2 (iv_H 0), 0, 0)) :
    hd_W Ls xs d jm_M38 Q (64, sy_dL F [some (.inl (.ref 30)), some (.inr (.inl 82)), some (.inr (.inl 83)), none, some (.inr (.inl 84)), some (.inr (.inl 85))], sy_dS F [.inr (.inl 86)], sy_dh F X1 X2 (iv_H 0), 0, 0) := by
  refine hd_run (s := 0) (nv := 87) (pc := 23) (L := [some (.inl (.ref 30)), some (.inr (.inl 82)), some (.inr (.inl 83)), some (.inr (.inl 84)), some (.inr (.inl 85)), some (.inr (.inl 86))]) (S := []) (uh := hd_ov (iv_id 0 iv_B0) []) (ul := [.inl (.inr (.inl 82)), .inl (.inr (.inl 83)), .inl (.inl (.int 0)), .inl (.inr (.inl 87)), .inl (.inr (.inl 88))]) (f := false) (sp := [23]) (d0 := 3) (O := [true, false, true, false, false]) (T := [(30, [.inr (.inl 33)], [.inr (.inl 39)]), (0, [.inr (.inl 85), .inl (.int 1)], [])]) (P := [(0, .inr (.inl 86), .inl (.int 0)), (0, .inr (.inl 84), .inl (.int 43)), (4, .inl (.int 512), .inr (.inl 23)), (3, .inr (.inl 33), .inl (.int 0)), (3, .inl (.int 400), .inr (.inl 33)), (6, .inr (.inl 33), .inl (.ref 401))]) jm_ok38 (by decide +kernel) (by decide +kernel) hd F X1 X2 (fun F' hF hs => ?_)
  have b86 := hd_b (F := F) (F' := F') (k := 86) (hF 86 (by decide))
  have b84 := hd_b (F := F) (F' := F') (k := 84) (hF 84 (by decide))
  have b23 := hd_b (F := F) (F' := F') (k := 23) (hF 23 (by decide))
  have b33 := hd_b (F := F) (F' := F') (k := 33) (hF 33 (by decide))
  have b82 := hd_b (F := F) (F' := F') (k := 82) (hF 82 (by decide))
  have b83 := hd_b (F := F) (F' := F') (k := 83) (hF 83 (by decide))
  have a39 := hd_ba (F := F) (F' := F') (k := 39) (hF 39 (by decide))
  have t87 : sy_dv F' (.inr (.inl 87)) = .int ((sy_ai F 39).getD (sy_i F 33).toNatClampNeg 0) := hd_rd (hs 0 _ rfl) b33 a39
  have b85 := hd_b (F := F) (F' := F') (k := 85) (hF 85 (by decide))
  have t88 : sy_dv F' (.inr (.inl 88)) = .int ((sy_i F 85) + ((1 : Int32))) := hd_o (hs 1 _ rfl) b85 rfl rfl
  have hB' : iv_in F' iv_B0 := iv_in_eq hB (fun j hj => hF j (Nat.lt_of_lt_of_le hj (by decide +kernel)))
  refine ⟨List.forall_mem_cons.mpr ⟨hd_p0 b86 rfl (by have hc : ((0) : Int32).toInt = 0 := (by decide); omega), List.forall_mem_cons.mpr ⟨hd_p0 b84 rfl (by have hc : ((43) : Int32).toInt = 43 := (by decide); omega), List.forall_mem_cons.mpr ⟨hd_p4 rfl b23 (by have hc : ((512) : Int32).toInt = 512 := (by decide); omega), List.forall_mem_cons.mpr ⟨hd_p3 b33 rfl (by have hc : ((0) : Int32).toInt = 0 := (by decide); omega), List.forall_mem_cons.mpr ⟨hd_p3 rfl b33 (by have hc : ((400) : Int32).toInt = 400 := (by decide); omega), List.forall_mem_cons.mpr ⟨hd_pb b33 (by first | exact h5 | exact h5), fun _ h => absurd h List.not_mem_nil⟩⟩⟩⟩⟩⟩, ?_⟩
  refine k _ ?_ ?_ ?_ ?_ ?_ ?_
  · exact fun j hj _ => (hd_keep hB' (Nat.lt_of_lt_of_le hj (by decide +kernel)) (by simp)).trans (hF j (by omega))
  · exact hd_gi (x := .inr (.inl 82)) (by decide +kernel) b82
  · exact hd_gi (x := .inr (.inl 83)) (by decide +kernel) b83
  · exact hd_gi (x := .inl (.int 0)) (by decide +kernel) rfl
  · exact hd_gi (x := .inr (.inl 87)) (by decide +kernel) t87
  · exact hd_gi (x := .inr (.inl 88)) (by decide +kernel) t88
theorem k0ps_64_p3 {Ls : Nat} {xs : Nat → Int32} {d : Nat} {Q : Option Value → jm_h → Prop} (hd : 4 ≤ d) (F : Nat → sy_d) (X1 X2 : List jm_c) (hB : iv_in F iv_B0)
    (h0 : (sy_i F 86).toInt = 0)
    (h1 : (sy_i F 84).toInt = 43)
    (h2 : (sy_i F 23).toInt < 512)
    (h3 : 0 ≤ (sy_i F 23).toInt ∧ (sy_i F 23).toInt < 512)
    (h4 : 0 ≤ (sy_i F 33).toInt)
    (h5 : (sy_i F 33).toInt ≤ 400)
    (h6 : 0 ≤ (sy_i F 33).toInt ∧ (sy_i F 33).toInt < 401)
    (k : ∀ F1 : Nat → sy_d, (∀ j, j < 82 → j ≠ 23 ∧ j ≠ 32 → F1 j = F j) → F1 23 = .inl (.int ((sy_i F 23) + ((1 : Int32)))) → F1 32 = .inr (.inl (jm_upd (sy_ai F 32) (sy_i F 23).toNatClampNeg (((-10) : Int32)))) → F1 82 = .inl (.int (sy_i F 82)) → F1 83 = .inl (.int (sy_i F 83)) → F1 84 = .inl (.int ((0 : Int32))) → F1 85 = .inl (.int ((sy_ai F 39).getD (sy_i F 33).toNatClampNeg 0)) → F1 86 = .inl (.int ((sy_i F 85) + ((1 : Int32)))) → hd_W Ls xs d jm_M38 Q (23, sy_dL F1 [some (.inl (.ref 30)), some (.inr (.inl 82)), some (.inr (.inl 83)), some (.inr (.inl 84)), some (.inr (.inl 85)), some (.inr (.inl 86))], sy_dS F1 [], sy_dh F1 X1 X2 (iv_H 0), 0, 0)) :
    hd_W Ls xs d jm_M38 Q (64, sy_dL F [some (.inl (.ref 30)), some (.inr (.inl 82)), some (.inr (.inl 83)), none, some (.inr (.inl 84)), some (.inr (.inl 85))], sy_dS F [.inr (.inl 86)], sy_dh F X1 X2 (iv_H 0), 0, 0) := by
  refine hd_run (s := 0) (nv := 87) (pc := 23) (L := [some (.inl (.ref 30)), some (.inr (.inl 82)), some (.inr (.inl 83)), some (.inr (.inl 84)), some (.inr (.inl 85)), some (.inr (.inl 86))]) (S := []) (uh := hd_ov (iv_id 0 iv_B0) [(23, .inl (.inr (.inl 88))), (32, .inr (.inr (.inl 87)))]) (ul := [.inl (.inr (.inl 82)), .inl (.inr (.inl 83)), .inl (.inl (.int 0)), .inl (.inr (.inl 89)), .inl (.inr (.inl 90))]) (f := false) (sp := [23]) (d0 := 3) (O := [true, false, false, false, false]) (T := [(40, [.inr (.inl 23), .inl (.int (-10))], [.inr (.inl 32)]), (0, [.inr (.inl 23), .inl (.int 1)], []), (30, [.inr (.inl 33)], [.inr (.inl 39)]), (0, [.inr (.inl 85), .inl (.int 1)], [])]) (P := [(0, .inr (.inl 86), .inl (.int 0)), (0, .inr (.inl 84), .inl (.int 43)), (5, .inl (.int 512), .inr (.inl 23)), (6, .inr (.inl 23), .inl (.ref 512)), (3, .inr (.inl 33), .inl (.int 0)), (3, .inl (.int 400), .inr (.inl 33)), (6, .inr (.inl 33), .inl (.ref 401))]) jm_ok38 (by decide +kernel) (by decide +kernel) hd F X1 X2 (fun F' hF hs => ?_)
  have b86 := hd_b (F := F) (F' := F') (k := 86) (hF 86 (by decide))
  have b84 := hd_b (F := F) (F' := F') (k := 84) (hF 84 (by decide))
  have b23 := hd_b (F := F) (F' := F') (k := 23) (hF 23 (by decide))
  have b33 := hd_b (F := F) (F' := F') (k := 33) (hF 33 (by decide))
  have t88 : sy_dv F' (.inr (.inl 88)) = .int ((sy_i F 23) + ((1 : Int32))) := hd_o (hs 1 _ rfl) b23 rfl rfl
  have a32 := hd_ba (F := F) (F' := F') (k := 32) (hF 32 (by decide))
  have t87 : sy_da F' (.inr (.inl 87)) = .inl (jm_upd (sy_ai F 32) (sy_i F 23).toNatClampNeg (((-10) : Int32))) := hd_up (hs 0 _ rfl) b23 rfl a32
  have b82 := hd_b (F := F) (F' := F') (k := 82) (hF 82 (by decide))
  have b83 := hd_b (F := F) (F' := F') (k := 83) (hF 83 (by decide))
  have a39 := hd_ba (F := F) (F' := F') (k := 39) (hF 39 (by decide))
  have t89 : sy_dv F' (.inr (.inl 89)) = .int ((sy_ai F 39).getD (sy_i F 33).toNatClampNeg 0) := hd_rd (hs 2 _ rfl) b33 a39
  have b85 := hd_b (F := F) (F' := F') (k := 85) (hF 85 (by decide))
  have t90 : sy_dv F' (.inr (.inl 90)) = .int ((sy_i F 85) + ((1 : Int32))) := hd_o (hs 3 _ rfl) b85 rfl rfl
  have hB' : iv_in F' iv_B0 := iv_in_eq hB (fun j hj => hF j (Nat.lt_of_lt_of_le hj (by decide +kernel)))
  refine ⟨List.forall_mem_cons.mpr ⟨hd_p0 b86 rfl (by have hc : ((0) : Int32).toInt = 0 := (by decide); omega), List.forall_mem_cons.mpr ⟨hd_p0 b84 rfl (by have hc : ((43) : Int32).toInt = 43 := (by decide); omega), List.forall_mem_cons.mpr ⟨hd_p5 rfl b23 (by have hc : ((512) : Int32).toInt = 512 := (by decide); omega), List.forall_mem_cons.mpr ⟨hd_pb b23 (by first | exact h3 | exact h3), List.forall_mem_cons.mpr ⟨hd_p3 b33 rfl (by have hc : ((0) : Int32).toInt = 0 := (by decide); omega), List.forall_mem_cons.mpr ⟨hd_p3 rfl b33 (by have hc : ((400) : Int32).toInt = 400 := (by decide); omega), List.forall_mem_cons.mpr ⟨hd_pb b33 (by first | exact h6 | exact h6), fun _ h => absurd h List.not_mem_nil⟩⟩⟩⟩⟩⟩⟩, ?_⟩
  refine k _ ?_ ?_ ?_ ?_ ?_ ?_ ?_ ?_
  · exact fun j hj hn => (hd_keep hB' (Nat.lt_of_lt_of_le hj (by decide +kernel)) (by simp; omega)).trans (hF j (by omega))
  · exact hd_gi (x := .inr (.inl 88)) (by decide +kernel) t88
  · exact hd_ga (a := .inr (.inl 87)) (by decide +kernel) t87
  · exact hd_gi (x := .inr (.inl 82)) (by decide +kernel) b82
  · exact hd_gi (x := .inr (.inl 83)) (by decide +kernel) b83
  · exact hd_gi (x := .inl (.int 0)) (by decide +kernel) rfl
  · exact hd_gi (x := .inr (.inl 89)) (by decide +kernel) t89
  · exact hd_gi (x := .inr (.inl 90)) (by decide +kernel) t90
theorem k0ps_64_p4 {Ls : Nat} {xs : Nat → Int32} {d : Nat} {Q : Option Value → jm_h → Prop} (hd : 4 ≤ d) (F : Nat → sy_d) (X1 X2 : List jm_c) (hB : iv_in F iv_B0)
    (h0 : (sy_i F 86).toInt ≠ 0)
    (h1 : (sy_i F 84).toInt ≠ 43)
    (h2 : 512 ≤ (sy_i F 23).toInt)
    (h3 : 0 ≤ (sy_i F 33).toInt)
    (h4 : (sy_i F 33).toInt ≤ 400)
    (h5 : 0 ≤ (sy_i F 33).toInt ∧ (sy_i F 33).toInt < 401)
    (k : ∀ F1 : Nat → sy_d, (∀ j, j < 82 → True → F1 j = F j) → F1 82 = .inl (.int (sy_i F 82)) → F1 83 = .inl (.int (sy_i F 83)) → F1 84 = .inl (.int ((1 : Int32))) → F1 85 = .inl (.int ((sy_ai F 39).getD (sy_i F 33).toNatClampNeg 0)) → F1 86 = .inl (.int ((sy_i F 85) + ((1 : Int32)))) → hd_W Ls xs d jm_M38 Q (23, sy_dL F1 [some (.inl (.ref 30)), some (.inr (.inl 82)), some (.inr (.inl 83)), some (.inr (.inl 84)), some (.inr (.inl 85)), some (.inr (.inl 86))], sy_dS F1 [], sy_dh F1 X1 X2 (iv_H 0), 0, 0)) :
    hd_W Ls xs d jm_M38 Q (64, sy_dL F [some (.inl (.ref 30)), some (.inr (.inl 82)), some (.inr (.inl 83)), none, some (.inr (.inl 84)), some (.inr (.inl 85))], sy_dS F [.inr (.inl 86)], sy_dh F X1 X2 (iv_H 0), 0, 0) := by
  refine hd_run (s := 0) (nv := 87) (pc := 23) (L := [some (.inl (.ref 30)), some (.inr (.inl 82)), some (.inr (.inl 83)), some (.inr (.inl 84)), some (.inr (.inl 85)), some (.inr (.inl 86))]) (S := []) (uh := hd_ov (iv_id 0 iv_B0) []) (ul := [.inl (.inr (.inl 82)), .inl (.inr (.inl 83)), .inl (.inl (.int 1)), .inl (.inr (.inl 87)), .inl (.inr (.inl 88))]) (f := false) (sp := [23]) (d0 := 3) (O := [false, true, true, false, false]) (T := [(30, [.inr (.inl 33)], [.inr (.inl 39)]), (0, [.inr (.inl 85), .inl (.int 1)], [])]) (P := [(1, .inr (.inl 86), .inl (.int 0)), (1, .inr (.inl 84), .inl (.int 43)), (4, .inl (.int 512), .inr (.inl 23)), (3, .inr (.inl 33), .inl (.int 0)), (3, .inl (.int 400), .inr (.inl 33)), (6, .inr (.inl 33), .inl (.ref 401))]) jm_ok38 (by decide +kernel) (by decide +kernel) hd F X1 X2 (fun F' hF hs => ?_)
  have b86 := hd_b (F := F) (F' := F') (k := 86) (hF 86 (by decide))
  have b84 := hd_b (F := F) (F' := F') (k := 84) (hF 84 (by decide))
  have b23 := hd_b (F := F) (F' := F') (k := 23) (hF 23 (by decide))
  have b33 := hd_b (F := F) (F' := F') (k := 33) (hF 33 (by decide))
  have b82 := hd_b (F := F) (F' := F') (k := 82) (hF 82 (by decide))
  have b83 := hd_b (F := F) (F' := F') (k := 83) (hF 83 (by decide))
  have a39 := hd_ba (F := F) (F' := F') (k := 39) (hF 39 (by decide))
  have t87 : sy_dv F' (.inr (.inl 87)) = .int ((sy_ai F 39).getD (sy_i F 33).toNatClampNeg 0) := hd_rd (hs 0 _ rfl) b33 a39
  have b85 := hd_b (F := F) (F' := F') (k := 85) (hF 85 (by decide))
  have t88 : sy_dv F' (.inr (.inl 88)) = .int ((sy_i F 85) + ((1 : Int32))) := hd_o (hs 1 _ rfl) b85 rfl rfl
  have hB' : iv_in F' iv_B0 := iv_in_eq hB (fun j hj => hF j (Nat.lt_of_lt_of_le hj (by decide +kernel)))
  refine ⟨List.forall_mem_cons.mpr ⟨hd_p1 b86 rfl (by have hc : ((0) : Int32).toInt = 0 := (by decide); omega), List.forall_mem_cons.mpr ⟨hd_p1 b84 rfl (by have hc : ((43) : Int32).toInt = 43 := (by decide); omega), List.forall_mem_cons.mpr ⟨hd_p4 rfl b23 (by have hc : ((512) : Int32).toInt = 512 := (by decide); omega), List.forall_mem_cons.mpr ⟨hd_p3 b33 rfl (by have hc : ((0) : Int32).toInt = 0 := (by decide); omega), List.forall_mem_cons.mpr ⟨hd_p3 rfl b33 (by have hc : ((400) : Int32).toInt = 400 := (by decide); omega), List.forall_mem_cons.mpr ⟨hd_pb b33 (by first | exact h5 | exact h5), fun _ h => absurd h List.not_mem_nil⟩⟩⟩⟩⟩⟩, ?_⟩
  refine k _ ?_ ?_ ?_ ?_ ?_ ?_
  · exact fun j hj _ => (hd_keep hB' (Nat.lt_of_lt_of_le hj (by decide +kernel)) (by simp)).trans (hF j (by omega))
  · exact hd_gi (x := .inr (.inl 82)) (by decide +kernel) b82
  · exact hd_gi (x := .inr (.inl 83)) (by decide +kernel) b83
  · exact hd_gi (x := .inl (.int 1)) (by decide +kernel) rfl
  · exact hd_gi (x := .inr (.inl 87)) (by decide +kernel) t87
  · exact hd_gi (x := .inr (.inl 88)) (by decide +kernel) t88
theorem k0ps_64_p5 {Ls : Nat} {xs : Nat → Int32} {d : Nat} {Q : Option Value → jm_h → Prop} (hd : 4 ≤ d) (F : Nat → sy_d) (X1 X2 : List jm_c) (hB : iv_in F iv_B0)
    (h0 : (sy_i F 86).toInt ≠ 0)
    (h1 : (sy_i F 84).toInt ≠ 43)
    (h2 : (sy_i F 23).toInt < 512)
    (h3 : 0 ≤ (sy_i F 23).toInt ∧ (sy_i F 23).toInt < 512)
    (h4 : 0 ≤ (sy_i F 33).toInt)
    (h5 : (sy_i F 33).toInt ≤ 400)
    (h6 : 0 ≤ (sy_i F 33).toInt ∧ (sy_i F 33).toInt < 401)
    (k : ∀ F1 : Nat → sy_d, (∀ j, j < 82 → j ≠ 23 ∧ j ≠ 32 → F1 j = F j) → F1 23 = .inl (.int ((sy_i F 23) + ((1 : Int32)))) → F1 32 = .inr (.inl (jm_upd (sy_ai F 32) (sy_i F 23).toNatClampNeg (((-11) : Int32)))) → F1 82 = .inl (.int (sy_i F 82)) → F1 83 = .inl (.int (sy_i F 83)) → F1 84 = .inl (.int ((1 : Int32))) → F1 85 = .inl (.int ((sy_ai F 39).getD (sy_i F 33).toNatClampNeg 0)) → F1 86 = .inl (.int ((sy_i F 85) + ((1 : Int32)))) → hd_W Ls xs d jm_M38 Q (23, sy_dL F1 [some (.inl (.ref 30)), some (.inr (.inl 82)), some (.inr (.inl 83)), some (.inr (.inl 84)), some (.inr (.inl 85)), some (.inr (.inl 86))], sy_dS F1 [], sy_dh F1 X1 X2 (iv_H 0), 0, 0)) :
    hd_W Ls xs d jm_M38 Q (64, sy_dL F [some (.inl (.ref 30)), some (.inr (.inl 82)), some (.inr (.inl 83)), none, some (.inr (.inl 84)), some (.inr (.inl 85))], sy_dS F [.inr (.inl 86)], sy_dh F X1 X2 (iv_H 0), 0, 0) := by
  refine hd_run (s := 0) (nv := 87) (pc := 23) (L := [some (.inl (.ref 30)), some (.inr (.inl 82)), some (.inr (.inl 83)), some (.inr (.inl 84)), some (.inr (.inl 85)), some (.inr (.inl 86))]) (S := []) (uh := hd_ov (iv_id 0 iv_B0) [(23, .inl (.inr (.inl 88))), (32, .inr (.inr (.inl 87)))]) (ul := [.inl (.inr (.inl 82)), .inl (.inr (.inl 83)), .inl (.inl (.int 1)), .inl (.inr (.inl 89)), .inl (.inr (.inl 90))]) (f := false) (sp := [23]) (d0 := 3) (O := [false, true, false, false, false]) (T := [(40, [.inr (.inl 23), .inl (.int (-11))], [.inr (.inl 32)]), (0, [.inr (.inl 23), .inl (.int 1)], []), (30, [.inr (.inl 33)], [.inr (.inl 39)]), (0, [.inr (.inl 85), .inl (.int 1)], [])]) (P := [(1, .inr (.inl 86), .inl (.int 0)), (1, .inr (.inl 84), .inl (.int 43)), (5, .inl (.int 512), .inr (.inl 23)), (6, .inr (.inl 23), .inl (.ref 512)), (3, .inr (.inl 33), .inl (.int 0)), (3, .inl (.int 400), .inr (.inl 33)), (6, .inr (.inl 33), .inl (.ref 401))]) jm_ok38 (by decide +kernel) (by decide +kernel) hd F X1 X2 (fun F' hF hs => ?_)
  have b86 := hd_b (F := F) (F' := F') (k := 86) (hF 86 (by decide))
  have b84 := hd_b (F := F) (F' := F') (k := 84) (hF 84 (by decide))
  have b23 := hd_b (F := F) (F' := F') (k := 23) (hF 23 (by decide))
  have b33 := hd_b (F := F) (F' := F') (k := 33) (hF 33 (by decide))
  have t88 : sy_dv F' (.inr (.inl 88)) = .int ((sy_i F 23) + ((1 : Int32))) := hd_o (hs 1 _ rfl) b23 rfl rfl
  have a32 := hd_ba (F := F) (F' := F') (k := 32) (hF 32 (by decide))
  have t87 : sy_da F' (.inr (.inl 87)) = .inl (jm_upd (sy_ai F 32) (sy_i F 23).toNatClampNeg (((-11) : Int32))) := hd_up (hs 0 _ rfl) b23 rfl a32
  have b82 := hd_b (F := F) (F' := F') (k := 82) (hF 82 (by decide))
  have b83 := hd_b (F := F) (F' := F') (k := 83) (hF 83 (by decide))
  have a39 := hd_ba (F := F) (F' := F') (k := 39) (hF 39 (by decide))
  have t89 : sy_dv F' (.inr (.inl 89)) = .int ((sy_ai F 39).getD (sy_i F 33).toNatClampNeg 0) := hd_rd (hs 2 _ rfl) b33 a39
  have b85 := hd_b (F := F) (F' := F') (k := 85) (hF 85 (by decide))
  have t90 : sy_dv F' (.inr (.inl 90)) = .int ((sy_i F 85) + ((1 : Int32))) := hd_o (hs 3 _ rfl) b85 rfl rfl
  have hB' : iv_in F' iv_B0 := iv_in_eq hB (fun j hj => hF j (Nat.lt_of_lt_of_le hj (by decide +kernel)))
  refine ⟨List.forall_mem_cons.mpr ⟨hd_p1 b86 rfl (by have hc : ((0) : Int32).toInt = 0 := (by decide); omega), List.forall_mem_cons.mpr ⟨hd_p1 b84 rfl (by have hc : ((43) : Int32).toInt = 43 := (by decide); omega), List.forall_mem_cons.mpr ⟨hd_p5 rfl b23 (by have hc : ((512) : Int32).toInt = 512 := (by decide); omega), List.forall_mem_cons.mpr ⟨hd_pb b23 (by first | exact h3 | exact h3), List.forall_mem_cons.mpr ⟨hd_p3 b33 rfl (by have hc : ((0) : Int32).toInt = 0 := (by decide); omega), List.forall_mem_cons.mpr ⟨hd_p3 rfl b33 (by have hc : ((400) : Int32).toInt = 400 := (by decide); omega), List.forall_mem_cons.mpr ⟨hd_pb b33 (by first | exact h6 | exact h6), fun _ h => absurd h List.not_mem_nil⟩⟩⟩⟩⟩⟩⟩, ?_⟩
  refine k _ ?_ ?_ ?_ ?_ ?_ ?_ ?_ ?_
  · exact fun j hj hn => (hd_keep hB' (Nat.lt_of_lt_of_le hj (by decide +kernel)) (by simp; omega)).trans (hF j (by omega))
  · exact hd_gi (x := .inr (.inl 88)) (by decide +kernel) t88
  · exact hd_ga (a := .inr (.inl 87)) (by decide +kernel) t87
  · exact hd_gi (x := .inr (.inl 82)) (by decide +kernel) b82
  · exact hd_gi (x := .inr (.inl 83)) (by decide +kernel) b83
  · exact hd_gi (x := .inl (.int 1)) (by decide +kernel) rfl
  · exact hd_gi (x := .inr (.inl 89)) (by decide +kernel) t89
  · exact hd_gi (x := .inr (.inl 90)) (by decide +kernel) t90
theorem k0ps_64_p6 {Ls : Nat} {xs : Nat → Int32} {d : Nat} {Q : Option Value → jm_h → Prop} (hd : 4 ≤ d) (F : Nat → sy_d) (X1 X2 : List jm_c) (hB : iv_in F iv_B0)
    (h0 : (sy_i F 86).toInt ≠ 0)
    (h1 : (sy_i F 84).toInt = 43)
    (h2 : 512 ≤ (sy_i F 23).toInt)
    (h3 : 0 ≤ (sy_i F 33).toInt)
    (h4 : (sy_i F 33).toInt ≤ 400)
    (h5 : 0 ≤ (sy_i F 33).toInt ∧ (sy_i F 33).toInt < 401)
    (k : ∀ F1 : Nat → sy_d, (∀ j, j < 82 → True → F1 j = F j) → F1 82 = .inl (.int (sy_i F 82)) → F1 83 = .inl (.int (sy_i F 83)) → F1 84 = .inl (.int ((1 : Int32))) → F1 85 = .inl (.int ((sy_ai F 39).getD (sy_i F 33).toNatClampNeg 0)) → F1 86 = .inl (.int ((sy_i F 85) + ((1 : Int32)))) → hd_W Ls xs d jm_M38 Q (23, sy_dL F1 [some (.inl (.ref 30)), some (.inr (.inl 82)), some (.inr (.inl 83)), some (.inr (.inl 84)), some (.inr (.inl 85)), some (.inr (.inl 86))], sy_dS F1 [], sy_dh F1 X1 X2 (iv_H 0), 0, 0)) :
    hd_W Ls xs d jm_M38 Q (64, sy_dL F [some (.inl (.ref 30)), some (.inr (.inl 82)), some (.inr (.inl 83)), none, some (.inr (.inl 84)), some (.inr (.inl 85))], sy_dS F [.inr (.inl 86)], sy_dh F X1 X2 (iv_H 0), 0, 0) := by
  refine hd_run (s := 0) (nv := 87) (pc := 23) (L := [some (.inl (.ref 30)), some (.inr (.inl 82)), some (.inr (.inl 83)), some (.inr (.inl 84)), some (.inr (.inl 85)), some (.inr (.inl 86))]) (S := []) (uh := hd_ov (iv_id 0 iv_B0) []) (ul := [.inl (.inr (.inl 82)), .inl (.inr (.inl 83)), .inl (.inl (.int 1)), .inl (.inr (.inl 87)), .inl (.inr (.inl 88))]) (f := false) (sp := [23]) (d0 := 3) (O := [false, false, true, false, false]) (T := [(30, [.inr (.inl 33)], [.inr (.inl 39)]), (0, [.inr (.inl 85), .inl (.int 1)], [])]) (P := [(1, .inr (.inl 86), .inl (.int 0)), (0, .inr (.inl 84), .inl (.int 43)), (4, .inl (.int 512), .inr (.inl 23)), (3, .inr (.inl 33), .inl (.int 0)), (3, .inl (.int 400), .inr (.inl 33)), (6, .inr (.inl 33), .inl (.ref 401))]) jm_ok38 (by decide +kernel) (by decide +kernel) hd F X1 X2 (fun F' hF hs => ?_)
  have b86 := hd_b (F := F) (F' := F') (k := 86) (hF 86 (by decide))
  have b84 := hd_b (F := F) (F' := F') (k := 84) (hF 84 (by decide))
  have b23 := hd_b (F := F) (F' := F') (k := 23) (hF 23 (by decide))
  have b33 := hd_b (F := F) (F' := F') (k := 33) (hF 33 (by decide))
  have b82 := hd_b (F := F) (F' := F') (k := 82) (hF 82 (by decide))
  have b83 := hd_b (F := F) (F' := F') (k := 83) (hF 83 (by decide))
  have a39 := hd_ba (F := F) (F' := F') (k := 39) (hF 39 (by decide))
  have t87 : sy_dv F' (.inr (.inl 87)) = .int ((sy_ai F 39).getD (sy_i F 33).toNatClampNeg 0) := hd_rd (hs 0 _ rfl) b33 a39
  have b85 := hd_b (F := F) (F' := F') (k := 85) (hF 85 (by decide))
  have t88 : sy_dv F' (.inr (.inl 88)) = .int ((sy_i F 85) + ((1 : Int32))) := hd_o (hs 1 _ rfl) b85 rfl rfl
  have hB' : iv_in F' iv_B0 := iv_in_eq hB (fun j hj => hF j (Nat.lt_of_lt_of_le hj (by decide +kernel)))
  refine ⟨List.forall_mem_cons.mpr ⟨hd_p1 b86 rfl (by have hc : ((0) : Int32).toInt = 0 := (by decide); omega), List.forall_mem_cons.mpr ⟨hd_p0 b84 rfl (by have hc : ((43) : Int32).toInt = 43 := (by decide); omega), List.forall_mem_cons.mpr ⟨hd_p4 rfl b23 (by have hc : ((512) : Int32).toInt = 512 := (by decide); omega), List.forall_mem_cons.mpr ⟨hd_p3 b33 rfl (by have hc : ((0) : Int32).toInt = 0 := (by decide); omega), List.forall_mem_cons.mpr ⟨hd_p3 rfl b33 (by have hc : ((400) : Int32).toInt = 400 := (by decide); omega), List.forall_mem_cons.mpr ⟨hd_pb b33 (by first | exact h5 | exact h5), fun _ h => absurd h List.not_mem_nil⟩⟩⟩⟩⟩⟩, ?_⟩
  refine k _ ?_ ?_ ?_ ?_ ?_ ?_
  · exact fun j hj _ => (hd_keep hB' (Nat.lt_of_lt_of_le hj (by decide +kernel)) (by simp)).trans (hF j (by omega))
  · exact hd_gi (x := .inr (.inl 82)) (by decide +kernel) b82
  · exact hd_gi (x := .inr (.inl 83)) (by decide +kernel) b83
  · exact hd_gi (x := .inl (.int 1)) (by decide +kernel) rfl
  · exact hd_gi (x := .inr (.inl 87)) (by decide +kernel) t87
  · exact hd_gi (x := .inr (.inl 88)) (by decide +kernel) t88
theorem k0ps_64_p7 {Ls : Nat} {xs : Nat → Int32} {d : Nat} {Q : Option Value → jm_h → Prop} (hd : 4 ≤ d) (F : Nat → sy_d) (X1 X2 : List jm_c) (hB : iv_in F iv_B0)
    (h0 : (sy_i F 86).toInt ≠ 0)
    (h1 : (sy_i F 84).toInt = 43)
    (h2 : (sy_i F 23).toInt < 512)
    (h3 : 0 ≤ (sy_i F 23).toInt ∧ (sy_i F 23).toInt < 512)
    (h4 : 0 ≤ (sy_i F 33).toInt)
    (h5 : (sy_i F 33).toInt ≤ 400)
    (h6 : 0 ≤ (sy_i F 33).toInt ∧ (sy_i F 33).toInt < 401)
    (k : ∀ F1 : Nat → sy_d, (∀ j, j < 82 → j ≠ 23 ∧ j ≠ 32 → F1 j = F j) → F1 23 = .inl (.int ((sy_i F 23) + ((1 : Int32)))) → F1 32 = .inr (.inl (jm_upd (sy_ai F 32) (sy_i F 23).toNatClampNeg (((-10) : Int32)))) → F1 82 = .inl (.int (sy_i F 82)) → F1 83 = .inl (.int (sy_i F 83)) → F1 84 = .inl (.int ((1 : Int32))) → F1 85 = .inl (.int ((sy_ai F 39).getD (sy_i F 33).toNatClampNeg 0)) → F1 86 = .inl (.int ((sy_i F 85) + ((1 : Int32)))) → hd_W Ls xs d jm_M38 Q (23, sy_dL F1 [some (.inl (.ref 30)), some (.inr (.inl 82)), some (.inr (.inl 83)), some (.inr (.inl 84)), some (.inr (.inl 85)), some (.inr (.inl 86))], sy_dS F1 [], sy_dh F1 X1 X2 (iv_H 0), 0, 0)) :
    hd_W Ls xs d jm_M38 Q (64, sy_dL F [some (.inl (.ref 30)), some (.inr (.inl 82)), some (.inr (.inl 83)), none, some (.inr (.inl 84)), some (.inr (.inl 85))], sy_dS F [.inr (.inl 86)], sy_dh F X1 X2 (iv_H 0), 0, 0) := by
  refine hd_run (s := 0) (nv := 87) (pc := 23) (L := [some (.inl (.ref 30)), some (.inr (.inl 82)), some (.inr (.inl 83)), some (.inr (.inl 84)), some (.inr (.inl 85)), some (.inr (.inl 86))]) (S := []) (uh := hd_ov (iv_id 0 iv_B0) [(23, .inl (.inr (.inl 88))), (32, .inr (.inr (.inl 87)))]) (ul := [.inl (.inr (.inl 82)), .inl (.inr (.inl 83)), .inl (.inl (.int 1)), .inl (.inr (.inl 89)), .inl (.inr (.inl 90))]) (f := false) (sp := [23]) (d0 := 3) (O := [false, false, false, false, false]) (T := [(40, [.inr (.inl 23), .inl (.int (-10))], [.inr (.inl 32)]), (0, [.inr (.inl 23), .inl (.int 1)], []), (30, [.inr (.inl 33)], [.inr (.inl 39)]), (0, [.inr (.inl 85), .inl (.int 1)], [])]) (P := [(1, .inr (.inl 86), .inl (.int 0)), (0, .inr (.inl 84), .inl (.int 43)), (5, .inl (.int 512), .inr (.inl 23)), (6, .inr (.inl 23), .inl (.ref 512)), (3, .inr (.inl 33), .inl (.int 0)), (3, .inl (.int 400), .inr (.inl 33)), (6, .inr (.inl 33), .inl (.ref 401))]) jm_ok38 (by decide +kernel) (by decide +kernel) hd F X1 X2 (fun F' hF hs => ?_)
  have b86 := hd_b (F := F) (F' := F') (k := 86) (hF 86 (by decide))
  have b84 := hd_b (F := F) (F' := F') (k := 84) (hF 84 (by decide))
  have b23 := hd_b (F := F) (F' := F') (k := 23) (hF 23 (by decide))
  have b33 := hd_b (F := F) (F' := F') (k := 33) (hF 33 (by decide))
  have t88 : sy_dv F' (.inr (.inl 88)) = .int ((sy_i F 23) + ((1 : Int32))) := hd_o (hs 1 _ rfl) b23 rfl rfl
  have a32 := hd_ba (F := F) (F' := F') (k := 32) (hF 32 (by decide))
  have t87 : sy_da F' (.inr (.inl 87)) = .inl (jm_upd (sy_ai F 32) (sy_i F 23).toNatClampNeg (((-10) : Int32))) := hd_up (hs 0 _ rfl) b23 rfl a32
  have b82 := hd_b (F := F) (F' := F') (k := 82) (hF 82 (by decide))
  have b83 := hd_b (F := F) (F' := F') (k := 83) (hF 83 (by decide))
  have a39 := hd_ba (F := F) (F' := F') (k := 39) (hF 39 (by decide))
  have t89 : sy_dv F' (.inr (.inl 89)) = .int ((sy_ai F 39).getD (sy_i F 33).toNatClampNeg 0) := hd_rd (hs 2 _ rfl) b33 a39
  have b85 := hd_b (F := F) (F' := F') (k := 85) (hF 85 (by decide))
  have t90 : sy_dv F' (.inr (.inl 90)) = .int ((sy_i F 85) + ((1 : Int32))) := hd_o (hs 3 _ rfl) b85 rfl rfl
  have hB' : iv_in F' iv_B0 := iv_in_eq hB (fun j hj => hF j (Nat.lt_of_lt_of_le hj (by decide +kernel)))
  refine ⟨List.forall_mem_cons.mpr ⟨hd_p1 b86 rfl (by have hc : ((0) : Int32).toInt = 0 := (by decide); omega), List.forall_mem_cons.mpr ⟨hd_p0 b84 rfl (by have hc : ((43) : Int32).toInt = 43 := (by decide); omega), List.forall_mem_cons.mpr ⟨hd_p5 rfl b23 (by have hc : ((512) : Int32).toInt = 512 := (by decide); omega), List.forall_mem_cons.mpr ⟨hd_pb b23 (by first | exact h3 | exact h3), List.forall_mem_cons.mpr ⟨hd_p3 b33 rfl (by have hc : ((0) : Int32).toInt = 0 := (by decide); omega), List.forall_mem_cons.mpr ⟨hd_p3 rfl b33 (by have hc : ((400) : Int32).toInt = 400 := (by decide); omega), List.forall_mem_cons.mpr ⟨hd_pb b33 (by first | exact h6 | exact h6), fun _ h => absurd h List.not_mem_nil⟩⟩⟩⟩⟩⟩⟩, ?_⟩
  refine k _ ?_ ?_ ?_ ?_ ?_ ?_ ?_ ?_
  · exact fun j hj hn => (hd_keep hB' (Nat.lt_of_lt_of_le hj (by decide +kernel)) (by simp; omega)).trans (hF j (by omega))
  · exact hd_gi (x := .inr (.inl 88)) (by decide +kernel) t88
  · exact hd_ga (a := .inr (.inl 87)) (by decide +kernel) t87
  · exact hd_gi (x := .inr (.inl 82)) (by decide +kernel) b82
  · exact hd_gi (x := .inr (.inl 83)) (by decide +kernel) b83
  · exact hd_gi (x := .inl (.int 1)) (by decide +kernel) rfl
  · exact hd_gi (x := .inr (.inl 89)) (by decide +kernel) t89
  · exact hd_gi (x := .inr (.inl 90)) (by decide +kernel) t90
theorem k0ps_64 {Ls : Nat} {xs : Nat → Int32} {d : Nat} {Q : Option Value → jm_h → Prop} (hd : 4 ≤ d) (F : Nat → sy_d) (X1 X2 : List jm_c) (hB : iv_in F iv_B0)
    (a85 : 0 ≤ (sy_i F 85).toInt ∧ (sy_i F 85).toInt ≤ 400)
    (k0 : (sy_i F 86).toInt = 0 → (sy_i F 84).toInt ≠ 43 → 512 ≤ (sy_i F 23).toInt → 0 ≤ (sy_i F 33).toInt → (sy_i F 33).toInt ≤ 400 → ∀ F1 : Nat → sy_d, iv_in F1 iv_B0 → (∀ j, j < 82 → j ∉ ([] : List Nat) → F1 j = F j) → (sy_i F1 33).toInt = (sy_i F 33).toInt → (sy_i F1 34).toInt = (sy_i F 34).toInt → (sy_i F1 23).toInt = (sy_i F 23).toInt → sy_ai F1 39 = sy_ai F 39 → (sy_i F1 82).toInt = (sy_i F 82).toInt → (sy_i F1 83).toInt = (sy_i F 83).toInt → (sy_i F1 84).toInt = 0 → (sy_i F1 85).toInt = ((sy_ai F 39).getD ((sy_i F 33).toInt).toNat 0).toInt → (sy_i F1 86).toInt = ((sy_i F 85).toInt + 1) → hd_W Ls xs d jm_M38 Q (23, sy_dL F1 [some (.inl (.ref 30)), some (.inr (.inl 82)), some (.inr (.inl 83)), some (.inr (.inl 84)), some (.inr (.inl 85)), some (.inr (.inl 86))], sy_dS F1 [], sy_dh F1 X1 X2 (iv_H 0), 0, 0))
    (k1 : (sy_i F 86).toInt = 0 → (sy_i F 84).toInt ≠ 43 → (sy_i F 23).toInt < 512 → 0 ≤ (sy_i F 33).toInt → (sy_i F 33).toInt ≤ 400 → ∀ F1 : Nat → sy_d, iv_in F1 iv_B0 → (∀ j, j < 82 → j ∉ ([23, 32] : List Nat) → F1 j = F j) → (sy_i F1 33).toInt = (sy_i F 33).toInt → (sy_i F1 34).toInt = (sy_i F 34).toInt → (sy_i F1 23).toInt = ((sy_i F 23).toInt + 1) → sy_ai F1 39 = sy_ai F 39 → (sy_i F1 82).toInt = (sy_i F 82).toInt → (sy_i F1 83).toInt = (sy_i F 83).toInt → (sy_i F1 84).toInt = 0 → (sy_i F1 85).toInt = ((sy_ai F 39).getD ((sy_i F 33).toInt).toNat 0).toInt → (sy_i F1 86).toInt = ((sy_i F 85).toInt + 1) → hd_W Ls xs d jm_M38 Q (23, sy_dL F1 [some (.inl (.ref 30)), some (.inr (.inl 82)), some (.inr (.inl 83)), some (.inr (.inl 84)), some (.inr (.inl 85)), some (.inr (.inl 86))], sy_dS F1 [], sy_dh F1 X1 X2 (iv_H 0), 0, 0))
    (k2 : (sy_i F 86).toInt = 0 → (sy_i F 84).toInt = 43 → 512 ≤ (sy_i F 23).toInt → 0 ≤ (sy_i F 33).toInt → (sy_i F 33).toInt ≤ 400 → ∀ F1 : Nat → sy_d, iv_in F1 iv_B0 → (∀ j, j < 82 → j ∉ ([] : List Nat) → F1 j = F j) → (sy_i F1 33).toInt = (sy_i F 33).toInt → (sy_i F1 34).toInt = (sy_i F 34).toInt → (sy_i F1 23).toInt = (sy_i F 23).toInt → sy_ai F1 39 = sy_ai F 39 → (sy_i F1 82).toInt = (sy_i F 82).toInt → (sy_i F1 83).toInt = (sy_i F 83).toInt → (sy_i F1 84).toInt = 0 → (sy_i F1 85).toInt = ((sy_ai F 39).getD ((sy_i F 33).toInt).toNat 0).toInt → (sy_i F1 86).toInt = ((sy_i F 85).toInt + 1) → hd_W Ls xs d jm_M38 Q (23, sy_dL F1 [some (.inl (.ref 30)), some (.inr (.inl 82)), some (.inr (.inl 83)), some (.inr (.inl 84)), some (.inr (.inl 85)), some (.inr (.inl 86))], sy_dS F1 [], sy_dh F1 X1 X2 (iv_H 0), 0, 0))
    (k3 : (sy_i F 86).toInt = 0 → (sy_i F 84).toInt = 43 → (sy_i F 23).toInt < 512 → 0 ≤ (sy_i F 33).toInt → (sy_i F 33).toInt ≤ 400 → ∀ F1 : Nat → sy_d, iv_in F1 iv_B0 → (∀ j, j < 82 → j ∉ ([23, 32] : List Nat) → F1 j = F j) → (sy_i F1 33).toInt = (sy_i F 33).toInt → (sy_i F1 34).toInt = (sy_i F 34).toInt → (sy_i F1 23).toInt = ((sy_i F 23).toInt + 1) → sy_ai F1 39 = sy_ai F 39 → (sy_i F1 82).toInt = (sy_i F 82).toInt → (sy_i F1 83).toInt = (sy_i F 83).toInt → (sy_i F1 84).toInt = 0 → (sy_i F1 85).toInt = ((sy_ai F 39).getD ((sy_i F 33).toInt).toNat 0).toInt → (sy_i F1 86).toInt = ((sy_i F 85).toInt + 1) → hd_W Ls xs d jm_M38 Q (23, sy_dL F1 [some (.inl (.ref 30)), some (.inr (.inl 82)), some (.inr (.inl 83)), some (.inr (.inl 84)), some (.inr (.inl 85)), some (.inr (.inl 86))], sy_dS F1 [], sy_dh F1 X1 X2 (iv_H 0), 0, 0))
    (k4 : (sy_i F 86).toInt ≠ 0 → (sy_i F 84).toInt ≠ 43 → 512 ≤ (sy_i F 23).toInt → 0 ≤ (sy_i F 33).toInt → (sy_i F 33).toInt ≤ 400 → ∀ F1 : Nat → sy_d, iv_in F1 iv_B0 → (∀ j, j < 82 → j ∉ ([] : List Nat) → F1 j = F j) → (sy_i F1 33).toInt = (sy_i F 33).toInt → (sy_i F1 34).toInt = (sy_i F 34).toInt → (sy_i F1 23).toInt = (sy_i F 23).toInt → sy_ai F1 39 = sy_ai F 39 → (sy_i F1 82).toInt = (sy_i F 82).toInt → (sy_i F1 83).toInt = (sy_i F 83).toInt → (sy_i F1 84).toInt = 1 → (sy_i F1 85).toInt = ((sy_ai F 39).getD ((sy_i F 33).toInt).toNat 0).toInt → (sy_i F1 86).toInt = ((sy_i F 85).toInt + 1) → hd_W Ls xs d jm_M38 Q (23, sy_dL F1 [some (.inl (.ref 30)), some (.inr (.inl 82)), some (.inr (.inl 83)), some (.inr (.inl 84)), some (.inr (.inl 85)), some (.inr (.inl 86))], sy_dS F1 [], sy_dh F1 X1 X2 (iv_H 0), 0, 0))
    (k5 : (sy_i F 86).toInt ≠ 0 → (sy_i F 84).toInt ≠ 43 → (sy_i F 23).toInt < 512 → 0 ≤ (sy_i F 33).toInt → (sy_i F 33).toInt ≤ 400 → ∀ F1 : Nat → sy_d, iv_in F1 iv_B0 → (∀ j, j < 82 → j ∉ ([23, 32] : List Nat) → F1 j = F j) → (sy_i F1 33).toInt = (sy_i F 33).toInt → (sy_i F1 34).toInt = (sy_i F 34).toInt → (sy_i F1 23).toInt = ((sy_i F 23).toInt + 1) → sy_ai F1 39 = sy_ai F 39 → (sy_i F1 82).toInt = (sy_i F 82).toInt → (sy_i F1 83).toInt = (sy_i F 83).toInt → (sy_i F1 84).toInt = 1 → (sy_i F1 85).toInt = ((sy_ai F 39).getD ((sy_i F 33).toInt).toNat 0).toInt → (sy_i F1 86).toInt = ((sy_i F 85).toInt + 1) → hd_W Ls xs d jm_M38 Q (23, sy_dL F1 [some (.inl (.ref 30)), some (.inr (.inl 82)), some (.inr (.inl 83)), some (.inr (.inl 84)), some (.inr (.inl 85)), some (.inr (.inl 86))], sy_dS F1 [], sy_dh F1 X1 X2 (iv_H 0), 0, 0))
    (k6 : (sy_i F 86).toInt ≠ 0 → (sy_i F 84).toInt = 43 → 512 ≤ (sy_i F 23).toInt → 0 ≤ (sy_i F 33).toInt → (sy_i F 33).toInt ≤ 400 → ∀ F1 : Nat → sy_d, iv_in F1 iv_B0 → (∀ j, j < 82 → j ∉ ([] : List Nat) → F1 j = F j) → (sy_i F1 33).toInt = (sy_i F 33).toInt → (sy_i F1 34).toInt = (sy_i F 34).toInt → (sy_i F1 23).toInt = (sy_i F 23).toInt → sy_ai F1 39 = sy_ai F 39 → (sy_i F1 82).toInt = (sy_i F 82).toInt → (sy_i F1 83).toInt = (sy_i F 83).toInt → (sy_i F1 84).toInt = 1 → (sy_i F1 85).toInt = ((sy_ai F 39).getD ((sy_i F 33).toInt).toNat 0).toInt → (sy_i F1 86).toInt = ((sy_i F 85).toInt + 1) → hd_W Ls xs d jm_M38 Q (23, sy_dL F1 [some (.inl (.ref 30)), some (.inr (.inl 82)), some (.inr (.inl 83)), some (.inr (.inl 84)), some (.inr (.inl 85)), some (.inr (.inl 86))], sy_dS F1 [], sy_dh F1 X1 X2 (iv_H 0), 0, 0))
    (k7 : (sy_i F 86).toInt ≠ 0 → (sy_i F 84).toInt = 43 → (sy_i F 23).toInt < 512 → 0 ≤ (sy_i F 33).toInt → (sy_i F 33).toInt ≤ 400 → ∀ F1 : Nat → sy_d, iv_in F1 iv_B0 → (∀ j, j < 82 → j ∉ ([23, 32] : List Nat) → F1 j = F j) → (sy_i F1 33).toInt = (sy_i F 33).toInt → (sy_i F1 34).toInt = (sy_i F 34).toInt → (sy_i F1 23).toInt = ((sy_i F 23).toInt + 1) → sy_ai F1 39 = sy_ai F 39 → (sy_i F1 82).toInt = (sy_i F 82).toInt → (sy_i F1 83).toInt = (sy_i F 83).toInt → (sy_i F1 84).toInt = 1 → (sy_i F1 85).toInt = ((sy_ai F 39).getD ((sy_i F 33).toInt).toNat 0).toInt → (sy_i F1 86).toInt = ((sy_i F 85).toInt + 1) → hd_W Ls xs d jm_M38 Q (23, sy_dL F1 [some (.inl (.ref 30)), some (.inr (.inl 82)), some (.inr (.inl 83)), some (.inr (.inl 84)), some (.inr (.inl 85)), some (.inr (.inl 86))], sy_dS F1 [], sy_dh F1 X1 X2 (iv_H 0), 0, 0)) :
    hd_W Ls xs d jm_M38 Q (64, sy_dL F [some (.inl (.ref 30)), some (.inr (.inl 82)), some (.inr (.inl 83)), none, some (.inr (.inl 84)), some (.inr (.inl 85))], sy_dS F [.inr (.inl 86)], sy_dh F X1 X2 (iv_H 0), 0, 0) := by
  by_cases g0 : (sy_i F 86).toInt = 0
  · by_cases g1 : (sy_i F 84).toInt ≠ 43
    · by_cases g2 : 512 ≤ (sy_i F 23).toInt
      · by_cases g3 : (sy_i F 33).toInt < 0
        · have c23 := nz_bx hB (k := 23) (lo := 0) (hi := 512) rfl
          have c33 := nz_bx hB (k := 33) (lo := 0) (hi := 400) rfl
          exfalso
          omega
        replace g3 : 0 ≤ (sy_i F 33).toInt := by omega
        by_cases g4 : 400 < (sy_i F 33).toInt
        · have c23 := nz_bx hB (k := 23) (lo := 0) (hi := 512) rfl
          have c33 := nz_bx hB (k := 33) (lo := 0) (hi := 400) rfl
          exfalso
          omega
        replace g4 : (sy_i F 33).toInt ≤ 400 := by omega
        have c23 := nz_bx hB (k := 23) (lo := 0) (hi := 512) rfl
        have c33 := nz_bx hB (k := 33) (lo := 0) (hi := 400) rfl
        have q87 : (sy_ai F 39).getD (sy_i F 33).toNatClampNeg 0 = (sy_ai F 39).getD ((sy_i F 33).toInt).toNat 0 := by simp only [nz_c]
        have n87 : ((sy_ai F 39).getD (sy_i F 33).toNatClampNeg 0).toInt = ((sy_ai F 39).getD ((sy_i F 33).toInt).toNat 0).toInt := congrArg Int32.toInt q87
        have n88 : ((sy_i F 85) + ((1 : Int32))).toInt = ((sy_i F 85).toInt + 1) := nz_add (rfl : (sy_i F 85).toInt = (sy_i F 85).toInt) (by decide : ((1 : Int32)).toInt = 1) (by omega) (by omega)
        exact k0ps_64_p0 hd F X1 X2 hB (by first | exact g0 | (simp only [nz_c]; exact g0)) (by first | exact g1 | (simp only [nz_c]; exact g1)) (by first | exact g2 | (simp only [nz_c]; exact g2)) (by first | exact g3 | (simp only [nz_c]; exact g3)) (by first | exact g4 | (simp only [nz_c]; exact g4)) (by first | exact ⟨by omega, by omega⟩ | (simp only [nz_c]; exact ⟨by omega, by omega⟩)) (fun F1 g e82 e83 e84 e85 e86 => k0 g0 g1 g2 g3 g4 F1 (nz_in0 hB [] (fun j hj hn => g j hj (by simp only [List.mem_cons, List.not_mem_nil, or_false, not_or] at hn; exact trivial)) (List.forall_mem_nil _)) (fun j hj hn => g j hj (by simp only [List.mem_cons, List.not_mem_nil, or_false, not_or] at hn; exact trivial)) (nz_fi (g 33 (by decide) (by decide))) (nz_fi (g 34 (by decide) (by decide))) (nz_fi (g 23 (by decide) (by decide))) (nz_fa (g 39 (by decide) (by decide))) ((congrArg Int32.toInt (zz_i e82)).trans (rfl : (sy_i F 82).toInt = (sy_i F 82).toInt)) ((congrArg Int32.toInt (zz_i e83)).trans (rfl : (sy_i F 83).toInt = (sy_i F 83).toInt)) ((congrArg Int32.toInt (zz_i e84)).trans (by decide : ((0 : Int32)).toInt = 0)) ((congrArg Int32.toInt (zz_i e85)).trans n87) ((congrArg Int32.toInt (zz_i e86)).trans n88))
      replace g2 : (sy_i F 23).toInt < 512 := by omega
      by_cases g3 : (sy_i F 33).toInt < 0
      · have c23 := nz_bx hB (k := 23) (lo := 0) (hi := 512) rfl
        have c33 := nz_bx hB (k := 33) (lo := 0) (hi := 400) rfl
        exfalso
        omega
      replace g3 : 0 ≤ (sy_i F 33).toInt := by omega
      by_cases g4 : 400 < (sy_i F 33).toInt
      · have c23 := nz_bx hB (k := 23) (lo := 0) (hi := 512) rfl
        have c33 := nz_bx hB (k := 33) (lo := 0) (hi := 400) rfl
        exfalso
        omega
      replace g4 : (sy_i F 33).toInt ≤ 400 := by omega
      have c23 := nz_bx hB (k := 23) (lo := 0) (hi := 512) rfl
      have c33 := nz_bx hB (k := 33) (lo := 0) (hi := 400) rfl
      have n88 : ((sy_i F 23) + ((1 : Int32))).toInt = ((sy_i F 23).toInt + 1) := nz_add (rfl : (sy_i F 23).toInt = (sy_i F 23).toInt) (by decide : ((1 : Int32)).toInt = 1) (by omega) (by omega)
      have q89 : (sy_ai F 39).getD (sy_i F 33).toNatClampNeg 0 = (sy_ai F 39).getD ((sy_i F 33).toInt).toNat 0 := by simp only [nz_c]
      have n89 : ((sy_ai F 39).getD (sy_i F 33).toNatClampNeg 0).toInt = ((sy_ai F 39).getD ((sy_i F 33).toInt).toNat 0).toInt := congrArg Int32.toInt q89
      have n90 : ((sy_i F 85) + ((1 : Int32))).toInt = ((sy_i F 85).toInt + 1) := nz_add (rfl : (sy_i F 85).toInt = (sy_i F 85).toInt) (by decide : ((1 : Int32)).toInt = 1) (by omega) (by omega)
      exact k0ps_64_p1 hd F X1 X2 hB (by first | exact g0 | (simp only [nz_c]; exact g0)) (by first | exact g1 | (simp only [nz_c]; exact g1)) (by first | exact g2 | (simp only [nz_c]; exact g2)) (by first | exact ⟨by omega, by omega⟩ | (simp only [nz_c]; exact ⟨by omega, by omega⟩)) (by first | exact g3 | (simp only [nz_c]; exact g3)) (by first | exact g4 | (simp only [nz_c]; exact g4)) (by first | exact ⟨by omega, by omega⟩ | (simp only [nz_c]; exact ⟨by omega, by omega⟩)) (fun F1 g e23 e32 e82 e83 e84 e85 e86 => k1 g0 g1 g2 g3 g4 F1 (nz_in0 hB [23, 32] (fun j hj hn => g j hj (by simp only [List.mem_cons, List.not_mem_nil, or_false, not_or] at hn; omega)) (List.forall_mem_cons.mpr ⟨fun t ht => (Option.some.inj ht) ▸ (nz_hi e23 n88 (by omega) (by omega)), List.forall_mem_cons.mpr ⟨fun t ht => (Option.some.inj ht) ▸ (nz_hA e32 (nz_up (nz_ba hB (k := 32) (lo := (-2147483648)) (hi := 2147483646) rfl) (by decide : (((-11) : Int32)).toInt = (-11 : Int)) (by omega) (by omega))), List.forall_mem_nil _⟩⟩)) (fun j hj hn => g j hj (by simp only [List.mem_cons, List.not_mem_nil, or_false, not_or] at hn; omega)) (nz_fi (g 33 (by decide) (by decide))) (nz_fi (g 34 (by decide) (by decide))) ((congrArg Int32.toInt (zz_i e23)).trans n88) (nz_fa (g 39 (by decide) (by decide))) ((congrArg Int32.toInt (zz_i e82)).trans (rfl : (sy_i F 82).toInt = (sy_i F 82).toInt)) ((congrArg Int32.toInt (zz_i e83)).trans (rfl : (sy_i F 83).toInt = (sy_i F 83).toInt)) ((congrArg Int32.toInt (zz_i e84)).trans (by decide : ((0 : Int32)).toInt = 0)) ((congrArg Int32.toInt (zz_i e85)).trans n89) ((congrArg Int32.toInt (zz_i e86)).trans n90))
    replace g1 : (sy_i F 84).toInt = 43 := by omega
    by_cases g2 : 512 ≤ (sy_i F 23).toInt
    · by_cases g3 : (sy_i F 33).toInt < 0
      · have c23 := nz_bx hB (k := 23) (lo := 0) (hi := 512) rfl
        have c33 := nz_bx hB (k := 33) (lo := 0) (hi := 400) rfl
        exfalso
        omega
      replace g3 : 0 ≤ (sy_i F 33).toInt := by omega
      by_cases g4 : 400 < (sy_i F 33).toInt
      · have c23 := nz_bx hB (k := 23) (lo := 0) (hi := 512) rfl
        have c33 := nz_bx hB (k := 33) (lo := 0) (hi := 400) rfl
        exfalso
        omega
      replace g4 : (sy_i F 33).toInt ≤ 400 := by omega
      have c23 := nz_bx hB (k := 23) (lo := 0) (hi := 512) rfl
      have c33 := nz_bx hB (k := 33) (lo := 0) (hi := 400) rfl
      have q87 : (sy_ai F 39).getD (sy_i F 33).toNatClampNeg 0 = (sy_ai F 39).getD ((sy_i F 33).toInt).toNat 0 := by simp only [nz_c]
      have n87 : ((sy_ai F 39).getD (sy_i F 33).toNatClampNeg 0).toInt = ((sy_ai F 39).getD ((sy_i F 33).toInt).toNat 0).toInt := congrArg Int32.toInt q87
      have n88 : ((sy_i F 85) + ((1 : Int32))).toInt = ((sy_i F 85).toInt + 1) := nz_add (rfl : (sy_i F 85).toInt = (sy_i F 85).toInt) (by decide : ((1 : Int32)).toInt = 1) (by omega) (by omega)
      exact k0ps_64_p2 hd F X1 X2 hB (by first | exact g0 | (simp only [nz_c]; exact g0)) (by first | exact g1 | (simp only [nz_c]; exact g1)) (by first | exact g2 | (simp only [nz_c]; exact g2)) (by first | exact g3 | (simp only [nz_c]; exact g3)) (by first | exact g4 | (simp only [nz_c]; exact g4)) (by first | exact ⟨by omega, by omega⟩ | (simp only [nz_c]; exact ⟨by omega, by omega⟩)) (fun F1 g e82 e83 e84 e85 e86 => k2 g0 g1 g2 g3 g4 F1 (nz_in0 hB [] (fun j hj hn => g j hj (by simp only [List.mem_cons, List.not_mem_nil, or_false, not_or] at hn; exact trivial)) (List.forall_mem_nil _)) (fun j hj hn => g j hj (by simp only [List.mem_cons, List.not_mem_nil, or_false, not_or] at hn; exact trivial)) (nz_fi (g 33 (by decide) (by decide))) (nz_fi (g 34 (by decide) (by decide))) (nz_fi (g 23 (by decide) (by decide))) (nz_fa (g 39 (by decide) (by decide))) ((congrArg Int32.toInt (zz_i e82)).trans (rfl : (sy_i F 82).toInt = (sy_i F 82).toInt)) ((congrArg Int32.toInt (zz_i e83)).trans (rfl : (sy_i F 83).toInt = (sy_i F 83).toInt)) ((congrArg Int32.toInt (zz_i e84)).trans (by decide : ((0 : Int32)).toInt = 0)) ((congrArg Int32.toInt (zz_i e85)).trans n87) ((congrArg Int32.toInt (zz_i e86)).trans n88))
    replace g2 : (sy_i F 23).toInt < 512 := by omega
    by_cases g3 : (sy_i F 33).toInt < 0
    · have c23 := nz_bx hB (k := 23) (lo := 0) (hi := 512) rfl
      have c33 := nz_bx hB (k := 33) (lo := 0) (hi := 400) rfl
      exfalso
      omega
    replace g3 : 0 ≤ (sy_i F 33).toInt := by omega
    by_cases g4 : 400 < (sy_i F 33).toInt
    · have c23 := nz_bx hB (k := 23) (lo := 0) (hi := 512) rfl
      have c33 := nz_bx hB (k := 33) (lo := 0) (hi := 400) rfl
      exfalso
      omega
    replace g4 : (sy_i F 33).toInt ≤ 400 := by omega
    have c23 := nz_bx hB (k := 23) (lo := 0) (hi := 512) rfl
    have c33 := nz_bx hB (k := 33) (lo := 0) (hi := 400) rfl
    have n88 : ((sy_i F 23) + ((1 : Int32))).toInt = ((sy_i F 23).toInt + 1) := nz_add (rfl : (sy_i F 23).toInt = (sy_i F 23).toInt) (by decide : ((1 : Int32)).toInt = 1) (by omega) (by omega)
    have q89 : (sy_ai F 39).getD (sy_i F 33).toNatClampNeg 0 = (sy_ai F 39).getD ((sy_i F 33).toInt).toNat 0 := by simp only [nz_c]
    have n89 : ((sy_ai F 39).getD (sy_i F 33).toNatClampNeg 0).toInt = ((sy_ai F 39).getD ((sy_i F 33).toInt).toNat 0).toInt := congrArg Int32.toInt q89
    have n90 : ((sy_i F 85) + ((1 : Int32))).toInt = ((sy_i F 85).toInt + 1) := nz_add (rfl : (sy_i F 85).toInt = (sy_i F 85).toInt) (by decide : ((1 : Int32)).toInt = 1) (by omega) (by omega)
    exact k0ps_64_p3 hd F X1 X2 hB (by first | exact g0 | (simp only [nz_c]; exact g0)) (by first | exact g1 | (simp only [nz_c]; exact g1)) (by first | exact g2 | (simp only [nz_c]; exact g2)) (by first | exact ⟨by omega, by omega⟩ | (simp only [nz_c]; exact ⟨by omega, by omega⟩)) (by first | exact g3 | (simp only [nz_c]; exact g3)) (by first | exact g4 | (simp only [nz_c]; exact g4)) (by first | exact ⟨by omega, by omega⟩ | (simp only [nz_c]; exact ⟨by omega, by omega⟩)) (fun F1 g e23 e32 e82 e83 e84 e85 e86 => k3 g0 g1 g2 g3 g4 F1 (nz_in0 hB [23, 32] (fun j hj hn => g j hj (by simp only [List.mem_cons, List.not_mem_nil, or_false, not_or] at hn; omega)) (List.forall_mem_cons.mpr ⟨fun t ht => (Option.some.inj ht) ▸ (nz_hi e23 n88 (by omega) (by omega)), List.forall_mem_cons.mpr ⟨fun t ht => (Option.some.inj ht) ▸ (nz_hA e32 (nz_up (nz_ba hB (k := 32) (lo := (-2147483648)) (hi := 2147483646) rfl) (by decide : (((-10) : Int32)).toInt = (-10 : Int)) (by omega) (by omega))), List.forall_mem_nil _⟩⟩)) (fun j hj hn => g j hj (by simp only [List.mem_cons, List.not_mem_nil, or_false, not_or] at hn; omega)) (nz_fi (g 33 (by decide) (by decide))) (nz_fi (g 34 (by decide) (by decide))) ((congrArg Int32.toInt (zz_i e23)).trans n88) (nz_fa (g 39 (by decide) (by decide))) ((congrArg Int32.toInt (zz_i e82)).trans (rfl : (sy_i F 82).toInt = (sy_i F 82).toInt)) ((congrArg Int32.toInt (zz_i e83)).trans (rfl : (sy_i F 83).toInt = (sy_i F 83).toInt)) ((congrArg Int32.toInt (zz_i e84)).trans (by decide : ((0 : Int32)).toInt = 0)) ((congrArg Int32.toInt (zz_i e85)).trans n89) ((congrArg Int32.toInt (zz_i e86)).trans n90))
  replace g0 : (sy_i F 86).toInt ≠ 0 := by omega
  by_cases g1 : (sy_i F 84).toInt ≠ 43
  · by_cases g2 : 512 ≤ (sy_i F 23).toInt
    · by_cases g3 : (sy_i F 33).toInt < 0
      · have c23 := nz_bx hB (k := 23) (lo := 0) (hi := 512) rfl
        have c33 := nz_bx hB (k := 33) (lo := 0) (hi := 400) rfl
        exfalso
        omega
      replace g3 : 0 ≤ (sy_i F 33).toInt := by omega
      by_cases g4 : 400 < (sy_i F 33).toInt
      · have c23 := nz_bx hB (k := 23) (lo := 0) (hi := 512) rfl
        have c33 := nz_bx hB (k := 33) (lo := 0) (hi := 400) rfl
        exfalso
        omega
      replace g4 : (sy_i F 33).toInt ≤ 400 := by omega
      have c23 := nz_bx hB (k := 23) (lo := 0) (hi := 512) rfl
      have c33 := nz_bx hB (k := 33) (lo := 0) (hi := 400) rfl
      have q87 : (sy_ai F 39).getD (sy_i F 33).toNatClampNeg 0 = (sy_ai F 39).getD ((sy_i F 33).toInt).toNat 0 := by simp only [nz_c]
      have n87 : ((sy_ai F 39).getD (sy_i F 33).toNatClampNeg 0).toInt = ((sy_ai F 39).getD ((sy_i F 33).toInt).toNat 0).toInt := congrArg Int32.toInt q87
      have n88 : ((sy_i F 85) + ((1 : Int32))).toInt = ((sy_i F 85).toInt + 1) := nz_add (rfl : (sy_i F 85).toInt = (sy_i F 85).toInt) (by decide : ((1 : Int32)).toInt = 1) (by omega) (by omega)
      exact k0ps_64_p4 hd F X1 X2 hB (by first | exact g0 | (simp only [nz_c]; exact g0)) (by first | exact g1 | (simp only [nz_c]; exact g1)) (by first | exact g2 | (simp only [nz_c]; exact g2)) (by first | exact g3 | (simp only [nz_c]; exact g3)) (by first | exact g4 | (simp only [nz_c]; exact g4)) (by first | exact ⟨by omega, by omega⟩ | (simp only [nz_c]; exact ⟨by omega, by omega⟩)) (fun F1 g e82 e83 e84 e85 e86 => k4 g0 g1 g2 g3 g4 F1 (nz_in0 hB [] (fun j hj hn => g j hj (by simp only [List.mem_cons, List.not_mem_nil, or_false, not_or] at hn; exact trivial)) (List.forall_mem_nil _)) (fun j hj hn => g j hj (by simp only [List.mem_cons, List.not_mem_nil, or_false, not_or] at hn; exact trivial)) (nz_fi (g 33 (by decide) (by decide))) (nz_fi (g 34 (by decide) (by decide))) (nz_fi (g 23 (by decide) (by decide))) (nz_fa (g 39 (by decide) (by decide))) ((congrArg Int32.toInt (zz_i e82)).trans (rfl : (sy_i F 82).toInt = (sy_i F 82).toInt)) ((congrArg Int32.toInt (zz_i e83)).trans (rfl : (sy_i F 83).toInt = (sy_i F 83).toInt)) ((congrArg Int32.toInt (zz_i e84)).trans (by decide : ((1 : Int32)).toInt = 1)) ((congrArg Int32.toInt (zz_i e85)).trans n87) ((congrArg Int32.toInt (zz_i e86)).trans n88))
    replace g2 : (sy_i F 23).toInt < 512 := by omega
    by_cases g3 : (sy_i F 33).toInt < 0
    · have c23 := nz_bx hB (k := 23) (lo := 0) (hi := 512) rfl
      have c33 := nz_bx hB (k := 33) (lo := 0) (hi := 400) rfl
      exfalso
      omega
    replace g3 : 0 ≤ (sy_i F 33).toInt := by omega
    by_cases g4 : 400 < (sy_i F 33).toInt
    · have c23 := nz_bx hB (k := 23) (lo := 0) (hi := 512) rfl
      have c33 := nz_bx hB (k := 33) (lo := 0) (hi := 400) rfl
      exfalso
      omega
    replace g4 : (sy_i F 33).toInt ≤ 400 := by omega
    have c23 := nz_bx hB (k := 23) (lo := 0) (hi := 512) rfl
    have c33 := nz_bx hB (k := 33) (lo := 0) (hi := 400) rfl
    have n88 : ((sy_i F 23) + ((1 : Int32))).toInt = ((sy_i F 23).toInt + 1) := nz_add (rfl : (sy_i F 23).toInt = (sy_i F 23).toInt) (by decide : ((1 : Int32)).toInt = 1) (by omega) (by omega)
    have q89 : (sy_ai F 39).getD (sy_i F 33).toNatClampNeg 0 = (sy_ai F 39).getD ((sy_i F 33).toInt).toNat 0 := by simp only [nz_c]
    have n89 : ((sy_ai F 39).getD (sy_i F 33).toNatClampNeg 0).toInt = ((sy_ai F 39).getD ((sy_i F 33).toInt).toNat 0).toInt := congrArg Int32.toInt q89
    have n90 : ((sy_i F 85) + ((1 : Int32))).toInt = ((sy_i F 85).toInt + 1) := nz_add (rfl : (sy_i F 85).toInt = (sy_i F 85).toInt) (by decide : ((1 : Int32)).toInt = 1) (by omega) (by omega)
    exact k0ps_64_p5 hd F X1 X2 hB (by first | exact g0 | (simp only [nz_c]; exact g0)) (by first | exact g1 | (simp only [nz_c]; exact g1)) (by first | exact g2 | (simp only [nz_c]; exact g2)) (by first | exact ⟨by omega, by omega⟩ | (simp only [nz_c]; exact ⟨by omega, by omega⟩)) (by first | exact g3 | (simp only [nz_c]; exact g3)) (by first | exact g4 | (simp only [nz_c]; exact g4)) (by first | exact ⟨by omega, by omega⟩ | (simp only [nz_c]; exact ⟨by omega, by omega⟩)) (fun F1 g e23 e32 e82 e83 e84 e85 e86 => k5 g0 g1 g2 g3 g4 F1 (nz_in0 hB [23, 32] (fun j hj hn => g j hj (by simp only [List.mem_cons, List.not_mem_nil, or_false, not_or] at hn; omega)) (List.forall_mem_cons.mpr ⟨fun t ht => (Option.some.inj ht) ▸ (nz_hi e23 n88 (by omega) (by omega)), List.forall_mem_cons.mpr ⟨fun t ht => (Option.some.inj ht) ▸ (nz_hA e32 (nz_up (nz_ba hB (k := 32) (lo := (-2147483648)) (hi := 2147483646) rfl) (by decide : (((-11) : Int32)).toInt = (-11 : Int)) (by omega) (by omega))), List.forall_mem_nil _⟩⟩)) (fun j hj hn => g j hj (by simp only [List.mem_cons, List.not_mem_nil, or_false, not_or] at hn; omega)) (nz_fi (g 33 (by decide) (by decide))) (nz_fi (g 34 (by decide) (by decide))) ((congrArg Int32.toInt (zz_i e23)).trans n88) (nz_fa (g 39 (by decide) (by decide))) ((congrArg Int32.toInt (zz_i e82)).trans (rfl : (sy_i F 82).toInt = (sy_i F 82).toInt)) ((congrArg Int32.toInt (zz_i e83)).trans (rfl : (sy_i F 83).toInt = (sy_i F 83).toInt)) ((congrArg Int32.toInt (zz_i e84)).trans (by decide : ((1 : Int32)).toInt = 1)) ((congrArg Int32.toInt (zz_i e85)).trans n89) ((congrArg Int32.toInt (zz_i e86)).trans n90))
  replace g1 : (sy_i F 84).toInt = 43 := by omega
  by_cases g2 : 512 ≤ (sy_i F 23).toInt
  · by_cases g3 : (sy_i F 33).toInt < 0
    · have c23 := nz_bx hB (k := 23) (lo := 0) (hi := 512) rfl
      have c33 := nz_bx hB (k := 33) (lo := 0) (hi := 400) rfl
      exfalso
      omega
    replace g3 : 0 ≤ (sy_i F 33).toInt := by omega
    by_cases g4 : 400 < (sy_i F 33).toInt
    · have c23 := nz_bx hB (k := 23) (lo := 0) (hi := 512) rfl
      have c33 := nz_bx hB (k := 33) (lo := 0) (hi := 400) rfl
      exfalso
      omega
    replace g4 : (sy_i F 33).toInt ≤ 400 := by omega
    have c23 := nz_bx hB (k := 23) (lo := 0) (hi := 512) rfl
    have c33 := nz_bx hB (k := 33) (lo := 0) (hi := 400) rfl
    have q87 : (sy_ai F 39).getD (sy_i F 33).toNatClampNeg 0 = (sy_ai F 39).getD ((sy_i F 33).toInt).toNat 0 := by simp only [nz_c]
    have n87 : ((sy_ai F 39).getD (sy_i F 33).toNatClampNeg 0).toInt = ((sy_ai F 39).getD ((sy_i F 33).toInt).toNat 0).toInt := congrArg Int32.toInt q87
    have n88 : ((sy_i F 85) + ((1 : Int32))).toInt = ((sy_i F 85).toInt + 1) := nz_add (rfl : (sy_i F 85).toInt = (sy_i F 85).toInt) (by decide : ((1 : Int32)).toInt = 1) (by omega) (by omega)
    exact k0ps_64_p6 hd F X1 X2 hB (by first | exact g0 | (simp only [nz_c]; exact g0)) (by first | exact g1 | (simp only [nz_c]; exact g1)) (by first | exact g2 | (simp only [nz_c]; exact g2)) (by first | exact g3 | (simp only [nz_c]; exact g3)) (by first | exact g4 | (simp only [nz_c]; exact g4)) (by first | exact ⟨by omega, by omega⟩ | (simp only [nz_c]; exact ⟨by omega, by omega⟩)) (fun F1 g e82 e83 e84 e85 e86 => k6 g0 g1 g2 g3 g4 F1 (nz_in0 hB [] (fun j hj hn => g j hj (by simp only [List.mem_cons, List.not_mem_nil, or_false, not_or] at hn; exact trivial)) (List.forall_mem_nil _)) (fun j hj hn => g j hj (by simp only [List.mem_cons, List.not_mem_nil, or_false, not_or] at hn; exact trivial)) (nz_fi (g 33 (by decide) (by decide))) (nz_fi (g 34 (by decide) (by decide))) (nz_fi (g 23 (by decide) (by decide))) (nz_fa (g 39 (by decide) (by decide))) ((congrArg Int32.toInt (zz_i e82)).trans (rfl : (sy_i F 82).toInt = (sy_i F 82).toInt)) ((congrArg Int32.toInt (zz_i e83)).trans (rfl : (sy_i F 83).toInt = (sy_i F 83).toInt)) ((congrArg Int32.toInt (zz_i e84)).trans (by decide : ((1 : Int32)).toInt = 1)) ((congrArg Int32.toInt (zz_i e85)).trans n87) ((congrArg Int32.toInt (zz_i e86)).trans n88))
  replace g2 : (sy_i F 23).toInt < 512 := by omega
  by_cases g3 : (sy_i F 33).toInt < 0
  · have c23 := nz_bx hB (k := 23) (lo := 0) (hi := 512) rfl
    have c33 := nz_bx hB (k := 33) (lo := 0) (hi := 400) rfl
    exfalso
    omega
  replace g3 : 0 ≤ (sy_i F 33).toInt := by omega
  by_cases g4 : 400 < (sy_i F 33).toInt
  · have c23 := nz_bx hB (k := 23) (lo := 0) (hi := 512) rfl
    have c33 := nz_bx hB (k := 33) (lo := 0) (hi := 400) rfl
    exfalso
    omega
  replace g4 : (sy_i F 33).toInt ≤ 400 := by omega
  have c23 := nz_bx hB (k := 23) (lo := 0) (hi := 512) rfl
  have c33 := nz_bx hB (k := 33) (lo := 0) (hi := 400) rfl
  have n88 : ((sy_i F 23) + ((1 : Int32))).toInt = ((sy_i F 23).toInt + 1) := nz_add (rfl : (sy_i F 23).toInt = (sy_i F 23).toInt) (by decide : ((1 : Int32)).toInt = 1) (by omega) (by omega)
  have q89 : (sy_ai F 39).getD (sy_i F 33).toNatClampNeg 0 = (sy_ai F 39).getD ((sy_i F 33).toInt).toNat 0 := by simp only [nz_c]
  have n89 : ((sy_ai F 39).getD (sy_i F 33).toNatClampNeg 0).toInt = ((sy_ai F 39).getD ((sy_i F 33).toInt).toNat 0).toInt := congrArg Int32.toInt q89
  have n90 : ((sy_i F 85) + ((1 : Int32))).toInt = ((sy_i F 85).toInt + 1) := nz_add (rfl : (sy_i F 85).toInt = (sy_i F 85).toInt) (by decide : ((1 : Int32)).toInt = 1) (by omega) (by omega)
  exact k0ps_64_p7 hd F X1 X2 hB (by first | exact g0 | (simp only [nz_c]; exact g0)) (by first | exact g1 | (simp only [nz_c]; exact g1)) (by first | exact g2 | (simp only [nz_c]; exact g2)) (by first | exact ⟨by omega, by omega⟩ | (simp only [nz_c]; exact ⟨by omega, by omega⟩)) (by first | exact g3 | (simp only [nz_c]; exact g3)) (by first | exact g4 | (simp only [nz_c]; exact g4)) (by first | exact ⟨by omega, by omega⟩ | (simp only [nz_c]; exact ⟨by omega, by omega⟩)) (fun F1 g e23 e32 e82 e83 e84 e85 e86 => k7 g0 g1 g2 g3 g4 F1 (nz_in0 hB [23, 32] (fun j hj hn => g j hj (by simp only [List.mem_cons, List.not_mem_nil, or_false, not_or] at hn; omega)) (List.forall_mem_cons.mpr ⟨fun t ht => (Option.some.inj ht) ▸ (nz_hi e23 n88 (by omega) (by omega)), List.forall_mem_cons.mpr ⟨fun t ht => (Option.some.inj ht) ▸ (nz_hA e32 (nz_up (nz_ba hB (k := 32) (lo := (-2147483648)) (hi := 2147483646) rfl) (by decide : (((-10) : Int32)).toInt = (-10 : Int)) (by omega) (by omega))), List.forall_mem_nil _⟩⟩)) (fun j hj hn => g j hj (by simp only [List.mem_cons, List.not_mem_nil, or_false, not_or] at hn; omega)) (nz_fi (g 33 (by decide) (by decide))) (nz_fi (g 34 (by decide) (by decide))) ((congrArg Int32.toInt (zz_i e23)).trans n88) (nz_fa (g 39 (by decide) (by decide))) ((congrArg Int32.toInt (zz_i e82)).trans (rfl : (sy_i F 82).toInt = (sy_i F 82).toInt)) ((congrArg Int32.toInt (zz_i e83)).trans (rfl : (sy_i F 83).toInt = (sy_i F 83).toInt)) ((congrArg Int32.toInt (zz_i e84)).trans (by decide : ((1 : Int32)).toInt = 1)) ((congrArg Int32.toInt (zz_i e85)).trans n89) ((congrArg Int32.toInt (zz_i e86)).trans n90))
