/-! ===== the class parses a text, one after the other (shape 0) ===== -/
theorem k0pq_52_p0 {Ls : Nat} {xs : Nat → Int32} {d : Nat} {Q : Option Value → jm_h → Prop} (hd : 7 ≤ d) (F : Nat → sy_d) (X1 X2 : List jm_c) (hB : iv_in F iv_B0)
    (h0 : 400 < (sy_i F 83).toInt)
    (k : ∀ F1 : Nat → sy_d, (∀ j, j < 82 → True → F1 j = F j) → F1 82 = .inl (.int (sy_i F 82)) → hd_W Ls xs d jm_M31 Q (189, sy_dL F1 [some (.inl (.ref 30)), none, none, none, some (.inr (.inl 82)), none, none], sy_dS F1 [], sy_dh F1 X1 X2 (iv_H 0), 0, 0)) :
    hd_W Ls xs d jm_M31 Q (52, sy_dL F [some (.inl (.ref 30)), none, none, none, some (.inr (.inl 82)), some (.inr (.inl 83)), none], sy_dS F [], sy_dh F X1 X2 (iv_H 0), 0, 0) := by
  refine hd_run (s := 0) (nv := 84) (pc := 189) (L := [some (.inl (.ref 30)), none, none, none, some (.inr (.inl 82)), none, none]) (S := []) (uh := hd_ov (iv_id 0 iv_B0) []) (ul := [.inl (.inr (.inl 82))]) (f := true) (sp := [52, 100, 115, 143, 168, 189]) (d0 := 6) (O := [true]) (T := []) (P := [(2, .inl (.int 400), .inr (.inl 83))]) jm_ok31 (by decide +kernel) (by decide +kernel) hd F X1 X2 (fun F' hF hs => ?_)
  have b83 := hd_b (F := F) (F' := F') (k := 83) (hF 83 (by decide))
  have b82 := hd_b (F := F) (F' := F') (k := 82) (hF 82 (by decide))
  have hB' : iv_in F' iv_B0 := iv_in_eq hB (fun j hj => hF j (Nat.lt_of_lt_of_le hj (by decide +kernel)))
  refine ⟨List.forall_mem_cons.mpr ⟨hd_p2 rfl b83 (by have hc : ((400) : Int32).toInt = 400 := (by decide); omega), fun _ h => absurd h List.not_mem_nil⟩, ?_⟩
  refine k _ ?_ ?_
  · exact fun j hj _ => (hd_keep hB' (Nat.lt_of_lt_of_le hj (by decide +kernel)) (by simp)).trans (hF j (by omega))
  · exact hd_gi (x := .inr (.inl 82)) (by decide +kernel) b82
theorem k0pq_52_p1 {Ls : Nat} {xs : Nat → Int32} {d : Nat} {Q : Option Value → jm_h → Prop} (hd : 7 ≤ d) (F : Nat → sy_d) (X1 X2 : List jm_c) (hB : iv_in F iv_B0)
    (h0 : (sy_i F 83).toInt ≤ 400)
    (h1 : (sy_i F 82).toInt = 0)
    (k : ∀ F1 : Nat → sy_d, (∀ j, j < 82 → True → F1 j = F j) → F1 82 = .inl (.int (sy_i F 82)) → hd_W Ls xs d jm_M31 Q (189, sy_dL F1 [some (.inl (.ref 30)), none, none, none, some (.inr (.inl 82)), none, none], sy_dS F1 [], sy_dh F1 X1 X2 (iv_H 0), 0, 0)) :
    hd_W Ls xs d jm_M31 Q (52, sy_dL F [some (.inl (.ref 30)), none, none, none, some (.inr (.inl 82)), some (.inr (.inl 83)), none], sy_dS F [], sy_dh F X1 X2 (iv_H 0), 0, 0) := by
  refine hd_run (s := 0) (nv := 84) (pc := 189) (L := [some (.inl (.ref 30)), none, none, none, some (.inr (.inl 82)), none, none]) (S := []) (uh := hd_ov (iv_id 0 iv_B0) []) (ul := [.inl (.inr (.inl 82))]) (f := true) (sp := [52, 100, 115, 143, 168, 189]) (d0 := 6) (O := [false, true]) (T := []) (P := [(3, .inl (.int 400), .inr (.inl 83)), (0, .inr (.inl 82), .inl (.int 0))]) jm_ok31 (by decide +kernel) (by decide +kernel) hd F X1 X2 (fun F' hF hs => ?_)
  have b83 := hd_b (F := F) (F' := F') (k := 83) (hF 83 (by decide))
  have b82 := hd_b (F := F) (F' := F') (k := 82) (hF 82 (by decide))
  have hB' : iv_in F' iv_B0 := iv_in_eq hB (fun j hj => hF j (Nat.lt_of_lt_of_le hj (by decide +kernel)))
  refine ⟨List.forall_mem_cons.mpr ⟨hd_p3 rfl b83 (by have hc : ((400) : Int32).toInt = 400 := (by decide); omega), List.forall_mem_cons.mpr ⟨hd_p0 b82 rfl (by have hc : ((0) : Int32).toInt = 0 := (by decide); omega), fun _ h => absurd h List.not_mem_nil⟩⟩, ?_⟩
  refine k _ ?_ ?_
  · exact fun j hj _ => (hd_keep hB' (Nat.lt_of_lt_of_le hj (by decide +kernel)) (by simp)).trans (hF j (by omega))
  · exact hd_gi (x := .inr (.inl 82)) (by decide +kernel) b82
theorem k0pq_52_p2 {Ls : Nat} {xs : Nat → Int32} {d : Nat} {Q : Option Value → jm_h → Prop} (hd : 7 ≤ d) (F : Nat → sy_d) (X1 X2 : List jm_c) (hB : iv_in F iv_B0)
    (h0 : (sy_i F 83).toInt ≤ 400)
    (h1 : (sy_i F 82).toInt ≠ 0)
    (h2 : 0 ≤ (sy_i F 33).toInt)
    (h3 : (sy_i F 33).toInt ≤ 400)
    (h4 : 0 ≤ (sy_i F 33).toInt ∧ (sy_i F 33).toInt < 401)
    (h5 : ((sy_ai F 39).getD (sy_i F 33).toNatClampNeg 0).toInt = 26)
    (k : ∀ F1 : Nat → sy_d, (∀ j, j < 82 → True → F1 j = F j) → F1 82 = .inl (.int (sy_i F 82)) → hd_W Ls xs d jm_M31 Q (189, sy_dL F1 [some (.inl (.ref 30)), none, none, none, some (.inr (.inl 82)), none, none], sy_dS F1 [], sy_dh F1 X1 X2 (iv_H 0), 0, 0)) :
    hd_W Ls xs d jm_M31 Q (52, sy_dL F [some (.inl (.ref 30)), none, none, none, some (.inr (.inl 82)), some (.inr (.inl 83)), none], sy_dS F [], sy_dh F X1 X2 (iv_H 0), 0, 0) := by
  refine hd_run (s := 0) (nv := 84) (pc := 189) (L := [some (.inl (.ref 30)), none, none, none, some (.inr (.inl 82)), none, none]) (S := []) (uh := hd_ov (iv_id 0 iv_B0) []) (ul := [.inl (.inr (.inl 82))]) (f := true) (sp := [52, 100, 115, 143, 168, 189]) (d0 := 6) (O := [false, false, false, false, true]) (T := [(30, [.inr (.inl 33)], [.inr (.inl 39)])]) (P := [(3, .inl (.int 400), .inr (.inl 83)), (1, .inr (.inl 82), .inl (.int 0)), (3, .inr (.inl 33), .inl (.int 0)), (3, .inl (.int 400), .inr (.inl 33)), (6, .inr (.inl 33), .inl (.ref 401)), (0, .inr (.inl 84), .inl (.int 26))]) jm_ok31 (by decide +kernel) (by decide +kernel) hd F X1 X2 (fun F' hF hs => ?_)
  have b83 := hd_b (F := F) (F' := F') (k := 83) (hF 83 (by decide))
  have b82 := hd_b (F := F) (F' := F') (k := 82) (hF 82 (by decide))
  have b33 := hd_b (F := F) (F' := F') (k := 33) (hF 33 (by decide))
  have a39 := hd_ba (F := F) (F' := F') (k := 39) (hF 39 (by decide))
  have t84 : sy_dv F' (.inr (.inl 84)) = .int ((sy_ai F 39).getD (sy_i F 33).toNatClampNeg 0) := hd_rd (hs 0 _ rfl) b33 a39
  have hB' : iv_in F' iv_B0 := iv_in_eq hB (fun j hj => hF j (Nat.lt_of_lt_of_le hj (by decide +kernel)))
  refine ⟨List.forall_mem_cons.mpr ⟨hd_p3 rfl b83 (by have hc : ((400) : Int32).toInt = 400 := (by decide); omega), List.forall_mem_cons.mpr ⟨hd_p1 b82 rfl (by have hc : ((0) : Int32).toInt = 0 := (by decide); omega), List.forall_mem_cons.mpr ⟨hd_p3 b33 rfl (by have hc : ((0) : Int32).toInt = 0 := (by decide); omega), List.forall_mem_cons.mpr ⟨hd_p3 rfl b33 (by have hc : ((400) : Int32).toInt = 400 := (by decide); omega), List.forall_mem_cons.mpr ⟨hd_pb b33 (by first | exact h4 | exact h4), List.forall_mem_cons.mpr ⟨hd_p0 t84 rfl (by have hc : ((26) : Int32).toInt = 26 := (by decide); omega), fun _ h => absurd h List.not_mem_nil⟩⟩⟩⟩⟩⟩, ?_⟩
  refine k _ ?_ ?_
  · exact fun j hj _ => (hd_keep hB' (Nat.lt_of_lt_of_le hj (by decide +kernel)) (by simp)).trans (hF j (by omega))
  · exact hd_gi (x := .inr (.inl 82)) (by decide +kernel) b82
theorem k0pq_52_p3 {Ls : Nat} {xs : Nat → Int32} {d : Nat} {Q : Option Value → jm_h → Prop} (hd : 7 ≤ d) (F : Nat → sy_d) (X1 X2 : List jm_c) (hB : iv_in F iv_B0)
    (h0 : (sy_i F 83).toInt ≤ 400)
    (h1 : (sy_i F 82).toInt ≠ 0)
    (h2 : 0 ≤ (sy_i F 33).toInt)
    (h3 : (sy_i F 33).toInt ≤ 400)
    (h4 : 0 ≤ (sy_i F 33).toInt ∧ (sy_i F 33).toInt < 401)
    (h5 : ((sy_ai F 39).getD (sy_i F 33).toNatClampNeg 0).toInt ≠ 26)
    (h6 : 0 ≤ (sy_i F 33).toInt)
    (h7 : (sy_i F 33).toInt ≤ 400)
    (h8 : 0 ≤ (sy_i F 33).toInt ∧ (sy_i F 33).toInt < 401)
    (h9 : ((sy_ai F 39).getD (sy_i F 33).toNatClampNeg 0).toInt ≠ 0)
    (h10 : ((sy_ai F 39).getD (sy_i F 33).toNatClampNeg 0).toInt ≠ 1)
    (h11 : ((sy_ai F 39).getD (sy_i F 33).toNatClampNeg 0).toInt < 2)
    (h12 : ((sy_ai F 39).getD (sy_i F 33).toNatClampNeg 0).toInt < 8)
    (k : ∀ F1 : Nat → sy_d, (∀ j, j < 82 → j ≠ 34 → F1 j = F j) → F1 34 = .inl (.int ((1 : Int32))) → F1 82 = .inl (.int ((0 : Int32))) → F1 83 = .inl (.int ((sy_i F 83) + ((1 : Int32)))) → hd_W Ls xs d jm_M31 Q (52, sy_dL F1 [some (.inl (.ref 30)), none, none, none, some (.inr (.inl 82)), some (.inr (.inl 83)), none], sy_dS F1 [], sy_dh F1 X1 X2 (iv_H 0), 0, 0)) :
    hd_W Ls xs d jm_M31 Q (52, sy_dL F [some (.inl (.ref 30)), none, none, none, some (.inr (.inl 82)), some (.inr (.inl 83)), none], sy_dS F [], sy_dh F X1 X2 (iv_H 0), 0, 0) := by
  refine hd_run (s := 0) (nv := 84) (pc := 52) (L := [some (.inl (.ref 30)), none, none, none, some (.inr (.inl 82)), some (.inr (.inl 83)), none]) (S := []) (uh := hd_ov (iv_id 0 iv_B0) [(34, .inl (.inl (.int 1)))]) (ul := [.inl (.inl (.int 0)), .inl (.inr (.inl 86))]) (f := true) (sp := [52, 100, 115, 143, 168, 189]) (d0 := 6) (O := [false, false, false, false, false, false, false, true, true, true, true]) (T := [(30, [.inr (.inl 33)], [.inr (.inl 39)]), (30, [.inr (.inl 33)], [.inr (.inl 39)]), (0, [.inr (.inl 83), .inl (.int 1)], [])]) (P := [(3, .inl (.int 400), .inr (.inl 83)), (1, .inr (.inl 82), .inl (.int 0)), (3, .inr (.inl 33), .inl (.int 0)), (3, .inl (.int 400), .inr (.inl 33)), (6, .inr (.inl 33), .inl (.ref 401)), (1, .inr (.inl 84), .inl (.int 26)), (3, .inr (.inl 33), .inl (.int 0)), (3, .inl (.int 400), .inr (.inl 33)), (6, .inr (.inl 33), .inl (.ref 401)), (1, .inr (.inl 85), .inl (.int 0)), (1, .inr (.inl 85), .inl (.int 1)), (2, .inr (.inl 85), .inl (.int 2)), (2, .inr (.inl 85), .inl (.int 8))]) jm_ok31 (by decide +kernel) (by decide +kernel) hd F X1 X2 (fun F' hF hs => ?_)
  have b83 := hd_b (F := F) (F' := F') (k := 83) (hF 83 (by decide))
  have b82 := hd_b (F := F) (F' := F') (k := 82) (hF 82 (by decide))
  have b33 := hd_b (F := F) (F' := F') (k := 33) (hF 33 (by decide))
  have a39 := hd_ba (F := F) (F' := F') (k := 39) (hF 39 (by decide))
  have t84 : sy_dv F' (.inr (.inl 84)) = .int ((sy_ai F 39).getD (sy_i F 33).toNatClampNeg 0) := hd_rd (hs 0 _ rfl) b33 a39
  have t85 : sy_dv F' (.inr (.inl 85)) = .int ((sy_ai F 39).getD (sy_i F 33).toNatClampNeg 0) := hd_rd (hs 1 _ rfl) b33 a39
  have t86 : sy_dv F' (.inr (.inl 86)) = .int ((sy_i F 83) + ((1 : Int32))) := hd_o (hs 2 _ rfl) b83 rfl rfl
  have hB' : iv_in F' iv_B0 := iv_in_eq hB (fun j hj => hF j (Nat.lt_of_lt_of_le hj (by decide +kernel)))
  refine ⟨List.forall_mem_cons.mpr ⟨hd_p3 rfl b83 (by have hc : ((400) : Int32).toInt = 400 := (by decide); omega), List.forall_mem_cons.mpr ⟨hd_p1 b82 rfl (by have hc : ((0) : Int32).toInt = 0 := (by decide); omega), List.forall_mem_cons.mpr ⟨hd_p3 b33 rfl (by have hc : ((0) : Int32).toInt = 0 := (by decide); omega), List.forall_mem_cons.mpr ⟨hd_p3 rfl b33 (by have hc : ((400) : Int32).toInt = 400 := (by decide); omega), List.forall_mem_cons.mpr ⟨hd_pb b33 (by first | exact h4 | exact h4), List.forall_mem_cons.mpr ⟨hd_p1 t84 rfl (by have hc : ((26) : Int32).toInt = 26 := (by decide); omega), List.forall_mem_cons.mpr ⟨hd_p3 b33 rfl (by have hc : ((0) : Int32).toInt = 0 := (by decide); omega), List.forall_mem_cons.mpr ⟨hd_p3 rfl b33 (by have hc : ((400) : Int32).toInt = 400 := (by decide); omega), List.forall_mem_cons.mpr ⟨hd_pb b33 (by first | exact h8 | exact h8), List.forall_mem_cons.mpr ⟨hd_p1 t85 rfl (by have hc : ((0) : Int32).toInt = 0 := (by decide); omega), List.forall_mem_cons.mpr ⟨hd_p1 t85 rfl (by have hc : ((1) : Int32).toInt = 1 := (by decide); omega), List.forall_mem_cons.mpr ⟨hd_p2 t85 rfl (by have hc : ((2) : Int32).toInt = 2 := (by decide); omega), List.forall_mem_cons.mpr ⟨hd_p2 t85 rfl (by have hc : ((8) : Int32).toInt = 8 := (by decide); omega), fun _ h => absurd h List.not_mem_nil⟩⟩⟩⟩⟩⟩⟩⟩⟩⟩⟩⟩⟩, ?_⟩
  refine k _ ?_ ?_ ?_ ?_
  · exact fun j hj hn => (hd_keep hB' (Nat.lt_of_lt_of_le hj (by decide +kernel)) (by simp; omega)).trans (hF j (by omega))
  · exact hd_gi (x := .inl (.int 1)) (by decide +kernel) rfl
  · exact hd_gi (x := .inl (.int 0)) (by decide +kernel) rfl
  · exact hd_gi (x := .inr (.inl 86)) (by decide +kernel) t86
theorem k0pq_52_p4 {Ls : Nat} {xs : Nat → Int32} {d : Nat} {Q : Option Value → jm_h → Prop} (hd : 7 ≤ d) (F : Nat → sy_d) (X1 X2 : List jm_c) (hB : iv_in F iv_B0)
    (h0 : (sy_i F 83).toInt ≤ 400)
    (h1 : (sy_i F 82).toInt ≠ 0)
    (h2 : 0 ≤ (sy_i F 33).toInt)
    (h3 : (sy_i F 33).toInt ≤ 400)
    (h4 : 0 ≤ (sy_i F 33).toInt ∧ (sy_i F 33).toInt < 401)
    (h5 : ((sy_ai F 39).getD (sy_i F 33).toNatClampNeg 0).toInt ≠ 26)
    (h6 : 0 ≤ (sy_i F 33).toInt)
    (h7 : (sy_i F 33).toInt ≤ 400)
    (h8 : 0 ≤ (sy_i F 33).toInt ∧ (sy_i F 33).toInt < 401)
    (h9 : ((sy_ai F 39).getD (sy_i F 33).toNatClampNeg 0).toInt ≠ 0)
    (h10 : ((sy_ai F 39).getD (sy_i F 33).toNatClampNeg 0).toInt ≠ 1)
    (h11 : 2 ≤ ((sy_ai F 39).getD (sy_i F 33).toNatClampNeg 0).toInt)
    (h12 : 7 < ((sy_ai F 39).getD (sy_i F 33).toNatClampNeg 0).toInt)
    (h13 : 8 ≤ ((sy_ai F 39).getD (sy_i F 33).toNatClampNeg 0).toInt)
    (h14 : 10 < ((sy_ai F 39).getD (sy_i F 33).toNatClampNeg 0).toInt)
    (k : ∀ F1 : Nat → sy_d, (∀ j, j < 82 → j ≠ 34 → F1 j = F j) → F1 34 = .inl (.int ((1 : Int32))) → F1 82 = .inl (.int ((0 : Int32))) → F1 83 = .inl (.int ((sy_i F 83) + ((1 : Int32)))) → hd_W Ls xs d jm_M31 Q (52, sy_dL F1 [some (.inl (.ref 30)), none, none, none, some (.inr (.inl 82)), some (.inr (.inl 83)), none], sy_dS F1 [], sy_dh F1 X1 X2 (iv_H 0), 0, 0)) :
    hd_W Ls xs d jm_M31 Q (52, sy_dL F [some (.inl (.ref 30)), none, none, none, some (.inr (.inl 82)), some (.inr (.inl 83)), none], sy_dS F [], sy_dh F X1 X2 (iv_H 0), 0, 0) := by
  refine hd_run (s := 0) (nv := 84) (pc := 52) (L := [some (.inl (.ref 30)), none, none, none, some (.inr (.inl 82)), some (.inr (.inl 83)), none]) (S := []) (uh := hd_ov (iv_id 0 iv_B0) [(34, .inl (.inl (.int 1)))]) (ul := [.inl (.inl (.int 0)), .inl (.inr (.inl 86))]) (f := true) (sp := [52, 100, 115, 143, 168, 189]) (d0 := 6) (O := [false, false, false, false, false, false, false, true, true, false, true, false, true]) (T := [(30, [.inr (.inl 33)], [.inr (.inl 39)]), (30, [.inr (.inl 33)], [.inr (.inl 39)]), (0, [.inr (.inl 83), .inl (.int 1)], [])]) (P := [(3, .inl (.int 400), .inr (.inl 83)), (1, .inr (.inl 82), .inl (.int 0)), (3, .inr (.inl 33), .inl (.int 0)), (3, .inl (.int 400), .inr (.inl 33)), (6, .inr (.inl 33), .inl (.ref 401)), (1, .inr (.inl 84), .inl (.int 26)), (3, .inr (.inl 33), .inl (.int 0)), (3, .inl (.int 400), .inr (.inl 33)), (6, .inr (.inl 33), .inl (.ref 401)), (1, .inr (.inl 85), .inl (.int 0)), (1, .inr (.inl 85), .inl (.int 1)), (3, .inr (.inl 85), .inl (.int 2)), (2, .inl (.int 7), .inr (.inl 85)), (3, .inr (.inl 85), .inl (.int 8)), (2, .inl (.int 10), .inr (.inl 85))]) jm_ok31 (by decide +kernel) (by decide +kernel) hd F X1 X2 (fun F' hF hs => ?_)
  have b83 := hd_b (F := F) (F' := F') (k := 83) (hF 83 (by decide))
  have b82 := hd_b (F := F) (F' := F') (k := 82) (hF 82 (by decide))
  have b33 := hd_b (F := F) (F' := F') (k := 33) (hF 33 (by decide))
  have a39 := hd_ba (F := F) (F' := F') (k := 39) (hF 39 (by decide))
  have t84 : sy_dv F' (.inr (.inl 84)) = .int ((sy_ai F 39).getD (sy_i F 33).toNatClampNeg 0) := hd_rd (hs 0 _ rfl) b33 a39
  have t85 : sy_dv F' (.inr (.inl 85)) = .int ((sy_ai F 39).getD (sy_i F 33).toNatClampNeg 0) := hd_rd (hs 1 _ rfl) b33 a39
  have t86 : sy_dv F' (.inr (.inl 86)) = .int ((sy_i F 83) + ((1 : Int32))) := hd_o (hs 2 _ rfl) b83 rfl rfl
  have hB' : iv_in F' iv_B0 := iv_in_eq hB (fun j hj => hF j (Nat.lt_of_lt_of_le hj (by decide +kernel)))
  refine ⟨List.forall_mem_cons.mpr ⟨hd_p3 rfl b83 (by have hc : ((400) : Int32).toInt = 400 := (by decide); omega), List.forall_mem_cons.mpr ⟨hd_p1 b82 rfl (by have hc : ((0) : Int32).toInt = 0 := (by decide); omega), List.forall_mem_cons.mpr ⟨hd_p3 b33 rfl (by have hc : ((0) : Int32).toInt = 0 := (by decide); omega), List.forall_mem_cons.mpr ⟨hd_p3 rfl b33 (by have hc : ((400) : Int32).toInt = 400 := (by decide); omega), List.forall_mem_cons.mpr ⟨hd_pb b33 (by first | exact h4 | exact h4), List.forall_mem_cons.mpr ⟨hd_p1 t84 rfl (by have hc : ((26) : Int32).toInt = 26 := (by decide); omega), List.forall_mem_cons.mpr ⟨hd_p3 b33 rfl (by have hc : ((0) : Int32).toInt = 0 := (by decide); omega), List.forall_mem_cons.mpr ⟨hd_p3 rfl b33 (by have hc : ((400) : Int32).toInt = 400 := (by decide); omega), List.forall_mem_cons.mpr ⟨hd_pb b33 (by first | exact h8 | exact h8), List.forall_mem_cons.mpr ⟨hd_p1 t85 rfl (by have hc : ((0) : Int32).toInt = 0 := (by decide); omega), List.forall_mem_cons.mpr ⟨hd_p1 t85 rfl (by have hc : ((1) : Int32).toInt = 1 := (by decide); omega), List.forall_mem_cons.mpr ⟨hd_p3 t85 rfl (by have hc : ((2) : Int32).toInt = 2 := (by decide); omega), List.forall_mem_cons.mpr ⟨hd_p2 rfl t85 (by have hc : ((7) : Int32).toInt = 7 := (by decide); omega), List.forall_mem_cons.mpr ⟨hd_p3 t85 rfl (by have hc : ((8) : Int32).toInt = 8 := (by decide); omega), List.forall_mem_cons.mpr ⟨hd_p2 rfl t85 (by have hc : ((10) : Int32).toInt = 10 := (by decide); omega), fun _ h => absurd h List.not_mem_nil⟩⟩⟩⟩⟩⟩⟩⟩⟩⟩⟩⟩⟩⟩⟩, ?_⟩
  refine k _ ?_ ?_ ?_ ?_
  · exact fun j hj hn => (hd_keep hB' (Nat.lt_of_lt_of_le hj (by decide +kernel)) (by simp; omega)).trans (hF j (by omega))
  · exact hd_gi (x := .inl (.int 1)) (by decide +kernel) rfl
  · exact hd_gi (x := .inl (.int 0)) (by decide +kernel) rfl
  · exact hd_gi (x := .inr (.inl 86)) (by decide +kernel) t86
theorem k0pq_52_p5 {Ls : Nat} {xs : Nat → Int32} {d : Nat} {Q : Option Value → jm_h → Prop} (hd : 7 ≤ d) (F : Nat → sy_d) (X1 X2 : List jm_c) (hB : iv_in F iv_B0)
    (h0 : (sy_i F 83).toInt ≤ 400)
    (h1 : (sy_i F 82).toInt ≠ 0)
    (h2 : 0 ≤ (sy_i F 33).toInt)
    (h3 : (sy_i F 33).toInt ≤ 400)
    (h4 : 0 ≤ (sy_i F 33).toInt ∧ (sy_i F 33).toInt < 401)
    (h5 : ((sy_ai F 39).getD (sy_i F 33).toNatClampNeg 0).toInt ≠ 26)
    (h6 : 0 ≤ (sy_i F 33).toInt)
    (h7 : (sy_i F 33).toInt ≤ 400)
    (h8 : 0 ≤ (sy_i F 33).toInt ∧ (sy_i F 33).toInt < 401)
    (h9 : ((sy_ai F 39).getD (sy_i F 33).toNatClampNeg 0).toInt ≠ 0)
    (h10 : ((sy_ai F 39).getD (sy_i F 33).toNatClampNeg 0).toInt ≠ 1)
    (h11 : 2 ≤ ((sy_ai F 39).getD (sy_i F 33).toNatClampNeg 0).toInt)
    (h12 : 7 < ((sy_ai F 39).getD (sy_i F 33).toNatClampNeg 0).toInt)
    (h13 : 8 ≤ ((sy_ai F 39).getD (sy_i F 33).toNatClampNeg 0).toInt)
    (h14 : ((sy_ai F 39).getD (sy_i F 33).toNatClampNeg 0).toInt ≤ 10)
    (k : ∀ F1 : Nat → sy_d, (∀ j, j < 82 → True → F1 j = F j) → F1 82 = .inl (.int (sy_i F 83)) → F1 83 = .inl (.int ((sy_ai F 39).getD (sy_i F 33).toNatClampNeg 0)) → hd_W Ls xs d jm_M31 Q (168, sy_dL F1 [some (.inl (.ref 30)), none, none, none, none, some (.inr (.inl 82)), none], sy_dS F1 [.inr (.inl 83), .inl (.ref 30)], sy_dh F1 X1 X2 (iv_H 0), 0, 0)) :
    hd_W Ls xs d jm_M31 Q (52, sy_dL F [some (.inl (.ref 30)), none, none, none, some (.inr (.inl 82)), some (.inr (.inl 83)), none], sy_dS F [], sy_dh F X1 X2 (iv_H 0), 0, 0) := by
  refine hd_run (s := 0) (nv := 84) (pc := 168) (L := [some (.inl (.ref 30)), none, none, none, none, some (.inr (.inl 82)), none]) (S := [.inr (.inl 83), .inl (.ref 30)]) (uh := hd_ov (iv_id 0 iv_B0) []) (ul := [.inl (.inr (.inl 83)), .inl (.inr (.inl 85))]) (f := true) (sp := [52, 100, 115, 143, 168, 189]) (d0 := 6) (O := [false, false, false, false, false, false, false, true, true, false, true, false, false]) (T := [(30, [.inr (.inl 33)], [.inr (.inl 39)]), (30, [.inr (.inl 33)], [.inr (.inl 39)])]) (P := [(3, .inl (.int 400), .inr (.inl 83)), (1, .inr (.inl 82), .inl (.int 0)), (3, .inr (.inl 33), .inl (.int 0)), (3, .inl (.int 400), .inr (.inl 33)), (6, .inr (.inl 33), .inl (.ref 401)), (1, .inr (.inl 84), .inl (.int 26)), (3, .inr (.inl 33), .inl (.int 0)), (3, .inl (.int 400), .inr (.inl 33)), (6, .inr (.inl 33), .inl (.ref 401)), (1, .inr (.inl 85), .inl (.int 0)), (1, .inr (.inl 85), .inl (.int 1)), (3, .inr (.inl 85), .inl (.int 2)), (2, .inl (.int 7), .inr (.inl 85)), (3, .inr (.inl 85), .inl (.int 8)), (3, .inl (.int 10), .inr (.inl 85))]) jm_ok31 (by decide +kernel) (by decide +kernel) hd F X1 X2 (fun F' hF hs => ?_)
  have b83 := hd_b (F := F) (F' := F') (k := 83) (hF 83 (by decide))
  have b82 := hd_b (F := F) (F' := F') (k := 82) (hF 82 (by decide))
  have b33 := hd_b (F := F) (F' := F') (k := 33) (hF 33 (by decide))
  have a39 := hd_ba (F := F) (F' := F') (k := 39) (hF 39 (by decide))
  have t84 : sy_dv F' (.inr (.inl 84)) = .int ((sy_ai F 39).getD (sy_i F 33).toNatClampNeg 0) := hd_rd (hs 0 _ rfl) b33 a39
  have t85 : sy_dv F' (.inr (.inl 85)) = .int ((sy_ai F 39).getD (sy_i F 33).toNatClampNeg 0) := hd_rd (hs 1 _ rfl) b33 a39
  have hB' : iv_in F' iv_B0 := iv_in_eq hB (fun j hj => hF j (Nat.lt_of_lt_of_le hj (by decide +kernel)))
  refine ⟨List.forall_mem_cons.mpr ⟨hd_p3 rfl b83 (by have hc : ((400) : Int32).toInt = 400 := (by decide); omega), List.forall_mem_cons.mpr ⟨hd_p1 b82 rfl (by have hc : ((0) : Int32).toInt = 0 := (by decide); omega), List.forall_mem_cons.mpr ⟨hd_p3 b33 rfl (by have hc : ((0) : Int32).toInt = 0 := (by decide); omega), List.forall_mem_cons.mpr ⟨hd_p3 rfl b33 (by have hc : ((400) : Int32).toInt = 400 := (by decide); omega), List.forall_mem_cons.mpr ⟨hd_pb b33 (by first | exact h4 | exact h4), List.forall_mem_cons.mpr ⟨hd_p1 t84 rfl (by have hc : ((26) : Int32).toInt = 26 := (by decide); omega), List.forall_mem_cons.mpr ⟨hd_p3 b33 rfl (by have hc : ((0) : Int32).toInt = 0 := (by decide); omega), List.forall_mem_cons.mpr ⟨hd_p3 rfl b33 (by have hc : ((400) : Int32).toInt = 400 := (by decide); omega), List.forall_mem_cons.mpr ⟨hd_pb b33 (by first | exact h8 | exact h8), List.forall_mem_cons.mpr ⟨hd_p1 t85 rfl (by have hc : ((0) : Int32).toInt = 0 := (by decide); omega), List.forall_mem_cons.mpr ⟨hd_p1 t85 rfl (by have hc : ((1) : Int32).toInt = 1 := (by decide); omega), List.forall_mem_cons.mpr ⟨hd_p3 t85 rfl (by have hc : ((2) : Int32).toInt = 2 := (by decide); omega), List.forall_mem_cons.mpr ⟨hd_p2 rfl t85 (by have hc : ((7) : Int32).toInt = 7 := (by decide); omega), List.forall_mem_cons.mpr ⟨hd_p3 t85 rfl (by have hc : ((8) : Int32).toInt = 8 := (by decide); omega), List.forall_mem_cons.mpr ⟨hd_p3 rfl t85 (by have hc : ((10) : Int32).toInt = 10 := (by decide); omega), fun _ h => absurd h List.not_mem_nil⟩⟩⟩⟩⟩⟩⟩⟩⟩⟩⟩⟩⟩⟩⟩, ?_⟩
  refine k _ ?_ ?_ ?_
  · exact fun j hj _ => (hd_keep hB' (Nat.lt_of_lt_of_le hj (by decide +kernel)) (by simp)).trans (hF j (by omega))
  · exact hd_gi (x := .inr (.inl 83)) (by decide +kernel) b83
  · exact hd_gi (x := .inr (.inl 85)) (by decide +kernel) t85
theorem k0pq_52_p6 {Ls : Nat} {xs : Nat → Int32} {d : Nat} {Q : Option Value → jm_h → Prop} (hd : 7 ≤ d) (F : Nat → sy_d) (X1 X2 : List jm_c) (hB : iv_in F iv_B0)
    (h0 : (sy_i F 83).toInt ≤ 400)
    (h1 : (sy_i F 82).toInt ≠ 0)
    (h2 : 0 ≤ (sy_i F 33).toInt)
    (h3 : (sy_i F 33).toInt ≤ 400)
    (h4 : 0 ≤ (sy_i F 33).toInt ∧ (sy_i F 33).toInt < 401)
    (h5 : ((sy_ai F 39).getD (sy_i F 33).toNatClampNeg 0).toInt ≠ 26)
    (h6 : 0 ≤ (sy_i F 33).toInt)
    (h7 : (sy_i F 33).toInt ≤ 400)
    (h8 : 0 ≤ (sy_i F 33).toInt ∧ (sy_i F 33).toInt < 401)
    (h9 : ((sy_ai F 39).getD (sy_i F 33).toNatClampNeg 0).toInt ≠ 0)
    (h10 : ((sy_ai F 39).getD (sy_i F 33).toNatClampNeg 0).toInt ≠ 1)
    (h11 : 2 ≤ ((sy_ai F 39).getD (sy_i F 33).toNatClampNeg 0).toInt)
    (h12 : ((sy_ai F 39).getD (sy_i F 33).toNatClampNeg 0).toInt ≤ 7)
    (k : ∀ F1 : Nat → sy_d, (∀ j, j < 82 → True → F1 j = F j) → F1 82 = .inl (.int (sy_i F 83)) → F1 83 = .inl (.int (((sy_ai F 39).getD (sy_i F 33).toNatClampNeg 0) - ((2 : Int32)))) → F1 84 = .inl (.int ((sy_ai F 39).getD (sy_i F 33).toNatClampNeg 0)) → hd_W Ls xs d jm_M31 Q (143, sy_dL F1 [some (.inl (.ref 30)), none, none, none, none, some (.inr (.inl 82)), none], sy_dS F1 [.inr (.inl 83), .inr (.inl 84), .inl (.ref 30)], sy_dh F1 X1 X2 (iv_H 0), 0, 0)) :
    hd_W Ls xs d jm_M31 Q (52, sy_dL F [some (.inl (.ref 30)), none, none, none, some (.inr (.inl 82)), some (.inr (.inl 83)), none], sy_dS F [], sy_dh F X1 X2 (iv_H 0), 0, 0) := by
  refine hd_run (s := 0) (nv := 84) (pc := 143) (L := [some (.inl (.ref 30)), none, none, none, none, some (.inr (.inl 82)), none]) (S := [.inr (.inl 83), .inr (.inl 84), .inl (.ref 30)]) (uh := hd_ov (iv_id 0 iv_B0) []) (ul := [.inl (.inr (.inl 83)), .inl (.inr (.inl 86)), .inl (.inr (.inl 85))]) (f := true) (sp := [52, 100, 115, 143, 168, 189]) (d0 := 6) (O := [false, false, false, false, false, false, false, true, true, false, false]) (T := [(30, [.inr (.inl 33)], [.inr (.inl 39)]), (30, [.inr (.inl 33)], [.inr (.inl 39)]), (1, [.inr (.inl 85), .inl (.int 2)], [])]) (P := [(3, .inl (.int 400), .inr (.inl 83)), (1, .inr (.inl 82), .inl (.int 0)), (3, .inr (.inl 33), .inl (.int 0)), (3, .inl (.int 400), .inr (.inl 33)), (6, .inr (.inl 33), .inl (.ref 401)), (1, .inr (.inl 84), .inl (.int 26)), (3, .inr (.inl 33), .inl (.int 0)), (3, .inl (.int 400), .inr (.inl 33)), (6, .inr (.inl 33), .inl (.ref 401)), (1, .inr (.inl 85), .inl (.int 0)), (1, .inr (.inl 85), .inl (.int 1)), (3, .inr (.inl 85), .inl (.int 2)), (3, .inl (.int 7), .inr (.inl 85))]) jm_ok31 (by decide +kernel) (by decide +kernel) hd F X1 X2 (fun F' hF hs => ?_)
  have b83 := hd_b (F := F) (F' := F') (k := 83) (hF 83 (by decide))
  have b82 := hd_b (F := F) (F' := F') (k := 82) (hF 82 (by decide))
  have b33 := hd_b (F := F) (F' := F') (k := 33) (hF 33 (by decide))
  have a39 := hd_ba (F := F) (F' := F') (k := 39) (hF 39 (by decide))
  have t84 : sy_dv F' (.inr (.inl 84)) = .int ((sy_ai F 39).getD (sy_i F 33).toNatClampNeg 0) := hd_rd (hs 0 _ rfl) b33 a39
  have t85 : sy_dv F' (.inr (.inl 85)) = .int ((sy_ai F 39).getD (sy_i F 33).toNatClampNeg 0) := hd_rd (hs 1 _ rfl) b33 a39
  have t86 : sy_dv F' (.inr (.inl 86)) = .int (((sy_ai F 39).getD (sy_i F 33).toNatClampNeg 0) - ((2 : Int32))) := hd_o (hs 2 _ rfl) t85 rfl rfl
  have hB' : iv_in F' iv_B0 := iv_in_eq hB (fun j hj => hF j (Nat.lt_of_lt_of_le hj (by decide +kernel)))
  refine ⟨List.forall_mem_cons.mpr ⟨hd_p3 rfl b83 (by have hc : ((400) : Int32).toInt = 400 := (by decide); omega), List.forall_mem_cons.mpr ⟨hd_p1 b82 rfl (by have hc : ((0) : Int32).toInt = 0 := (by decide); omega), List.forall_mem_cons.mpr ⟨hd_p3 b33 rfl (by have hc : ((0) : Int32).toInt = 0 := (by decide); omega), List.forall_mem_cons.mpr ⟨hd_p3 rfl b33 (by have hc : ((400) : Int32).toInt = 400 := (by decide); omega), List.forall_mem_cons.mpr ⟨hd_pb b33 (by first | exact h4 | exact h4), List.forall_mem_cons.mpr ⟨hd_p1 t84 rfl (by have hc : ((26) : Int32).toInt = 26 := (by decide); omega), List.forall_mem_cons.mpr ⟨hd_p3 b33 rfl (by have hc : ((0) : Int32).toInt = 0 := (by decide); omega), List.forall_mem_cons.mpr ⟨hd_p3 rfl b33 (by have hc : ((400) : Int32).toInt = 400 := (by decide); omega), List.forall_mem_cons.mpr ⟨hd_pb b33 (by first | exact h8 | exact h8), List.forall_mem_cons.mpr ⟨hd_p1 t85 rfl (by have hc : ((0) : Int32).toInt = 0 := (by decide); omega), List.forall_mem_cons.mpr ⟨hd_p1 t85 rfl (by have hc : ((1) : Int32).toInt = 1 := (by decide); omega), List.forall_mem_cons.mpr ⟨hd_p3 t85 rfl (by have hc : ((2) : Int32).toInt = 2 := (by decide); omega), List.forall_mem_cons.mpr ⟨hd_p3 rfl t85 (by have hc : ((7) : Int32).toInt = 7 := (by decide); omega), fun _ h => absurd h List.not_mem_nil⟩⟩⟩⟩⟩⟩⟩⟩⟩⟩⟩⟩⟩, ?_⟩
  refine k _ ?_ ?_ ?_ ?_
  · exact fun j hj _ => (hd_keep hB' (Nat.lt_of_lt_of_le hj (by decide +kernel)) (by simp)).trans (hF j (by omega))
  · exact hd_gi (x := .inr (.inl 83)) (by decide +kernel) b83
  · exact hd_gi (x := .inr (.inl 86)) (by decide +kernel) t86
  · exact hd_gi (x := .inr (.inl 85)) (by decide +kernel) t85
theorem k0pq_52_p7 {Ls : Nat} {xs : Nat → Int32} {d : Nat} {Q : Option Value → jm_h → Prop} (hd : 7 ≤ d) (F : Nat → sy_d) (X1 X2 : List jm_c) (hB : iv_in F iv_B0)
    (h0 : (sy_i F 83).toInt ≤ 400)
    (h1 : (sy_i F 82).toInt ≠ 0)
    (h2 : 0 ≤ (sy_i F 33).toInt)
    (h3 : (sy_i F 33).toInt ≤ 400)
    (h4 : 0 ≤ (sy_i F 33).toInt ∧ (sy_i F 33).toInt < 401)
    (h5 : ((sy_ai F 39).getD (sy_i F 33).toNatClampNeg 0).toInt ≠ 26)
    (h6 : 0 ≤ (sy_i F 33).toInt)
    (h7 : (sy_i F 33).toInt ≤ 400)
    (h8 : 0 ≤ (sy_i F 33).toInt ∧ (sy_i F 33).toInt < 401)
    (h9 : ((sy_ai F 39).getD (sy_i F 33).toNatClampNeg 0).toInt ≠ 0)
    (h10 : ((sy_ai F 39).getD (sy_i F 33).toNatClampNeg 0).toInt = 1)
    (k : ∀ F1 : Nat → sy_d, (∀ j, j < 82 → True → F1 j = F j) → F1 82 = .inl (.int (sy_i F 83)) → hd_W Ls xs d jm_M31 Q (115, sy_dL F1 [some (.inl (.ref 30)), none, none, none, none, some (.inr (.inl 82)), none], sy_dS F1 [.inl (.ref 30)], sy_dh F1 X1 X2 (iv_H 0), 0, 0)) :
    hd_W Ls xs d jm_M31 Q (52, sy_dL F [some (.inl (.ref 30)), none, none, none, some (.inr (.inl 82)), some (.inr (.inl 83)), none], sy_dS F [], sy_dh F X1 X2 (iv_H 0), 0, 0) := by
  refine hd_run (s := 0) (nv := 84) (pc := 115) (L := [some (.inl (.ref 30)), none, none, none, none, some (.inr (.inl 82)), none]) (S := [.inl (.ref 30)]) (uh := hd_ov (iv_id 0 iv_B0) []) (ul := [.inl (.inr (.inl 83))]) (f := true) (sp := [52, 100, 115, 143, 168, 189]) (d0 := 6) (O := [false, false, false, false, false, false, false, true, false]) (T := [(30, [.inr (.inl 33)], [.inr (.inl 39)]), (30, [.inr (.inl 33)], [.inr (.inl 39)])]) (P := [(3, .inl (.int 400), .inr (.inl 83)), (1, .inr (.inl 82), .inl (.int 0)), (3, .inr (.inl 33), .inl (.int 0)), (3, .inl (.int 400), .inr (.inl 33)), (6, .inr (.inl 33), .inl (.ref 401)), (1, .inr (.inl 84), .inl (.int 26)), (3, .inr (.inl 33), .inl (.int 0)), (3, .inl (.int 400), .inr (.inl 33)), (6, .inr (.inl 33), .inl (.ref 401)), (1, .inr (.inl 85), .inl (.int 0)), (0, .inr (.inl 85), .inl (.int 1))]) jm_ok31 (by decide +kernel) (by decide +kernel) hd F X1 X2 (fun F' hF hs => ?_)
  have b83 := hd_b (F := F) (F' := F') (k := 83) (hF 83 (by decide))
  have b82 := hd_b (F := F) (F' := F') (k := 82) (hF 82 (by decide))
  have b33 := hd_b (F := F) (F' := F') (k := 33) (hF 33 (by decide))
  have a39 := hd_ba (F := F) (F' := F') (k := 39) (hF 39 (by decide))
  have t84 : sy_dv F' (.inr (.inl 84)) = .int ((sy_ai F 39).getD (sy_i F 33).toNatClampNeg 0) := hd_rd (hs 0 _ rfl) b33 a39
  have t85 : sy_dv F' (.inr (.inl 85)) = .int ((sy_ai F 39).getD (sy_i F 33).toNatClampNeg 0) := hd_rd (hs 1 _ rfl) b33 a39
  have hB' : iv_in F' iv_B0 := iv_in_eq hB (fun j hj => hF j (Nat.lt_of_lt_of_le hj (by decide +kernel)))
  refine ⟨List.forall_mem_cons.mpr ⟨hd_p3 rfl b83 (by have hc : ((400) : Int32).toInt = 400 := (by decide); omega), List.forall_mem_cons.mpr ⟨hd_p1 b82 rfl (by have hc : ((0) : Int32).toInt = 0 := (by decide); omega), List.forall_mem_cons.mpr ⟨hd_p3 b33 rfl (by have hc : ((0) : Int32).toInt = 0 := (by decide); omega), List.forall_mem_cons.mpr ⟨hd_p3 rfl b33 (by have hc : ((400) : Int32).toInt = 400 := (by decide); omega), List.forall_mem_cons.mpr ⟨hd_pb b33 (by first | exact h4 | exact h4), List.forall_mem_cons.mpr ⟨hd_p1 t84 rfl (by have hc : ((26) : Int32).toInt = 26 := (by decide); omega), List.forall_mem_cons.mpr ⟨hd_p3 b33 rfl (by have hc : ((0) : Int32).toInt = 0 := (by decide); omega), List.forall_mem_cons.mpr ⟨hd_p3 rfl b33 (by have hc : ((400) : Int32).toInt = 400 := (by decide); omega), List.forall_mem_cons.mpr ⟨hd_pb b33 (by first | exact h8 | exact h8), List.forall_mem_cons.mpr ⟨hd_p1 t85 rfl (by have hc : ((0) : Int32).toInt = 0 := (by decide); omega), List.forall_mem_cons.mpr ⟨hd_p0 t85 rfl (by have hc : ((1) : Int32).toInt = 1 := (by decide); omega), fun _ h => absurd h List.not_mem_nil⟩⟩⟩⟩⟩⟩⟩⟩⟩⟩⟩, ?_⟩
  refine k _ ?_ ?_
  · exact fun j hj _ => (hd_keep hB' (Nat.lt_of_lt_of_le hj (by decide +kernel)) (by simp)).trans (hF j (by omega))
  · exact hd_gi (x := .inr (.inl 83)) (by decide +kernel) b83
theorem k0pq_52_p8 {Ls : Nat} {xs : Nat → Int32} {d : Nat} {Q : Option Value → jm_h → Prop} (hd : 7 ≤ d) (F : Nat → sy_d) (X1 X2 : List jm_c) (hB : iv_in F iv_B0)
    (h0 : (sy_i F 83).toInt ≤ 400)
    (h1 : (sy_i F 82).toInt ≠ 0)
    (h2 : 0 ≤ (sy_i F 33).toInt)
    (h3 : (sy_i F 33).toInt ≤ 400)
    (h4 : 0 ≤ (sy_i F 33).toInt ∧ (sy_i F 33).toInt < 401)
    (h5 : ((sy_ai F 39).getD (sy_i F 33).toNatClampNeg 0).toInt ≠ 26)
    (h6 : 0 ≤ (sy_i F 33).toInt)
    (h7 : (sy_i F 33).toInt ≤ 400)
    (h8 : 0 ≤ (sy_i F 33).toInt ∧ (sy_i F 33).toInt < 401)
    (h9 : ((sy_ai F 39).getD (sy_i F 33).toNatClampNeg 0).toInt = 0)
    (k : ∀ F1 : Nat → sy_d, (∀ j, j < 82 → True → F1 j = F j) → F1 82 = .inl (.int (sy_i F 83)) → hd_W Ls xs d jm_M31 Q (100, sy_dL F1 [some (.inl (.ref 30)), none, none, none, none, some (.inr (.inl 82)), none], sy_dS F1 [.inl (.ref 30)], sy_dh F1 X1 X2 (iv_H 0), 0, 0)) :
    hd_W Ls xs d jm_M31 Q (52, sy_dL F [some (.inl (.ref 30)), none, none, none, some (.inr (.inl 82)), some (.inr (.inl 83)), none], sy_dS F [], sy_dh F X1 X2 (iv_H 0), 0, 0) := by
  refine hd_run (s := 0) (nv := 84) (pc := 100) (L := [some (.inl (.ref 30)), none, none, none, none, some (.inr (.inl 82)), none]) (S := [.inl (.ref 30)]) (uh := hd_ov (iv_id 0 iv_B0) []) (ul := [.inl (.inr (.inl 83))]) (f := true) (sp := [52, 100, 115, 143, 168, 189]) (d0 := 6) (O := [false, false, false, false, false, false, false, false]) (T := [(30, [.inr (.inl 33)], [.inr (.inl 39)]), (30, [.inr (.inl 33)], [.inr (.inl 39)])]) (P := [(3, .inl (.int 400), .inr (.inl 83)), (1, .inr (.inl 82), .inl (.int 0)), (3, .inr (.inl 33), .inl (.int 0)), (3, .inl (.int 400), .inr (.inl 33)), (6, .inr (.inl 33), .inl (.ref 401)), (1, .inr (.inl 84), .inl (.int 26)), (3, .inr (.inl 33), .inl (.int 0)), (3, .inl (.int 400), .inr (.inl 33)), (6, .inr (.inl 33), .inl (.ref 401)), (0, .inr (.inl 85), .inl (.int 0))]) jm_ok31 (by decide +kernel) (by decide +kernel) hd F X1 X2 (fun F' hF hs => ?_)
  have b83 := hd_b (F := F) (F' := F') (k := 83) (hF 83 (by decide))
  have b82 := hd_b (F := F) (F' := F') (k := 82) (hF 82 (by decide))
  have b33 := hd_b (F := F) (F' := F') (k := 33) (hF 33 (by decide))
  have a39 := hd_ba (F := F) (F' := F') (k := 39) (hF 39 (by decide))
  have t84 : sy_dv F' (.inr (.inl 84)) = .int ((sy_ai F 39).getD (sy_i F 33).toNatClampNeg 0) := hd_rd (hs 0 _ rfl) b33 a39
  have t85 : sy_dv F' (.inr (.inl 85)) = .int ((sy_ai F 39).getD (sy_i F 33).toNatClampNeg 0) := hd_rd (hs 1 _ rfl) b33 a39
  have hB' : iv_in F' iv_B0 := iv_in_eq hB (fun j hj => hF j (Nat.lt_of_lt_of_le hj (by decide +kernel)))
  refine ⟨List.forall_mem_cons.mpr ⟨hd_p3 rfl b83 (by have hc : ((400) : Int32).toInt = 400 := (by decide); omega), List.forall_mem_cons.mpr ⟨hd_p1 b82 rfl (by have hc : ((0) : Int32).toInt = 0 := (by decide); omega), List.forall_mem_cons.mpr ⟨hd_p3 b33 rfl (by have hc : ((0) : Int32).toInt = 0 := (by decide); omega), List.forall_mem_cons.mpr ⟨hd_p3 rfl b33 (by have hc : ((400) : Int32).toInt = 400 := (by decide); omega), List.forall_mem_cons.mpr ⟨hd_pb b33 (by first | exact h4 | exact h4), List.forall_mem_cons.mpr ⟨hd_p1 t84 rfl (by have hc : ((26) : Int32).toInt = 26 := (by decide); omega), List.forall_mem_cons.mpr ⟨hd_p3 b33 rfl (by have hc : ((0) : Int32).toInt = 0 := (by decide); omega), List.forall_mem_cons.mpr ⟨hd_p3 rfl b33 (by have hc : ((400) : Int32).toInt = 400 := (by decide); omega), List.forall_mem_cons.mpr ⟨hd_pb b33 (by first | exact h8 | exact h8), List.forall_mem_cons.mpr ⟨hd_p0 t85 rfl (by have hc : ((0) : Int32).toInt = 0 := (by decide); omega), fun _ h => absurd h List.not_mem_nil⟩⟩⟩⟩⟩⟩⟩⟩⟩⟩, ?_⟩
  refine k _ ?_ ?_
  · exact fun j hj _ => (hd_keep hB' (Nat.lt_of_lt_of_le hj (by decide +kernel)) (by simp)).trans (hF j (by omega))
  · exact hd_gi (x := .inr (.inl 83)) (by decide +kernel) b83
theorem k0pq_52 {Ls : Nat} {xs : Nat → Int32} {d : Nat} {Q : Option Value → jm_h → Prop} (hd : 7 ≤ d) (F : Nat → sy_d) (X1 X2 : List jm_c) (hB : iv_in F iv_B0)
    (a83 : 0 ≤ (sy_i F 83).toInt ∧ (sy_i F 83).toInt ≤ 401)
    (k0 : 400 < (sy_i F 83).toInt → ∀ F1 : Nat → sy_d, iv_in F1 iv_B0 → (∀ j, j < 82 → j ∉ ([] : List Nat) → F1 j = F j) → (sy_i F1 33).toInt = (sy_i F 33).toInt → (sy_i F1 34).toInt = (sy_i F 34).toInt → (sy_i F1 35).toInt = (sy_i F 35).toInt → (sy_i F1 36).toInt = (sy_i F 36).toInt → (sy_i F1 37).toInt = (sy_i F 37).toInt → (sy_i F1 38).toInt = (sy_i F 38).toInt → (sy_i F1 18).toInt = (sy_i F 18).toInt → (sy_i F1 19).toInt = (sy_i F 19).toInt → sy_ai F1 39 = sy_ai F 39 → sy_ai F1 40 = sy_ai F 40 → (sy_i F1 82).toInt = (sy_i F 82).toInt → hd_W Ls xs d jm_M31 Q (189, sy_dL F1 [some (.inl (.ref 30)), none, none, none, some (.inr (.inl 82)), none, none], sy_dS F1 [], sy_dh F1 X1 X2 (iv_H 0), 0, 0))
    (k1 : (sy_i F 83).toInt ≤ 400 → (sy_i F 82).toInt = 0 → ∀ F1 : Nat → sy_d, iv_in F1 iv_B0 → (∀ j, j < 82 → j ∉ ([] : List Nat) → F1 j = F j) → (sy_i F1 33).toInt = (sy_i F 33).toInt → (sy_i F1 34).toInt = (sy_i F 34).toInt → (sy_i F1 35).toInt = (sy_i F 35).toInt → (sy_i F1 36).toInt = (sy_i F 36).toInt → (sy_i F1 37).toInt = (sy_i F 37).toInt → (sy_i F1 38).toInt = (sy_i F 38).toInt → (sy_i F1 18).toInt = (sy_i F 18).toInt → (sy_i F1 19).toInt = (sy_i F 19).toInt → sy_ai F1 39 = sy_ai F 39 → sy_ai F1 40 = sy_ai F 40 → (sy_i F1 82).toInt = (sy_i F 82).toInt → hd_W Ls xs d jm_M31 Q (189, sy_dL F1 [some (.inl (.ref 30)), none, none, none, some (.inr (.inl 82)), none, none], sy_dS F1 [], sy_dh F1 X1 X2 (iv_H 0), 0, 0))
    (k2 : (sy_i F 83).toInt ≤ 400 → (sy_i F 82).toInt ≠ 0 → 0 ≤ (sy_i F 33).toInt → (sy_i F 33).toInt ≤ 400 → ((sy_ai F 39).getD ((sy_i F 33).toInt).toNat 0).toInt = 26 → ∀ F1 : Nat → sy_d, iv_in F1 iv_B0 → (∀ j, j < 82 → j ∉ ([] : List Nat) → F1 j = F j) → (sy_i F1 33).toInt = (sy_i F 33).toInt → (sy_i F1 34).toInt = (sy_i F 34).toInt → (sy_i F1 35).toInt = (sy_i F 35).toInt → (sy_i F1 36).toInt = (sy_i F 36).toInt → (sy_i F1 37).toInt = (sy_i F 37).toInt → (sy_i F1 38).toInt = (sy_i F 38).toInt → (sy_i F1 18).toInt = (sy_i F 18).toInt → (sy_i F1 19).toInt = (sy_i F 19).toInt → sy_ai F1 39 = sy_ai F 39 → sy_ai F1 40 = sy_ai F 40 → (sy_i F1 82).toInt = (sy_i F 82).toInt → hd_W Ls xs d jm_M31 Q (189, sy_dL F1 [some (.inl (.ref 30)), none, none, none, some (.inr (.inl 82)), none, none], sy_dS F1 [], sy_dh F1 X1 X2 (iv_H 0), 0, 0))
    (k3 : (sy_i F 83).toInt ≤ 400 → (sy_i F 82).toInt ≠ 0 → 0 ≤ (sy_i F 33).toInt → (sy_i F 33).toInt ≤ 400 → ((sy_ai F 39).getD ((sy_i F 33).toInt).toNat 0).toInt ≠ 26 → 0 ≤ (sy_i F 33).toInt → (sy_i F 33).toInt ≤ 400 → ((sy_ai F 39).getD ((sy_i F 33).toInt).toNat 0).toInt ≠ 0 → ((sy_ai F 39).getD ((sy_i F 33).toInt).toNat 0).toInt ≠ 1 → ((sy_ai F 39).getD ((sy_i F 33).toInt).toNat 0).toInt < 2 → ((sy_ai F 39).getD ((sy_i F 33).toInt).toNat 0).toInt < 8 → ∀ F1 : Nat → sy_d, iv_in F1 iv_B0 → (∀ j, j < 82 → j ∉ ([34] : List Nat) → F1 j = F j) → (sy_i F1 33).toInt = (sy_i F 33).toInt → (sy_i F1 34).toInt = 1 → (sy_i F1 35).toInt = (sy_i F 35).toInt → (sy_i F1 36).toInt = (sy_i F 36).toInt → (sy_i F1 37).toInt = (sy_i F 37).toInt → (sy_i F1 38).toInt = (sy_i F 38).toInt → (sy_i F1 18).toInt = (sy_i F 18).toInt → (sy_i F1 19).toInt = (sy_i F 19).toInt → sy_ai F1 39 = sy_ai F 39 → sy_ai F1 40 = sy_ai F 40 → (sy_i F1 82).toInt = 0 → (sy_i F1 83).toInt = ((sy_i F 83).toInt + 1) → hd_W Ls xs d jm_M31 Q (52, sy_dL F1 [some (.inl (.ref 30)), none, none, none, some (.inr (.inl 82)), some (.inr (.inl 83)), none], sy_dS F1 [], sy_dh F1 X1 X2 (iv_H 0), 0, 0))
    (k4 : (sy_i F 83).toInt ≤ 400 → (sy_i F 82).toInt ≠ 0 → 0 ≤ (sy_i F 33).toInt → (sy_i F 33).toInt ≤ 400 → ((sy_ai F 39).getD ((sy_i F 33).toInt).toNat 0).toInt ≠ 26 → 0 ≤ (sy_i F 33).toInt → (sy_i F 33).toInt ≤ 400 → ((sy_ai F 39).getD ((sy_i F 33).toInt).toNat 0).toInt ≠ 0 → ((sy_ai F 39).getD ((sy_i F 33).toInt).toNat 0).toInt ≠ 1 → 2 ≤ ((sy_ai F 39).getD ((sy_i F 33).toInt).toNat 0).toInt → 7 < ((sy_ai F 39).getD ((sy_i F 33).toInt).toNat 0).toInt → 8 ≤ ((sy_ai F 39).getD ((sy_i F 33).toInt).toNat 0).toInt → 10 < ((sy_ai F 39).getD ((sy_i F 33).toInt).toNat 0).toInt → ∀ F1 : Nat → sy_d, iv_in F1 iv_B0 → (∀ j, j < 82 → j ∉ ([34] : List Nat) → F1 j = F j) → (sy_i F1 33).toInt = (sy_i F 33).toInt → (sy_i F1 34).toInt = 1 → (sy_i F1 35).toInt = (sy_i F 35).toInt → (sy_i F1 36).toInt = (sy_i F 36).toInt → (sy_i F1 37).toInt = (sy_i F 37).toInt → (sy_i F1 38).toInt = (sy_i F 38).toInt → (sy_i F1 18).toInt = (sy_i F 18).toInt → (sy_i F1 19).toInt = (sy_i F 19).toInt → sy_ai F1 39 = sy_ai F 39 → sy_ai F1 40 = sy_ai F 40 → (sy_i F1 82).toInt = 0 → (sy_i F1 83).toInt = ((sy_i F 83).toInt + 1) → hd_W Ls xs d jm_M31 Q (52, sy_dL F1 [some (.inl (.ref 30)), none, none, none, some (.inr (.inl 82)), some (.inr (.inl 83)), none], sy_dS F1 [], sy_dh F1 X1 X2 (iv_H 0), 0, 0))
    (k5 : (sy_i F 83).toInt ≤ 400 → (sy_i F 82).toInt ≠ 0 → 0 ≤ (sy_i F 33).toInt → (sy_i F 33).toInt ≤ 400 → ((sy_ai F 39).getD ((sy_i F 33).toInt).toNat 0).toInt ≠ 26 → 0 ≤ (sy_i F 33).toInt → (sy_i F 33).toInt ≤ 400 → ((sy_ai F 39).getD ((sy_i F 33).toInt).toNat 0).toInt ≠ 0 → ((sy_ai F 39).getD ((sy_i F 33).toInt).toNat 0).toInt ≠ 1 → 2 ≤ ((sy_ai F 39).getD ((sy_i F 33).toInt).toNat 0).toInt → 7 < ((sy_ai F 39).getD ((sy_i F 33).toInt).toNat 0).toInt → 8 ≤ ((sy_ai F 39).getD ((sy_i F 33).toInt).toNat 0).toInt → ((sy_ai F 39).getD ((sy_i F 33).toInt).toNat 0).toInt ≤ 10 → ∀ F1 : Nat → sy_d, iv_in F1 iv_B0 → (∀ j, j < 82 → j ∉ ([] : List Nat) → F1 j = F j) → (sy_i F1 33).toInt = (sy_i F 33).toInt → (sy_i F1 34).toInt = (sy_i F 34).toInt → (sy_i F1 35).toInt = (sy_i F 35).toInt → (sy_i F1 36).toInt = (sy_i F 36).toInt → (sy_i F1 37).toInt = (sy_i F 37).toInt → (sy_i F1 38).toInt = (sy_i F 38).toInt → (sy_i F1 18).toInt = (sy_i F 18).toInt → (sy_i F1 19).toInt = (sy_i F 19).toInt → sy_ai F1 39 = sy_ai F 39 → sy_ai F1 40 = sy_ai F 40 → (sy_i F1 82).toInt = (sy_i F 83).toInt → (sy_i F1 83).toInt = ((sy_ai F 39).getD ((sy_i F 33).toInt).toNat 0).toInt → hd_W Ls xs d jm_M31 Q (168, sy_dL F1 [some (.inl (.ref 30)), none, none, none, none, some (.inr (.inl 82)), none], sy_dS F1 [.inr (.inl 83), .inl (.ref 30)], sy_dh F1 X1 X2 (iv_H 0), 0, 0))
    (k6 : (sy_i F 83).toInt ≤ 400 → (sy_i F 82).toInt ≠ 0 → 0 ≤ (sy_i F 33).toInt → (sy_i F 33).toInt ≤ 400 → ((sy_ai F 39).getD ((sy_i F 33).toInt).toNat 0).toInt ≠ 26 → 0 ≤ (sy_i F 33).toInt → (sy_i F 33).toInt ≤ 400 → ((sy_ai F 39).getD ((sy_i F 33).toInt).toNat 0).toInt ≠ 0 → ((sy_ai F 39).getD ((sy_i F 33).toInt).toNat 0).toInt ≠ 1 → 2 ≤ ((sy_ai F 39).getD ((sy_i F 33).toInt).toNat 0).toInt → ((sy_ai F 39).getD ((sy_i F 33).toInt).toNat 0).toInt ≤ 7 → ∀ F1 : Nat → sy_d, iv_in F1 iv_B0 → (∀ j, j < 82 → j ∉ ([] : List Nat) → F1 j = F j) → (sy_i F1 33).toInt = (sy_i F 33).toInt → (sy_i F1 34).toInt = (sy_i F 34).toInt → (sy_i F1 35).toInt = (sy_i F 35).toInt → (sy_i F1 36).toInt = (sy_i F 36).toInt → (sy_i F1 37).toInt = (sy_i F 37).toInt → (sy_i F1 38).toInt = (sy_i F 38).toInt → (sy_i F1 18).toInt = (sy_i F 18).toInt → (sy_i F1 19).toInt = (sy_i F 19).toInt → sy_ai F1 39 = sy_ai F 39 → sy_ai F1 40 = sy_ai F 40 → (sy_i F1 82).toInt = (sy_i F 83).toInt → (sy_i F1 83).toInt = (((sy_ai F 39).getD ((sy_i F 33).toInt).toNat 0).toInt - 2) → (sy_i F1 84).toInt = ((sy_ai F 39).getD ((sy_i F 33).toInt).toNat 0).toInt → hd_W Ls xs d jm_M31 Q (143, sy_dL F1 [some (.inl (.ref 30)), none, none, none, none, some (.inr (.inl 82)), none], sy_dS F1 [.inr (.inl 83), .inr (.inl 84), .inl (.ref 30)], sy_dh F1 X1 X2 (iv_H 0), 0, 0))
    (k7 : (sy_i F 83).toInt ≤ 400 → (sy_i F 82).toInt ≠ 0 → 0 ≤ (sy_i F 33).toInt → (sy_i F 33).toInt ≤ 400 → ((sy_ai F 39).getD ((sy_i F 33).toInt).toNat 0).toInt ≠ 26 → 0 ≤ (sy_i F 33).toInt → (sy_i F 33).toInt ≤ 400 → ((sy_ai F 39).getD ((sy_i F 33).toInt).toNat 0).toInt ≠ 0 → ((sy_ai F 39).getD ((sy_i F 33).toInt).toNat 0).toInt = 1 → ∀ F1 : Nat → sy_d, iv_in F1 iv_B0 → (∀ j, j < 82 → j ∉ ([] : List Nat) → F1 j = F j) → (sy_i F1 33).toInt = (sy_i F 33).toInt → (sy_i F1 34).toInt = (sy_i F 34).toInt → (sy_i F1 35).toInt = (sy_i F 35).toInt → (sy_i F1 36).toInt = (sy_i F 36).toInt → (sy_i F1 37).toInt = (sy_i F 37).toInt → (sy_i F1 38).toInt = (sy_i F 38).toInt → (sy_i F1 18).toInt = (sy_i F 18).toInt → (sy_i F1 19).toInt = (sy_i F 19).toInt → sy_ai F1 39 = sy_ai F 39 → sy_ai F1 40 = sy_ai F 40 → (sy_i F1 82).toInt = (sy_i F 83).toInt → hd_W Ls xs d jm_M31 Q (115, sy_dL F1 [some (.inl (.ref 30)), none, none, none, none, some (.inr (.inl 82)), none], sy_dS F1 [.inl (.ref 30)], sy_dh F1 X1 X2 (iv_H 0), 0, 0))
    (k8 : (sy_i F 83).toInt ≤ 400 → (sy_i F 82).toInt ≠ 0 → 0 ≤ (sy_i F 33).toInt → (sy_i F 33).toInt ≤ 400 → ((sy_ai F 39).getD ((sy_i F 33).toInt).toNat 0).toInt ≠ 26 → 0 ≤ (sy_i F 33).toInt → (sy_i F 33).toInt ≤ 400 → ((sy_ai F 39).getD ((sy_i F 33).toInt).toNat 0).toInt = 0 → ∀ F1 : Nat → sy_d, iv_in F1 iv_B0 → (∀ j, j < 82 → j ∉ ([] : List Nat) → F1 j = F j) → (sy_i F1 33).toInt = (sy_i F 33).toInt → (sy_i F1 34).toInt = (sy_i F 34).toInt → (sy_i F1 35).toInt = (sy_i F 35).toInt → (sy_i F1 36).toInt = (sy_i F 36).toInt → (sy_i F1 37).toInt = (sy_i F 37).toInt → (sy_i F1 38).toInt = (sy_i F 38).toInt → (sy_i F1 18).toInt = (sy_i F 18).toInt → (sy_i F1 19).toInt = (sy_i F 19).toInt → sy_ai F1 39 = sy_ai F 39 → sy_ai F1 40 = sy_ai F 40 → (sy_i F1 82).toInt = (sy_i F 83).toInt → hd_W Ls xs d jm_M31 Q (100, sy_dL F1 [some (.inl (.ref 30)), none, none, none, none, some (.inr (.inl 82)), none], sy_dS F1 [.inl (.ref 30)], sy_dh F1 X1 X2 (iv_H 0), 0, 0)) :
    hd_W Ls xs d jm_M31 Q (52, sy_dL F [some (.inl (.ref 30)), none, none, none, some (.inr (.inl 82)), some (.inr (.inl 83)), none], sy_dS F [], sy_dh F X1 X2 (iv_H 0), 0, 0) := by
  by_cases g0 : 400 < (sy_i F 83).toInt
  · exact k0pq_52_p0 hd F X1 X2 hB (by first | exact g0 | (simp only [nz_c]; exact g0)) (fun F1 g e82 => k0 g0 F1 (nz_in0 hB [] (fun j hj hn => g j hj (by simp only [List.mem_cons, List.not_mem_nil, or_false, not_or] at hn; exact trivial)) (List.forall_mem_nil _)) (fun j hj hn => g j hj (by simp only [List.mem_cons, List.not_mem_nil, or_false, not_or] at hn; exact trivial)) (nz_fi (g 33 (by decide) (by decide))) (nz_fi (g 34 (by decide) (by decide))) (nz_fi (g 35 (by decide) (by decide))) (nz_fi (g 36 (by decide) (by decide))) (nz_fi (g 37 (by decide) (by decide))) (nz_fi (g 38 (by decide) (by decide))) (nz_fi (g 18 (by decide) (by decide))) (nz_fi (g 19 (by decide) (by decide))) (nz_fa (g 39 (by decide) (by decide))) (nz_fa (g 40 (by decide) (by decide))) ((congrArg Int32.toInt (zz_i e82)).trans (rfl : (sy_i F 82).toInt = (sy_i F 82).toInt)))
  replace g0 : (sy_i F 83).toInt ≤ 400 := by omega
  by_cases g1 : (sy_i F 82).toInt = 0
  · exact k0pq_52_p1 hd F X1 X2 hB (by first | exact g0 | (simp only [nz_c]; exact g0)) (by first | exact g1 | (simp only [nz_c]; exact g1)) (fun F1 g e82 => k1 g0 g1 F1 (nz_in0 hB [] (fun j hj hn => g j hj (by simp only [List.mem_cons, List.not_mem_nil, or_false, not_or] at hn; exact trivial)) (List.forall_mem_nil _)) (fun j hj hn => g j hj (by simp only [List.mem_cons, List.not_mem_nil, or_false, not_or] at hn; exact trivial)) (nz_fi (g 33 (by decide) (by decide))) (nz_fi (g 34 (by decide) (by decide))) (nz_fi (g 35 (by decide) (by decide))) (nz_fi (g 36 (by decide) (by decide))) (nz_fi (g 37 (by decide) (by decide))) (nz_fi (g 38 (by decide) (by decide))) (nz_fi (g 18 (by decide) (by decide))) (nz_fi (g 19 (by decide) (by decide))) (nz_fa (g 39 (by decide) (by decide))) (nz_fa (g 40 (by decide) (by decide))) ((congrArg Int32.toInt (zz_i e82)).trans (rfl : (sy_i F 82).toInt = (sy_i F 82).toInt)))
  replace g1 : (sy_i F 82).toInt ≠ 0 := by omega
  by_cases g2 : (sy_i F 33).toInt < 0
  · have c33 := nz_bx hB (k := 33) (lo := 0) (hi := 400) rfl
    exfalso
    omega
  replace g2 : 0 ≤ (sy_i F 33).toInt := by omega
  by_cases g3 : 400 < (sy_i F 33).toInt
  · have c33 := nz_bx hB (k := 33) (lo := 0) (hi := 400) rfl
    exfalso
    omega
  replace g3 : (sy_i F 33).toInt ≤ 400 := by omega
  by_cases g4 : ((sy_ai F 39).getD ((sy_i F 33).toInt).toNat 0).toInt = 26
  · have c33 := nz_bx hB (k := 33) (lo := 0) (hi := 400) rfl
    have q84 : (sy_ai F 39).getD (sy_i F 33).toNatClampNeg 0 = (sy_ai F 39).getD ((sy_i F 33).toInt).toNat 0 := by simp only [nz_c]
    have n84 : ((sy_ai F 39).getD (sy_i F 33).toNatClampNeg 0).toInt = ((sy_ai F 39).getD ((sy_i F 33).toInt).toNat 0).toInt := congrArg Int32.toInt q84
    exact k0pq_52_p2 hd F X1 X2 hB (by first | exact g0 | (simp only [nz_c]; exact g0)) (by first | exact g1 | (simp only [nz_c]; exact g1)) (by first | exact g2 | (simp only [nz_c]; exact g2)) (by first | exact g3 | (simp only [nz_c]; exact g3)) (by first | exact ⟨by omega, by omega⟩ | (simp only [nz_c]; exact ⟨by omega, by omega⟩)) (by first | exact g4 | (simp only [nz_c]; exact g4) | (rw [n84]; exact g4)) (fun F1 g e82 => k2 g0 g1 g2 g3 g4 F1 (nz_in0 hB [] (fun j hj hn => g j hj (by simp only [List.mem_cons, List.not_mem_nil, or_false, not_or] at hn; exact trivial)) (List.forall_mem_nil _)) (fun j hj hn => g j hj (by simp only [List.mem_cons, List.not_mem_nil, or_false, not_or] at hn; exact trivial)) (nz_fi (g 33 (by decide) (by decide))) (nz_fi (g 34 (by decide) (by decide))) (nz_fi (g 35 (by decide) (by decide))) (nz_fi (g 36 (by decide) (by decide))) (nz_fi (g 37 (by decide) (by decide))) (nz_fi (g 38 (by decide) (by decide))) (nz_fi (g 18 (by decide) (by decide))) (nz_fi (g 19 (by decide) (by decide))) (nz_fa (g 39 (by decide) (by decide))) (nz_fa (g 40 (by decide) (by decide))) ((congrArg Int32.toInt (zz_i e82)).trans (rfl : (sy_i F 82).toInt = (sy_i F 82).toInt)))
  replace g4 : ((sy_ai F 39).getD ((sy_i F 33).toInt).toNat 0).toInt ≠ 26 := by omega
  by_cases g5 : (sy_i F 33).toInt < 0
  · have c33 := nz_bx hB (k := 33) (lo := 0) (hi := 400) rfl
    have q84 : (sy_ai F 39).getD (sy_i F 33).toNatClampNeg 0 = (sy_ai F 39).getD ((sy_i F 33).toInt).toNat 0 := by simp only [nz_c]
    have n84 : ((sy_ai F 39).getD (sy_i F 33).toNatClampNeg 0).toInt = ((sy_ai F 39).getD ((sy_i F 33).toInt).toNat 0).toInt := congrArg Int32.toInt q84
    exfalso
    omega
  replace g5 : 0 ≤ (sy_i F 33).toInt := by omega
  by_cases g6 : 400 < (sy_i F 33).toInt
  · have c33 := nz_bx hB (k := 33) (lo := 0) (hi := 400) rfl
    have q84 : (sy_ai F 39).getD (sy_i F 33).toNatClampNeg 0 = (sy_ai F 39).getD ((sy_i F 33).toInt).toNat 0 := by simp only [nz_c]
    have n84 : ((sy_ai F 39).getD (sy_i F 33).toNatClampNeg 0).toInt = ((sy_ai F 39).getD ((sy_i F 33).toInt).toNat 0).toInt := congrArg Int32.toInt q84
    exfalso
    omega
  replace g6 : (sy_i F 33).toInt ≤ 400 := by omega
  by_cases g7 : ((sy_ai F 39).getD ((sy_i F 33).toInt).toNat 0).toInt ≠ 0
  · by_cases g8 : ((sy_ai F 39).getD ((sy_i F 33).toInt).toNat 0).toInt ≠ 1
    · by_cases g9 : ((sy_ai F 39).getD ((sy_i F 33).toInt).toNat 0).toInt < 2
      · by_cases g10 : ((sy_ai F 39).getD ((sy_i F 33).toInt).toNat 0).toInt < 8
        · have c33 := nz_bx hB (k := 33) (lo := 0) (hi := 400) rfl
          have q84 : (sy_ai F 39).getD (sy_i F 33).toNatClampNeg 0 = (sy_ai F 39).getD ((sy_i F 33).toInt).toNat 0 := by simp only [nz_c]
          have n84 : ((sy_ai F 39).getD (sy_i F 33).toNatClampNeg 0).toInt = ((sy_ai F 39).getD ((sy_i F 33).toInt).toNat 0).toInt := congrArg Int32.toInt q84
          have q85 : (sy_ai F 39).getD (sy_i F 33).toNatClampNeg 0 = (sy_ai F 39).getD ((sy_i F 33).toInt).toNat 0 := by simp only [nz_c]
          have n85 : ((sy_ai F 39).getD (sy_i F 33).toNatClampNeg 0).toInt = ((sy_ai F 39).getD ((sy_i F 33).toInt).toNat 0).toInt := congrArg Int32.toInt q85
          have n86 : ((sy_i F 83) + ((1 : Int32))).toInt = ((sy_i F 83).toInt + 1) := nz_add (rfl : (sy_i F 83).toInt = (sy_i F 83).toInt) (by decide : ((1 : Int32)).toInt = 1) (by omega) (by omega)
          exact k0pq_52_p3 hd F X1 X2 hB (by first | exact g0 | (simp only [nz_c]; exact g0)) (by first | exact g1 | (simp only [nz_c]; exact g1)) (by first | exact g2 | (simp only [nz_c]; exact g2)) (by first | exact g3 | (simp only [nz_c]; exact g3)) (by first | exact ⟨by omega, by omega⟩ | (simp only [nz_c]; exact ⟨by omega, by omega⟩)) (by first | exact g4 | (simp only [nz_c]; exact g4) | (rw [n84]; exact g4)) (by first | exact g5 | (simp only [nz_c]; exact g5)) (by first | exact g6 | (simp only [nz_c]; exact g6)) (by first | exact ⟨by omega, by omega⟩ | (simp only [nz_c]; exact ⟨by omega, by omega⟩)) (by first | exact g7 | (simp only [nz_c]; exact g7) | (rw [n85]; exact g7)) (by first | exact g8 | (simp only [nz_c]; exact g8) | (rw [n85]; exact g8)) (by first | exact g9 | (simp only [nz_c]; exact g9) | (rw [n85]; exact g9)) (by first | exact g10 | (simp only [nz_c]; exact g10) | (rw [n85]; exact g10)) (fun F1 g e34 e82 e83 => k3 g0 g1 g2 g3 g4 g5 g6 g7 g8 g9 g10 F1 (nz_in0 hB [34] (fun j hj hn => g j hj (by simp only [List.mem_cons, List.not_mem_nil, or_false, not_or] at hn; omega)) (List.forall_mem_cons.mpr ⟨fun t ht => (Option.some.inj ht) ▸ (nz_hz e34), List.forall_mem_nil _⟩)) (fun j hj hn => g j hj (by simp only [List.mem_cons, List.not_mem_nil, or_false, not_or] at hn; omega)) (nz_fi (g 33 (by decide) (by decide))) ((congrArg Int32.toInt (zz_i e34)).trans (by decide : ((1 : Int32)).toInt = 1)) (nz_fi (g 35 (by decide) (by decide))) (nz_fi (g 36 (by decide) (by decide))) (nz_fi (g 37 (by decide) (by decide))) (nz_fi (g 38 (by decide) (by decide))) (nz_fi (g 18 (by decide) (by decide))) (nz_fi (g 19 (by decide) (by decide))) (nz_fa (g 39 (by decide) (by decide))) (nz_fa (g 40 (by decide) (by decide))) ((congrArg Int32.toInt (zz_i e82)).trans (by decide : ((0 : Int32)).toInt = 0)) ((congrArg Int32.toInt (zz_i e83)).trans n86))
        replace g10 : 8 ≤ ((sy_ai F 39).getD ((sy_i F 33).toInt).toNat 0).toInt := by omega
        have c33 := nz_bx hB (k := 33) (lo := 0) (hi := 400) rfl
        have q84 : (sy_ai F 39).getD (sy_i F 33).toNatClampNeg 0 = (sy_ai F 39).getD ((sy_i F 33).toInt).toNat 0 := by simp only [nz_c]
        have n84 : ((sy_ai F 39).getD (sy_i F 33).toNatClampNeg 0).toInt = ((sy_ai F 39).getD ((sy_i F 33).toInt).toNat 0).toInt := congrArg Int32.toInt q84
        have q85 : (sy_ai F 39).getD (sy_i F 33).toNatClampNeg 0 = (sy_ai F 39).getD ((sy_i F 33).toInt).toNat 0 := by simp only [nz_c]
        have n85 : ((sy_ai F 39).getD (sy_i F 33).toNatClampNeg 0).toInt = ((sy_ai F 39).getD ((sy_i F 33).toInt).toNat 0).toInt := congrArg Int32.toInt q85
        exfalso
        omega
      replace g9 : 2 ≤ ((sy_ai F 39).getD ((sy_i F 33).toInt).toNat 0).toInt := by omega
      by_cases g10 : 7 < ((sy_ai F 39).getD ((sy_i F 33).toInt).toNat 0).toInt
      · by_cases g11 : ((sy_ai F 39).getD ((sy_i F 33).toInt).toNat 0).toInt < 8
        · have c33 := nz_bx hB (k := 33) (lo := 0) (hi := 400) rfl
          have q84 : (sy_ai F 39).getD (sy_i F 33).toNatClampNeg 0 = (sy_ai F 39).getD ((sy_i F 33).toInt).toNat 0 := by simp only [nz_c]
          have n84 : ((sy_ai F 39).getD (sy_i F 33).toNatClampNeg 0).toInt = ((sy_ai F 39).getD ((sy_i F 33).toInt).toNat 0).toInt := congrArg Int32.toInt q84
          have q85 : (sy_ai F 39).getD (sy_i F 33).toNatClampNeg 0 = (sy_ai F 39).getD ((sy_i F 33).toInt).toNat 0 := by simp only [nz_c]
          have n85 : ((sy_ai F 39).getD (sy_i F 33).toNatClampNeg 0).toInt = ((sy_ai F 39).getD ((sy_i F 33).toInt).toNat 0).toInt := congrArg Int32.toInt q85
          exfalso
          omega
        replace g11 : 8 ≤ ((sy_ai F 39).getD ((sy_i F 33).toInt).toNat 0).toInt := by omega
        by_cases g12 : 10 < ((sy_ai F 39).getD ((sy_i F 33).toInt).toNat 0).toInt
        · have c33 := nz_bx hB (k := 33) (lo := 0) (hi := 400) rfl
          have q84 : (sy_ai F 39).getD (sy_i F 33).toNatClampNeg 0 = (sy_ai F 39).getD ((sy_i F 33).toInt).toNat 0 := by simp only [nz_c]
          have n84 : ((sy_ai F 39).getD (sy_i F 33).toNatClampNeg 0).toInt = ((sy_ai F 39).getD ((sy_i F 33).toInt).toNat 0).toInt := congrArg Int32.toInt q84
          have q85 : (sy_ai F 39).getD (sy_i F 33).toNatClampNeg 0 = (sy_ai F 39).getD ((sy_i F 33).toInt).toNat 0 := by simp only [nz_c]
          have n85 : ((sy_ai F 39).getD (sy_i F 33).toNatClampNeg 0).toInt = ((sy_ai F 39).getD ((sy_i F 33).toInt).toNat 0).toInt := congrArg Int32.toInt q85
          have n86 : ((sy_i F 83) + ((1 : Int32))).toInt = ((sy_i F 83).toInt + 1) := nz_add (rfl : (sy_i F 83).toInt = (sy_i F 83).toInt) (by decide : ((1 : Int32)).toInt = 1) (by omega) (by omega)
          exact k0pq_52_p4 hd F X1 X2 hB (by first | exact g0 | (simp only [nz_c]; exact g0)) (by first | exact g1 | (simp only [nz_c]; exact g1)) (by first | exact g2 | (simp only [nz_c]; exact g2)) (by first | exact g3 | (simp only [nz_c]; exact g3)) (by first | exact ⟨by omega, by omega⟩ | (simp only [nz_c]; exact ⟨by omega, by omega⟩)) (by first | exact g4 | (simp only [nz_c]; exact g4) | (rw [n84]; exact g4)) (by first | exact g5 | (simp only [nz_c]; exact g5)) (by first | exact g6 | (simp only [nz_c]; exact g6)) (by first | exact ⟨by omega, by omega⟩ | (simp only [nz_c]; exact ⟨by omega, by omega⟩)) (by first | exact g7 | (simp only [nz_c]; exact g7) | (rw [n85]; exact g7)) (by first | exact g8 | (simp only [nz_c]; exact g8) | (rw [n85]; exact g8)) (by first | exact g9 | (simp only [nz_c]; exact g9) | (rw [n85]; exact g9)) (by first | exact g10 | (simp only [nz_c]; exact g10) | (rw [n85]; exact g10)) (by first | exact g11 | (simp only [nz_c]; exact g11) | (rw [n85]; exact g11)) (by first | exact g12 | (simp only [nz_c]; exact g12) | (rw [n85]; exact g12)) (fun F1 g e34 e82 e83 => k4 g0 g1 g2 g3 g4 g5 g6 g7 g8 g9 g10 g11 g12 F1 (nz_in0 hB [34] (fun j hj hn => g j hj (by simp only [List.mem_cons, List.not_mem_nil, or_false, not_or] at hn; omega)) (List.forall_mem_cons.mpr ⟨fun t ht => (Option.some.inj ht) ▸ (nz_hz e34), List.forall_mem_nil _⟩)) (fun j hj hn => g j hj (by simp only [List.mem_cons, List.not_mem_nil, or_false, not_or] at hn; omega)) (nz_fi (g 33 (by decide) (by decide))) ((congrArg Int32.toInt (zz_i e34)).trans (by decide : ((1 : Int32)).toInt = 1)) (nz_fi (g 35 (by decide) (by decide))) (nz_fi (g 36 (by decide) (by decide))) (nz_fi (g 37 (by decide) (by decide))) (nz_fi (g 38 (by decide) (by decide))) (nz_fi (g 18 (by decide) (by decide))) (nz_fi (g 19 (by decide) (by decide))) (nz_fa (g 39 (by decide) (by decide))) (nz_fa (g 40 (by decide) (by decide))) ((congrArg Int32.toInt (zz_i e82)).trans (by decide : ((0 : Int32)).toInt = 0)) ((congrArg Int32.toInt (zz_i e83)).trans n86))
        replace g12 : ((sy_ai F 39).getD ((sy_i F 33).toInt).toNat 0).toInt ≤ 10 := by omega
        have c33 := nz_bx hB (k := 33) (lo := 0) (hi := 400) rfl
        have q84 : (sy_ai F 39).getD (sy_i F 33).toNatClampNeg 0 = (sy_ai F 39).getD ((sy_i F 33).toInt).toNat 0 := by simp only [nz_c]
        have n84 : ((sy_ai F 39).getD (sy_i F 33).toNatClampNeg 0).toInt = ((sy_ai F 39).getD ((sy_i F 33).toInt).toNat 0).toInt := congrArg Int32.toInt q84
        have q85 : (sy_ai F 39).getD (sy_i F 33).toNatClampNeg 0 = (sy_ai F 39).getD ((sy_i F 33).toInt).toNat 0 := by simp only [nz_c]
        have n85 : ((sy_ai F 39).getD (sy_i F 33).toNatClampNeg 0).toInt = ((sy_ai F 39).getD ((sy_i F 33).toInt).toNat 0).toInt := congrArg Int32.toInt q85
        exact k0pq_52_p5 hd F X1 X2 hB (by first | exact g0 | (simp only [nz_c]; exact g0)) (by first | exact g1 | (simp only [nz_c]; exact g1)) (by first | exact g2 | (simp only [nz_c]; exact g2)) (by first | exact g3 | (simp only [nz_c]; exact g3)) (by first | exact ⟨by omega, by omega⟩ | (simp only [nz_c]; exact ⟨by omega, by omega⟩)) (by first | exact g4 | (simp only [nz_c]; exact g4) | (rw [n84]; exact g4)) (by first | exact g5 | (simp only [nz_c]; exact g5)) (by first | exact g6 | (simp only [nz_c]; exact g6)) (by first | exact ⟨by omega, by omega⟩ | (simp only [nz_c]; exact ⟨by omega, by omega⟩)) (by first | exact g7 | (simp only [nz_c]; exact g7) | (rw [n85]; exact g7)) (by first | exact g8 | (simp only [nz_c]; exact g8) | (rw [n85]; exact g8)) (by first | exact g9 | (simp only [nz_c]; exact g9) | (rw [n85]; exact g9)) (by first | exact g10 | (simp only [nz_c]; exact g10) | (rw [n85]; exact g10)) (by first | exact g11 | (simp only [nz_c]; exact g11) | (rw [n85]; exact g11)) (by first | exact g12 | (simp only [nz_c]; exact g12) | (rw [n85]; exact g12)) (fun F1 g e82 e83 => k5 g0 g1 g2 g3 g4 g5 g6 g7 g8 g9 g10 g11 g12 F1 (nz_in0 hB [] (fun j hj hn => g j hj (by simp only [List.mem_cons, List.not_mem_nil, or_false, not_or] at hn; exact trivial)) (List.forall_mem_nil _)) (fun j hj hn => g j hj (by simp only [List.mem_cons, List.not_mem_nil, or_false, not_or] at hn; exact trivial)) (nz_fi (g 33 (by decide) (by decide))) (nz_fi (g 34 (by decide) (by decide))) (nz_fi (g 35 (by decide) (by decide))) (nz_fi (g 36 (by decide) (by decide))) (nz_fi (g 37 (by decide) (by decide))) (nz_fi (g 38 (by decide) (by decide))) (nz_fi (g 18 (by decide) (by decide))) (nz_fi (g 19 (by decide) (by decide))) (nz_fa (g 39 (by decide) (by decide))) (nz_fa (g 40 (by decide) (by decide))) ((congrArg Int32.toInt (zz_i e82)).trans (rfl : (sy_i F 83).toInt = (sy_i F 83).toInt)) ((congrArg Int32.toInt (zz_i e83)).trans n85))
      replace g10 : ((sy_ai F 39).getD ((sy_i F 33).toInt).toNat 0).toInt ≤ 7 := by omega
      have c33 := nz_bx hB (k := 33) (lo := 0) (hi := 400) rfl
      have q84 : (sy_ai F 39).getD (sy_i F 33).toNatClampNeg 0 = (sy_ai F 39).getD ((sy_i F 33).toInt).toNat 0 := by simp only [nz_c]
      have n84 : ((sy_ai F 39).getD (sy_i F 33).toNatClampNeg 0).toInt = ((sy_ai F 39).getD ((sy_i F 33).toInt).toNat 0).toInt := congrArg Int32.toInt q84
      have q85 : (sy_ai F 39).getD (sy_i F 33).toNatClampNeg 0 = (sy_ai F 39).getD ((sy_i F 33).toInt).toNat 0 := by simp only [nz_c]
      have n85 : ((sy_ai F 39).getD (sy_i F 33).toNatClampNeg 0).toInt = ((sy_ai F 39).getD ((sy_i F 33).toInt).toNat 0).toInt := congrArg Int32.toInt q85
      have n86 : (((sy_ai F 39).getD (sy_i F 33).toNatClampNeg 0) - ((2 : Int32))).toInt = (((sy_ai F 39).getD ((sy_i F 33).toInt).toNat 0).toInt - 2) := nz_sub n85 (by decide : ((2 : Int32)).toInt = 2) (by omega) (by omega)
      exact k0pq_52_p6 hd F X1 X2 hB (by first | exact g0 | (simp only [nz_c]; exact g0)) (by first | exact g1 | (simp only [nz_c]; exact g1)) (by first | exact g2 | (simp only [nz_c]; exact g2)) (by first | exact g3 | (simp only [nz_c]; exact g3)) (by first | exact ⟨by omega, by omega⟩ | (simp only [nz_c]; exact ⟨by omega, by omega⟩)) (by first | exact g4 | (simp only [nz_c]; exact g4) | (rw [n84]; exact g4)) (by first | exact g5 | (simp only [nz_c]; exact g5)) (by first | exact g6 | (simp only [nz_c]; exact g6)) (by first | exact ⟨by omega, by omega⟩ | (simp only [nz_c]; exact ⟨by omega, by omega⟩)) (by first | exact g7 | (simp only [nz_c]; exact g7) | (rw [n85]; exact g7)) (by first | exact g8 | (simp only [nz_c]; exact g8) | (rw [n85]; exact g8)) (by first | exact g9 | (simp only [nz_c]; exact g9) | (rw [n85]; exact g9)) (by first | exact g10 | (simp only [nz_c]; exact g10) | (rw [n85]; exact g10)) (fun F1 g e82 e83 e84 => k6 g0 g1 g2 g3 g4 g5 g6 g7 g8 g9 g10 F1 (nz_in0 hB [] (fun j hj hn => g j hj (by simp only [List.mem_cons, List.not_mem_nil, or_false, not_or] at hn; exact trivial)) (List.forall_mem_nil _)) (fun j hj hn => g j hj (by simp only [List.mem_cons, List.not_mem_nil, or_false, not_or] at hn; exact trivial)) (nz_fi (g 33 (by decide) (by decide))) (nz_fi (g 34 (by decide) (by decide))) (nz_fi (g 35 (by decide) (by decide))) (nz_fi (g 36 (by decide) (by decide))) (nz_fi (g 37 (by decide) (by decide))) (nz_fi (g 38 (by decide) (by decide))) (nz_fi (g 18 (by decide) (by decide))) (nz_fi (g 19 (by decide) (by decide))) (nz_fa (g 39 (by decide) (by decide))) (nz_fa (g 40 (by decide) (by decide))) ((congrArg Int32.toInt (zz_i e82)).trans (rfl : (sy_i F 83).toInt = (sy_i F 83).toInt)) ((congrArg Int32.toInt (zz_i e83)).trans n86) ((congrArg Int32.toInt (zz_i e84)).trans n85))
    replace g8 : ((sy_ai F 39).getD ((sy_i F 33).toInt).toNat 0).toInt = 1 := by omega
    have c33 := nz_bx hB (k := 33) (lo := 0) (hi := 400) rfl
    have q84 : (sy_ai F 39).getD (sy_i F 33).toNatClampNeg 0 = (sy_ai F 39).getD ((sy_i F 33).toInt).toNat 0 := by simp only [nz_c]
    have n84 : ((sy_ai F 39).getD (sy_i F 33).toNatClampNeg 0).toInt = ((sy_ai F 39).getD ((sy_i F 33).toInt).toNat 0).toInt := congrArg Int32.toInt q84
    have q85 : (sy_ai F 39).getD (sy_i F 33).toNatClampNeg 0 = (sy_ai F 39).getD ((sy_i F 33).toInt).toNat 0 := by simp only [nz_c]
    have n85 : ((sy_ai F 39).getD (sy_i F 33).toNatClampNeg 0).toInt = ((sy_ai F 39).getD ((sy_i F 33).toInt).toNat 0).toInt := congrArg Int32.toInt q85
    exact k0pq_52_p7 hd F X1 X2 hB (by first | exact g0 | (simp only [nz_c]; exact g0)) (by first | exact g1 | (simp only [nz_c]; exact g1)) (by first | exact g2 | (simp only [nz_c]; exact g2)) (by first | exact g3 | (simp only [nz_c]; exact g3)) (by first | exact ⟨by omega, by omega⟩ | (simp only [nz_c]; exact ⟨by omega, by omega⟩)) (by first | exact g4 | (simp only [nz_c]; exact g4) | (rw [n84]; exact g4)) (by first | exact g5 | (simp only [nz_c]; exact g5)) (by first | exact g6 | (simp only [nz_c]; exact g6)) (by first | exact ⟨by omega, by omega⟩ | (simp only [nz_c]; exact ⟨by omega, by omega⟩)) (by first | exact g7 | (simp only [nz_c]; exact g7) | (rw [n85]; exact g7)) (by first | exact g8 | (simp only [nz_c]; exact g8) | (rw [n85]; exact g8)) (fun F1 g e82 => k7 g0 g1 g2 g3 g4 g5 g6 g7 g8 F1 (nz_in0 hB [] (fun j hj hn => g j hj (by simp only [List.mem_cons, List.not_mem_nil, or_false, not_or] at hn; exact trivial)) (List.forall_mem_nil _)) (fun j hj hn => g j hj (by simp only [List.mem_cons, List.not_mem_nil, or_false, not_or] at hn; exact trivial)) (nz_fi (g 33 (by decide) (by decide))) (nz_fi (g 34 (by decide) (by decide))) (nz_fi (g 35 (by decide) (by decide))) (nz_fi (g 36 (by decide) (by decide))) (nz_fi (g 37 (by decide) (by decide))) (nz_fi (g 38 (by decide) (by decide))) (nz_fi (g 18 (by decide) (by decide))) (nz_fi (g 19 (by decide) (by decide))) (nz_fa (g 39 (by decide) (by decide))) (nz_fa (g 40 (by decide) (by decide))) ((congrArg Int32.toInt (zz_i e82)).trans (rfl : (sy_i F 83).toInt = (sy_i F 83).toInt)))
  replace g7 : ((sy_ai F 39).getD ((sy_i F 33).toInt).toNat 0).toInt = 0 := by omega
  have c33 := nz_bx hB (k := 33) (lo := 0) (hi := 400) rfl
  have q84 : (sy_ai F 39).getD (sy_i F 33).toNatClampNeg 0 = (sy_ai F 39).getD ((sy_i F 33).toInt).toNat 0 := by simp only [nz_c]
  have n84 : ((sy_ai F 39).getD (sy_i F 33).toNatClampNeg 0).toInt = ((sy_ai F 39).getD ((sy_i F 33).toInt).toNat 0).toInt := congrArg Int32.toInt q84
  have q85 : (sy_ai F 39).getD (sy_i F 33).toNatClampNeg 0 = (sy_ai F 39).getD ((sy_i F 33).toInt).toNat 0 := by simp only [nz_c]
  have n85 : ((sy_ai F 39).getD (sy_i F 33).toNatClampNeg 0).toInt = ((sy_ai F 39).getD ((sy_i F 33).toInt).toNat 0).toInt := congrArg Int32.toInt q85
  exact k0pq_52_p8 hd F X1 X2 hB (by first | exact g0 | (simp only [nz_c]; exact g0)) (by first | exact g1 | (simp only [nz_c]; exact g1)) (by first | exact g2 | (simp only [nz_c]; exact g2)) (by first | exact g3 | (simp only [nz_c]; exact g3)) (by first | exact ⟨by omega, by omega⟩ | (simp only [nz_c]; exact ⟨by omega, by omega⟩)) (by first | exact g4 | (simp only [nz_c]; exact g4) | (rw [n84]; exact g4)) (by first | exact g5 | (simp only [nz_c]; exact g5)) (by first | exact g6 | (simp only [nz_c]; exact g6)) (by first | exact ⟨by omega, by omega⟩ | (simp only [nz_c]; exact ⟨by omega, by omega⟩)) (by first | exact g7 | (simp only [nz_c]; exact g7) | (rw [n85]; exact g7)) (fun F1 g e82 => k8 g0 g1 g2 g3 g4 g5 g6 g7 F1 (nz_in0 hB [] (fun j hj hn => g j hj (by simp only [List.mem_cons, List.not_mem_nil, or_false, not_or] at hn; exact trivial)) (List.forall_mem_nil _)) (fun j hj hn => g j hj (by simp only [List.mem_cons, List.not_mem_nil, or_false, not_or] at hn; exact trivial)) (nz_fi (g 33 (by decide) (by decide))) (nz_fi (g 34 (by decide) (by decide))) (nz_fi (g 35 (by decide) (by decide))) (nz_fi (g 36 (by decide) (by decide))) (nz_fi (g 37 (by decide) (by decide))) (nz_fi (g 38 (by decide) (by decide))) (nz_fi (g 18 (by decide) (by decide))) (nz_fi (g 19 (by decide) (by decide))) (nz_fa (g 39 (by decide) (by decide))) (nz_fa (g 40 (by decide) (by decide))) ((congrArg Int32.toInt (zz_i e82)).trans (rfl : (sy_i F 83).toInt = (sy_i F 83).toInt)))
theorem k0pq_103_p0 {Ls : Nat} {xs : Nat → Int32} {d : Nat} {Q : Option Value → jm_h → Prop} (hd : 7 ≤ d) (F : Nat → sy_d) (X1 X2 : List jm_c) (hB : iv_in F iv_B0)
    (k : ∀ F1 : Nat → sy_d, (∀ j, j < 82 → True → F1 j = F j) → F1 82 = .inl (.int (sy_i F 83)) → F1 83 = .inl (.int ((sy_i F 82) + ((1 : Int32)))) → hd_W Ls xs d jm_M31 Q (52, sy_dL F1 [some (.inl (.ref 30)), none, none, none, some (.inr (.inl 82)), some (.inr (.inl 83)), none], sy_dS F1 [], sy_dh F1 X1 X2 (iv_H 0), 0, 0)) :
    hd_W Ls xs d jm_M31 Q (103, sy_dL F [some (.inl (.ref 30)), none, none, none, none, some (.inr (.inl 82)), none], sy_dS F [.inr (.inl 83)], sy_dh F X1 X2 (iv_H 0), 0, 0) := by
  refine hd_run (s := 0) (nv := 84) (pc := 52) (L := [some (.inl (.ref 30)), none, none, none, some (.inr (.inl 82)), some (.inr (.inl 83)), none]) (S := []) (uh := hd_ov (iv_id 0 iv_B0) []) (ul := [.inl (.inr (.inl 83)), .inl (.inr (.inl 84))]) (f := false) (sp := [52]) (d0 := 6) (O := []) (T := [(0, [.inr (.inl 82), .inl (.int 1)], [])]) (P := []) jm_ok31 (by decide +kernel) (by decide +kernel) hd F X1 X2 (fun F' hF hs => ?_)
  have b83 := hd_b (F := F) (F' := F') (k := 83) (hF 83 (by decide))
  have b82 := hd_b (F := F) (F' := F') (k := 82) (hF 82 (by decide))
  have t84 : sy_dv F' (.inr (.inl 84)) = .int ((sy_i F 82) + ((1 : Int32))) := hd_o (hs 0 _ rfl) b82 rfl rfl
  have hB' : iv_in F' iv_B0 := iv_in_eq hB (fun j hj => hF j (Nat.lt_of_lt_of_le hj (by decide +kernel)))
  refine ⟨fun _ h => absurd h List.not_mem_nil, ?_⟩
  refine k _ ?_ ?_ ?_
  · exact fun j hj _ => (hd_keep hB' (Nat.lt_of_lt_of_le hj (by decide +kernel)) (by simp)).trans (hF j (by omega))
  · exact hd_gi (x := .inr (.inl 83)) (by decide +kernel) b83
  · exact hd_gi (x := .inr (.inl 84)) (by decide +kernel) t84
theorem k0pq_103 {Ls : Nat} {xs : Nat → Int32} {d : Nat} {Q : Option Value → jm_h → Prop} (hd : 7 ≤ d) (F : Nat → sy_d) (X1 X2 : List jm_c) (hB : iv_in F iv_B0)
    (a82 : 0 ≤ (sy_i F 82).toInt ∧ (sy_i F 82).toInt ≤ 400)
    (k0 : ∀ F1 : Nat → sy_d, iv_in F1 iv_B0 → (∀ j, j < 82 → j ∉ ([] : List Nat) → F1 j = F j) → (sy_i F1 33).toInt = (sy_i F 33).toInt → (sy_i F1 34).toInt = (sy_i F 34).toInt → (sy_i F1 35).toInt = (sy_i F 35).toInt → (sy_i F1 36).toInt = (sy_i F 36).toInt → (sy_i F1 37).toInt = (sy_i F 37).toInt → (sy_i F1 38).toInt = (sy_i F 38).toInt → (sy_i F1 18).toInt = (sy_i F 18).toInt → (sy_i F1 19).toInt = (sy_i F 19).toInt → sy_ai F1 39 = sy_ai F 39 → sy_ai F1 40 = sy_ai F 40 → (sy_i F1 82).toInt = (sy_i F 83).toInt → (sy_i F1 83).toInt = ((sy_i F 82).toInt + 1) → hd_W Ls xs d jm_M31 Q (52, sy_dL F1 [some (.inl (.ref 30)), none, none, none, some (.inr (.inl 82)), some (.inr (.inl 83)), none], sy_dS F1 [], sy_dh F1 X1 X2 (iv_H 0), 0, 0)) :
    hd_W Ls xs d jm_M31 Q (103, sy_dL F [some (.inl (.ref 30)), none, none, none, none, some (.inr (.inl 82)), none], sy_dS F [.inr (.inl 83)], sy_dh F X1 X2 (iv_H 0), 0, 0) := by
  have n84 : ((sy_i F 82) + ((1 : Int32))).toInt = ((sy_i F 82).toInt + 1) := nz_add (rfl : (sy_i F 82).toInt = (sy_i F 82).toInt) (by decide : ((1 : Int32)).toInt = 1) (by omega) (by omega)
  exact k0pq_103_p0 hd F X1 X2 hB  (fun F1 g e82 e83 => k0 F1 (nz_in0 hB [] (fun j hj hn => g j hj (by simp only [List.mem_cons, List.not_mem_nil, or_false, not_or] at hn; exact trivial)) (List.forall_mem_nil _)) (fun j hj hn => g j hj (by simp only [List.mem_cons, List.not_mem_nil, or_false, not_or] at hn; exact trivial)) (nz_fi (g 33 (by decide) (by decide))) (nz_fi (g 34 (by decide) (by decide))) (nz_fi (g 35 (by decide) (by decide))) (nz_fi (g 36 (by decide) (by decide))) (nz_fi (g 37 (by decide) (by decide))) (nz_fi (g 38 (by decide) (by decide))) (nz_fi (g 18 (by decide) (by decide))) (nz_fi (g 19 (by decide) (by decide))) (nz_fa (g 39 (by decide) (by decide))) (nz_fa (g 40 (by decide) (by decide))) ((congrArg Int32.toInt (zz_i e82)).trans (rfl : (sy_i F 83).toInt = (sy_i F 83).toInt)) ((congrArg Int32.toInt (zz_i e83)).trans n84))
theorem k0pq_118_p0 {Ls : Nat} {xs : Nat → Int32} {d : Nat} {Q : Option Value → jm_h → Prop} (hd : 7 ≤ d) (F : Nat → sy_d) (X1 X2 : List jm_c) (hB : iv_in F iv_B0)
    (k : ∀ F1 : Nat → sy_d, (∀ j, j < 82 → True → F1 j = F j) → F1 82 = .inl (.int (sy_i F 83)) → F1 83 = .inl (.int ((sy_i F 82) + ((1 : Int32)))) → hd_W Ls xs d jm_M31 Q (52, sy_dL F1 [some (.inl (.ref 30)), none, none, none, some (.inr (.inl 82)), some (.inr (.inl 83)), none], sy_dS F1 [], sy_dh F1 X1 X2 (iv_H 0), 0, 0)) :
    hd_W Ls xs d jm_M31 Q (118, sy_dL F [some (.inl (.ref 30)), none, none, none, none, some (.inr (.inl 82)), none], sy_dS F [.inr (.inl 83)], sy_dh F X1 X2 (iv_H 0), 0, 0) := by
  refine hd_run (s := 0) (nv := 84) (pc := 52) (L := [some (.inl (.ref 30)), none, none, none, some (.inr (.inl 82)), some (.inr (.inl 83)), none]) (S := []) (uh := hd_ov (iv_id 0 iv_B0) []) (ul := [.inl (.inr (.inl 83)), .inl (.inr (.inl 84))]) (f := false) (sp := [52]) (d0 := 6) (O := []) (T := [(0, [.inr (.inl 82), .inl (.int 1)], [])]) (P := []) jm_ok31 (by decide +kernel) (by decide +kernel) hd F X1 X2 (fun F' hF hs => ?_)
  have b83 := hd_b (F := F) (F' := F') (k := 83) (hF 83 (by decide))
  have b82 := hd_b (F := F) (F' := F') (k := 82) (hF 82 (by decide))
  have t84 : sy_dv F' (.inr (.inl 84)) = .int ((sy_i F 82) + ((1 : Int32))) := hd_o (hs 0 _ rfl) b82 rfl rfl
  have hB' : iv_in F' iv_B0 := iv_in_eq hB (fun j hj => hF j (Nat.lt_of_lt_of_le hj (by decide +kernel)))
  refine ⟨fun _ h => absurd h List.not_mem_nil, ?_⟩
  refine k _ ?_ ?_ ?_
  · exact fun j hj _ => (hd_keep hB' (Nat.lt_of_lt_of_le hj (by decide +kernel)) (by simp)).trans (hF j (by omega))
  · exact hd_gi (x := .inr (.inl 83)) (by decide +kernel) b83
  · exact hd_gi (x := .inr (.inl 84)) (by decide +kernel) t84
theorem k0pq_118 {Ls : Nat} {xs : Nat → Int32} {d : Nat} {Q : Option Value → jm_h → Prop} (hd : 7 ≤ d) (F : Nat → sy_d) (X1 X2 : List jm_c) (hB : iv_in F iv_B0)
    (a82 : 0 ≤ (sy_i F 82).toInt ∧ (sy_i F 82).toInt ≤ 400)
    (k0 : ∀ F1 : Nat → sy_d, iv_in F1 iv_B0 → (∀ j, j < 82 → j ∉ ([] : List Nat) → F1 j = F j) → (sy_i F1 33).toInt = (sy_i F 33).toInt → (sy_i F1 34).toInt = (sy_i F 34).toInt → (sy_i F1 35).toInt = (sy_i F 35).toInt → (sy_i F1 36).toInt = (sy_i F 36).toInt → (sy_i F1 37).toInt = (sy_i F 37).toInt → (sy_i F1 38).toInt = (sy_i F 38).toInt → (sy_i F1 18).toInt = (sy_i F 18).toInt → (sy_i F1 19).toInt = (sy_i F 19).toInt → sy_ai F1 39 = sy_ai F 39 → sy_ai F1 40 = sy_ai F 40 → (sy_i F1 82).toInt = (sy_i F 83).toInt → (sy_i F1 83).toInt = ((sy_i F 82).toInt + 1) → hd_W Ls xs d jm_M31 Q (52, sy_dL F1 [some (.inl (.ref 30)), none, none, none, some (.inr (.inl 82)), some (.inr (.inl 83)), none], sy_dS F1 [], sy_dh F1 X1 X2 (iv_H 0), 0, 0)) :
    hd_W Ls xs d jm_M31 Q (118, sy_dL F [some (.inl (.ref 30)), none, none, none, none, some (.inr (.inl 82)), none], sy_dS F [.inr (.inl 83)], sy_dh F X1 X2 (iv_H 0), 0, 0) := by
  have n84 : ((sy_i F 82) + ((1 : Int32))).toInt = ((sy_i F 82).toInt + 1) := nz_add (rfl : (sy_i F 82).toInt = (sy_i F 82).toInt) (by decide : ((1 : Int32)).toInt = 1) (by omega) (by omega)
  exact k0pq_118_p0 hd F X1 X2 hB  (fun F1 g e82 e83 => k0 F1 (nz_in0 hB [] (fun j hj hn => g j hj (by simp only [List.mem_cons, List.not_mem_nil, or_false, not_or] at hn; exact trivial)) (List.forall_mem_nil _)) (fun j hj hn => g j hj (by simp only [List.mem_cons, List.not_mem_nil, or_false, not_or] at hn; exact trivial)) (nz_fi (g 33 (by decide) (by decide))) (nz_fi (g 34 (by decide) (by decide))) (nz_fi (g 35 (by decide) (by decide))) (nz_fi (g 36 (by decide) (by decide))) (nz_fi (g 37 (by decide) (by decide))) (nz_fi (g 38 (by decide) (by decide))) (nz_fi (g 18 (by decide) (by decide))) (nz_fi (g 19 (by decide) (by decide))) (nz_fa (g 39 (by decide) (by decide))) (nz_fa (g 40 (by decide) (by decide))) ((congrArg Int32.toInt (zz_i e82)).trans (rfl : (sy_i F 83).toInt = (sy_i F 83).toInt)) ((congrArg Int32.toInt (zz_i e83)).trans n84))
theorem k0pq_146_p0 {Ls : Nat} {xs : Nat → Int32} {d : Nat} {Q : Option Value → jm_h → Prop} (hd : 7 ≤ d) (F : Nat → sy_d) (X1 X2 : List jm_c) (hB : iv_in F iv_B0)
    (k : ∀ F1 : Nat → sy_d, (∀ j, j < 82 → True → F1 j = F j) → F1 82 = .inl (.int (sy_i F 85)) → F1 83 = .inl (.int ((sy_i F 82) + ((1 : Int32)))) → hd_W Ls xs d jm_M31 Q (52, sy_dL F1 [some (.inl (.ref 30)), none, none, none, some (.inr (.inl 82)), some (.inr (.inl 83)), none], sy_dS F1 [], sy_dh F1 X1 X2 (iv_H 0), 0, 0)) :
    hd_W Ls xs d jm_M31 Q (146, sy_dL F [some (.inl (.ref 30)), none, none, none, none, some (.inr (.inl 82)), none], sy_dS F [.inr (.inl 85)], sy_dh F X1 X2 (iv_H 0), 0, 0) := by
  refine hd_run (s := 0) (nv := 86) (pc := 52) (L := [some (.inl (.ref 30)), none, none, none, some (.inr (.inl 82)), some (.inr (.inl 83)), none]) (S := []) (uh := hd_ov (iv_id 0 iv_B0) []) (ul := [.inl (.inr (.inl 85)), .inl (.inr (.inl 86))]) (f := false) (sp := [52]) (d0 := 6) (O := []) (T := [(0, [.inr (.inl 82), .inl (.int 1)], [])]) (P := []) jm_ok31 (by decide +kernel) (by decide +kernel) hd F X1 X2 (fun F' hF hs => ?_)
  have b85 := hd_b (F := F) (F' := F') (k := 85) (hF 85 (by decide))
  have b82 := hd_b (F := F) (F' := F') (k := 82) (hF 82 (by decide))
  have t86 : sy_dv F' (.inr (.inl 86)) = .int ((sy_i F 82) + ((1 : Int32))) := hd_o (hs 0 _ rfl) b82 rfl rfl
  have hB' : iv_in F' iv_B0 := iv_in_eq hB (fun j hj => hF j (Nat.lt_of_lt_of_le hj (by decide +kernel)))
  refine ⟨fun _ h => absurd h List.not_mem_nil, ?_⟩
  refine k _ ?_ ?_ ?_
  · exact fun j hj _ => (hd_keep hB' (Nat.lt_of_lt_of_le hj (by decide +kernel)) (by simp)).trans (hF j (by omega))
  · exact hd_gi (x := .inr (.inl 85)) (by decide +kernel) b85
  · exact hd_gi (x := .inr (.inl 86)) (by decide +kernel) t86
theorem k0pq_146 {Ls : Nat} {xs : Nat → Int32} {d : Nat} {Q : Option Value → jm_h → Prop} (hd : 7 ≤ d) (F : Nat → sy_d) (X1 X2 : List jm_c) (hB : iv_in F iv_B0)
    (a82 : 0 ≤ (sy_i F 82).toInt ∧ (sy_i F 82).toInt ≤ 400)
    (k0 : ∀ F1 : Nat → sy_d, iv_in F1 iv_B0 → (∀ j, j < 82 → j ∉ ([] : List Nat) → F1 j = F j) → (sy_i F1 33).toInt = (sy_i F 33).toInt → (sy_i F1 34).toInt = (sy_i F 34).toInt → (sy_i F1 35).toInt = (sy_i F 35).toInt → (sy_i F1 36).toInt = (sy_i F 36).toInt → (sy_i F1 37).toInt = (sy_i F 37).toInt → (sy_i F1 38).toInt = (sy_i F 38).toInt → (sy_i F1 18).toInt = (sy_i F 18).toInt → (sy_i F1 19).toInt = (sy_i F 19).toInt → sy_ai F1 39 = sy_ai F 39 → sy_ai F1 40 = sy_ai F 40 → (sy_i F1 82).toInt = (sy_i F 85).toInt → (sy_i F1 83).toInt = ((sy_i F 82).toInt + 1) → hd_W Ls xs d jm_M31 Q (52, sy_dL F1 [some (.inl (.ref 30)), none, none, none, some (.inr (.inl 82)), some (.inr (.inl 83)), none], sy_dS F1 [], sy_dh F1 X1 X2 (iv_H 0), 0, 0)) :
    hd_W Ls xs d jm_M31 Q (146, sy_dL F [some (.inl (.ref 30)), none, none, none, none, some (.inr (.inl 82)), none], sy_dS F [.inr (.inl 85)], sy_dh F X1 X2 (iv_H 0), 0, 0) := by
  have n86 : ((sy_i F 82) + ((1 : Int32))).toInt = ((sy_i F 82).toInt + 1) := nz_add (rfl : (sy_i F 82).toInt = (sy_i F 82).toInt) (by decide : ((1 : Int32)).toInt = 1) (by omega) (by omega)
  exact k0pq_146_p0 hd F X1 X2 hB  (fun F1 g e82 e83 => k0 F1 (nz_in0 hB [] (fun j hj hn => g j hj (by simp only [List.mem_cons, List.not_mem_nil, or_false, not_or] at hn; exact trivial)) (List.forall_mem_nil _)) (fun j hj hn => g j hj (by simp only [List.mem_cons, List.not_mem_nil, or_false, not_or] at hn; exact trivial)) (nz_fi (g 33 (by decide) (by decide))) (nz_fi (g 34 (by decide) (by decide))) (nz_fi (g 35 (by decide) (by decide))) (nz_fi (g 36 (by decide) (by decide))) (nz_fi (g 37 (by decide) (by decide))) (nz_fi (g 38 (by decide) (by decide))) (nz_fi (g 18 (by decide) (by decide))) (nz_fi (g 19 (by decide) (by decide))) (nz_fa (g 39 (by decide) (by decide))) (nz_fa (g 40 (by decide) (by decide))) ((congrArg Int32.toInt (zz_i e82)).trans (rfl : (sy_i F 85).toInt = (sy_i F 85).toInt)) ((congrArg Int32.toInt (zz_i e83)).trans n86))
theorem k0pq_171_p0 {Ls : Nat} {xs : Nat → Int32} {d : Nat} {Q : Option Value → jm_h → Prop} (hd : 7 ≤ d) (F : Nat → sy_d) (X1 X2 : List jm_c) (hB : iv_in F iv_B0)
    (k : ∀ F1 : Nat → sy_d, (∀ j, j < 82 → True → F1 j = F j) → F1 82 = .inl (.int (sy_i F 84)) → F1 83 = .inl (.int ((sy_i F 82) + ((1 : Int32)))) → hd_W Ls xs d jm_M31 Q (52, sy_dL F1 [some (.inl (.ref 30)), none, none, none, some (.inr (.inl 82)), some (.inr (.inl 83)), none], sy_dS F1 [], sy_dh F1 X1 X2 (iv_H 0), 0, 0)) :
    hd_W Ls xs d jm_M31 Q (171, sy_dL F [some (.inl (.ref 30)), none, none, none, none, some (.inr (.inl 82)), none], sy_dS F [.inr (.inl 84)], sy_dh F X1 X2 (iv_H 0), 0, 0) := by
  refine hd_run (s := 0) (nv := 85) (pc := 52) (L := [some (.inl (.ref 30)), none, none, none, some (.inr (.inl 82)), some (.inr (.inl 83)), none]) (S := []) (uh := hd_ov (iv_id 0 iv_B0) []) (ul := [.inl (.inr (.inl 84)), .inl (.inr (.inl 85))]) (f := false) (sp := [52]) (d0 := 6) (O := []) (T := [(0, [.inr (.inl 82), .inl (.int 1)], [])]) (P := []) jm_ok31 (by decide +kernel) (by decide +kernel) hd F X1 X2 (fun F' hF hs => ?_)
  have b84 := hd_b (F := F) (F' := F') (k := 84) (hF 84 (by decide))
  have b82 := hd_b (F := F) (F' := F') (k := 82) (hF 82 (by decide))
  have t85 : sy_dv F' (.inr (.inl 85)) = .int ((sy_i F 82) + ((1 : Int32))) := hd_o (hs 0 _ rfl) b82 rfl rfl
  have hB' : iv_in F' iv_B0 := iv_in_eq hB (fun j hj => hF j (Nat.lt_of_lt_of_le hj (by decide +kernel)))
  refine ⟨fun _ h => absurd h List.not_mem_nil, ?_⟩
  refine k _ ?_ ?_ ?_
  · exact fun j hj _ => (hd_keep hB' (Nat.lt_of_lt_of_le hj (by decide +kernel)) (by simp)).trans (hF j (by omega))
  · exact hd_gi (x := .inr (.inl 84)) (by decide +kernel) b84
  · exact hd_gi (x := .inr (.inl 85)) (by decide +kernel) t85
theorem k0pq_171 {Ls : Nat} {xs : Nat → Int32} {d : Nat} {Q : Option Value → jm_h → Prop} (hd : 7 ≤ d) (F : Nat → sy_d) (X1 X2 : List jm_c) (hB : iv_in F iv_B0)
    (a82 : 0 ≤ (sy_i F 82).toInt ∧ (sy_i F 82).toInt ≤ 400)
    (k0 : ∀ F1 : Nat → sy_d, iv_in F1 iv_B0 → (∀ j, j < 82 → j ∉ ([] : List Nat) → F1 j = F j) → (sy_i F1 33).toInt = (sy_i F 33).toInt → (sy_i F1 34).toInt = (sy_i F 34).toInt → (sy_i F1 35).toInt = (sy_i F 35).toInt → (sy_i F1 36).toInt = (sy_i F 36).toInt → (sy_i F1 37).toInt = (sy_i F 37).toInt → (sy_i F1 38).toInt = (sy_i F 38).toInt → (sy_i F1 18).toInt = (sy_i F 18).toInt → (sy_i F1 19).toInt = (sy_i F 19).toInt → sy_ai F1 39 = sy_ai F 39 → sy_ai F1 40 = sy_ai F 40 → (sy_i F1 82).toInt = (sy_i F 84).toInt → (sy_i F1 83).toInt = ((sy_i F 82).toInt + 1) → hd_W Ls xs d jm_M31 Q (52, sy_dL F1 [some (.inl (.ref 30)), none, none, none, some (.inr (.inl 82)), some (.inr (.inl 83)), none], sy_dS F1 [], sy_dh F1 X1 X2 (iv_H 0), 0, 0)) :
    hd_W Ls xs d jm_M31 Q (171, sy_dL F [some (.inl (.ref 30)), none, none, none, none, some (.inr (.inl 82)), none], sy_dS F [.inr (.inl 84)], sy_dh F X1 X2 (iv_H 0), 0, 0) := by
  have n85 : ((sy_i F 82) + ((1 : Int32))).toInt = ((sy_i F 82).toInt + 1) := nz_add (rfl : (sy_i F 82).toInt = (sy_i F 82).toInt) (by decide : ((1 : Int32)).toInt = 1) (by omega) (by omega)
  exact k0pq_171_p0 hd F X1 X2 hB  (fun F1 g e82 e83 => k0 F1 (nz_in0 hB [] (fun j hj hn => g j hj (by simp only [List.mem_cons, List.not_mem_nil, or_false, not_or] at hn; exact trivial)) (List.forall_mem_nil _)) (fun j hj hn => g j hj (by simp only [List.mem_cons, List.not_mem_nil, or_false, not_or] at hn; exact trivial)) (nz_fi (g 33 (by decide) (by decide))) (nz_fi (g 34 (by decide) (by decide))) (nz_fi (g 35 (by decide) (by decide))) (nz_fi (g 36 (by decide) (by decide))) (nz_fi (g 37 (by decide) (by decide))) (nz_fi (g 38 (by decide) (by decide))) (nz_fi (g 18 (by decide) (by decide))) (nz_fi (g 19 (by decide) (by decide))) (nz_fa (g 39 (by decide) (by decide))) (nz_fa (g 40 (by decide) (by decide))) ((congrArg Int32.toInt (zz_i e82)).trans (rfl : (sy_i F 84).toInt = (sy_i F 84).toInt)) ((congrArg Int32.toInt (zz_i e83)).trans n85))
theorem k0pq_189_p0 {Ls : Nat} {xs : Nat → Int32} {d : Nat} {Q : Option Value → jm_h → Prop} (hd : 7 ≤ d) (F : Nat → sy_d) (X1 X2 : List jm_c) (hB : iv_in F iv_B0)
    (h0 : (sy_i F 82).toInt = 0)
    (h1 : 0 ≤ (sy_i F 33).toInt)
    (h2 : (sy_i F 33).toInt ≤ 400)
    (h3 : 0 ≤ (sy_i F 33).toInt ∧ (sy_i F 33).toInt < 401)
    (h4 : (sy_i F 82).toInt = 0)
    (k : ∀ F1 : Nat → sy_d, (∀ j, j < 82 → j ≠ 35 → F1 j = F j) → F1 35 = .inl (.int ((sy_ai F 40).getD (sy_i F 33).toNatClampNeg 0)) → Q (some (.int (sy_i F 34))) (sy_dh F1 X1 X2 (iv_H 0))) :
    hd_W Ls xs d jm_M31 Q (189, sy_dL F [some (.inl (.ref 30)), none, none, none, some (.inr (.inl 82)), none, none], sy_dS F [], sy_dh F X1 X2 (iv_H 0), 0, 0) := by
  refine hd_ret (s := 0) (nv := 83) (v := some (.inr (.inl 34))) (uh := hd_ov (iv_id 0 iv_B0) [(35, .inl (.inr (.inl 83)))]) (f := true) (sp := []) (d0 := 6) (O := [true, false, false, true]) (T := [(30, [.inr (.inl 33)], [.inr (.inl 40)])]) (P := [(0, .inr (.inl 82), .inl (.int 0)), (3, .inr (.inl 33), .inl (.int 0)), (3, .inl (.int 400), .inr (.inl 33)), (6, .inr (.inl 33), .inl (.ref 401)), (0, .inr (.inl 82), .inl (.int 0))]) jm_ok31 (by decide +kernel) (by decide +kernel) hd F X1 X2 (fun F' hF hs => ?_)
  have b82 := hd_b (F := F) (F' := F') (k := 82) (hF 82 (by decide))
  have b33 := hd_b (F := F) (F' := F') (k := 33) (hF 33 (by decide))
  have a40 := hd_ba (F := F) (F' := F') (k := 40) (hF 40 (by decide))
  have t83 : sy_dv F' (.inr (.inl 83)) = .int ((sy_ai F 40).getD (sy_i F 33).toNatClampNeg 0) := hd_rd (hs 0 _ rfl) b33 a40
  have b34 := hd_b (F := F) (F' := F') (k := 34) (hF 34 (by decide))
  have hB' : iv_in F' iv_B0 := iv_in_eq hB (fun j hj => hF j (Nat.lt_of_lt_of_le hj (by decide +kernel)))
  have hk := k (sy_cm F' (hd_ov (iv_id 0 iv_B0) [(35, .inl (.inr (.inl 83)))] ++ [])) (fun j hj hn => (hd_keep hB' (Nat.lt_of_lt_of_le hj (by decide +kernel)) (by simp; omega)).trans (hF j (by omega))) (hd_gi (x := .inr (.inl 83)) (by decide +kernel) t83)
  refine ⟨List.forall_mem_cons.mpr ⟨hd_p0 b82 rfl (by have hc : ((0) : Int32).toInt = 0 := (by decide); omega), List.forall_mem_cons.mpr ⟨hd_p3 b33 rfl (by have hc : ((0) : Int32).toInt = 0 := (by decide); omega), List.forall_mem_cons.mpr ⟨hd_p3 rfl b33 (by have hc : ((400) : Int32).toInt = 400 := (by decide); omega), List.forall_mem_cons.mpr ⟨hd_pb b33 (by first | exact h3 | exact h3), List.forall_mem_cons.mpr ⟨hd_p0 b82 rfl (by have hc : ((0) : Int32).toInt = 0 := (by decide); omega), fun _ h => absurd h List.not_mem_nil⟩⟩⟩⟩⟩, ?_⟩
  show Q (some (sy_dv F' (.inr (.inl 34)))) _
  rw [b34]
  exact hk
theorem k0pq_189_p1 {Ls : Nat} {xs : Nat → Int32} {d : Nat} {Q : Option Value → jm_h → Prop} (hd : 7 ≤ d) (F : Nat → sy_d) (X1 X2 : List jm_c) (hB : iv_in F iv_B0)
    (h0 : (sy_i F 82).toInt ≠ 0)
    (h1 : (sy_i F 82).toInt ≠ 0)
    (k : ∀ F1 : Nat → sy_d, (∀ j, j < 82 → j ≠ 35 → F1 j = F j) → F1 35 = .inl (.int (sy_i F 37)) → Q (some (.int (sy_i F 36))) (sy_dh F1 X1 X2 (iv_H 0))) :
    hd_W Ls xs d jm_M31 Q (189, sy_dL F [some (.inl (.ref 30)), none, none, none, some (.inr (.inl 82)), none, none], sy_dS F [], sy_dh F X1 X2 (iv_H 0), 0, 0) := by
  refine hd_ret (s := 0) (nv := 83) (v := some (.inr (.inl 36))) (uh := hd_ov (iv_id 0 iv_B0) [(35, .inl (.inr (.inl 37)))]) (f := true) (sp := []) (d0 := 6) (O := [false, false]) (T := []) (P := [(1, .inr (.inl 82), .inl (.int 0)), (1, .inr (.inl 82), .inl (.int 0))]) jm_ok31 (by decide +kernel) (by decide +kernel) hd F X1 X2 (fun F' hF hs => ?_)
  have b82 := hd_b (F := F) (F' := F') (k := 82) (hF 82 (by decide))
  have b37 := hd_b (F := F) (F' := F') (k := 37) (hF 37 (by decide))
  have b36 := hd_b (F := F) (F' := F') (k := 36) (hF 36 (by decide))
  have hB' : iv_in F' iv_B0 := iv_in_eq hB (fun j hj => hF j (Nat.lt_of_lt_of_le hj (by decide +kernel)))
  have hk := k (sy_cm F' (hd_ov (iv_id 0 iv_B0) [(35, .inl (.inr (.inl 37)))] ++ [])) (fun j hj hn => (hd_keep hB' (Nat.lt_of_lt_of_le hj (by decide +kernel)) (by simp; omega)).trans (hF j (by omega))) (hd_gi (x := .inr (.inl 37)) (by decide +kernel) b37)
  refine ⟨List.forall_mem_cons.mpr ⟨hd_p1 b82 rfl (by have hc : ((0) : Int32).toInt = 0 := (by decide); omega), List.forall_mem_cons.mpr ⟨hd_p1 b82 rfl (by have hc : ((0) : Int32).toInt = 0 := (by decide); omega), fun _ h => absurd h List.not_mem_nil⟩⟩, ?_⟩
  show Q (some (sy_dv F' (.inr (.inl 36)))) _
  rw [b36]
  exact hk
theorem k0pq_189 {Ls : Nat} {xs : Nat → Int32} {d : Nat} {Q : Option Value → jm_h → Prop} (hd : 7 ≤ d) (F : Nat → sy_d) (X1 X2 : List jm_c) (hB : iv_in F iv_B0)
    (k0 : (sy_i F 82).toInt = 0 → 0 ≤ (sy_i F 33).toInt → (sy_i F 33).toInt ≤ 400 → (sy_i F 82).toInt = 0 → ∀ F1 : Nat → sy_d, iv_in F1 iv_B0 → (∀ j, j < 82 → j ∉ ([35] : List Nat) → F1 j = F j) → (sy_i F1 33).toInt = (sy_i F 33).toInt → (sy_i F1 34).toInt = (sy_i F 34).toInt → (sy_i F1 35).toInt = ((sy_ai F 40).getD ((sy_i F 33).toInt).toNat 0).toInt → (sy_i F1 36).toInt = (sy_i F 36).toInt → (sy_i F1 37).toInt = (sy_i F 37).toInt → (sy_i F1 38).toInt = (sy_i F 38).toInt → (sy_i F1 18).toInt = (sy_i F 18).toInt → (sy_i F1 19).toInt = (sy_i F 19).toInt → sy_ai F1 39 = sy_ai F 39 → sy_ai F1 40 = sy_ai F 40 → Q (some (.int (sy_i F 34))) (sy_dh F1 X1 X2 (iv_H 0)))
    (k1 : (sy_i F 82).toInt ≠ 0 → (sy_i F 82).toInt ≠ 0 → ∀ F1 : Nat → sy_d, iv_in F1 iv_B0 → (∀ j, j < 82 → j ∉ ([35] : List Nat) → F1 j = F j) → (sy_i F1 33).toInt = (sy_i F 33).toInt → (sy_i F1 34).toInt = (sy_i F 34).toInt → (sy_i F1 35).toInt = (sy_i F 37).toInt → (sy_i F1 36).toInt = (sy_i F 36).toInt → (sy_i F1 37).toInt = (sy_i F 37).toInt → (sy_i F1 38).toInt = (sy_i F 38).toInt → (sy_i F1 18).toInt = (sy_i F 18).toInt → (sy_i F1 19).toInt = (sy_i F 19).toInt → sy_ai F1 39 = sy_ai F 39 → sy_ai F1 40 = sy_ai F 40 → Q (some (.int (sy_i F 36))) (sy_dh F1 X1 X2 (iv_H 0))) :
    hd_W Ls xs d jm_M31 Q (189, sy_dL F [some (.inl (.ref 30)), none, none, none, some (.inr (.inl 82)), none, none], sy_dS F [], sy_dh F X1 X2 (iv_H 0), 0, 0) := by
  by_cases g0 : (sy_i F 82).toInt = 0
  · by_cases g1 : (sy_i F 33).toInt < 0
    · have c33 := nz_bx hB (k := 33) (lo := 0) (hi := 400) rfl
      exfalso
      omega
    replace g1 : 0 ≤ (sy_i F 33).toInt := by omega
    by_cases g2 : 400 < (sy_i F 33).toInt
    · have c33 := nz_bx hB (k := 33) (lo := 0) (hi := 400) rfl
      exfalso
      omega
    replace g2 : (sy_i F 33).toInt ≤ 400 := by omega
    by_cases g3 : (sy_i F 82).toInt = 0
    · have c33 := nz_bx hB (k := 33) (lo := 0) (hi := 400) rfl
      have q83 : (sy_ai F 40).getD (sy_i F 33).toNatClampNeg 0 = (sy_ai F 40).getD ((sy_i F 33).toInt).toNat 0 := by simp only [nz_c]
      have n83 : ((sy_ai F 40).getD (sy_i F 33).toNatClampNeg 0).toInt = ((sy_ai F 40).getD ((sy_i F 33).toInt).toNat 0).toInt := congrArg Int32.toInt q83
      exact k0pq_189_p0 hd F X1 X2 hB (by first | exact g0 | (simp only [nz_c]; exact g0)) (by first | exact g1 | (simp only [nz_c]; exact g1)) (by first | exact g2 | (simp only [nz_c]; exact g2)) (by first | exact ⟨by omega, by omega⟩ | (simp only [nz_c]; exact ⟨by omega, by omega⟩)) (by first | exact g3 | (simp only [nz_c]; exact g3)) (fun F1 g e35 => by rw [(rfl : sy_i F 34 = sy_i F 34)]; exact k0 g0 g1 g2 g3 F1 (nz_in0 hB [35] (fun j hj hn => g j hj (by simp only [List.mem_cons, List.not_mem_nil, or_false, not_or] at hn; omega)) (List.forall_mem_cons.mpr ⟨fun t ht => (Option.some.inj ht) ▸ (nz_hz e35), List.forall_mem_nil _⟩)) (fun j hj hn => g j hj (by simp only [List.mem_cons, List.not_mem_nil, or_false, not_or] at hn; omega)) (nz_fi (g 33 (by decide) (by decide))) (nz_fi (g 34 (by decide) (by decide))) ((congrArg Int32.toInt (zz_i e35)).trans n83) (nz_fi (g 36 (by decide) (by decide))) (nz_fi (g 37 (by decide) (by decide))) (nz_fi (g 38 (by decide) (by decide))) (nz_fi (g 18 (by decide) (by decide))) (nz_fi (g 19 (by decide) (by decide))) (nz_fa (g 39 (by decide) (by decide))) (nz_fa (g 40 (by decide) (by decide))))
    replace g3 : (sy_i F 82).toInt ≠ 0 := by omega
    have c33 := nz_bx hB (k := 33) (lo := 0) (hi := 400) rfl
    exfalso
    omega
  replace g0 : (sy_i F 82).toInt ≠ 0 := by omega
  by_cases g1 : (sy_i F 82).toInt = 0
  · exfalso
    omega
  replace g1 : (sy_i F 82).toInt ≠ 0 := by omega
  exact k0pq_189_p1 hd F X1 X2 hB (by first | exact g0 | (simp only [nz_c]; exact g0)) (by first | exact g1 | (simp only [nz_c]; exact g1)) (fun F1 g e35 => by rw [(rfl : sy_i F 36 = sy_i F 36)]; exact k1 g0 g1 F1 (nz_in0 hB [35] (fun j hj hn => g j hj (by simp only [List.mem_cons, List.not_mem_nil, or_false, not_or] at hn; omega)) (List.forall_mem_cons.mpr ⟨fun t ht => (Option.some.inj ht) ▸ (nz_hz e35), List.forall_mem_nil _⟩)) (fun j hj hn => g j hj (by simp only [List.mem_cons, List.not_mem_nil, or_false, not_or] at hn; omega)) (nz_fi (g 33 (by decide) (by decide))) (nz_fi (g 34 (by decide) (by decide))) ((congrArg Int32.toInt (zz_i e35)).trans (rfl : (sy_i F 37).toInt = (sy_i F 37).toInt)) (nz_fi (g 36 (by decide) (by decide))) (nz_fi (g 37 (by decide) (by decide))) (nz_fi (g 38 (by decide) (by decide))) (nz_fi (g 18 (by decide) (by decide))) (nz_fi (g 19 (by decide) (by decide))) (nz_fa (g 39 (by decide) (by decide))) (nz_fa (g 40 (by decide) (by decide))))
