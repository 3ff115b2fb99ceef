/-! ===== the class: a word is cut out, way by way ===== -/
theorem cw0_0_0 {Ls : Nat} {xs : Nat → Int32} {d : Nat} {Q : Option Value → jm_h → Prop} (hd : 2 ≤ d) (F : Nat → sy_d) (X1 X2 : List jm_c) (hB : iv_in F iv_B0)
    (k : ∀ F1 : Nat → sy_d, (∀ j, j < 82 → True → F1 j = F j) → F1 82 = .inl (.int (sy_i F 82)) → F1 83 = .inl (.int (sy_i F 83)) → F1 84 = .inl (.int (sy_i F 84)) → F1 85 = .inl (.int (sy_i F 83)) → F1 86 = .inl (.long ((0 : Int64))) → hd_W Ls xs d jm_M60 Q (6, sy_dL F1 [some (.inl (.ref 31)), some (.inr (.inl 82)), some (.inl (.ref 9)), some (.inr (.inl 83)), some (.inr (.inl 84)), some (.inr (.inl 85)), some (.inr (.inr 86)), none], sy_dS F1 [], sy_dh F1 X1 X2 (iv_H 0), 0, 0)) :
    hd_W Ls xs d jm_M60 Q (0, sy_dL F [some (.inl (.ref 31)), some (.inr (.inl 82)), some (.inl (.ref 9)), some (.inr (.inl 83)), some (.inr (.inl 84)), none, none, none], sy_dS F [], sy_dh F X1 X2 (iv_H 0), 0, 0) := by
  refine hd_run (s := 0) (nv := 85) (pc := 6) (L := [some (.inl (.ref 31)), some (.inr (.inl 82)), some (.inl (.ref 9)), some (.inr (.inl 83)), some (.inr (.inl 84)), some (.inr (.inl 85)), some (.inr (.inr 86)), none]) (S := []) (uh := hd_ov (iv_id 0 iv_B0) []) (ul := [.inl (.inr (.inl 82)), .inl (.inr (.inl 83)), .inl (.inr (.inl 84)), .inl (.inr (.inl 83)), .inl (.inl (.long 0))]) (f := true) (sp := [6, 70]) (d0 := 1) (O := []) (T := []) (P := []) jm_ok60 (by decide +kernel) (by decide +kernel) hd F X1 X2 (fun F' hF hs => ?_)
  have b82 := hd_b (F := F) (F' := F') (k := 82) (hF 82 (by decide))
  have b83 := hd_b (F := F) (F' := F') (k := 83) (hF 83 (by decide))
  have b84 := hd_b (F := F) (F' := F') (k := 84) (hF 84 (by decide))
  have hB' : iv_in F' iv_B0 := iv_in_eq hB (fun j hj => hF j (Nat.lt_of_lt_of_le hj (by decide +kernel)))
  refine ⟨fun _ h => absurd h List.not_mem_nil, ?_⟩
  refine k _ ?_ ?_ ?_ ?_ ?_ ?_
  · exact fun j hj _ => (hd_keep hB' (Nat.lt_of_lt_of_le hj (by decide +kernel)) (by simp)).trans (hF j (by omega))
  · exact hd_gi (x := .inr (.inl 82)) (by decide +kernel) b82
  · exact hd_gi (x := .inr (.inl 83)) (by decide +kernel) b83
  · exact hd_gi (x := .inr (.inl 84)) (by decide +kernel) b84
  · exact hd_gi (x := .inr (.inl 83)) (by decide +kernel) b83
  · exact hd_gl (x := .inl (.long 0)) (by decide +kernel) rfl
theorem cw0_6_0 {Ls : Nat} {xs : Nat → Int32} {d : Nat} {Q : Option Value → jm_h → Prop} (hd : 2 ≤ d) (F : Nat → sy_d) (X1 X2 : List jm_c) (hB : iv_in F iv_B0)
    (h0 : (sy_i F 84).toInt ≤ (sy_i F 85).toInt)
    (h1 : 0 ≤ (sy_i F 82).toInt ∧ (sy_i F 82).toInt < 401)
    (h2 : ((sy_i F 85) - (sy_i F 83)).toInt ≤ 8)
    (k : ∀ F1 : Nat → sy_d, (∀ j, j < 82 → j ≠ 41 → F1 j = F j) → F1 41 = .inr (.inr (jm_updL (sy_al F 41) (sy_i F 82).toNatClampNeg (sy_l F 86))) → F1 82 = .inl (.int (sy_i F 85)) → F1 83 = .inl (.long (sy_l F 86)) → F1 84 = .inl (.int (sy_i F 82)) → hd_W Ls xs d jm_M60 Q (70, sy_dL F1 [none, none, none, none, none, some (.inr (.inl 82)), none, none], sy_dS F1 [.inr (.inr 83), .inl (.ref 31), .inr (.inl 84), .inl (.ref 32)], sy_dh F1 X1 X2 (iv_H 0), 0, 0)) :
    hd_W Ls xs d jm_M60 Q (6, sy_dL F [some (.inl (.ref 31)), some (.inr (.inl 82)), some (.inl (.ref 9)), some (.inr (.inl 83)), some (.inr (.inl 84)), some (.inr (.inl 85)), some (.inr (.inr 86)), none], sy_dS F [], sy_dh F X1 X2 (iv_H 0), 0, 0) := by
  refine hd_run (s := 0) (nv := 87) (pc := 70) (L := [none, none, none, none, none, some (.inr (.inl 82)), none, none]) (S := [.inr (.inr 83), .inl (.ref 31), .inr (.inl 84), .inl (.ref 32)]) (uh := hd_ov (iv_id 0 iv_B0) [(41, .inr (.inr (.inr 87)))]) (ul := [.inl (.inr (.inl 85)), .inl (.inr (.inr 86)), .inl (.inr (.inl 82))]) (f := true) (sp := [6, 70]) (d0 := 1) (O := [true, true]) (T := [(40, [.inr (.inl 82), .inr (.inr 86)], [.inr (.inr 41)]), (1, [.inr (.inl 85), .inr (.inl 83)], [])]) (P := [(4, .inr (.inl 84), .inr (.inl 85)), (6, .inr (.inl 82), .inl (.ref 401)), (4, .inr (.inl 88), .inl (.int 8))]) jm_ok60 (by decide +kernel) (by decide +kernel) hd F X1 X2 (fun F' hF hs => ?_)
  have b84 := hd_b (F := F) (F' := F') (k := 84) (hF 84 (by decide))
  have b85 := hd_b (F := F) (F' := F') (k := 85) (hF 85 (by decide))
  have b82 := hd_b (F := F) (F' := F') (k := 82) (hF 82 (by decide))
  have b83 := hd_b (F := F) (F' := F') (k := 83) (hF 83 (by decide))
  have t88 : sy_dv F' (.inr (.inl 88)) = .int ((sy_i F 85) - (sy_i F 83)) := hd_o (hs 1 _ rfl) b85 b83 rfl
  have b86 := hd_bl (F := F) (F' := F') (k := 86) (hF 86 (by decide))
  have a41 := hd_bA (F := F) (F' := F') (k := 41) (hF 41 (by decide))
  have t87 : sy_da F' (.inr (.inr 87)) = .inr (jm_updL (sy_al F 41) (sy_i F 82).toNatClampNeg (sy_l F 86)) := hd_uA (hs 0 _ rfl) b82 b86 a41
  have hB' : iv_in F' iv_B0 := iv_in_eq hB (fun j hj => hF j (Nat.lt_of_lt_of_le hj (by decide +kernel)))
  refine ⟨List.forall_mem_cons.mpr ⟨hd_p4 b84 b85 h0, List.forall_mem_cons.mpr ⟨hd_pb b82 (by first | exact h1 | exact h1), List.forall_mem_cons.mpr ⟨hd_p4 t88 rfl (by have hc : ((8) : Int32).toInt = 8 := (by decide); omega), fun _ h => absurd h List.not_mem_nil⟩⟩⟩, ?_⟩
  refine k _ ?_ ?_ ?_ ?_ ?_
  · exact fun j hj hn => (hd_keep hB' (Nat.lt_of_lt_of_le hj (by decide +kernel)) (by simp; omega)).trans (hF j (by omega))
  · exact hd_gA (a := .inr (.inr 87)) (by decide +kernel) t87
  · exact hd_gi (x := .inr (.inl 85)) (by decide +kernel) b85
  · exact hd_gl (x := .inr (.inr 86)) (by decide +kernel) b86
  · exact hd_gi (x := .inr (.inl 82)) (by decide +kernel) b82
theorem cw0_6_1 {Ls : Nat} {xs : Nat → Int32} {d : Nat} {Q : Option Value → jm_h → Prop} (hd : 2 ≤ d) (F : Nat → sy_d) (X1 X2 : List jm_c) (hB : iv_in F iv_B0)
    (h0 : (sy_i F 84).toInt ≤ (sy_i F 85).toInt)
    (h1 : 0 ≤ (sy_i F 82).toInt ∧ (sy_i F 82).toInt < 401)
    (h2 : 8 < ((sy_i F 85) - (sy_i F 83)).toInt)
    (h3 : 0 ≤ (sy_i F 82).toInt ∧ (sy_i F 82).toInt < 401)
    (k : ∀ F1 : Nat → sy_d, (∀ j, j < 82 → j ≠ 39 ∧ j ≠ 41 → F1 j = F j) → F1 39 = .inr (.inl (jm_upd (sy_ai F 39) (sy_i F 82).toNatClampNeg ((25 : Int32)))) → F1 41 = .inr (.inr (jm_updL (sy_al F 41) (sy_i F 82).toNatClampNeg (sy_l F 86))) → Q (some (.int (sy_i F 85))) (sy_dh F1 X1 X2 (iv_H 0))) :
    hd_W Ls xs d jm_M60 Q (6, sy_dL F [some (.inl (.ref 31)), some (.inr (.inl 82)), some (.inl (.ref 9)), some (.inr (.inl 83)), some (.inr (.inl 84)), some (.inr (.inl 85)), some (.inr (.inr 86)), none], sy_dS F [], sy_dh F X1 X2 (iv_H 0), 0, 0) := by
  refine hd_ret (s := 0) (nv := 87) (v := some (.inr (.inl 85))) (uh := hd_ov (iv_id 0 iv_B0) [(39, .inr (.inr (.inl 89))), (41, .inr (.inr (.inr 87)))]) (f := true) (sp := [6, 70]) (d0 := 1) (O := [true, false]) (T := [(40, [.inr (.inl 82), .inr (.inr 86)], [.inr (.inr 41)]), (1, [.inr (.inl 85), .inr (.inl 83)], []), (40, [.inr (.inl 82), .inl (.int 25)], [.inr (.inl 39)])]) (P := [(4, .inr (.inl 84), .inr (.inl 85)), (6, .inr (.inl 82), .inl (.ref 401)), (5, .inr (.inl 88), .inl (.int 8)), (6, .inr (.inl 82), .inl (.ref 401))]) jm_ok60 (by decide +kernel) (by decide +kernel) hd F X1 X2 (fun F' hF hs => ?_)
  have b84 := hd_b (F := F) (F' := F') (k := 84) (hF 84 (by decide))
  have b85 := hd_b (F := F) (F' := F') (k := 85) (hF 85 (by decide))
  have b82 := hd_b (F := F) (F' := F') (k := 82) (hF 82 (by decide))
  have b83 := hd_b (F := F) (F' := F') (k := 83) (hF 83 (by decide))
  have t88 : sy_dv F' (.inr (.inl 88)) = .int ((sy_i F 85) - (sy_i F 83)) := hd_o (hs 1 _ rfl) b85 b83 rfl
  have a39 := hd_ba (F := F) (F' := F') (k := 39) (hF 39 (by decide))
  have t89 : sy_da F' (.inr (.inl 89)) = .inl (jm_upd (sy_ai F 39) (sy_i F 82).toNatClampNeg ((25 : Int32))) := hd_up (hs 2 _ rfl) b82 rfl a39
  have b86 := hd_bl (F := F) (F' := F') (k := 86) (hF 86 (by decide))
  have a41 := hd_bA (F := F) (F' := F') (k := 41) (hF 41 (by decide))
  have t87 : sy_da F' (.inr (.inr 87)) = .inr (jm_updL (sy_al F 41) (sy_i F 82).toNatClampNeg (sy_l F 86)) := hd_uA (hs 0 _ rfl) b82 b86 a41
  have hB' : iv_in F' iv_B0 := iv_in_eq hB (fun j hj => hF j (Nat.lt_of_lt_of_le hj (by decide +kernel)))
  have hk := k (sy_cm F' (hd_ov (iv_id 0 iv_B0) [(39, .inr (.inr (.inl 89))), (41, .inr (.inr (.inr 87)))] ++ [])) (fun j hj hn => (hd_keep hB' (Nat.lt_of_lt_of_le hj (by decide +kernel)) (by simp; omega)).trans (hF j (by omega))) (hd_ga (a := .inr (.inl 89)) (by decide +kernel) t89) (hd_gA (a := .inr (.inr 87)) (by decide +kernel) t87)
  refine ⟨List.forall_mem_cons.mpr ⟨hd_p4 b84 b85 h0, List.forall_mem_cons.mpr ⟨hd_pb b82 (by first | exact h1 | exact h1), List.forall_mem_cons.mpr ⟨hd_p5 t88 rfl (by have hc : ((8) : Int32).toInt = 8 := (by decide); omega), List.forall_mem_cons.mpr ⟨hd_pb b82 (by first | exact h3 | exact h3), fun _ h => absurd h List.not_mem_nil⟩⟩⟩⟩, ?_⟩
  show Q (some (sy_dv F' (.inr (.inl 85)))) _
  rw [b85]
  exact hk
theorem cw0_6_2 {Ls : Nat} {xs : Nat → Int32} {d : Nat} {Q : Option Value → jm_h → Prop} (hd : 2 ≤ d) (F : Nat → sy_d) (X1 X2 : List jm_c) (hB : iv_in F iv_B0)
    (h0 : (sy_i F 85).toInt < (sy_i F 84).toInt)
    (h1 : 0 ≤ (sy_i F 85).toInt ∧ (sy_i F 85).toInt < 2000)
    (h2 : ((sy_ai F 2).getD (sy_i F 85).toNatClampNeg 0).toInt < 97)
    (h3 : 0 ≤ (sy_i F 82).toInt ∧ (sy_i F 82).toInt < 401)
    (h4 : ((sy_i F 85) - (sy_i F 83)).toInt ≤ 8)
    (k : ∀ F1 : Nat → sy_d, (∀ j, j < 82 → j ≠ 41 → F1 j = F j) → F1 41 = .inr (.inr (jm_updL (sy_al F 41) (sy_i F 82).toNatClampNeg (sy_l F 86))) → F1 82 = .inl (.int (sy_i F 85)) → F1 83 = .inl (.long (sy_l F 86)) → F1 84 = .inl (.int (sy_i F 82)) → hd_W Ls xs d jm_M60 Q (70, sy_dL F1 [none, none, none, none, none, some (.inr (.inl 82)), none, none], sy_dS F1 [.inr (.inr 83), .inl (.ref 31), .inr (.inl 84), .inl (.ref 32)], sy_dh F1 X1 X2 (iv_H 0), 0, 0)) :
    hd_W Ls xs d jm_M60 Q (6, sy_dL F [some (.inl (.ref 31)), some (.inr (.inl 82)), some (.inl (.ref 9)), some (.inr (.inl 83)), some (.inr (.inl 84)), some (.inr (.inl 85)), some (.inr (.inr 86)), none], sy_dS F [], sy_dh F X1 X2 (iv_H 0), 0, 0) := by
  refine hd_run (s := 0) (nv := 87) (pc := 70) (L := [none, none, none, none, none, some (.inr (.inl 82)), none, none]) (S := [.inr (.inr 83), .inl (.ref 31), .inr (.inl 84), .inl (.ref 32)]) (uh := hd_ov (iv_id 0 iv_B0) [(41, .inr (.inr (.inr 88)))]) (ul := [.inl (.inr (.inl 85)), .inl (.inr (.inr 86)), .inl (.inr (.inl 82))]) (f := true) (sp := [6, 70]) (d0 := 1) (O := [false, true, true]) (T := [(30, [.inr (.inl 85)], [.inr (.inl 2)]), (40, [.inr (.inl 82), .inr (.inr 86)], [.inr (.inr 41)]), (1, [.inr (.inl 85), .inr (.inl 83)], [])]) (P := [(5, .inr (.inl 84), .inr (.inl 85)), (6, .inr (.inl 85), .inl (.ref 2000)), (2, .inr (.inl 87), .inl (.int 97)), (6, .inr (.inl 82), .inl (.ref 401)), (4, .inr (.inl 89), .inl (.int 8))]) jm_ok60 (by decide +kernel) (by decide +kernel) hd F X1 X2 (fun F' hF hs => ?_)
  have b84 := hd_b (F := F) (F' := F') (k := 84) (hF 84 (by decide))
  have b85 := hd_b (F := F) (F' := F') (k := 85) (hF 85 (by decide))
  have a2 := hd_ba (F := F) (F' := F') (k := 2) (hF 2 (by decide))
  have t87 : sy_dv F' (.inr (.inl 87)) = .int ((sy_ai F 2).getD (sy_i F 85).toNatClampNeg 0) := hd_rd (hs 0 _ rfl) b85 a2
  have b82 := hd_b (F := F) (F' := F') (k := 82) (hF 82 (by decide))
  have b83 := hd_b (F := F) (F' := F') (k := 83) (hF 83 (by decide))
  have t89 : sy_dv F' (.inr (.inl 89)) = .int ((sy_i F 85) - (sy_i F 83)) := hd_o (hs 2 _ rfl) b85 b83 rfl
  have b86 := hd_bl (F := F) (F' := F') (k := 86) (hF 86 (by decide))
  have a41 := hd_bA (F := F) (F' := F') (k := 41) (hF 41 (by decide))
  have t88 : sy_da F' (.inr (.inr 88)) = .inr (jm_updL (sy_al F 41) (sy_i F 82).toNatClampNeg (sy_l F 86)) := hd_uA (hs 1 _ rfl) b82 b86 a41
  have hB' : iv_in F' iv_B0 := iv_in_eq hB (fun j hj => hF j (Nat.lt_of_lt_of_le hj (by decide +kernel)))
  refine ⟨List.forall_mem_cons.mpr ⟨hd_p5 b84 b85 h0, List.forall_mem_cons.mpr ⟨hd_pb b85 (by first | exact h1 | exact h1), List.forall_mem_cons.mpr ⟨hd_p2 t87 rfl (by have hc : ((97) : Int32).toInt = 97 := (by decide); omega), List.forall_mem_cons.mpr ⟨hd_pb b82 (by first | exact h3 | exact h3), List.forall_mem_cons.mpr ⟨hd_p4 t89 rfl (by have hc : ((8) : Int32).toInt = 8 := (by decide); omega), fun _ h => absurd h List.not_mem_nil⟩⟩⟩⟩⟩, ?_⟩
  refine k _ ?_ ?_ ?_ ?_ ?_
  · exact fun j hj hn => (hd_keep hB' (Nat.lt_of_lt_of_le hj (by decide +kernel)) (by simp; omega)).trans (hF j (by omega))
  · exact hd_gA (a := .inr (.inr 88)) (by decide +kernel) t88
  · exact hd_gi (x := .inr (.inl 85)) (by decide +kernel) b85
  · exact hd_gl (x := .inr (.inr 86)) (by decide +kernel) b86
  · exact hd_gi (x := .inr (.inl 82)) (by decide +kernel) b82
theorem cw0_6_3 {Ls : Nat} {xs : Nat → Int32} {d : Nat} {Q : Option Value → jm_h → Prop} (hd : 2 ≤ d) (F : Nat → sy_d) (X1 X2 : List jm_c) (hB : iv_in F iv_B0)
    (h0 : (sy_i F 85).toInt < (sy_i F 84).toInt)
    (h1 : 0 ≤ (sy_i F 85).toInt ∧ (sy_i F 85).toInt < 2000)
    (h2 : ((sy_ai F 2).getD (sy_i F 85).toNatClampNeg 0).toInt < 97)
    (h3 : 0 ≤ (sy_i F 82).toInt ∧ (sy_i F 82).toInt < 401)
    (h4 : 8 < ((sy_i F 85) - (sy_i F 83)).toInt)
    (h5 : 0 ≤ (sy_i F 82).toInt ∧ (sy_i F 82).toInt < 401)
    (k : ∀ F1 : Nat → sy_d, (∀ j, j < 82 → j ≠ 39 ∧ j ≠ 41 → F1 j = F j) → F1 39 = .inr (.inl (jm_upd (sy_ai F 39) (sy_i F 82).toNatClampNeg ((25 : Int32)))) → F1 41 = .inr (.inr (jm_updL (sy_al F 41) (sy_i F 82).toNatClampNeg (sy_l F 86))) → Q (some (.int (sy_i F 85))) (sy_dh F1 X1 X2 (iv_H 0))) :
    hd_W Ls xs d jm_M60 Q (6, sy_dL F [some (.inl (.ref 31)), some (.inr (.inl 82)), some (.inl (.ref 9)), some (.inr (.inl 83)), some (.inr (.inl 84)), some (.inr (.inl 85)), some (.inr (.inr 86)), none], sy_dS F [], sy_dh F X1 X2 (iv_H 0), 0, 0) := by
  refine hd_ret (s := 0) (nv := 87) (v := some (.inr (.inl 85))) (uh := hd_ov (iv_id 0 iv_B0) [(39, .inr (.inr (.inl 90))), (41, .inr (.inr (.inr 88)))]) (f := true) (sp := [6, 70]) (d0 := 1) (O := [false, true, false]) (T := [(30, [.inr (.inl 85)], [.inr (.inl 2)]), (40, [.inr (.inl 82), .inr (.inr 86)], [.inr (.inr 41)]), (1, [.inr (.inl 85), .inr (.inl 83)], []), (40, [.inr (.inl 82), .inl (.int 25)], [.inr (.inl 39)])]) (P := [(5, .inr (.inl 84), .inr (.inl 85)), (6, .inr (.inl 85), .inl (.ref 2000)), (2, .inr (.inl 87), .inl (.int 97)), (6, .inr (.inl 82), .inl (.ref 401)), (5, .inr (.inl 89), .inl (.int 8)), (6, .inr (.inl 82), .inl (.ref 401))]) jm_ok60 (by decide +kernel) (by decide +kernel) hd F X1 X2 (fun F' hF hs => ?_)
  have b84 := hd_b (F := F) (F' := F') (k := 84) (hF 84 (by decide))
  have b85 := hd_b (F := F) (F' := F') (k := 85) (hF 85 (by decide))
  have a2 := hd_ba (F := F) (F' := F') (k := 2) (hF 2 (by decide))
  have t87 : sy_dv F' (.inr (.inl 87)) = .int ((sy_ai F 2).getD (sy_i F 85).toNatClampNeg 0) := hd_rd (hs 0 _ rfl) b85 a2
  have b82 := hd_b (F := F) (F' := F') (k := 82) (hF 82 (by decide))
  have b83 := hd_b (F := F) (F' := F') (k := 83) (hF 83 (by decide))
  have t89 : sy_dv F' (.inr (.inl 89)) = .int ((sy_i F 85) - (sy_i F 83)) := hd_o (hs 2 _ rfl) b85 b83 rfl
  have a39 := hd_ba (F := F) (F' := F') (k := 39) (hF 39 (by decide))
  have t90 : sy_da F' (.inr (.inl 90)) = .inl (jm_upd (sy_ai F 39) (sy_i F 82).toNatClampNeg ((25 : Int32))) := hd_up (hs 3 _ rfl) b82 rfl a39
  have b86 := hd_bl (F := F) (F' := F') (k := 86) (hF 86 (by decide))
  have a41 := hd_bA (F := F) (F' := F') (k := 41) (hF 41 (by decide))
  have t88 : sy_da F' (.inr (.inr 88)) = .inr (jm_updL (sy_al F 41) (sy_i F 82).toNatClampNeg (sy_l F 86)) := hd_uA (hs 1 _ rfl) b82 b86 a41
  have hB' : iv_in F' iv_B0 := iv_in_eq hB (fun j hj => hF j (Nat.lt_of_lt_of_le hj (by decide +kernel)))
  have hk := k (sy_cm F' (hd_ov (iv_id 0 iv_B0) [(39, .inr (.inr (.inl 90))), (41, .inr (.inr (.inr 88)))] ++ [])) (fun j hj hn => (hd_keep hB' (Nat.lt_of_lt_of_le hj (by decide +kernel)) (by simp; omega)).trans (hF j (by omega))) (hd_ga (a := .inr (.inl 90)) (by decide +kernel) t90) (hd_gA (a := .inr (.inr 88)) (by decide +kernel) t88)
  refine ⟨List.forall_mem_cons.mpr ⟨hd_p5 b84 b85 h0, List.forall_mem_cons.mpr ⟨hd_pb b85 (by first | exact h1 | exact h1), List.forall_mem_cons.mpr ⟨hd_p2 t87 rfl (by have hc : ((97) : Int32).toInt = 97 := (by decide); omega), List.forall_mem_cons.mpr ⟨hd_pb b82 (by first | exact h3 | exact h3), List.forall_mem_cons.mpr ⟨hd_p5 t89 rfl (by have hc : ((8) : Int32).toInt = 8 := (by decide); omega), List.forall_mem_cons.mpr ⟨hd_pb b82 (by first | exact h5 | exact h5), fun _ h => absurd h List.not_mem_nil⟩⟩⟩⟩⟩⟩, ?_⟩
  show Q (some (sy_dv F' (.inr (.inl 85)))) _
  rw [b85]
  exact hk
theorem cw0_6_4 {Ls : Nat} {xs : Nat → Int32} {d : Nat} {Q : Option Value → jm_h → Prop} (hd : 2 ≤ d) (F : Nat → sy_d) (X1 X2 : List jm_c) (hB : iv_in F iv_B0)
    (h0 : (sy_i F 85).toInt < (sy_i F 84).toInt)
    (h1 : 0 ≤ (sy_i F 85).toInt ∧ (sy_i F 85).toInt < 2000)
    (h2 : 97 ≤ ((sy_ai F 2).getD (sy_i F 85).toNatClampNeg 0).toInt)
    (h3 : 122 < ((sy_ai F 2).getD (sy_i F 85).toNatClampNeg 0).toInt)
    (h4 : 0 ≤ (sy_i F 82).toInt ∧ (sy_i F 82).toInt < 401)
    (h5 : ((sy_i F 85) - (sy_i F 83)).toInt ≤ 8)
    (k : ∀ F1 : Nat → sy_d, (∀ j, j < 82 → j ≠ 41 → F1 j = F j) → F1 41 = .inr (.inr (jm_updL (sy_al F 41) (sy_i F 82).toNatClampNeg (sy_l F 86))) → F1 82 = .inl (.int (sy_i F 85)) → F1 83 = .inl (.long (sy_l F 86)) → F1 84 = .inl (.int (sy_i F 82)) → hd_W Ls xs d jm_M60 Q (70, sy_dL F1 [none, none, none, none, none, some (.inr (.inl 82)), none, none], sy_dS F1 [.inr (.inr 83), .inl (.ref 31), .inr (.inl 84), .inl (.ref 32)], sy_dh F1 X1 X2 (iv_H 0), 0, 0)) :
    hd_W Ls xs d jm_M60 Q (6, sy_dL F [some (.inl (.ref 31)), some (.inr (.inl 82)), some (.inl (.ref 9)), some (.inr (.inl 83)), some (.inr (.inl 84)), some (.inr (.inl 85)), some (.inr (.inr 86)), none], sy_dS F [], sy_dh F X1 X2 (iv_H 0), 0, 0) := by
  refine hd_run (s := 0) (nv := 87) (pc := 70) (L := [none, none, none, none, none, some (.inr (.inl 82)), none, none]) (S := [.inr (.inr 83), .inl (.ref 31), .inr (.inl 84), .inl (.ref 32)]) (uh := hd_ov (iv_id 0 iv_B0) [(41, .inr (.inr (.inr 88)))]) (ul := [.inl (.inr (.inl 85)), .inl (.inr (.inr 86)), .inl (.inr (.inl 82))]) (f := true) (sp := [6, 70]) (d0 := 1) (O := [false, false, true, true]) (T := [(30, [.inr (.inl 85)], [.inr (.inl 2)]), (40, [.inr (.inl 82), .inr (.inr 86)], [.inr (.inr 41)]), (1, [.inr (.inl 85), .inr (.inl 83)], [])]) (P := [(5, .inr (.inl 84), .inr (.inl 85)), (6, .inr (.inl 85), .inl (.ref 2000)), (3, .inr (.inl 87), .inl (.int 97)), (2, .inl (.int 122), .inr (.inl 87)), (6, .inr (.inl 82), .inl (.ref 401)), (4, .inr (.inl 89), .inl (.int 8))]) jm_ok60 (by decide +kernel) (by decide +kernel) hd F X1 X2 (fun F' hF hs => ?_)
  have b84 := hd_b (F := F) (F' := F') (k := 84) (hF 84 (by decide))
  have b85 := hd_b (F := F) (F' := F') (k := 85) (hF 85 (by decide))
  have a2 := hd_ba (F := F) (F' := F') (k := 2) (hF 2 (by decide))
  have t87 : sy_dv F' (.inr (.inl 87)) = .int ((sy_ai F 2).getD (sy_i F 85).toNatClampNeg 0) := hd_rd (hs 0 _ rfl) b85 a2
  have b82 := hd_b (F := F) (F' := F') (k := 82) (hF 82 (by decide))
  have b83 := hd_b (F := F) (F' := F') (k := 83) (hF 83 (by decide))
  have t89 : sy_dv F' (.inr (.inl 89)) = .int ((sy_i F 85) - (sy_i F 83)) := hd_o (hs 2 _ rfl) b85 b83 rfl
  have b86 := hd_bl (F := F) (F' := F') (k := 86) (hF 86 (by decide))
  have a41 := hd_bA (F := F) (F' := F') (k := 41) (hF 41 (by decide))
  have t88 : sy_da F' (.inr (.inr 88)) = .inr (jm_updL (sy_al F 41) (sy_i F 82).toNatClampNeg (sy_l F 86)) := hd_uA (hs 1 _ rfl) b82 b86 a41
  have hB' : iv_in F' iv_B0 := iv_in_eq hB (fun j hj => hF j (Nat.lt_of_lt_of_le hj (by decide +kernel)))
  refine ⟨List.forall_mem_cons.mpr ⟨hd_p5 b84 b85 h0, List.forall_mem_cons.mpr ⟨hd_pb b85 (by first | exact h1 | exact h1), List.forall_mem_cons.mpr ⟨hd_p3 t87 rfl (by have hc : ((97) : Int32).toInt = 97 := (by decide); omega), List.forall_mem_cons.mpr ⟨hd_p2 rfl t87 (by have hc : ((122) : Int32).toInt = 122 := (by decide); omega), List.forall_mem_cons.mpr ⟨hd_pb b82 (by first | exact h4 | exact h4), List.forall_mem_cons.mpr ⟨hd_p4 t89 rfl (by have hc : ((8) : Int32).toInt = 8 := (by decide); omega), fun _ h => absurd h List.not_mem_nil⟩⟩⟩⟩⟩⟩, ?_⟩
  refine k _ ?_ ?_ ?_ ?_ ?_
  · exact fun j hj hn => (hd_keep hB' (Nat.lt_of_lt_of_le hj (by decide +kernel)) (by simp; omega)).trans (hF j (by omega))
  · exact hd_gA (a := .inr (.inr 88)) (by decide +kernel) t88
  · exact hd_gi (x := .inr (.inl 85)) (by decide +kernel) b85
  · exact hd_gl (x := .inr (.inr 86)) (by decide +kernel) b86
  · exact hd_gi (x := .inr (.inl 82)) (by decide +kernel) b82
theorem cw0_6_5 {Ls : Nat} {xs : Nat → Int32} {d : Nat} {Q : Option Value → jm_h → Prop} (hd : 2 ≤ d) (F : Nat → sy_d) (X1 X2 : List jm_c) (hB : iv_in F iv_B0)
    (h0 : (sy_i F 85).toInt < (sy_i F 84).toInt)
    (h1 : 0 ≤ (sy_i F 85).toInt ∧ (sy_i F 85).toInt < 2000)
    (h2 : 97 ≤ ((sy_ai F 2).getD (sy_i F 85).toNatClampNeg 0).toInt)
    (h3 : 122 < ((sy_ai F 2).getD (sy_i F 85).toNatClampNeg 0).toInt)
    (h4 : 0 ≤ (sy_i F 82).toInt ∧ (sy_i F 82).toInt < 401)
    (h5 : 8 < ((sy_i F 85) - (sy_i F 83)).toInt)
    (h6 : 0 ≤ (sy_i F 82).toInt ∧ (sy_i F 82).toInt < 401)
    (k : ∀ F1 : Nat → sy_d, (∀ j, j < 82 → j ≠ 39 ∧ j ≠ 41 → F1 j = F j) → F1 39 = .inr (.inl (jm_upd (sy_ai F 39) (sy_i F 82).toNatClampNeg ((25 : Int32)))) → F1 41 = .inr (.inr (jm_updL (sy_al F 41) (sy_i F 82).toNatClampNeg (sy_l F 86))) → Q (some (.int (sy_i F 85))) (sy_dh F1 X1 X2 (iv_H 0))) :
    hd_W Ls xs d jm_M60 Q (6, sy_dL F [some (.inl (.ref 31)), some (.inr (.inl 82)), some (.inl (.ref 9)), some (.inr (.inl 83)), some (.inr (.inl 84)), some (.inr (.inl 85)), some (.inr (.inr 86)), none], sy_dS F [], sy_dh F X1 X2 (iv_H 0), 0, 0) := by
  refine hd_ret (s := 0) (nv := 87) (v := some (.inr (.inl 85))) (uh := hd_ov (iv_id 0 iv_B0) [(39, .inr (.inr (.inl 90))), (41, .inr (.inr (.inr 88)))]) (f := true) (sp := [6, 70]) (d0 := 1) (O := [false, false, true, false]) (T := [(30, [.inr (.inl 85)], [.inr (.inl 2)]), (40, [.inr (.inl 82), .inr (.inr 86)], [.inr (.inr 41)]), (1, [.inr (.inl 85), .inr (.inl 83)], []), (40, [.inr (.inl 82), .inl (.int 25)], [.inr (.inl 39)])]) (P := [(5, .inr (.inl 84), .inr (.inl 85)), (6, .inr (.inl 85), .inl (.ref 2000)), (3, .inr (.inl 87), .inl (.int 97)), (2, .inl (.int 122), .inr (.inl 87)), (6, .inr (.inl 82), .inl (.ref 401)), (5, .inr (.inl 89), .inl (.int 8)), (6, .inr (.inl 82), .inl (.ref 401))]) jm_ok60 (by decide +kernel) (by decide +kernel) hd F X1 X2 (fun F' hF hs => ?_)
  have b84 := hd_b (F := F) (F' := F') (k := 84) (hF 84 (by decide))
  have b85 := hd_b (F := F) (F' := F') (k := 85) (hF 85 (by decide))
  have a2 := hd_ba (F := F) (F' := F') (k := 2) (hF 2 (by decide))
  have t87 : sy_dv F' (.inr (.inl 87)) = .int ((sy_ai F 2).getD (sy_i F 85).toNatClampNeg 0) := hd_rd (hs 0 _ rfl) b85 a2
  have b82 := hd_b (F := F) (F' := F') (k := 82) (hF 82 (by decide))
  have b83 := hd_b (F := F) (F' := F') (k := 83) (hF 83 (by decide))
  have t89 : sy_dv F' (.inr (.inl 89)) = .int ((sy_i F 85) - (sy_i F 83)) := hd_o (hs 2 _ rfl) b85 b83 rfl
  have a39 := hd_ba (F := F) (F' := F') (k := 39) (hF 39 (by decide))
  have t90 : sy_da F' (.inr (.inl 90)) = .inl (jm_upd (sy_ai F 39) (sy_i F 82).toNatClampNeg ((25 : Int32))) := hd_up (hs 3 _ rfl) b82 rfl a39
  have b86 := hd_bl (F := F) (F' := F') (k := 86) (hF 86 (by decide))
  have a41 := hd_bA (F := F) (F' := F') (k := 41) (hF 41 (by decide))
  have t88 : sy_da F' (.inr (.inr 88)) = .inr (jm_updL (sy_al F 41) (sy_i F 82).toNatClampNeg (sy_l F 86)) := hd_uA (hs 1 _ rfl) b82 b86 a41
  have hB' : iv_in F' iv_B0 := iv_in_eq hB (fun j hj => hF j (Nat.lt_of_lt_of_le hj (by decide +kernel)))
  have hk := k (sy_cm F' (hd_ov (iv_id 0 iv_B0) [(39, .inr (.inr (.inl 90))), (41, .inr (.inr (.inr 88)))] ++ [])) (fun j hj hn => (hd_keep hB' (Nat.lt_of_lt_of_le hj (by decide +kernel)) (by simp; omega)).trans (hF j (by omega))) (hd_ga (a := .inr (.inl 90)) (by decide +kernel) t90) (hd_gA (a := .inr (.inr 88)) (by decide +kernel) t88)
  refine ⟨List.forall_mem_cons.mpr ⟨hd_p5 b84 b85 h0, List.forall_mem_cons.mpr ⟨hd_pb b85 (by first | exact h1 | exact h1), List.forall_mem_cons.mpr ⟨hd_p3 t87 rfl (by have hc : ((97) : Int32).toInt = 97 := (by decide); omega), List.forall_mem_cons.mpr ⟨hd_p2 rfl t87 (by have hc : ((122) : Int32).toInt = 122 := (by decide); omega), List.forall_mem_cons.mpr ⟨hd_pb b82 (by first | exact h4 | exact h4), List.forall_mem_cons.mpr ⟨hd_p5 t89 rfl (by have hc : ((8) : Int32).toInt = 8 := (by decide); omega), List.forall_mem_cons.mpr ⟨hd_pb b82 (by first | exact h6 | exact h6), fun _ h => absurd h List.not_mem_nil⟩⟩⟩⟩⟩⟩⟩, ?_⟩
  show Q (some (sy_dv F' (.inr (.inl 85)))) _
  rw [b85]
  exact hk
theorem cw0_6_6 {Ls : Nat} {xs : Nat → Int32} {d : Nat} {Q : Option Value → jm_h → Prop} (hd : 2 ≤ d) (F : Nat → sy_d) (X1 X2 : List jm_c) (hB : iv_in F iv_B0)
    (h0 : (sy_i F 85).toInt < (sy_i F 84).toInt)
    (h1 : 0 ≤ (sy_i F 85).toInt ∧ (sy_i F 85).toInt < 2000)
    (h2 : 97 ≤ ((sy_ai F 2).getD (sy_i F 85).toNatClampNeg 0).toInt)
    (h3 : ((sy_ai F 2).getD (sy_i F 85).toNatClampNeg 0).toInt ≤ 122)
    (h4 : 0 ≤ (sy_i F 85).toInt ∧ (sy_i F 85).toInt < 2000)
    (k : ∀ F1 : Nat → sy_d, (∀ j, j < 82 → True → F1 j = F j) → F1 82 = .inl (.int (sy_i F 82)) → F1 83 = .inl (.int (sy_i F 83)) → F1 84 = .inl (.int (sy_i F 84)) → F1 85 = .inl (.int ((sy_i F 85) + ((1 : Int32)))) → F1 86 = .inl (.long (((sy_l F 86) * ((27 : Int64))) + (((((sy_ai F 2).getD (sy_i F 85).toNatClampNeg 0) - ((97 : Int32))) + ((1 : Int32))).toInt64))) → hd_W Ls xs d jm_M60 Q (6, sy_dL F1 [some (.inl (.ref 31)), some (.inr (.inl 82)), some (.inl (.ref 9)), some (.inr (.inl 83)), some (.inr (.inl 84)), some (.inr (.inl 85)), some (.inr (.inr 86)), none], sy_dS F1 [], sy_dh F1 X1 X2 (iv_H 0), 0, 0)) :
    hd_W Ls xs d jm_M60 Q (6, sy_dL F [some (.inl (.ref 31)), some (.inr (.inl 82)), some (.inl (.ref 9)), some (.inr (.inl 83)), some (.inr (.inl 84)), some (.inr (.inl 85)), some (.inr (.inr 86)), none], sy_dS F [], sy_dh F X1 X2 (iv_H 0), 0, 0) := by
  refine hd_run (s := 0) (nv := 87) (pc := 6) (L := [some (.inl (.ref 31)), some (.inr (.inl 82)), some (.inl (.ref 9)), some (.inr (.inl 83)), some (.inr (.inl 84)), some (.inr (.inl 85)), some (.inr (.inr 86)), none]) (S := []) (uh := hd_ov (iv_id 0 iv_B0) []) (ul := [.inl (.inr (.inl 82)), .inl (.inr (.inl 83)), .inl (.inr (.inl 84)), .inl (.inr (.inl 94)), .inl (.inr (.inr 93))]) (f := true) (sp := [6, 70]) (d0 := 1) (O := [false, false, false]) (T := [(30, [.inr (.inl 85)], [.inr (.inl 2)]), (30, [.inr (.inl 85)], [.inr (.inl 2)]), (14, [.inr (.inr 86), .inl (.long 27)], []), (1, [.inr (.inl 88), .inl (.int 97)], []), (0, [.inr (.inl 90), .inl (.int 1)], []), (21, [.inr (.inl 91)], []), (12, [.inr (.inr 89), .inr (.inr 92)], []), (0, [.inr (.inl 85), .inl (.int 1)], [])]) (P := [(5, .inr (.inl 84), .inr (.inl 85)), (6, .inr (.inl 85), .inl (.ref 2000)), (3, .inr (.inl 87), .inl (.int 97)), (3, .inl (.int 122), .inr (.inl 87)), (6, .inr (.inl 85), .inl (.ref 2000))]) jm_ok60 (by decide +kernel) (by decide +kernel) hd F X1 X2 (fun F' hF hs => ?_)
  have b84 := hd_b (F := F) (F' := F') (k := 84) (hF 84 (by decide))
  have b85 := hd_b (F := F) (F' := F') (k := 85) (hF 85 (by decide))
  have a2 := hd_ba (F := F) (F' := F') (k := 2) (hF 2 (by decide))
  have t87 : sy_dv F' (.inr (.inl 87)) = .int ((sy_ai F 2).getD (sy_i F 85).toNatClampNeg 0) := hd_rd (hs 0 _ rfl) b85 a2
  have b82 := hd_b (F := F) (F' := F') (k := 82) (hF 82 (by decide))
  have b83 := hd_b (F := F) (F' := F') (k := 83) (hF 83 (by decide))
  have t94 : sy_dv F' (.inr (.inl 94)) = .int ((sy_i F 85) + ((1 : Int32))) := hd_o (hs 7 _ rfl) b85 rfl rfl
  have b86 := hd_bl (F := F) (F' := F') (k := 86) (hF 86 (by decide))
  have t89 : sy_dv F' (.inr (.inr 89)) = .long ((sy_l F 86) * ((27 : Int64))) := hd_oL (hs 2 _ rfl) b86 rfl rfl
  have t88 : sy_dv F' (.inr (.inl 88)) = .int ((sy_ai F 2).getD (sy_i F 85).toNatClampNeg 0) := hd_rd (hs 1 _ rfl) b85 a2
  have t90 : sy_dv F' (.inr (.inl 90)) = .int (((sy_ai F 2).getD (sy_i F 85).toNatClampNeg 0) - ((97 : Int32))) := hd_o (hs 3 _ rfl) t88 rfl rfl
  have t91 : sy_dv F' (.inr (.inl 91)) = .int ((((sy_ai F 2).getD (sy_i F 85).toNatClampNeg 0) - ((97 : Int32))) + ((1 : Int32))) := hd_o (hs 4 _ rfl) t90 rfl rfl
  have t92 : sy_dv F' (.inr (.inr 92)) = .long (((((sy_ai F 2).getD (sy_i F 85).toNatClampNeg 0) - ((97 : Int32))) + ((1 : Int32))).toInt64) := hd_uL (hs 5 _ rfl) t91 rfl
  have t93 : sy_dv F' (.inr (.inr 93)) = .long (((sy_l F 86) * ((27 : Int64))) + (((((sy_ai F 2).getD (sy_i F 85).toNatClampNeg 0) - ((97 : Int32))) + ((1 : Int32))).toInt64)) := hd_oL (hs 6 _ rfl) t89 t92 rfl
  have hB' : iv_in F' iv_B0 := iv_in_eq hB (fun j hj => hF j (Nat.lt_of_lt_of_le hj (by decide +kernel)))
  refine ⟨List.forall_mem_cons.mpr ⟨hd_p5 b84 b85 h0, List.forall_mem_cons.mpr ⟨hd_pb b85 (by first | exact h1 | exact h1), List.forall_mem_cons.mpr ⟨hd_p3 t87 rfl (by have hc : ((97) : Int32).toInt = 97 := (by decide); omega), List.forall_mem_cons.mpr ⟨hd_p3 rfl t87 (by have hc : ((122) : Int32).toInt = 122 := (by decide); omega), List.forall_mem_cons.mpr ⟨hd_pb b85 (by first | exact h4 | exact h4), fun _ h => absurd h List.not_mem_nil⟩⟩⟩⟩⟩, ?_⟩
  refine k _ ?_ ?_ ?_ ?_ ?_ ?_
  · exact fun j hj _ => (hd_keep hB' (Nat.lt_of_lt_of_le hj (by decide +kernel)) (by simp)).trans (hF j (by omega))
  · exact hd_gi (x := .inr (.inl 82)) (by decide +kernel) b82
  · exact hd_gi (x := .inr (.inl 83)) (by decide +kernel) b83
  · exact hd_gi (x := .inr (.inl 84)) (by decide +kernel) b84
  · exact hd_gi (x := .inr (.inl 94)) (by decide +kernel) t94
  · exact hd_gl (x := .inr (.inr 93)) (by decide +kernel) t93
theorem cw0_73_0 {Ls : Nat} {xs : Nat → Int32} {d : Nat} {Q : Option Value → jm_h → Prop} (hd : 2 ≤ d) (F : Nat → sy_d) (X1 X2 : List jm_c) (hB : iv_in F iv_B0)
    (h0 : 0 ≤ (sy_i F 84).toInt ∧ (sy_i F 84).toInt < 401)
    (k : ∀ F1 : Nat → sy_d, (∀ j, j < 82 → j ≠ 39 → F1 j = F j) → F1 39 = .inr (.inl (jm_upd (sy_ai F 39) (sy_i F 84).toNatClampNeg (sy_i F 85))) → Q (some (.int (sy_i F 82))) (sy_dh F1 X1 X2 (iv_H 0))) :
    hd_W Ls xs d jm_M60 Q (73, sy_dL F [none, none, none, none, none, some (.inr (.inl 82)), none, none], sy_dS F [.inr (.inl 85), .inr (.inl 84), .inl (.ref 32)], sy_dh F X1 X2 (iv_H 0), 0, 0) := by
  refine hd_ret (s := 0) (nv := 86) (v := some (.inr (.inl 82))) (uh := hd_ov (iv_id 0 iv_B0) [(39, .inr (.inr (.inl 86)))]) (f := false) (sp := [6, 70]) (d0 := 1) (O := []) (T := [(40, [.inr (.inl 84), .inr (.inl 85)], [.inr (.inl 39)])]) (P := [(6, .inr (.inl 84), .inl (.ref 401))]) jm_ok60 (by decide +kernel) (by decide +kernel) hd F X1 X2 (fun F' hF hs => ?_)
  have b84 := hd_b (F := F) (F' := F') (k := 84) (hF 84 (by decide))
  have b85 := hd_b (F := F) (F' := F') (k := 85) (hF 85 (by decide))
  have a39 := hd_ba (F := F) (F' := F') (k := 39) (hF 39 (by decide))
  have t86 : sy_da F' (.inr (.inl 86)) = .inl (jm_upd (sy_ai F 39) (sy_i F 84).toNatClampNeg (sy_i F 85)) := hd_up (hs 0 _ rfl) b84 b85 a39
  have b82 := hd_b (F := F) (F' := F') (k := 82) (hF 82 (by decide))
  have hB' : iv_in F' iv_B0 := iv_in_eq hB (fun j hj => hF j (Nat.lt_of_lt_of_le hj (by decide +kernel)))
  have hk := k (sy_cm F' (hd_ov (iv_id 0 iv_B0) [(39, .inr (.inr (.inl 86)))] ++ [])) (fun j hj hn => (hd_keep hB' (Nat.lt_of_lt_of_le hj (by decide +kernel)) (by simp; omega)).trans (hF j (by omega))) (hd_ga (a := .inr (.inl 86)) (by decide +kernel) t86)
  refine ⟨List.forall_mem_cons.mpr ⟨hd_pb b84 (by first | exact h0 | exact h0), fun _ h => absurd h List.not_mem_nil⟩, ?_⟩
  show Q (some (sy_dv F' (.inr (.inl 82)))) _
  rw [b82]
  exact hk
theorem cw1_0_0 {Ls : Nat} {xs : Nat → Int32} {d : Nat} {Q : Option Value → jm_h → Prop} (hd : 2 ≤ d) (F : Nat → sy_d) (X1 X2 : List jm_c) (hB : iv_in F iv_B0)
    (k : ∀ F1 : Nat → sy_d, (∀ j, j < 82 → True → F1 j = F j) → F1 82 = .inl (.int (sy_i F 82)) → F1 83 = .inl (.int (sy_i F 83)) → F1 84 = .inl (.int (sy_i F 84)) → F1 85 = .inl (.int (sy_i F 83)) → F1 86 = .inl (.long ((0 : Int64))) → hd_W Ls xs d jm_M60 Q (6, sy_dL F1 [some (.inl (.ref 31)), some (.inr (.inl 82)), some (.inl (.ref 9)), some (.inr (.inl 83)), some (.inr (.inl 84)), some (.inr (.inl 85)), some (.inr (.inr 86)), none], sy_dS F1 [], sy_dh F1 X1 X2 (iv_H 1), 0, 0)) :
    hd_W Ls xs d jm_M60 Q (0, sy_dL F [some (.inl (.ref 31)), some (.inr (.inl 82)), some (.inl (.ref 9)), some (.inr (.inl 83)), some (.inr (.inl 84)), none, none, none], sy_dS F [], sy_dh F X1 X2 (iv_H 1), 0, 0) := by
  refine hd_run (s := 1) (nv := 85) (pc := 6) (L := [some (.inl (.ref 31)), some (.inr (.inl 82)), some (.inl (.ref 9)), some (.inr (.inl 83)), some (.inr (.inl 84)), some (.inr (.inl 85)), some (.inr (.inr 86)), none]) (S := []) (uh := hd_ov (iv_id 0 iv_B0) []) (ul := [.inl (.inr (.inl 82)), .inl (.inr (.inl 83)), .inl (.inr (.inl 84)), .inl (.inr (.inl 83)), .inl (.inl (.long 0))]) (f := true) (sp := [6, 70]) (d0 := 1) (O := []) (T := []) (P := []) jm_ok60 (by decide +kernel) (by decide +kernel) hd F X1 X2 (fun F' hF hs => ?_)
  have b82 := hd_b (F := F) (F' := F') (k := 82) (hF 82 (by decide))
  have b83 := hd_b (F := F) (F' := F') (k := 83) (hF 83 (by decide))
  have b84 := hd_b (F := F) (F' := F') (k := 84) (hF 84 (by decide))
  have hB' : iv_in F' iv_B0 := iv_in_eq hB (fun j hj => hF j (Nat.lt_of_lt_of_le hj (by decide +kernel)))
  refine ⟨fun _ h => absurd h List.not_mem_nil, ?_⟩
  refine k _ ?_ ?_ ?_ ?_ ?_ ?_
  · exact fun j hj _ => (hd_keep hB' (Nat.lt_of_lt_of_le hj (by decide +kernel)) (by simp)).trans (hF j (by omega))
  · exact hd_gi (x := .inr (.inl 82)) (by decide +kernel) b82
  · exact hd_gi (x := .inr (.inl 83)) (by decide +kernel) b83
  · exact hd_gi (x := .inr (.inl 84)) (by decide +kernel) b84
  · exact hd_gi (x := .inr (.inl 83)) (by decide +kernel) b83
  · exact hd_gl (x := .inl (.long 0)) (by decide +kernel) rfl
theorem cw1_6_0 {Ls : Nat} {xs : Nat → Int32} {d : Nat} {Q : Option Value → jm_h → Prop} (hd : 2 ≤ d) (F : Nat → sy_d) (X1 X2 : List jm_c) (hB : iv_in F iv_B0)
    (h0 : (sy_i F 84).toInt ≤ (sy_i F 85).toInt)
    (h1 : 0 ≤ (sy_i F 82).toInt ∧ (sy_i F 82).toInt < 401)
    (h2 : ((sy_i F 85) - (sy_i F 83)).toInt ≤ 8)
    (k : ∀ F1 : Nat → sy_d, (∀ j, j < 82 → j ≠ 41 → F1 j = F j) → F1 41 = .inr (.inr (jm_updL (sy_al F 41) (sy_i F 82).toNatClampNeg (sy_l F 86))) → F1 82 = .inl (.int (sy_i F 85)) → F1 83 = .inl (.long (sy_l F 86)) → F1 84 = .inl (.int (sy_i F 82)) → hd_W Ls xs d jm_M60 Q (70, sy_dL F1 [none, none, none, none, none, some (.inr (.inl 82)), none, none], sy_dS F1 [.inr (.inr 83), .inl (.ref 31), .inr (.inl 84), .inl (.ref 32)], sy_dh F1 X1 X2 (iv_H 1), 0, 0)) :
    hd_W Ls xs d jm_M60 Q (6, sy_dL F [some (.inl (.ref 31)), some (.inr (.inl 82)), some (.inl (.ref 9)), some (.inr (.inl 83)), some (.inr (.inl 84)), some (.inr (.inl 85)), some (.inr (.inr 86)), none], sy_dS F [], sy_dh F X1 X2 (iv_H 1), 0, 0) := by
  refine hd_run (s := 1) (nv := 87) (pc := 70) (L := [none, none, none, none, none, some (.inr (.inl 82)), none, none]) (S := [.inr (.inr 83), .inl (.ref 31), .inr (.inl 84), .inl (.ref 32)]) (uh := hd_ov (iv_id 0 iv_B0) [(41, .inr (.inr (.inr 87)))]) (ul := [.inl (.inr (.inl 85)), .inl (.inr (.inr 86)), .inl (.inr (.inl 82))]) (f := true) (sp := [6, 70]) (d0 := 1) (O := [true, true]) (T := [(40, [.inr (.inl 82), .inr (.inr 86)], [.inr (.inr 41)]), (1, [.inr (.inl 85), .inr (.inl 83)], [])]) (P := [(4, .inr (.inl 84), .inr (.inl 85)), (6, .inr (.inl 82), .inl (.ref 401)), (4, .inr (.inl 88), .inl (.int 8))]) jm_ok60 (by decide +kernel) (by decide +kernel) hd F X1 X2 (fun F' hF hs => ?_)
  have b84 := hd_b (F := F) (F' := F') (k := 84) (hF 84 (by decide))
  have b85 := hd_b (F := F) (F' := F') (k := 85) (hF 85 (by decide))
  have b82 := hd_b (F := F) (F' := F') (k := 82) (hF 82 (by decide))
  have b83 := hd_b (F := F) (F' := F') (k := 83) (hF 83 (by decide))
  have t88 : sy_dv F' (.inr (.inl 88)) = .int ((sy_i F 85) - (sy_i F 83)) := hd_o (hs 1 _ rfl) b85 b83 rfl
  have b86 := hd_bl (F := F) (F' := F') (k := 86) (hF 86 (by decide))
  have a41 := hd_bA (F := F) (F' := F') (k := 41) (hF 41 (by decide))
  have t87 : sy_da F' (.inr (.inr 87)) = .inr (jm_updL (sy_al F 41) (sy_i F 82).toNatClampNeg (sy_l F 86)) := hd_uA (hs 0 _ rfl) b82 b86 a41
  have hB' : iv_in F' iv_B0 := iv_in_eq hB (fun j hj => hF j (Nat.lt_of_lt_of_le hj (by decide +kernel)))
  refine ⟨List.forall_mem_cons.mpr ⟨hd_p4 b84 b85 h0, List.forall_mem_cons.mpr ⟨hd_pb b82 (by first | exact h1 | exact h1), List.forall_mem_cons.mpr ⟨hd_p4 t88 rfl (by have hc : ((8) : Int32).toInt = 8 := (by decide); omega), fun _ h => absurd h List.not_mem_nil⟩⟩⟩, ?_⟩
  refine k _ ?_ ?_ ?_ ?_ ?_
  · exact fun j hj hn => (hd_keep hB' (Nat.lt_of_lt_of_le hj (by decide +kernel)) (by simp; omega)).trans (hF j (by omega))
  · exact hd_gA (a := .inr (.inr 87)) (by decide +kernel) t87
  · exact hd_gi (x := .inr (.inl 85)) (by decide +kernel) b85
  · exact hd_gl (x := .inr (.inr 86)) (by decide +kernel) b86
  · exact hd_gi (x := .inr (.inl 82)) (by decide +kernel) b82
theorem cw1_6_1 {Ls : Nat} {xs : Nat → Int32} {d : Nat} {Q : Option Value → jm_h → Prop} (hd : 2 ≤ d) (F : Nat → sy_d) (X1 X2 : List jm_c) (hB : iv_in F iv_B0)
    (h0 : (sy_i F 84).toInt ≤ (sy_i F 85).toInt)
    (h1 : 0 ≤ (sy_i F 82).toInt ∧ (sy_i F 82).toInt < 401)
    (h2 : 8 < ((sy_i F 85) - (sy_i F 83)).toInt)
    (h3 : 0 ≤ (sy_i F 82).toInt ∧ (sy_i F 82).toInt < 401)
    (k : ∀ F1 : Nat → sy_d, (∀ j, j < 82 → j ≠ 39 ∧ j ≠ 41 → F1 j = F j) → F1 39 = .inr (.inl (jm_upd (sy_ai F 39) (sy_i F 82).toNatClampNeg ((25 : Int32)))) → F1 41 = .inr (.inr (jm_updL (sy_al F 41) (sy_i F 82).toNatClampNeg (sy_l F 86))) → Q (some (.int (sy_i F 85))) (sy_dh F1 X1 X2 (iv_H 1))) :
    hd_W Ls xs d jm_M60 Q (6, sy_dL F [some (.inl (.ref 31)), some (.inr (.inl 82)), some (.inl (.ref 9)), some (.inr (.inl 83)), some (.inr (.inl 84)), some (.inr (.inl 85)), some (.inr (.inr 86)), none], sy_dS F [], sy_dh F X1 X2 (iv_H 1), 0, 0) := by
  refine hd_ret (s := 1) (nv := 87) (v := some (.inr (.inl 85))) (uh := hd_ov (iv_id 0 iv_B0) [(39, .inr (.inr (.inl 89))), (41, .inr (.inr (.inr 87)))]) (f := true) (sp := [6, 70]) (d0 := 1) (O := [true, false]) (T := [(40, [.inr (.inl 82), .inr (.inr 86)], [.inr (.inr 41)]), (1, [.inr (.inl 85), .inr (.inl 83)], []), (40, [.inr (.inl 82), .inl (.int 25)], [.inr (.inl 39)])]) (P := [(4, .inr (.inl 84), .inr (.inl 85)), (6, .inr (.inl 82), .inl (.ref 401)), (5, .inr (.inl 88), .inl (.int 8)), (6, .inr (.inl 82), .inl (.ref 401))]) jm_ok60 (by decide +kernel) (by decide +kernel) hd F X1 X2 (fun F' hF hs => ?_)
  have b84 := hd_b (F := F) (F' := F') (k := 84) (hF 84 (by decide))
  have b85 := hd_b (F := F) (F' := F') (k := 85) (hF 85 (by decide))
  have b82 := hd_b (F := F) (F' := F') (k := 82) (hF 82 (by decide))
  have b83 := hd_b (F := F) (F' := F') (k := 83) (hF 83 (by decide))
  have t88 : sy_dv F' (.inr (.inl 88)) = .int ((sy_i F 85) - (sy_i F 83)) := hd_o (hs 1 _ rfl) b85 b83 rfl
  have a39 := hd_ba (F := F) (F' := F') (k := 39) (hF 39 (by decide))
  have t89 : sy_da F' (.inr (.inl 89)) = .inl (jm_upd (sy_ai F 39) (sy_i F 82).toNatClampNeg ((25 : Int32))) := hd_up (hs 2 _ rfl) b82 rfl a39
  have b86 := hd_bl (F := F) (F' := F') (k := 86) (hF 86 (by decide))
  have a41 := hd_bA (F := F) (F' := F') (k := 41) (hF 41 (by decide))
  have t87 : sy_da F' (.inr (.inr 87)) = .inr (jm_updL (sy_al F 41) (sy_i F 82).toNatClampNeg (sy_l F 86)) := hd_uA (hs 0 _ rfl) b82 b86 a41
  have hB' : iv_in F' iv_B0 := iv_in_eq hB (fun j hj => hF j (Nat.lt_of_lt_of_le hj (by decide +kernel)))
  have hk := k (sy_cm F' (hd_ov (iv_id 0 iv_B0) [(39, .inr (.inr (.inl 89))), (41, .inr (.inr (.inr 87)))] ++ [])) (fun j hj hn => (hd_keep hB' (Nat.lt_of_lt_of_le hj (by decide +kernel)) (by simp; omega)).trans (hF j (by omega))) (hd_ga (a := .inr (.inl 89)) (by decide +kernel) t89) (hd_gA (a := .inr (.inr 87)) (by decide +kernel) t87)
  refine ⟨List.forall_mem_cons.mpr ⟨hd_p4 b84 b85 h0, List.forall_mem_cons.mpr ⟨hd_pb b82 (by first | exact h1 | exact h1), List.forall_mem_cons.mpr ⟨hd_p5 t88 rfl (by have hc : ((8) : Int32).toInt = 8 := (by decide); omega), List.forall_mem_cons.mpr ⟨hd_pb b82 (by first | exact h3 | exact h3), fun _ h => absurd h List.not_mem_nil⟩⟩⟩⟩, ?_⟩
  show Q (some (sy_dv F' (.inr (.inl 85)))) _
  rw [b85]
  exact hk
theorem cw1_6_2 {Ls : Nat} {xs : Nat → Int32} {d : Nat} {Q : Option Value → jm_h → Prop} (hd : 2 ≤ d) (F : Nat → sy_d) (X1 X2 : List jm_c) (hB : iv_in F iv_B0)
    (h0 : (sy_i F 85).toInt < (sy_i F 84).toInt)
    (h1 : 0 ≤ (sy_i F 85).toInt ∧ (sy_i F 85).toInt < 2000)
    (h2 : ((sy_ai F 2).getD (sy_i F 85).toNatClampNeg 0).toInt < 97)
    (h3 : 0 ≤ (sy_i F 82).toInt ∧ (sy_i F 82).toInt < 401)
    (h4 : ((sy_i F 85) - (sy_i F 83)).toInt ≤ 8)
    (k : ∀ F1 : Nat → sy_d, (∀ j, j < 82 → j ≠ 41 → F1 j = F j) → F1 41 = .inr (.inr (jm_updL (sy_al F 41) (sy_i F 82).toNatClampNeg (sy_l F 86))) → F1 82 = .inl (.int (sy_i F 85)) → F1 83 = .inl (.long (sy_l F 86)) → F1 84 = .inl (.int (sy_i F 82)) → hd_W Ls xs d jm_M60 Q (70, sy_dL F1 [none, none, none, none, none, some (.inr (.inl 82)), none, none], sy_dS F1 [.inr (.inr 83), .inl (.ref 31), .inr (.inl 84), .inl (.ref 32)], sy_dh F1 X1 X2 (iv_H 1), 0, 0)) :
    hd_W Ls xs d jm_M60 Q (6, sy_dL F [some (.inl (.ref 31)), some (.inr (.inl 82)), some (.inl (.ref 9)), some (.inr (.inl 83)), some (.inr (.inl 84)), some (.inr (.inl 85)), some (.inr (.inr 86)), none], sy_dS F [], sy_dh F X1 X2 (iv_H 1), 0, 0) := by
  refine hd_run (s := 1) (nv := 87) (pc := 70) (L := [none, none, none, none, none, some (.inr (.inl 82)), none, none]) (S := [.inr (.inr 83), .inl (.ref 31), .inr (.inl 84), .inl (.ref 32)]) (uh := hd_ov (iv_id 0 iv_B0) [(41, .inr (.inr (.inr 88)))]) (ul := [.inl (.inr (.inl 85)), .inl (.inr (.inr 86)), .inl (.inr (.inl 82))]) (f := true) (sp := [6, 70]) (d0 := 1) (O := [false, true, true]) (T := [(30, [.inr (.inl 85)], [.inr (.inl 2)]), (40, [.inr (.inl 82), .inr (.inr 86)], [.inr (.inr 41)]), (1, [.inr (.inl 85), .inr (.inl 83)], [])]) (P := [(5, .inr (.inl 84), .inr (.inl 85)), (6, .inr (.inl 85), .inl (.ref 2000)), (2, .inr (.inl 87), .inl (.int 97)), (6, .inr (.inl 82), .inl (.ref 401)), (4, .inr (.inl 89), .inl (.int 8))]) jm_ok60 (by decide +kernel) (by decide +kernel) hd F X1 X2 (fun F' hF hs => ?_)
  have b84 := hd_b (F := F) (F' := F') (k := 84) (hF 84 (by decide))
  have b85 := hd_b (F := F) (F' := F') (k := 85) (hF 85 (by decide))
  have a2 := hd_ba (F := F) (F' := F') (k := 2) (hF 2 (by decide))
  have t87 : sy_dv F' (.inr (.inl 87)) = .int ((sy_ai F 2).getD (sy_i F 85).toNatClampNeg 0) := hd_rd (hs 0 _ rfl) b85 a2
  have b82 := hd_b (F := F) (F' := F') (k := 82) (hF 82 (by decide))
  have b83 := hd_b (F := F) (F' := F') (k := 83) (hF 83 (by decide))
  have t89 : sy_dv F' (.inr (.inl 89)) = .int ((sy_i F 85) - (sy_i F 83)) := hd_o (hs 2 _ rfl) b85 b83 rfl
  have b86 := hd_bl (F := F) (F' := F') (k := 86) (hF 86 (by decide))
  have a41 := hd_bA (F := F) (F' := F') (k := 41) (hF 41 (by decide))
  have t88 : sy_da F' (.inr (.inr 88)) = .inr (jm_updL (sy_al F 41) (sy_i F 82).toNatClampNeg (sy_l F 86)) := hd_uA (hs 1 _ rfl) b82 b86 a41
  have hB' : iv_in F' iv_B0 := iv_in_eq hB (fun j hj => hF j (Nat.lt_of_lt_of_le hj (by decide +kernel)))
  refine ⟨List.forall_mem_cons.mpr ⟨hd_p5 b84 b85 h0, List.forall_mem_cons.mpr ⟨hd_pb b85 (by first | exact h1 | exact h1), List.forall_mem_cons.mpr ⟨hd_p2 t87 rfl (by have hc : ((97) : Int32).toInt = 97 := (by decide); omega), List.forall_mem_cons.mpr ⟨hd_pb b82 (by first | exact h3 | exact h3), List.forall_mem_cons.mpr ⟨hd_p4 t89 rfl (by have hc : ((8) : Int32).toInt = 8 := (by decide); omega), fun _ h => absurd h List.not_mem_nil⟩⟩⟩⟩⟩, ?_⟩
  refine k _ ?_ ?_ ?_ ?_ ?_
  · exact fun j hj hn => (hd_keep hB' (Nat.lt_of_lt_of_le hj (by decide +kernel)) (by simp; omega)).trans (hF j (by omega))
  · exact hd_gA (a := .inr (.inr 88)) (by decide +kernel) t88
  · exact hd_gi (x := .inr (.inl 85)) (by decide +kernel) b85
  · exact hd_gl (x := .inr (.inr 86)) (by decide +kernel) b86
  · exact hd_gi (x := .inr (.inl 82)) (by decide +kernel) b82
theorem cw1_6_3 {Ls : Nat} {xs : Nat → Int32} {d : Nat} {Q : Option Value → jm_h → Prop} (hd : 2 ≤ d) (F : Nat → sy_d) (X1 X2 : List jm_c) (hB : iv_in F iv_B0)
    (h0 : (sy_i F 85).toInt < (sy_i F 84).toInt)
    (h1 : 0 ≤ (sy_i F 85).toInt ∧ (sy_i F 85).toInt < 2000)
    (h2 : ((sy_ai F 2).getD (sy_i F 85).toNatClampNeg 0).toInt < 97)
    (h3 : 0 ≤ (sy_i F 82).toInt ∧ (sy_i F 82).toInt < 401)
    (h4 : 8 < ((sy_i F 85) - (sy_i F 83)).toInt)
    (h5 : 0 ≤ (sy_i F 82).toInt ∧ (sy_i F 82).toInt < 401)
    (k : ∀ F1 : Nat → sy_d, (∀ j, j < 82 → j ≠ 39 ∧ j ≠ 41 → F1 j = F j) → F1 39 = .inr (.inl (jm_upd (sy_ai F 39) (sy_i F 82).toNatClampNeg ((25 : Int32)))) → F1 41 = .inr (.inr (jm_updL (sy_al F 41) (sy_i F 82).toNatClampNeg (sy_l F 86))) → Q (some (.int (sy_i F 85))) (sy_dh F1 X1 X2 (iv_H 1))) :
    hd_W Ls xs d jm_M60 Q (6, sy_dL F [some (.inl (.ref 31)), some (.inr (.inl 82)), some (.inl (.ref 9)), some (.inr (.inl 83)), some (.inr (.inl 84)), some (.inr (.inl 85)), some (.inr (.inr 86)), none], sy_dS F [], sy_dh F X1 X2 (iv_H 1), 0, 0) := by
  refine hd_ret (s := 1) (nv := 87) (v := some (.inr (.inl 85))) (uh := hd_ov (iv_id 0 iv_B0) [(39, .inr (.inr (.inl 90))), (41, .inr (.inr (.inr 88)))]) (f := true) (sp := [6, 70]) (d0 := 1) (O := [false, true, false]) (T := [(30, [.inr (.inl 85)], [.inr (.inl 2)]), (40, [.inr (.inl 82), .inr (.inr 86)], [.inr (.inr 41)]), (1, [.inr (.inl 85), .inr (.inl 83)], []), (40, [.inr (.inl 82), .inl (.int 25)], [.inr (.inl 39)])]) (P := [(5, .inr (.inl 84), .inr (.inl 85)), (6, .inr (.inl 85), .inl (.ref 2000)), (2, .inr (.inl 87), .inl (.int 97)), (6, .inr (.inl 82), .inl (.ref 401)), (5, .inr (.inl 89), .inl (.int 8)), (6, .inr (.inl 82), .inl (.ref 401))]) jm_ok60 (by decide +kernel) (by decide +kernel) hd F X1 X2 (fun F' hF hs => ?_)
  have b84 := hd_b (F := F) (F' := F') (k := 84) (hF 84 (by decide))
  have b85 := hd_b (F := F) (F' := F') (k := 85) (hF 85 (by decide))
  have a2 := hd_ba (F := F) (F' := F') (k := 2) (hF 2 (by decide))
  have t87 : sy_dv F' (.inr (.inl 87)) = .int ((sy_ai F 2).getD (sy_i F 85).toNatClampNeg 0) := hd_rd (hs 0 _ rfl) b85 a2
  have b82 := hd_b (F := F) (F' := F') (k := 82) (hF 82 (by decide))
  have b83 := hd_b (F := F) (F' := F') (k := 83) (hF 83 (by decide))
  have t89 : sy_dv F' (.inr (.inl 89)) = .int ((sy_i F 85) - (sy_i F 83)) := hd_o (hs 2 _ rfl) b85 b83 rfl
  have a39 := hd_ba (F := F) (F' := F') (k := 39) (hF 39 (by decide))
  have t90 : sy_da F' (.inr (.inl 90)) = .inl (jm_upd (sy_ai F 39) (sy_i F 82).toNatClampNeg ((25 : Int32))) := hd_up (hs 3 _ rfl) b82 rfl a39
  have b86 := hd_bl (F := F) (F' := F') (k := 86) (hF 86 (by decide))
  have a41 := hd_bA (F := F) (F' := F') (k := 41) (hF 41 (by decide))
  have t88 : sy_da F' (.inr (.inr 88)) = .inr (jm_updL (sy_al F 41) (sy_i F 82).toNatClampNeg (sy_l F 86)) := hd_uA (hs 1 _ rfl) b82 b86 a41
  have hB' : iv_in F' iv_B0 := iv_in_eq hB (fun j hj => hF j (Nat.lt_of_lt_of_le hj (by decide +kernel)))
  have hk := k (sy_cm F' (hd_ov (iv_id 0 iv_B0) [(39, .inr (.inr (.inl 90))), (41, .inr (.inr (.inr 88)))] ++ [])) (fun j hj hn => (hd_keep hB' (Nat.lt_of_lt_of_le hj (by decide +kernel)) (by simp; omega)).trans (hF j (by omega))) (hd_ga (a := .inr (.inl 90)) (by decide +kernel) t90) (hd_gA (a := .inr (.inr 88)) (by decide +kernel) t88)
  refine ⟨List.forall_mem_cons.mpr ⟨hd_p5 b84 b85 h0, List.forall_mem_cons.mpr ⟨hd_pb b85 (by first | exact h1 | exact h1), List.forall_mem_cons.mpr ⟨hd_p2 t87 rfl (by have hc : ((97) : Int32).toInt = 97 := (by decide); omega), List.forall_mem_cons.mpr ⟨hd_pb b82 (by first | exact h3 | exact h3), List.forall_mem_cons.mpr ⟨hd_p5 t89 rfl (by have hc : ((8) : Int32).toInt = 8 := (by decide); omega), List.forall_mem_cons.mpr ⟨hd_pb b82 (by first | exact h5 | exact h5), fun _ h => absurd h List.not_mem_nil⟩⟩⟩⟩⟩⟩, ?_⟩
  show Q (some (sy_dv F' (.inr (.inl 85)))) _
  rw [b85]
  exact hk
theorem cw1_6_4 {Ls : Nat} {xs : Nat → Int32} {d : Nat} {Q : Option Value → jm_h → Prop} (hd : 2 ≤ d) (F : Nat → sy_d) (X1 X2 : List jm_c) (hB : iv_in F iv_B0)
    (h0 : (sy_i F 85).toInt < (sy_i F 84).toInt)
    (h1 : 0 ≤ (sy_i F 85).toInt ∧ (sy_i F 85).toInt < 2000)
    (h2 : 97 ≤ ((sy_ai F 2).getD (sy_i F 85).toNatClampNeg 0).toInt)
    (h3 : 122 < ((sy_ai F 2).getD (sy_i F 85).toNatClampNeg 0).toInt)
    (h4 : 0 ≤ (sy_i F 82).toInt ∧ (sy_i F 82).toInt < 401)
    (h5 : ((sy_i F 85) - (sy_i F 83)).toInt ≤ 8)
    (k : ∀ F1 : Nat → sy_d, (∀ j, j < 82 → j ≠ 41 → F1 j = F j) → F1 41 = .inr (.inr (jm_updL (sy_al F 41) (sy_i F 82).toNatClampNeg (sy_l F 86))) → F1 82 = .inl (.int (sy_i F 85)) → F1 83 = .inl (.long (sy_l F 86)) → F1 84 = .inl (.int (sy_i F 82)) → hd_W Ls xs d jm_M60 Q (70, sy_dL F1 [none, none, none, none, none, some (.inr (.inl 82)), none, none], sy_dS F1 [.inr (.inr 83), .inl (.ref 31), .inr (.inl 84), .inl (.ref 32)], sy_dh F1 X1 X2 (iv_H 1), 0, 0)) :
    hd_W Ls xs d jm_M60 Q (6, sy_dL F [some (.inl (.ref 31)), some (.inr (.inl 82)), some (.inl (.ref 9)), some (.inr (.inl 83)), some (.inr (.inl 84)), some (.inr (.inl 85)), some (.inr (.inr 86)), none], sy_dS F [], sy_dh F X1 X2 (iv_H 1), 0, 0) := by
  refine hd_run (s := 1) (nv := 87) (pc := 70) (L := [none, none, none, none, none, some (.inr (.inl 82)), none, none]) (S := [.inr (.inr 83), .inl (.ref 31), .inr (.inl 84), .inl (.ref 32)]) (uh := hd_ov (iv_id 0 iv_B0) [(41, .inr (.inr (.inr 88)))]) (ul := [.inl (.inr (.inl 85)), .inl (.inr (.inr 86)), .inl (.inr (.inl 82))]) (f := true) (sp := [6, 70]) (d0 := 1) (O := [false, false, true, true]) (T := [(30, [.inr (.inl 85)], [.inr (.inl 2)]), (40, [.inr (.inl 82), .inr (.inr 86)], [.inr (.inr 41)]), (1, [.inr (.inl 85), .inr (.inl 83)], [])]) (P := [(5, .inr (.inl 84), .inr (.inl 85)), (6, .inr (.inl 85), .inl (.ref 2000)), (3, .inr (.inl 87), .inl (.int 97)), (2, .inl (.int 122), .inr (.inl 87)), (6, .inr (.inl 82), .inl (.ref 401)), (4, .inr (.inl 89), .inl (.int 8))]) jm_ok60 (by decide +kernel) (by decide +kernel) hd F X1 X2 (fun F' hF hs => ?_)
  have b84 := hd_b (F := F) (F' := F') (k := 84) (hF 84 (by decide))
  have b85 := hd_b (F := F) (F' := F') (k := 85) (hF 85 (by decide))
  have a2 := hd_ba (F := F) (F' := F') (k := 2) (hF 2 (by decide))
  have t87 : sy_dv F' (.inr (.inl 87)) = .int ((sy_ai F 2).getD (sy_i F 85).toNatClampNeg 0) := hd_rd (hs 0 _ rfl) b85 a2
  have b82 := hd_b (F := F) (F' := F') (k := 82) (hF 82 (by decide))
  have b83 := hd_b (F := F) (F' := F') (k := 83) (hF 83 (by decide))
  have t89 : sy_dv F' (.inr (.inl 89)) = .int ((sy_i F 85) - (sy_i F 83)) := hd_o (hs 2 _ rfl) b85 b83 rfl
  have b86 := hd_bl (F := F) (F' := F') (k := 86) (hF 86 (by decide))
  have a41 := hd_bA (F := F) (F' := F') (k := 41) (hF 41 (by decide))
  have t88 : sy_da F' (.inr (.inr 88)) = .inr (jm_updL (sy_al F 41) (sy_i F 82).toNatClampNeg (sy_l F 86)) := hd_uA (hs 1 _ rfl) b82 b86 a41
  have hB' : iv_in F' iv_B0 := iv_in_eq hB (fun j hj => hF j (Nat.lt_of_lt_of_le hj (by decide +kernel)))
  refine ⟨List.forall_mem_cons.mpr ⟨hd_p5 b84 b85 h0, List.forall_mem_cons.mpr ⟨hd_pb b85 (by first | exact h1 | exact h1), List.forall_mem_cons.mpr ⟨hd_p3 t87 rfl (by have hc : ((97) : Int32).toInt = 97 := (by decide); omega), List.forall_mem_cons.mpr ⟨hd_p2 rfl t87 (by have hc : ((122) : Int32).toInt = 122 := (by decide); omega), List.forall_mem_cons.mpr ⟨hd_pb b82 (by first | exact h4 | exact h4), List.forall_mem_cons.mpr ⟨hd_p4 t89 rfl (by have hc : ((8) : Int32).toInt = 8 := (by decide); omega), fun _ h => absurd h List.not_mem_nil⟩⟩⟩⟩⟩⟩, ?_⟩
  refine k _ ?_ ?_ ?_ ?_ ?_
  · exact fun j hj hn => (hd_keep hB' (Nat.lt_of_lt_of_le hj (by decide +kernel)) (by simp; omega)).trans (hF j (by omega))
  · exact hd_gA (a := .inr (.inr 88)) (by decide +kernel) t88
  · exact hd_gi (x := .inr (.inl 85)) (by decide +kernel) b85
  · exact hd_gl (x := .inr (.inr 86)) (by decide +kernel) b86
  · exact hd_gi (x := .inr (.inl 82)) (by decide +kernel) b82
theorem cw1_6_5 {Ls : Nat} {xs : Nat → Int32} {d : Nat} {Q : Option Value → jm_h → Prop} (hd : 2 ≤ d) (F : Nat → sy_d) (X1 X2 : List jm_c) (hB : iv_in F iv_B0)
    (h0 : (sy_i F 85).toInt < (sy_i F 84).toInt)
    (h1 : 0 ≤ (sy_i F 85).toInt ∧ (sy_i F 85).toInt < 2000)
    (h2 : 97 ≤ ((sy_ai F 2).getD (sy_i F 85).toNatClampNeg 0).toInt)
    (h3 : 122 < ((sy_ai F 2).getD (sy_i F 85).toNatClampNeg 0).toInt)
    (h4 : 0 ≤ (sy_i F 82).toInt ∧ (sy_i F 82).toInt < 401)
    (h5 : 8 < ((sy_i F 85) - (sy_i F 83)).toInt)
    (h6 : 0 ≤ (sy_i F 82).toInt ∧ (sy_i F 82).toInt < 401)
    (k : ∀ F1 : Nat → sy_d, (∀ j, j < 82 → j ≠ 39 ∧ j ≠ 41 → F1 j = F j) → F1 39 = .inr (.inl (jm_upd (sy_ai F 39) (sy_i F 82).toNatClampNeg ((25 : Int32)))) → F1 41 = .inr (.inr (jm_updL (sy_al F 41) (sy_i F 82).toNatClampNeg (sy_l F 86))) → Q (some (.int (sy_i F 85))) (sy_dh F1 X1 X2 (iv_H 1))) :
    hd_W Ls xs d jm_M60 Q (6, sy_dL F [some (.inl (.ref 31)), some (.inr (.inl 82)), some (.inl (.ref 9)), some (.inr (.inl 83)), some (.inr (.inl 84)), some (.inr (.inl 85)), some (.inr (.inr 86)), none], sy_dS F [], sy_dh F X1 X2 (iv_H 1), 0, 0) := by
  refine hd_ret (s := 1) (nv := 87) (v := some (.inr (.inl 85))) (uh := hd_ov (iv_id 0 iv_B0) [(39, .inr (.inr (.inl 90))), (41, .inr (.inr (.inr 88)))]) (f := true) (sp := [6, 70]) (d0 := 1) (O := [false, false, true, false]) (T := [(30, [.inr (.inl 85)], [.inr (.inl 2)]), (40, [.inr (.inl 82), .inr (.inr 86)], [.inr (.inr 41)]), (1, [.inr (.inl 85), .inr (.inl 83)], []), (40, [.inr (.inl 82), .inl (.int 25)], [.inr (.inl 39)])]) (P := [(5, .inr (.inl 84), .inr (.inl 85)), (6, .inr (.inl 85), .inl (.ref 2000)), (3, .inr (.inl 87), .inl (.int 97)), (2, .inl (.int 122), .inr (.inl 87)), (6, .inr (.inl 82), .inl (.ref 401)), (5, .inr (.inl 89), .inl (.int 8)), (6, .inr (.inl 82), .inl (.ref 401))]) jm_ok60 (by decide +kernel) (by decide +kernel) hd F X1 X2 (fun F' hF hs => ?_)
  have b84 := hd_b (F := F) (F' := F') (k := 84) (hF 84 (by decide))
  have b85 := hd_b (F := F) (F' := F') (k := 85) (hF 85 (by decide))
  have a2 := hd_ba (F := F) (F' := F') (k := 2) (hF 2 (by decide))
  have t87 : sy_dv F' (.inr (.inl 87)) = .int ((sy_ai F 2).getD (sy_i F 85).toNatClampNeg 0) := hd_rd (hs 0 _ rfl) b85 a2
  have b82 := hd_b (F := F) (F' := F') (k := 82) (hF 82 (by decide))
  have b83 := hd_b (F := F) (F' := F') (k := 83) (hF 83 (by decide))
  have t89 : sy_dv F' (.inr (.inl 89)) = .int ((sy_i F 85) - (sy_i F 83)) := hd_o (hs 2 _ rfl) b85 b83 rfl
  have a39 := hd_ba (F := F) (F' := F') (k := 39) (hF 39 (by decide))
  have t90 : sy_da F' (.inr (.inl 90)) = .inl (jm_upd (sy_ai F 39) (sy_i F 82).toNatClampNeg ((25 : Int32))) := hd_up (hs 3 _ rfl) b82 rfl a39
  have b86 := hd_bl (F := F) (F' := F') (k := 86) (hF 86 (by decide))
  have a41 := hd_bA (F := F) (F' := F') (k := 41) (hF 41 (by decide))
  have t88 : sy_da F' (.inr (.inr 88)) = .inr (jm_updL (sy_al F 41) (sy_i F 82).toNatClampNeg (sy_l F 86)) := hd_uA (hs 1 _ rfl) b82 b86 a41
  have hB' : iv_in F' iv_B0 := iv_in_eq hB (fun j hj => hF j (Nat.lt_of_lt_of_le hj (by decide +kernel)))
  have hk := k (sy_cm F' (hd_ov (iv_id 0 iv_B0) [(39, .inr (.inr (.inl 90))), (41, .inr (.inr (.inr 88)))] ++ [])) (fun j hj hn => (hd_keep hB' (Nat.lt_of_lt_of_le hj (by decide +kernel)) (by simp; omega)).trans (hF j (by omega))) (hd_ga (a := .inr (.inl 90)) (by decide +kernel) t90) (hd_gA (a := .inr (.inr 88)) (by decide +kernel) t88)
  refine ⟨List.forall_mem_cons.mpr ⟨hd_p5 b84 b85 h0, List.forall_mem_cons.mpr ⟨hd_pb b85 (by first | exact h1 | exact h1), List.forall_mem_cons.mpr ⟨hd_p3 t87 rfl (by have hc : ((97) : Int32).toInt = 97 := (by decide); omega), List.forall_mem_cons.mpr ⟨hd_p2 rfl t87 (by have hc : ((122) : Int32).toInt = 122 := (by decide); omega), List.forall_mem_cons.mpr ⟨hd_pb b82 (by first | exact h4 | exact h4), List.forall_mem_cons.mpr ⟨hd_p5 t89 rfl (by have hc : ((8) : Int32).toInt = 8 := (by decide); omega), List.forall_mem_cons.mpr ⟨hd_pb b82 (by first | exact h6 | exact h6), fun _ h => absurd h List.not_mem_nil⟩⟩⟩⟩⟩⟩⟩, ?_⟩
  show Q (some (sy_dv F' (.inr (.inl 85)))) _
  rw [b85]
  exact hk
theorem cw1_6_6 {Ls : Nat} {xs : Nat → Int32} {d : Nat} {Q : Option Value → jm_h → Prop} (hd : 2 ≤ d) (F : Nat → sy_d) (X1 X2 : List jm_c) (hB : iv_in F iv_B0)
    (h0 : (sy_i F 85).toInt < (sy_i F 84).toInt)
    (h1 : 0 ≤ (sy_i F 85).toInt ∧ (sy_i F 85).toInt < 2000)
    (h2 : 97 ≤ ((sy_ai F 2).getD (sy_i F 85).toNatClampNeg 0).toInt)
    (h3 : ((sy_ai F 2).getD (sy_i F 85).toNatClampNeg 0).toInt ≤ 122)
    (h4 : 0 ≤ (sy_i F 85).toInt ∧ (sy_i F 85).toInt < 2000)
    (k : ∀ F1 : Nat → sy_d, (∀ j, j < 82 → True → F1 j = F j) → F1 82 = .inl (.int (sy_i F 82)) → F1 83 = .inl (.int (sy_i F 83)) → F1 84 = .inl (.int (sy_i F 84)) → F1 85 = .inl (.int ((sy_i F 85) + ((1 : Int32)))) → F1 86 = .inl (.long (((sy_l F 86) * ((27 : Int64))) + (((((sy_ai F 2).getD (sy_i F 85).toNatClampNeg 0) - ((97 : Int32))) + ((1 : Int32))).toInt64))) → hd_W Ls xs d jm_M60 Q (6, sy_dL F1 [some (.inl (.ref 31)), some (.inr (.inl 82)), some (.inl (.ref 9)), some (.inr (.inl 83)), some (.inr (.inl 84)), some (.inr (.inl 85)), some (.inr (.inr 86)), none], sy_dS F1 [], sy_dh F1 X1 X2 (iv_H 1), 0, 0)) :
    hd_W Ls xs d jm_M60 Q (6, sy_dL F [some (.inl (.ref 31)), some (.inr (.inl 82)), some (.inl (.ref 9)), some (.inr (.inl 83)), some (.inr (.inl 84)), some (.inr (.inl 85)), some (.inr (.inr 86)), none], sy_dS F [], sy_dh F X1 X2 (iv_H 1), 0, 0) := by
  refine hd_run (s := 1) (nv := 87) (pc := 6) (L := [some (.inl (.ref 31)), some (.inr (.inl 82)), some (.inl (.ref 9)), some (.inr (.inl 83)), some (.inr (.inl 84)), some (.inr (.inl 85)), some (.inr (.inr 86)), none]) (S := []) (uh := hd_ov (iv_id 0 iv_B0) []) (ul := [.inl (.inr (.inl 82)), .inl (.inr (.inl 83)), .inl (.inr (.inl 84)), .inl (.inr (.inl 94)), .inl (.inr (.inr 93))]) (f := true) (sp := [6, 70]) (d0 := 1) (O := [false, false, false]) (T := [(30, [.inr (.inl 85)], [.inr (.inl 2)]), (30, [.inr (.inl 85)], [.inr (.inl 2)]), (14, [.inr (.inr 86), .inl (.long 27)], []), (1, [.inr (.inl 88), .inl (.int 97)], []), (0, [.inr (.inl 90), .inl (.int 1)], []), (21, [.inr (.inl 91)], []), (12, [.inr (.inr 89), .inr (.inr 92)], []), (0, [.inr (.inl 85), .inl (.int 1)], [])]) (P := [(5, .inr (.inl 84), .inr (.inl 85)), (6, .inr (.inl 85), .inl (.ref 2000)), (3, .inr (.inl 87), .inl (.int 97)), (3, .inl (.int 122), .inr (.inl 87)), (6, .inr (.inl 85), .inl (.ref 2000))]) jm_ok60 (by decide +kernel) (by decide +kernel) hd F X1 X2 (fun F' hF hs => ?_)
  have b84 := hd_b (F := F) (F' := F') (k := 84) (hF 84 (by decide))
  have b85 := hd_b (F := F) (F' := F') (k := 85) (hF 85 (by decide))
  have a2 := hd_ba (F := F) (F' := F') (k := 2) (hF 2 (by decide))
  have t87 : sy_dv F' (.inr (.inl 87)) = .int ((sy_ai F 2).getD (sy_i F 85).toNatClampNeg 0) := hd_rd (hs 0 _ rfl) b85 a2
  have b82 := hd_b (F := F) (F' := F') (k := 82) (hF 82 (by decide))
  have b83 := hd_b (F := F) (F' := F') (k := 83) (hF 83 (by decide))
  have t94 : sy_dv F' (.inr (.inl 94)) = .int ((sy_i F 85) + ((1 : Int32))) := hd_o (hs 7 _ rfl) b85 rfl rfl
  have b86 := hd_bl (F := F) (F' := F') (k := 86) (hF 86 (by decide))
  have t89 : sy_dv F' (.inr (.inr 89)) = .long ((sy_l F 86) * ((27 : Int64))) := hd_oL (hs 2 _ rfl) b86 rfl rfl
  have t88 : sy_dv F' (.inr (.inl 88)) = .int ((sy_ai F 2).getD (sy_i F 85).toNatClampNeg 0) := hd_rd (hs 1 _ rfl) b85 a2
  have t90 : sy_dv F' (.inr (.inl 90)) = .int (((sy_ai F 2).getD (sy_i F 85).toNatClampNeg 0) - ((97 : Int32))) := hd_o (hs 3 _ rfl) t88 rfl rfl
  have t91 : sy_dv F' (.inr (.inl 91)) = .int ((((sy_ai F 2).getD (sy_i F 85).toNatClampNeg 0) - ((97 : Int32))) + ((1 : Int32))) := hd_o (hs 4 _ rfl) t90 rfl rfl
  have t92 : sy_dv F' (.inr (.inr 92)) = .long (((((sy_ai F 2).getD (sy_i F 85).toNatClampNeg 0) - ((97 : Int32))) + ((1 : Int32))).toInt64) := hd_uL (hs 5 _ rfl) t91 rfl
  have t93 : sy_dv F' (.inr (.inr 93)) = .long (((sy_l F 86) * ((27 : Int64))) + (((((sy_ai F 2).getD (sy_i F 85).toNatClampNeg 0) - ((97 : Int32))) + ((1 : Int32))).toInt64)) := hd_oL (hs 6 _ rfl) t89 t92 rfl
  have hB' : iv_in F' iv_B0 := iv_in_eq hB (fun j hj => hF j (Nat.lt_of_lt_of_le hj (by decide +kernel)))
  refine ⟨List.forall_mem_cons.mpr ⟨hd_p5 b84 b85 h0, List.forall_mem_cons.mpr ⟨hd_pb b85 (by first | exact h1 | exact h1), List.forall_mem_cons.mpr ⟨hd_p3 t87 rfl (by have hc : ((97) : Int32).toInt = 97 := (by decide); omega), List.forall_mem_cons.mpr ⟨hd_p3 rfl t87 (by have hc : ((122) : Int32).toInt = 122 := (by decide); omega), List.forall_mem_cons.mpr ⟨hd_pb b85 (by first | exact h4 | exact h4), fun _ h => absurd h List.not_mem_nil⟩⟩⟩⟩⟩, ?_⟩
  refine k _ ?_ ?_ ?_ ?_ ?_ ?_
  · exact fun j hj _ => (hd_keep hB' (Nat.lt_of_lt_of_le hj (by decide +kernel)) (by simp)).trans (hF j (by omega))
  · exact hd_gi (x := .inr (.inl 82)) (by decide +kernel) b82
  · exact hd_gi (x := .inr (.inl 83)) (by decide +kernel) b83
  · exact hd_gi (x := .inr (.inl 84)) (by decide +kernel) b84
  · exact hd_gi (x := .inr (.inl 94)) (by decide +kernel) t94
  · exact hd_gl (x := .inr (.inr 93)) (by decide +kernel) t93
theorem cw1_73_0 {Ls : Nat} {xs : Nat → Int32} {d : Nat} {Q : Option Value → jm_h → Prop} (hd : 2 ≤ d) (F : Nat → sy_d) (X1 X2 : List jm_c) (hB : iv_in F iv_B0)
    (h0 : 0 ≤ (sy_i F 84).toInt ∧ (sy_i F 84).toInt < 401)
    (k : ∀ F1 : Nat → sy_d, (∀ j, j < 82 → j ≠ 39 → F1 j = F j) → F1 39 = .inr (.inl (jm_upd (sy_ai F 39) (sy_i F 84).toNatClampNeg (sy_i F 85))) → Q (some (.int (sy_i F 82))) (sy_dh F1 X1 X2 (iv_H 1))) :
    hd_W Ls xs d jm_M60 Q (73, sy_dL F [none, none, none, none, none, some (.inr (.inl 82)), none, none], sy_dS F [.inr (.inl 85), .inr (.inl 84), .inl (.ref 32)], sy_dh F X1 X2 (iv_H 1), 0, 0) := by
  refine hd_ret (s := 1) (nv := 86) (v := some (.inr (.inl 82))) (uh := hd_ov (iv_id 0 iv_B0) [(39, .inr (.inr (.inl 86)))]) (f := false) (sp := [6, 70]) (d0 := 1) (O := []) (T := [(40, [.inr (.inl 84), .inr (.inl 85)], [.inr (.inl 39)])]) (P := [(6, .inr (.inl 84), .inl (.ref 401))]) jm_ok60 (by decide +kernel) (by decide +kernel) hd F X1 X2 (fun F' hF hs => ?_)
  have b84 := hd_b (F := F) (F' := F') (k := 84) (hF 84 (by decide))
  have b85 := hd_b (F := F) (F' := F') (k := 85) (hF 85 (by decide))
  have a39 := hd_ba (F := F) (F' := F') (k := 39) (hF 39 (by decide))
  have t86 : sy_da F' (.inr (.inl 86)) = .inl (jm_upd (sy_ai F 39) (sy_i F 84).toNatClampNeg (sy_i F 85)) := hd_up (hs 0 _ rfl) b84 b85 a39
  have b82 := hd_b (F := F) (F' := F') (k := 82) (hF 82 (by decide))
  have hB' : iv_in F' iv_B0 := iv_in_eq hB (fun j hj => hF j (Nat.lt_of_lt_of_le hj (by decide +kernel)))
  have hk := k (sy_cm F' (hd_ov (iv_id 0 iv_B0) [(39, .inr (.inr (.inl 86)))] ++ [])) (fun j hj hn => (hd_keep hB' (Nat.lt_of_lt_of_le hj (by decide +kernel)) (by simp; omega)).trans (hF j (by omega))) (hd_ga (a := .inr (.inl 86)) (by decide +kernel) t86)
  refine ⟨List.forall_mem_cons.mpr ⟨hd_pb b84 (by first | exact h0 | exact h0), fun _ h => absurd h List.not_mem_nil⟩, ?_⟩
  show Q (some (sy_dv F' (.inr (.inl 82)))) _
  rw [b82]
  exact hk
theorem cw2_0_0 {Ls : Nat} {xs : Nat → Int32} {d : Nat} {Q : Option Value → jm_h → Prop} (hd : 2 ≤ d) (F : Nat → sy_d) (X1 X2 : List jm_c) (hB : iv_in F iv_B0)
    (k : ∀ F1 : Nat → sy_d, (∀ j, j < 82 → True → F1 j = F j) → F1 82 = .inl (.int (sy_i F 82)) → F1 83 = .inl (.int (sy_i F 83)) → F1 84 = .inl (.int (sy_i F 84)) → F1 85 = .inl (.int (sy_i F 83)) → F1 86 = .inl (.long ((0 : Int64))) → hd_W Ls xs d jm_M60 Q (6, sy_dL F1 [some (.inl (.ref 31)), some (.inr (.inl 82)), some (.inl (.ref 9)), some (.inr (.inl 83)), some (.inr (.inl 84)), some (.inr (.inl 85)), some (.inr (.inr 86)), none], sy_dS F1 [], sy_dh F1 X1 X2 (iv_H 2), 0, 0)) :
    hd_W Ls xs d jm_M60 Q (0, sy_dL F [some (.inl (.ref 31)), some (.inr (.inl 82)), some (.inl (.ref 9)), some (.inr (.inl 83)), some (.inr (.inl 84)), none, none, none], sy_dS F [], sy_dh F X1 X2 (iv_H 2), 0, 0) := by
  refine hd_run (s := 2) (nv := 85) (pc := 6) (L := [some (.inl (.ref 31)), some (.inr (.inl 82)), some (.inl (.ref 9)), some (.inr (.inl 83)), some (.inr (.inl 84)), some (.inr (.inl 85)), some (.inr (.inr 86)), none]) (S := []) (uh := hd_ov (iv_id 0 iv_B0) []) (ul := [.inl (.inr (.inl 82)), .inl (.inr (.inl 83)), .inl (.inr (.inl 84)), .inl (.inr (.inl 83)), .inl (.inl (.long 0))]) (f := true) (sp := [6, 70]) (d0 := 1) (O := []) (T := []) (P := []) jm_ok60 (by decide +kernel) (by decide +kernel) hd F X1 X2 (fun F' hF hs => ?_)
  have b82 := hd_b (F := F) (F' := F') (k := 82) (hF 82 (by decide))
  have b83 := hd_b (F := F) (F' := F') (k := 83) (hF 83 (by decide))
  have b84 := hd_b (F := F) (F' := F') (k := 84) (hF 84 (by decide))
  have hB' : iv_in F' iv_B0 := iv_in_eq hB (fun j hj => hF j (Nat.lt_of_lt_of_le hj (by decide +kernel)))
  refine ⟨fun _ h => absurd h List.not_mem_nil, ?_⟩
  refine k _ ?_ ?_ ?_ ?_ ?_ ?_
  · exact fun j hj _ => (hd_keep hB' (Nat.lt_of_lt_of_le hj (by decide +kernel)) (by simp)).trans (hF j (by omega))
  · exact hd_gi (x := .inr (.inl 82)) (by decide +kernel) b82
  · exact hd_gi (x := .inr (.inl 83)) (by decide +kernel) b83
  · exact hd_gi (x := .inr (.inl 84)) (by decide +kernel) b84
  · exact hd_gi (x := .inr (.inl 83)) (by decide +kernel) b83
  · exact hd_gl (x := .inl (.long 0)) (by decide +kernel) rfl
theorem cw2_6_0 {Ls : Nat} {xs : Nat → Int32} {d : Nat} {Q : Option Value → jm_h → Prop} (hd : 2 ≤ d) (F : Nat → sy_d) (X1 X2 : List jm_c) (hB : iv_in F iv_B0)
    (h0 : (sy_i F 84).toInt ≤ (sy_i F 85).toInt)
    (h1 : 0 ≤ (sy_i F 82).toInt ∧ (sy_i F 82).toInt < 401)
    (h2 : ((sy_i F 85) - (sy_i F 83)).toInt ≤ 8)
    (k : ∀ F1 : Nat → sy_d, (∀ j, j < 82 → j ≠ 41 → F1 j = F j) → F1 41 = .inr (.inr (jm_updL (sy_al F 41) (sy_i F 82).toNatClampNeg (sy_l F 86))) → F1 82 = .inl (.int (sy_i F 85)) → F1 83 = .inl (.long (sy_l F 86)) → F1 84 = .inl (.int (sy_i F 82)) → hd_W Ls xs d jm_M60 Q (70, sy_dL F1 [none, none, none, none, none, some (.inr (.inl 82)), none, none], sy_dS F1 [.inr (.inr 83), .inl (.ref 31), .inr (.inl 84), .inl (.ref 32)], sy_dh F1 X1 X2 (iv_H 2), 0, 0)) :
    hd_W Ls xs d jm_M60 Q (6, sy_dL F [some (.inl (.ref 31)), some (.inr (.inl 82)), some (.inl (.ref 9)), some (.inr (.inl 83)), some (.inr (.inl 84)), some (.inr (.inl 85)), some (.inr (.inr 86)), none], sy_dS F [], sy_dh F X1 X2 (iv_H 2), 0, 0) := by
  refine hd_run (s := 2) (nv := 87) (pc := 70) (L := [none, none, none, none, none, some (.inr (.inl 82)), none, none]) (S := [.inr (.inr 83), .inl (.ref 31), .inr (.inl 84), .inl (.ref 32)]) (uh := hd_ov (iv_id 0 iv_B0) [(41, .inr (.inr (.inr 87)))]) (ul := [.inl (.inr (.inl 85)), .inl (.inr (.inr 86)), .inl (.inr (.inl 82))]) (f := true) (sp := [6, 70]) (d0 := 1) (O := [true, true]) (T := [(40, [.inr (.inl 82), .inr (.inr 86)], [.inr (.inr 41)]), (1, [.inr (.inl 85), .inr (.inl 83)], [])]) (P := [(4, .inr (.inl 84), .inr (.inl 85)), (6, .inr (.inl 82), .inl (.ref 401)), (4, .inr (.inl 88), .inl (.int 8))]) jm_ok60 (by decide +kernel) (by decide +kernel) hd F X1 X2 (fun F' hF hs => ?_)
  have b84 := hd_b (F := F) (F' := F') (k := 84) (hF 84 (by decide))
  have b85 := hd_b (F := F) (F' := F') (k := 85) (hF 85 (by decide))
  have b82 := hd_b (F := F) (F' := F') (k := 82) (hF 82 (by decide))
  have b83 := hd_b (F := F) (F' := F') (k := 83) (hF 83 (by decide))
  have t88 : sy_dv F' (.inr (.inl 88)) = .int ((sy_i F 85) - (sy_i F 83)) := hd_o (hs 1 _ rfl) b85 b83 rfl
  have b86 := hd_bl (F := F) (F' := F') (k := 86) (hF 86 (by decide))
  have a41 := hd_bA (F := F) (F' := F') (k := 41) (hF 41 (by decide))
  have t87 : sy_da F' (.inr (.inr 87)) = .inr (jm_updL (sy_al F 41) (sy_i F 82).toNatClampNeg (sy_l F 86)) := hd_uA (hs 0 _ rfl) b82 b86 a41
  have hB' : iv_in F' iv_B0 := iv_in_eq hB (fun j hj => hF j (Nat.lt_of_lt_of_le hj (by decide +kernel)))
  refine ⟨List.forall_mem_cons.mpr ⟨hd_p4 b84 b85 h0, List.forall_mem_cons.mpr ⟨hd_pb b82 (by first | exact h1 | exact h1), List.forall_mem_cons.mpr ⟨hd_p4 t88 rfl (by have hc : ((8) : Int32).toInt = 8 := (by decide); omega), fun _ h => absurd h List.not_mem_nil⟩⟩⟩, ?_⟩
  refine k _ ?_ ?_ ?_ ?_ ?_
  · exact fun j hj hn => (hd_keep hB' (Nat.lt_of_lt_of_le hj (by decide +kernel)) (by simp; omega)).trans (hF j (by omega))
  · exact hd_gA (a := .inr (.inr 87)) (by decide +kernel) t87
  · exact hd_gi (x := .inr (.inl 85)) (by decide +kernel) b85
  · exact hd_gl (x := .inr (.inr 86)) (by decide +kernel) b86
  · exact hd_gi (x := .inr (.inl 82)) (by decide +kernel) b82
theorem cw2_6_1 {Ls : Nat} {xs : Nat → Int32} {d : Nat} {Q : Option Value → jm_h → Prop} (hd : 2 ≤ d) (F : Nat → sy_d) (X1 X2 : List jm_c) (hB : iv_in F iv_B0)
    (h0 : (sy_i F 84).toInt ≤ (sy_i F 85).toInt)
    (h1 : 0 ≤ (sy_i F 82).toInt ∧ (sy_i F 82).toInt < 401)
    (h2 : 8 < ((sy_i F 85) - (sy_i F 83)).toInt)
    (h3 : 0 ≤ (sy_i F 82).toInt ∧ (sy_i F 82).toInt < 401)
    (k : ∀ F1 : Nat → sy_d, (∀ j, j < 82 → j ≠ 39 ∧ j ≠ 41 → F1 j = F j) → F1 39 = .inr (.inl (jm_upd (sy_ai F 39) (sy_i F 82).toNatClampNeg ((25 : Int32)))) → F1 41 = .inr (.inr (jm_updL (sy_al F 41) (sy_i F 82).toNatClampNeg (sy_l F 86))) → Q (some (.int (sy_i F 85))) (sy_dh F1 X1 X2 (iv_H 2))) :
    hd_W Ls xs d jm_M60 Q (6, sy_dL F [some (.inl (.ref 31)), some (.inr (.inl 82)), some (.inl (.ref 9)), some (.inr (.inl 83)), some (.inr (.inl 84)), some (.inr (.inl 85)), some (.inr (.inr 86)), none], sy_dS F [], sy_dh F X1 X2 (iv_H 2), 0, 0) := by
  refine hd_ret (s := 2) (nv := 87) (v := some (.inr (.inl 85))) (uh := hd_ov (iv_id 0 iv_B0) [(39, .inr (.inr (.inl 89))), (41, .inr (.inr (.inr 87)))]) (f := true) (sp := [6, 70]) (d0 := 1) (O := [true, false]) (T := [(40, [.inr (.inl 82), .inr (.inr 86)], [.inr (.inr 41)]), (1, [.inr (.inl 85), .inr (.inl 83)], []), (40, [.inr (.inl 82), .inl (.int 25)], [.inr (.inl 39)])]) (P := [(4, .inr (.inl 84), .inr (.inl 85)), (6, .inr (.inl 82), .inl (.ref 401)), (5, .inr (.inl 88), .inl (.int 8)), (6, .inr (.inl 82), .inl (.ref 401))]) jm_ok60 (by decide +kernel) (by decide +kernel) hd F X1 X2 (fun F' hF hs => ?_)
  have b84 := hd_b (F := F) (F' := F') (k := 84) (hF 84 (by decide))
  have b85 := hd_b (F := F) (F' := F') (k := 85) (hF 85 (by decide))
  have b82 := hd_b (F := F) (F' := F') (k := 82) (hF 82 (by decide))
  have b83 := hd_b (F := F) (F' := F') (k := 83) (hF 83 (by decide))
  have t88 : sy_dv F' (.inr (.inl 88)) = .int ((sy_i F 85) - (sy_i F 83)) := hd_o (hs 1 _ rfl) b85 b83 rfl
  have a39 := hd_ba (F := F) (F' := F') (k := 39) (hF 39 (by decide))
  have t89 : sy_da F' (.inr (.inl 89)) = .inl (jm_upd (sy_ai F 39) (sy_i F 82).toNatClampNeg ((25 : Int32))) := hd_up (hs 2 _ rfl) b82 rfl a39
  have b86 := hd_bl (F := F) (F' := F') (k := 86) (hF 86 (by decide))
  have a41 := hd_bA (F := F) (F' := F') (k := 41) (hF 41 (by decide))
  have t87 : sy_da F' (.inr (.inr 87)) = .inr (jm_updL (sy_al F 41) (sy_i F 82).toNatClampNeg (sy_l F 86)) := hd_uA (hs 0 _ rfl) b82 b86 a41
  have hB' : iv_in F' iv_B0 := iv_in_eq hB (fun j hj => hF j (Nat.lt_of_lt_of_le hj (by decide +kernel)))
  have hk := k (sy_cm F' (hd_ov (iv_id 0 iv_B0) [(39, .inr (.inr (.inl 89))), (41, .inr (.inr (.inr 87)))] ++ [])) (fun j hj hn => (hd_keep hB' (Nat.lt_of_lt_of_le hj (by decide +kernel)) (by simp; omega)).trans (hF j (by omega))) (hd_ga (a := .inr (.inl 89)) (by decide +kernel) t89) (hd_gA (a := .inr (.inr 87)) (by decide +kernel) t87)
  refine ⟨List.forall_mem_cons.mpr ⟨hd_p4 b84 b85 h0, List.forall_mem_cons.mpr ⟨hd_pb b82 (by first | exact h1 | exact h1), List.forall_mem_cons.mpr ⟨hd_p5 t88 rfl (by have hc : ((8) : Int32).toInt = 8 := (by decide); omega), List.forall_mem_cons.mpr ⟨hd_pb b82 (by first | exact h3 | exact h3), fun _ h => absurd h List.not_mem_nil⟩⟩⟩⟩, ?_⟩
  show Q (some (sy_dv F' (.inr (.inl 85)))) _
  rw [b85]
  exact hk
theorem cw2_6_2 {Ls : Nat} {xs : Nat → Int32} {d : Nat} {Q : Option Value → jm_h → Prop} (hd : 2 ≤ d) (F : Nat → sy_d) (X1 X2 : List jm_c) (hB : iv_in F iv_B0)
    (h0 : (sy_i F 85).toInt < (sy_i F 84).toInt)
    (h1 : 0 ≤ (sy_i F 85).toInt ∧ (sy_i F 85).toInt < 2000)
    (h2 : ((sy_ai F 2).getD (sy_i F 85).toNatClampNeg 0).toInt < 97)
    (h3 : 0 ≤ (sy_i F 82).toInt ∧ (sy_i F 82).toInt < 401)
    (h4 : ((sy_i F 85) - (sy_i F 83)).toInt ≤ 8)
    (k : ∀ F1 : Nat → sy_d, (∀ j, j < 82 → j ≠ 41 → F1 j = F j) → F1 41 = .inr (.inr (jm_updL (sy_al F 41) (sy_i F 82).toNatClampNeg (sy_l F 86))) → F1 82 = .inl (.int (sy_i F 85)) → F1 83 = .inl (.long (sy_l F 86)) → F1 84 = .inl (.int (sy_i F 82)) → hd_W Ls xs d jm_M60 Q (70, sy_dL F1 [none, none, none, none, none, some (.inr (.inl 82)), none, none], sy_dS F1 [.inr (.inr 83), .inl (.ref 31), .inr (.inl 84), .inl (.ref 32)], sy_dh F1 X1 X2 (iv_H 2), 0, 0)) :
    hd_W Ls xs d jm_M60 Q (6, sy_dL F [some (.inl (.ref 31)), some (.inr (.inl 82)), some (.inl (.ref 9)), some (.inr (.inl 83)), some (.inr (.inl 84)), some (.inr (.inl 85)), some (.inr (.inr 86)), none], sy_dS F [], sy_dh F X1 X2 (iv_H 2), 0, 0) := by
  refine hd_run (s := 2) (nv := 87) (pc := 70) (L := [none, none, none, none, none, some (.inr (.inl 82)), none, none]) (S := [.inr (.inr 83), .inl (.ref 31), .inr (.inl 84), .inl (.ref 32)]) (uh := hd_ov (iv_id 0 iv_B0) [(41, .inr (.inr (.inr 88)))]) (ul := [.inl (.inr (.inl 85)), .inl (.inr (.inr 86)), .inl (.inr (.inl 82))]) (f := true) (sp := [6, 70]) (d0 := 1) (O := [false, true, true]) (T := [(30, [.inr (.inl 85)], [.inr (.inl 2)]), (40, [.inr (.inl 82), .inr (.inr 86)], [.inr (.inr 41)]), (1, [.inr (.inl 85), .inr (.inl 83)], [])]) (P := [(5, .inr (.inl 84), .inr (.inl 85)), (6, .inr (.inl 85), .inl (.ref 2000)), (2, .inr (.inl 87), .inl (.int 97)), (6, .inr (.inl 82), .inl (.ref 401)), (4, .inr (.inl 89), .inl (.int 8))]) jm_ok60 (by decide +kernel) (by decide +kernel) hd F X1 X2 (fun F' hF hs => ?_)
  have b84 := hd_b (F := F) (F' := F') (k := 84) (hF 84 (by decide))
  have b85 := hd_b (F := F) (F' := F') (k := 85) (hF 85 (by decide))
  have a2 := hd_ba (F := F) (F' := F') (k := 2) (hF 2 (by decide))
  have t87 : sy_dv F' (.inr (.inl 87)) = .int ((sy_ai F 2).getD (sy_i F 85).toNatClampNeg 0) := hd_rd (hs 0 _ rfl) b85 a2
  have b82 := hd_b (F := F) (F' := F') (k := 82) (hF 82 (by decide))
  have b83 := hd_b (F := F) (F' := F') (k := 83) (hF 83 (by decide))
  have t89 : sy_dv F' (.inr (.inl 89)) = .int ((sy_i F 85) - (sy_i F 83)) := hd_o (hs 2 _ rfl) b85 b83 rfl
  have b86 := hd_bl (F := F) (F' := F') (k := 86) (hF 86 (by decide))
  have a41 := hd_bA (F := F) (F' := F') (k := 41) (hF 41 (by decide))
  have t88 : sy_da F' (.inr (.inr 88)) = .inr (jm_updL (sy_al F 41) (sy_i F 82).toNatClampNeg (sy_l F 86)) := hd_uA (hs 1 _ rfl) b82 b86 a41
  have hB' : iv_in F' iv_B0 := iv_in_eq hB (fun j hj => hF j (Nat.lt_of_lt_of_le hj (by decide +kernel)))
  refine ⟨List.forall_mem_cons.mpr ⟨hd_p5 b84 b85 h0, List.forall_mem_cons.mpr ⟨hd_pb b85 (by first | exact h1 | exact h1), List.forall_mem_cons.mpr ⟨hd_p2 t87 rfl (by have hc : ((97) : Int32).toInt = 97 := (by decide); omega), List.forall_mem_cons.mpr ⟨hd_pb b82 (by first | exact h3 | exact h3), List.forall_mem_cons.mpr ⟨hd_p4 t89 rfl (by have hc : ((8) : Int32).toInt = 8 := (by decide); omega), fun _ h => absurd h List.not_mem_nil⟩⟩⟩⟩⟩, ?_⟩
  refine k _ ?_ ?_ ?_ ?_ ?_
  · exact fun j hj hn => (hd_keep hB' (Nat.lt_of_lt_of_le hj (by decide +kernel)) (by simp; omega)).trans (hF j (by omega))
  · exact hd_gA (a := .inr (.inr 88)) (by decide +kernel) t88
  · exact hd_gi (x := .inr (.inl 85)) (by decide +kernel) b85
  · exact hd_gl (x := .inr (.inr 86)) (by decide +kernel) b86
  · exact hd_gi (x := .inr (.inl 82)) (by decide +kernel) b82
theorem cw2_6_3 {Ls : Nat} {xs : Nat → Int32} {d : Nat} {Q : Option Value → jm_h → Prop} (hd : 2 ≤ d) (F : Nat → sy_d) (X1 X2 : List jm_c) (hB : iv_in F iv_B0)
    (h0 : (sy_i F 85).toInt < (sy_i F 84).toInt)
    (h1 : 0 ≤ (sy_i F 85).toInt ∧ (sy_i F 85).toInt < 2000)
    (h2 : ((sy_ai F 2).getD (sy_i F 85).toNatClampNeg 0).toInt < 97)
    (h3 : 0 ≤ (sy_i F 82).toInt ∧ (sy_i F 82).toInt < 401)
    (h4 : 8 < ((sy_i F 85) - (sy_i F 83)).toInt)
    (h5 : 0 ≤ (sy_i F 82).toInt ∧ (sy_i F 82).toInt < 401)
    (k : ∀ F1 : Nat → sy_d, (∀ j, j < 82 → j ≠ 39 ∧ j ≠ 41 → F1 j = F j) → F1 39 = .inr (.inl (jm_upd (sy_ai F 39) (sy_i F 82).toNatClampNeg ((25 : Int32)))) → F1 41 = .inr (.inr (jm_updL (sy_al F 41) (sy_i F 82).toNatClampNeg (sy_l F 86))) → Q (some (.int (sy_i F 85))) (sy_dh F1 X1 X2 (iv_H 2))) :
    hd_W Ls xs d jm_M60 Q (6, sy_dL F [some (.inl (.ref 31)), some (.inr (.inl 82)), some (.inl (.ref 9)), some (.inr (.inl 83)), some (.inr (.inl 84)), some (.inr (.inl 85)), some (.inr (.inr 86)), none], sy_dS F [], sy_dh F X1 X2 (iv_H 2), 0, 0) := by
  refine hd_ret (s := 2) (nv := 87) (v := some (.inr (.inl 85))) (uh := hd_ov (iv_id 0 iv_B0) [(39, .inr (.inr (.inl 90))), (41, .inr (.inr (.inr 88)))]) (f := true) (sp := [6, 70]) (d0 := 1) (O := [false, true, false]) (T := [(30, [.inr (.inl 85)], [.inr (.inl 2)]), (40, [.inr (.inl 82), .inr (.inr 86)], [.inr (.inr 41)]), (1, [.inr (.inl 85), .inr (.inl 83)], []), (40, [.inr (.inl 82), .inl (.int 25)], [.inr (.inl 39)])]) (P := [(5, .inr (.inl 84), .inr (.inl 85)), (6, .inr (.inl 85), .inl (.ref 2000)), (2, .inr (.inl 87), .inl (.int 97)), (6, .inr (.inl 82), .inl (.ref 401)), (5, .inr (.inl 89), .inl (.int 8)), (6, .inr (.inl 82), .inl (.ref 401))]) jm_ok60 (by decide +kernel) (by decide +kernel) hd F X1 X2 (fun F' hF hs => ?_)
  have b84 := hd_b (F := F) (F' := F') (k := 84) (hF 84 (by decide))
  have b85 := hd_b (F := F) (F' := F') (k := 85) (hF 85 (by decide))
  have a2 := hd_ba (F := F) (F' := F') (k := 2) (hF 2 (by decide))
  have t87 : sy_dv F' (.inr (.inl 87)) = .int ((sy_ai F 2).getD (sy_i F 85).toNatClampNeg 0) := hd_rd (hs 0 _ rfl) b85 a2
  have b82 := hd_b (F := F) (F' := F') (k := 82) (hF 82 (by decide))
  have b83 := hd_b (F := F) (F' := F') (k := 83) (hF 83 (by decide))
  have t89 : sy_dv F' (.inr (.inl 89)) = .int ((sy_i F 85) - (sy_i F 83)) := hd_o (hs 2 _ rfl) b85 b83 rfl
  have a39 := hd_ba (F := F) (F' := F') (k := 39) (hF 39 (by decide))
  have t90 : sy_da F' (.inr (.inl 90)) = .inl (jm_upd (sy_ai F 39) (sy_i F 82).toNatClampNeg ((25 : Int32))) := hd_up (hs 3 _ rfl) b82 rfl a39
  have b86 := hd_bl (F := F) (F' := F') (k := 86) (hF 86 (by decide))
  have a41 := hd_bA (F := F) (F' := F') (k := 41) (hF 41 (by decide))
  have t88 : sy_da F' (.inr (.inr 88)) = .inr (jm_updL (sy_al F 41) (sy_i F 82).toNatClampNeg (sy_l F 86)) := hd_uA (hs 1 _ rfl) b82 b86 a41
  have hB' : iv_in F' iv_B0 := iv_in_eq hB (fun j hj => hF j (Nat.lt_of_lt_of_le hj (by decide +kernel)))
  have hk := k (sy_cm F' (hd_ov (iv_id 0 iv_B0) [(39, .inr (.inr (.inl 90))), (41, .inr (.inr (.inr 88)))] ++ [])) (fun j hj hn => (hd_keep hB' (Nat.lt_of_lt_of_le hj (by decide +kernel)) (by simp; omega)).trans (hF j (by omega))) (hd_ga (a := .inr (.inl 90)) (by decide +kernel) t90) (hd_gA (a := .inr (.inr 88)) (by decide +kernel) t88)
  refine ⟨List.forall_mem_cons.mpr ⟨hd_p5 b84 b85 h0, List.forall_mem_cons.mpr ⟨hd_pb b85 (by first | exact h1 | exact h1), List.forall_mem_cons.mpr ⟨hd_p2 t87 rfl (by have hc : ((97) : Int32).toInt = 97 := (by decide); omega), List.forall_mem_cons.mpr ⟨hd_pb b82 (by first | exact h3 | exact h3), List.forall_mem_cons.mpr ⟨hd_p5 t89 rfl (by have hc : ((8) : Int32).toInt = 8 := (by decide); omega), List.forall_mem_cons.mpr ⟨hd_pb b82 (by first | exact h5 | exact h5), fun _ h => absurd h List.not_mem_nil⟩⟩⟩⟩⟩⟩, ?_⟩
  show Q (some (sy_dv F' (.inr (.inl 85)))) _
  rw [b85]
  exact hk
theorem cw2_6_4 {Ls : Nat} {xs : Nat → Int32} {d : Nat} {Q : Option Value → jm_h → Prop} (hd : 2 ≤ d) (F : Nat → sy_d) (X1 X2 : List jm_c) (hB : iv_in F iv_B0)
    (h0 : (sy_i F 85).toInt < (sy_i F 84).toInt)
    (h1 : 0 ≤ (sy_i F 85).toInt ∧ (sy_i F 85).toInt < 2000)
    (h2 : 97 ≤ ((sy_ai F 2).getD (sy_i F 85).toNatClampNeg 0).toInt)
    (h3 : 122 < ((sy_ai F 2).getD (sy_i F 85).toNatClampNeg 0).toInt)
    (h4 : 0 ≤ (sy_i F 82).toInt ∧ (sy_i F 82).toInt < 401)
    (h5 : ((sy_i F 85) - (sy_i F 83)).toInt ≤ 8)
    (k : ∀ F1 : Nat → sy_d, (∀ j, j < 82 → j ≠ 41 → F1 j = F j) → F1 41 = .inr (.inr (jm_updL (sy_al F 41) (sy_i F 82).toNatClampNeg (sy_l F 86))) → F1 82 = .inl (.int (sy_i F 85)) → F1 83 = .inl (.long (sy_l F 86)) → F1 84 = .inl (.int (sy_i F 82)) → hd_W Ls xs d jm_M60 Q (70, sy_dL F1 [none, none, none, none, none, some (.inr (.inl 82)), none, none], sy_dS F1 [.inr (.inr 83), .inl (.ref 31), .inr (.inl 84), .inl (.ref 32)], sy_dh F1 X1 X2 (iv_H 2), 0, 0)) :
    hd_W Ls xs d jm_M60 Q (6, sy_dL F [some (.inl (.ref 31)), some (.inr (.inl 82)), some (.inl (.ref 9)), some (.inr (.inl 83)), some (.inr (.inl 84)), some (.inr (.inl 85)), some (.inr (.inr 86)), none], sy_dS F [], sy_dh F X1 X2 (iv_H 2), 0, 0) := by
  refine hd_run (s := 2) (nv := 87) (pc := 70) (L := [none, none, none, none, none, some (.inr (.inl 82)), none, none]) (S := [.inr (.inr 83), .inl (.ref 31), .inr (.inl 84), .inl (.ref 32)]) (uh := hd_ov (iv_id 0 iv_B0) [(41, .inr (.inr (.inr 88)))]) (ul := [.inl (.inr (.inl 85)), .inl (.inr (.inr 86)), .inl (.inr (.inl 82))]) (f := true) (sp := [6, 70]) (d0 := 1) (O := [false, false, true, true]) (T := [(30, [.inr (.inl 85)], [.inr (.inl 2)]), (40, [.inr (.inl 82), .inr (.inr 86)], [.inr (.inr 41)]), (1, [.inr (.inl 85), .inr (.inl 83)], [])]) (P := [(5, .inr (.inl 84), .inr (.inl 85)), (6, .inr (.inl 85), .inl (.ref 2000)), (3, .inr (.inl 87), .inl (.int 97)), (2, .inl (.int 122), .inr (.inl 87)), (6, .inr (.inl 82), .inl (.ref 401)), (4, .inr (.inl 89), .inl (.int 8))]) jm_ok60 (by decide +kernel) (by decide +kernel) hd F X1 X2 (fun F' hF hs => ?_)
  have b84 := hd_b (F := F) (F' := F') (k := 84) (hF 84 (by decide))
  have b85 := hd_b (F := F) (F' := F') (k := 85) (hF 85 (by decide))
  have a2 := hd_ba (F := F) (F' := F') (k := 2) (hF 2 (by decide))
  have t87 : sy_dv F' (.inr (.inl 87)) = .int ((sy_ai F 2).getD (sy_i F 85).toNatClampNeg 0) := hd_rd (hs 0 _ rfl) b85 a2
  have b82 := hd_b (F := F) (F' := F') (k := 82) (hF 82 (by decide))
  have b83 := hd_b (F := F) (F' := F') (k := 83) (hF 83 (by decide))
  have t89 : sy_dv F' (.inr (.inl 89)) = .int ((sy_i F 85) - (sy_i F 83)) := hd_o (hs 2 _ rfl) b85 b83 rfl
  have b86 := hd_bl (F := F) (F' := F') (k := 86) (hF 86 (by decide))
  have a41 := hd_bA (F := F) (F' := F') (k := 41) (hF 41 (by decide))
  have t88 : sy_da F' (.inr (.inr 88)) = .inr (jm_updL (sy_al F 41) (sy_i F 82).toNatClampNeg (sy_l F 86)) := hd_uA (hs 1 _ rfl) b82 b86 a41
  have hB' : iv_in F' iv_B0 := iv_in_eq hB (fun j hj => hF j (Nat.lt_of_lt_of_le hj (by decide +kernel)))
  refine ⟨List.forall_mem_cons.mpr ⟨hd_p5 b84 b85 h0, List.forall_mem_cons.mpr ⟨hd_pb b85 (by first | exact h1 | exact h1), List.forall_mem_cons.mpr ⟨hd_p3 t87 rfl (by have hc : ((97) : Int32).toInt = 97 := (by decide); omega), List.forall_mem_cons.mpr ⟨hd_p2 rfl t87 (by have hc : ((122) : Int32).toInt = 122 := (by decide); omega), List.forall_mem_cons.mpr ⟨hd_pb b82 (by first | exact h4 | exact h4), List.forall_mem_cons.mpr ⟨hd_p4 t89 rfl (by have hc : ((8) : Int32).toInt = 8 := (by decide); omega), fun _ h => absurd h List.not_mem_nil⟩⟩⟩⟩⟩⟩, ?_⟩
  refine k _ ?_ ?_ ?_ ?_ ?_
  · exact fun j hj hn => (hd_keep hB' (Nat.lt_of_lt_of_le hj (by decide +kernel)) (by simp; omega)).trans (hF j (by omega))
  · exact hd_gA (a := .inr (.inr 88)) (by decide +kernel) t88
  · exact hd_gi (x := .inr (.inl 85)) (by decide +kernel) b85
  · exact hd_gl (x := .inr (.inr 86)) (by decide +kernel) b86
  · exact hd_gi (x := .inr (.inl 82)) (by decide +kernel) b82
theorem cw2_6_5 {Ls : Nat} {xs : Nat → Int32} {d : Nat} {Q : Option Value → jm_h → Prop} (hd : 2 ≤ d) (F : Nat → sy_d) (X1 X2 : List jm_c) (hB : iv_in F iv_B0)
    (h0 : (sy_i F 85).toInt < (sy_i F 84).toInt)
    (h1 : 0 ≤ (sy_i F 85).toInt ∧ (sy_i F 85).toInt < 2000)
    (h2 : 97 ≤ ((sy_ai F 2).getD (sy_i F 85).toNatClampNeg 0).toInt)
    (h3 : 122 < ((sy_ai F 2).getD (sy_i F 85).toNatClampNeg 0).toInt)
    (h4 : 0 ≤ (sy_i F 82).toInt ∧ (sy_i F 82).toInt < 401)
    (h5 : 8 < ((sy_i F 85) - (sy_i F 83)).toInt)
    (h6 : 0 ≤ (sy_i F 82).toInt ∧ (sy_i F 82).toInt < 401)
    (k : ∀ F1 : Nat → sy_d, (∀ j, j < 82 → j ≠ 39 ∧ j ≠ 41 → F1 j = F j) → F1 39 = .inr (.inl (jm_upd (sy_ai F 39) (sy_i F 82).toNatClampNeg ((25 : Int32)))) → F1 41 = .inr (.inr (jm_updL (sy_al F 41) (sy_i F 82).toNatClampNeg (sy_l F 86))) → Q (some (.int (sy_i F 85))) (sy_dh F1 X1 X2 (iv_H 2))) :
    hd_W Ls xs d jm_M60 Q (6, sy_dL F [some (.inl (.ref 31)), some (.inr (.inl 82)), some (.inl (.ref 9)), some (.inr (.inl 83)), some (.inr (.inl 84)), some (.inr (.inl 85)), some (.inr (.inr 86)), none], sy_dS F [], sy_dh F X1 X2 (iv_H 2), 0, 0) := by
  refine hd_ret (s := 2) (nv := 87) (v := some (.inr (.inl 85))) (uh := hd_ov (iv_id 0 iv_B0) [(39, .inr (.inr (.inl 90))), (41, .inr (.inr (.inr 88)))]) (f := true) (sp := [6, 70]) (d0 := 1) (O := [false, false, true, false]) (T := [(30, [.inr (.inl 85)], [.inr (.inl 2)]), (40, [.inr (.inl 82), .inr (.inr 86)], [.inr (.inr 41)]), (1, [.inr (.inl 85), .inr (.inl 83)], []), (40, [.inr (.inl 82), .inl (.int 25)], [.inr (.inl 39)])]) (P := [(5, .inr (.inl 84), .inr (.inl 85)), (6, .inr (.inl 85), .inl (.ref 2000)), (3, .inr (.inl 87), .inl (.int 97)), (2, .inl (.int 122), .inr (.inl 87)), (6, .inr (.inl 82), .inl (.ref 401)), (5, .inr (.inl 89), .inl (.int 8)), (6, .inr (.inl 82), .inl (.ref 401))]) jm_ok60 (by decide +kernel) (by decide +kernel) hd F X1 X2 (fun F' hF hs => ?_)
  have b84 := hd_b (F := F) (F' := F') (k := 84) (hF 84 (by decide))
  have b85 := hd_b (F := F) (F' := F') (k := 85) (hF 85 (by decide))
  have a2 := hd_ba (F := F) (F' := F') (k := 2) (hF 2 (by decide))
  have t87 : sy_dv F' (.inr (.inl 87)) = .int ((sy_ai F 2).getD (sy_i F 85).toNatClampNeg 0) := hd_rd (hs 0 _ rfl) b85 a2
  have b82 := hd_b (F := F) (F' := F') (k := 82) (hF 82 (by decide))
  have b83 := hd_b (F := F) (F' := F') (k := 83) (hF 83 (by decide))
  have t89 : sy_dv F' (.inr (.inl 89)) = .int ((sy_i F 85) - (sy_i F 83)) := hd_o (hs 2 _ rfl) b85 b83 rfl
  have a39 := hd_ba (F := F) (F' := F') (k := 39) (hF 39 (by decide))
  have t90 : sy_da F' (.inr (.inl 90)) = .inl (jm_upd (sy_ai F 39) (sy_i F 82).toNatClampNeg ((25 : Int32))) := hd_up (hs 3 _ rfl) b82 rfl a39
  have b86 := hd_bl (F := F) (F' := F') (k := 86) (hF 86 (by decide))
  have a41 := hd_bA (F := F) (F' := F') (k := 41) (hF 41 (by decide))
  have t88 : sy_da F' (.inr (.inr 88)) = .inr (jm_updL (sy_al F 41) (sy_i F 82).toNatClampNeg (sy_l F 86)) := hd_uA (hs 1 _ rfl) b82 b86 a41
  have hB' : iv_in F' iv_B0 := iv_in_eq hB (fun j hj => hF j (Nat.lt_of_lt_of_le hj (by decide +kernel)))
  have hk := k (sy_cm F' (hd_ov (iv_id 0 iv_B0) [(39, .inr (.inr (.inl 90))), (41, .inr (.inr (.inr 88)))] ++ [])) (fun j hj hn => (hd_keep hB' (Nat.lt_of_lt_of_le hj (by decide +kernel)) (by simp; omega)).trans (hF j (by omega))) (hd_ga (a := .inr (.inl 90)) (by decide +kernel) t90) (hd_gA (a := .inr (.inr 88)) (by decide +kernel) t88)
  refine ⟨List.forall_mem_cons.mpr ⟨hd_p5 b84 b85 h0, List.forall_mem_cons.mpr ⟨hd_pb b85 (by first | exact h1 | exact h1), List.forall_mem_cons.mpr ⟨hd_p3 t87 rfl (by have hc : ((97) : Int32).toInt = 97 := (by decide); omega), List.forall_mem_cons.mpr ⟨hd_p2 rfl t87 (by have hc : ((122) : Int32).toInt = 122 := (by decide); omega), List.forall_mem_cons.mpr ⟨hd_pb b82 (by first | exact h4 | exact h4), List.forall_mem_cons.mpr ⟨hd_p5 t89 rfl (by have hc : ((8) : Int32).toInt = 8 := (by decide); omega), List.forall_mem_cons.mpr ⟨hd_pb b82 (by first | exact h6 | exact h6), fun _ h => absurd h List.not_mem_nil⟩⟩⟩⟩⟩⟩⟩, ?_⟩
  show Q (some (sy_dv F' (.inr (.inl 85)))) _
  rw [b85]
  exact hk
theorem cw2_6_6 {Ls : Nat} {xs : Nat → Int32} {d : Nat} {Q : Option Value → jm_h → Prop} (hd : 2 ≤ d) (F : Nat → sy_d) (X1 X2 : List jm_c) (hB : iv_in F iv_B0)
    (h0 : (sy_i F 85).toInt < (sy_i F 84).toInt)
    (h1 : 0 ≤ (sy_i F 85).toInt ∧ (sy_i F 85).toInt < 2000)
    (h2 : 97 ≤ ((sy_ai F 2).getD (sy_i F 85).toNatClampNeg 0).toInt)
    (h3 : ((sy_ai F 2).getD (sy_i F 85).toNatClampNeg 0).toInt ≤ 122)
    (h4 : 0 ≤ (sy_i F 85).toInt ∧ (sy_i F 85).toInt < 2000)
    (k : ∀ F1 : Nat → sy_d, (∀ j, j < 82 → True → F1 j = F j) → F1 82 = .inl (.int (sy_i F 82)) → F1 83 = .inl (.int (sy_i F 83)) → F1 84 = .inl (.int (sy_i F 84)) → F1 85 = .inl (.int ((sy_i F 85) + ((1 : Int32)))) → F1 86 = .inl (.long (((sy_l F 86) * ((27 : Int64))) + (((((sy_ai F 2).getD (sy_i F 85).toNatClampNeg 0) - ((97 : Int32))) + ((1 : Int32))).toInt64))) → hd_W Ls xs d jm_M60 Q (6, sy_dL F1 [some (.inl (.ref 31)), some (.inr (.inl 82)), some (.inl (.ref 9)), some (.inr (.inl 83)), some (.inr (.inl 84)), some (.inr (.inl 85)), some (.inr (.inr 86)), none], sy_dS F1 [], sy_dh F1 X1 X2 (iv_H 2), 0, 0)) :
    hd_W Ls xs d jm_M60 Q (6, sy_dL F [some (.inl (.ref 31)), some (.inr (.inl 82)), some (.inl (.ref 9)), some (.inr (.inl 83)), some (.inr (.inl 84)), some (.inr (.inl 85)), some (.inr (.inr 86)), none], sy_dS F [], sy_dh F X1 X2 (iv_H 2), 0, 0) := by
  refine hd_run (s := 2) (nv := 87) (pc := 6) (L := [some (.inl (.ref 31)), some (.inr (.inl 82)), some (.inl (.ref 9)), some (.inr (.inl 83)), some (.inr (.inl 84)), some (.inr (.inl 85)), some (.inr (.inr 86)), none]) (S := []) (uh := hd_ov (iv_id 0 iv_B0) []) (ul := [.inl (.inr (.inl 82)), .inl (.inr (.inl 83)), .inl (.inr (.inl 84)), .inl (.inr (.inl 94)), .inl (.inr (.inr 93))]) (f := true) (sp := [6, 70]) (d0 := 1) (O := [false, false, false]) (T := [(30, [.inr (.inl 85)], [.inr (.inl 2)]), (30, [.inr (.inl 85)], [.inr (.inl 2)]), (14, [.inr (.inr 86), .inl (.long 27)], []), (1, [.inr (.inl 88), .inl (.int 97)], []), (0, [.inr (.inl 90), .inl (.int 1)], []), (21, [.inr (.inl 91)], []), (12, [.inr (.inr 89), .inr (.inr 92)], []), (0, [.inr (.inl 85), .inl (.int 1)], [])]) (P := [(5, .inr (.inl 84), .inr (.inl 85)), (6, .inr (.inl 85), .inl (.ref 2000)), (3, .inr (.inl 87), .inl (.int 97)), (3, .inl (.int 122), .inr (.inl 87)), (6, .inr (.inl 85), .inl (.ref 2000))]) jm_ok60 (by decide +kernel) (by decide +kernel) hd F X1 X2 (fun F' hF hs => ?_)
  have b84 := hd_b (F := F) (F' := F') (k := 84) (hF 84 (by decide))
  have b85 := hd_b (F := F) (F' := F') (k := 85) (hF 85 (by decide))
  have a2 := hd_ba (F := F) (F' := F') (k := 2) (hF 2 (by decide))
  have t87 : sy_dv F' (.inr (.inl 87)) = .int ((sy_ai F 2).getD (sy_i F 85).toNatClampNeg 0) := hd_rd (hs 0 _ rfl) b85 a2
  have b82 := hd_b (F := F) (F' := F') (k := 82) (hF 82 (by decide))
  have b83 := hd_b (F := F) (F' := F') (k := 83) (hF 83 (by decide))
  have t94 : sy_dv F' (.inr (.inl 94)) = .int ((sy_i F 85) + ((1 : Int32))) := hd_o (hs 7 _ rfl) b85 rfl rfl
  have b86 := hd_bl (F := F) (F' := F') (k := 86) (hF 86 (by decide))
  have t89 : sy_dv F' (.inr (.inr 89)) = .long ((sy_l F 86) * ((27 : Int64))) := hd_oL (hs 2 _ rfl) b86 rfl rfl
  have t88 : sy_dv F' (.inr (.inl 88)) = .int ((sy_ai F 2).getD (sy_i F 85).toNatClampNeg 0) := hd_rd (hs 1 _ rfl) b85 a2
  have t90 : sy_dv F' (.inr (.inl 90)) = .int (((sy_ai F 2).getD (sy_i F 85).toNatClampNeg 0) - ((97 : Int32))) := hd_o (hs 3 _ rfl) t88 rfl rfl
  have t91 : sy_dv F' (.inr (.inl 91)) = .int ((((sy_ai F 2).getD (sy_i F 85).toNatClampNeg 0) - ((97 : Int32))) + ((1 : Int32))) := hd_o (hs 4 _ rfl) t90 rfl rfl
  have t92 : sy_dv F' (.inr (.inr 92)) = .long (((((sy_ai F 2).getD (sy_i F 85).toNatClampNeg 0) - ((97 : Int32))) + ((1 : Int32))).toInt64) := hd_uL (hs 5 _ rfl) t91 rfl
  have t93 : sy_dv F' (.inr (.inr 93)) = .long (((sy_l F 86) * ((27 : Int64))) + (((((sy_ai F 2).getD (sy_i F 85).toNatClampNeg 0) - ((97 : Int32))) + ((1 : Int32))).toInt64)) := hd_oL (hs 6 _ rfl) t89 t92 rfl
  have hB' : iv_in F' iv_B0 := iv_in_eq hB (fun j hj => hF j (Nat.lt_of_lt_of_le hj (by decide +kernel)))
  refine ⟨List.forall_mem_cons.mpr ⟨hd_p5 b84 b85 h0, List.forall_mem_cons.mpr ⟨hd_pb b85 (by first | exact h1 | exact h1), List.forall_mem_cons.mpr ⟨hd_p3 t87 rfl (by have hc : ((97) : Int32).toInt = 97 := (by decide); omega), List.forall_mem_cons.mpr ⟨hd_p3 rfl t87 (by have hc : ((122) : Int32).toInt = 122 := (by decide); omega), List.forall_mem_cons.mpr ⟨hd_pb b85 (by first | exact h4 | exact h4), fun _ h => absurd h List.not_mem_nil⟩⟩⟩⟩⟩, ?_⟩
  refine k _ ?_ ?_ ?_ ?_ ?_ ?_
  · exact fun j hj _ => (hd_keep hB' (Nat.lt_of_lt_of_le hj (by decide +kernel)) (by simp)).trans (hF j (by omega))
  · exact hd_gi (x := .inr (.inl 82)) (by decide +kernel) b82
  · exact hd_gi (x := .inr (.inl 83)) (by decide +kernel) b83
  · exact hd_gi (x := .inr (.inl 84)) (by decide +kernel) b84
  · exact hd_gi (x := .inr (.inl 94)) (by decide +kernel) t94
  · exact hd_gl (x := .inr (.inr 93)) (by decide +kernel) t93
theorem cw2_73_0 {Ls : Nat} {xs : Nat → Int32} {d : Nat} {Q : Option Value → jm_h → Prop} (hd : 2 ≤ d) (F : Nat → sy_d) (X1 X2 : List jm_c) (hB : iv_in F iv_B0)
    (h0 : 0 ≤ (sy_i F 84).toInt ∧ (sy_i F 84).toInt < 401)
    (k : ∀ F1 : Nat → sy_d, (∀ j, j < 82 → j ≠ 39 → F1 j = F j) → F1 39 = .inr (.inl (jm_upd (sy_ai F 39) (sy_i F 84).toNatClampNeg (sy_i F 85))) → Q (some (.int (sy_i F 82))) (sy_dh F1 X1 X2 (iv_H 2))) :
    hd_W Ls xs d jm_M60 Q (73, sy_dL F [none, none, none, none, none, some (.inr (.inl 82)), none, none], sy_dS F [.inr (.inl 85), .inr (.inl 84), .inl (.ref 32)], sy_dh F X1 X2 (iv_H 2), 0, 0) := by
  refine hd_ret (s := 2) (nv := 86) (v := some (.inr (.inl 82))) (uh := hd_ov (iv_id 0 iv_B0) [(39, .inr (.inr (.inl 86)))]) (f := false) (sp := [6, 70]) (d0 := 1) (O := []) (T := [(40, [.inr (.inl 84), .inr (.inl 85)], [.inr (.inl 39)])]) (P := [(6, .inr (.inl 84), .inl (.ref 401))]) jm_ok60 (by decide +kernel) (by decide +kernel) hd F X1 X2 (fun F' hF hs => ?_)
  have b84 := hd_b (F := F) (F' := F') (k := 84) (hF 84 (by decide))
  have b85 := hd_b (F := F) (F' := F') (k := 85) (hF 85 (by decide))
  have a39 := hd_ba (F := F) (F' := F') (k := 39) (hF 39 (by decide))
  have t86 : sy_da F' (.inr (.inl 86)) = .inl (jm_upd (sy_ai F 39) (sy_i F 84).toNatClampNeg (sy_i F 85)) := hd_up (hs 0 _ rfl) b84 b85 a39
  have b82 := hd_b (F := F) (F' := F') (k := 82) (hF 82 (by decide))
  have hB' : iv_in F' iv_B0 := iv_in_eq hB (fun j hj => hF j (Nat.lt_of_lt_of_le hj (by decide +kernel)))
  have hk := k (sy_cm F' (hd_ov (iv_id 0 iv_B0) [(39, .inr (.inr (.inl 86)))] ++ [])) (fun j hj hn => (hd_keep hB' (Nat.lt_of_lt_of_le hj (by decide +kernel)) (by simp; omega)).trans (hF j (by omega))) (hd_ga (a := .inr (.inl 86)) (by decide +kernel) t86)
  refine ⟨List.forall_mem_cons.mpr ⟨hd_pb b84 (by first | exact h0 | exact h0), fun _ h => absurd h List.not_mem_nil⟩, ?_⟩
  show Q (some (sy_dv F' (.inr (.inl 82)))) _
  rw [b82]
  exact hk
theorem cw3_0_0 {Ls : Nat} {xs : Nat → Int32} {d : Nat} {Q : Option Value → jm_h → Prop} (hd : 2 ≤ d) (F : Nat → sy_d) (X1 X2 : List jm_c) (hB : iv_in F iv_B0)
    (k : ∀ F1 : Nat → sy_d, (∀ j, j < 82 → True → F1 j = F j) → F1 82 = .inl (.int (sy_i F 82)) → F1 83 = .inl (.int (sy_i F 83)) → F1 84 = .inl (.int (sy_i F 84)) → F1 85 = .inl (.int (sy_i F 83)) → F1 86 = .inl (.long ((0 : Int64))) → hd_W Ls xs d jm_M60 Q (6, sy_dL F1 [some (.inl (.ref 31)), some (.inr (.inl 82)), some (.inl (.ref 9)), some (.inr (.inl 83)), some (.inr (.inl 84)), some (.inr (.inl 85)), some (.inr (.inr 86)), none], sy_dS F1 [], sy_dh F1 X1 X2 (iv_H 3), 0, 0)) :
    hd_W Ls xs d jm_M60 Q (0, sy_dL F [some (.inl (.ref 31)), some (.inr (.inl 82)), some (.inl (.ref 9)), some (.inr (.inl 83)), some (.inr (.inl 84)), none, none, none], sy_dS F [], sy_dh F X1 X2 (iv_H 3), 0, 0) := by
  refine hd_run (s := 3) (nv := 85) (pc := 6) (L := [some (.inl (.ref 31)), some (.inr (.inl 82)), some (.inl (.ref 9)), some (.inr (.inl 83)), some (.inr (.inl 84)), some (.inr (.inl 85)), some (.inr (.inr 86)), none]) (S := []) (uh := hd_ov (iv_id 0 iv_B0) []) (ul := [.inl (.inr (.inl 82)), .inl (.inr (.inl 83)), .inl (.inr (.inl 84)), .inl (.inr (.inl 83)), .inl (.inl (.long 0))]) (f := true) (sp := [6, 70]) (d0 := 1) (O := []) (T := []) (P := []) jm_ok60 (by decide +kernel) (by decide +kernel) hd F X1 X2 (fun F' hF hs => ?_)
  have b82 := hd_b (F := F) (F' := F') (k := 82) (hF 82 (by decide))
  have b83 := hd_b (F := F) (F' := F') (k := 83) (hF 83 (by decide))
  have b84 := hd_b (F := F) (F' := F') (k := 84) (hF 84 (by decide))
  have hB' : iv_in F' iv_B0 := iv_in_eq hB (fun j hj => hF j (Nat.lt_of_lt_of_le hj (by decide +kernel)))
  refine ⟨fun _ h => absurd h List.not_mem_nil, ?_⟩
  refine k _ ?_ ?_ ?_ ?_ ?_ ?_
  · exact fun j hj _ => (hd_keep hB' (Nat.lt_of_lt_of_le hj (by decide +kernel)) (by simp)).trans (hF j (by omega))
  · exact hd_gi (x := .inr (.inl 82)) (by decide +kernel) b82
  · exact hd_gi (x := .inr (.inl 83)) (by decide +kernel) b83
  · exact hd_gi (x := .inr (.inl 84)) (by decide +kernel) b84
  · exact hd_gi (x := .inr (.inl 83)) (by decide +kernel) b83
  · exact hd_gl (x := .inl (.long 0)) (by decide +kernel) rfl
theorem cw3_6_0 {Ls : Nat} {xs : Nat → Int32} {d : Nat} {Q : Option Value → jm_h → Prop} (hd : 2 ≤ d) (F : Nat → sy_d) (X1 X2 : List jm_c) (hB : iv_in F iv_B0)
    (h0 : (sy_i F 84).toInt ≤ (sy_i F 85).toInt)
    (h1 : 0 ≤ (sy_i F 82).toInt ∧ (sy_i F 82).toInt < 401)
    (h2 : ((sy_i F 85) - (sy_i F 83)).toInt ≤ 8)
    (k : ∀ F1 : Nat → sy_d, (∀ j, j < 82 → j ≠ 41 → F1 j = F j) → F1 41 = .inr (.inr (jm_updL (sy_al F 41) (sy_i F 82).toNatClampNeg (sy_l F 86))) → F1 82 = .inl (.int (sy_i F 85)) → F1 83 = .inl (.long (sy_l F 86)) → F1 84 = .inl (.int (sy_i F 82)) → hd_W Ls xs d jm_M60 Q (70, sy_dL F1 [none, none, none, none, none, some (.inr (.inl 82)), none, none], sy_dS F1 [.inr (.inr 83), .inl (.ref 31), .inr (.inl 84), .inl (.ref 32)], sy_dh F1 X1 X2 (iv_H 3), 0, 0)) :
    hd_W Ls xs d jm_M60 Q (6, sy_dL F [some (.inl (.ref 31)), some (.inr (.inl 82)), some (.inl (.ref 9)), some (.inr (.inl 83)), some (.inr (.inl 84)), some (.inr (.inl 85)), some (.inr (.inr 86)), none], sy_dS F [], sy_dh F X1 X2 (iv_H 3), 0, 0) := by
  refine hd_run (s := 3) (nv := 87) (pc := 70) (L := [none, none, none, none, none, some (.inr (.inl 82)), none, none]) (S := [.inr (.inr 83), .inl (.ref 31), .inr (.inl 84), .inl (.ref 32)]) (uh := hd_ov (iv_id 0 iv_B0) [(41, .inr (.inr (.inr 87)))]) (ul := [.inl (.inr (.inl 85)), .inl (.inr (.inr 86)), .inl (.inr (.inl 82))]) (f := true) (sp := [6, 70]) (d0 := 1) (O := [true, true]) (T := [(40, [.inr (.inl 82), .inr (.inr 86)], [.inr (.inr 41)]), (1, [.inr (.inl 85), .inr (.inl 83)], [])]) (P := [(4, .inr (.inl 84), .inr (.inl 85)), (6, .inr (.inl 82), .inl (.ref 401)), (4, .inr (.inl 88), .inl (.int 8))]) jm_ok60 (by decide +kernel) (by decide +kernel) hd F X1 X2 (fun F' hF hs => ?_)
  have b84 := hd_b (F := F) (F' := F') (k := 84) (hF 84 (by decide))
  have b85 := hd_b (F := F) (F' := F') (k := 85) (hF 85 (by decide))
  have b82 := hd_b (F := F) (F' := F') (k := 82) (hF 82 (by decide))
  have b83 := hd_b (F := F) (F' := F') (k := 83) (hF 83 (by decide))
  have t88 : sy_dv F' (.inr (.inl 88)) = .int ((sy_i F 85) - (sy_i F 83)) := hd_o (hs 1 _ rfl) b85 b83 rfl
  have b86 := hd_bl (F := F) (F' := F') (k := 86) (hF 86 (by decide))
  have a41 := hd_bA (F := F) (F' := F') (k := 41) (hF 41 (by decide))
  have t87 : sy_da F' (.inr (.inr 87)) = .inr (jm_updL (sy_al F 41) (sy_i F 82).toNatClampNeg (sy_l F 86)) := hd_uA (hs 0 _ rfl) b82 b86 a41
  have hB' : iv_in F' iv_B0 := iv_in_eq hB (fun j hj => hF j (Nat.lt_of_lt_of_le hj (by decide +kernel)))
  refine ⟨List.forall_mem_cons.mpr ⟨hd_p4 b84 b85 h0, List.forall_mem_cons.mpr ⟨hd_pb b82 (by first | exact h1 | exact h1), List.forall_mem_cons.mpr ⟨hd_p4 t88 rfl (by have hc : ((8) : Int32).toInt = 8 := (by decide); omega), fun _ h => absurd h List.not_mem_nil⟩⟩⟩, ?_⟩
  refine k _ ?_ ?_ ?_ ?_ ?_
  · exact fun j hj hn => (hd_keep hB' (Nat.lt_of_lt_of_le hj (by decide +kernel)) (by simp; omega)).trans (hF j (by omega))
  · exact hd_gA (a := .inr (.inr 87)) (by decide +kernel) t87
  · exact hd_gi (x := .inr (.inl 85)) (by decide +kernel) b85
  · exact hd_gl (x := .inr (.inr 86)) (by decide +kernel) b86
  · exact hd_gi (x := .inr (.inl 82)) (by decide +kernel) b82
theorem cw3_6_1 {Ls : Nat} {xs : Nat → Int32} {d : Nat} {Q : Option Value → jm_h → Prop} (hd : 2 ≤ d) (F : Nat → sy_d) (X1 X2 : List jm_c) (hB : iv_in F iv_B0)
    (h0 : (sy_i F 84).toInt ≤ (sy_i F 85).toInt)
    (h1 : 0 ≤ (sy_i F 82).toInt ∧ (sy_i F 82).toInt < 401)
    (h2 : 8 < ((sy_i F 85) - (sy_i F 83)).toInt)
    (h3 : 0 ≤ (sy_i F 82).toInt ∧ (sy_i F 82).toInt < 401)
    (k : ∀ F1 : Nat → sy_d, (∀ j, j < 82 → j ≠ 39 ∧ j ≠ 41 → F1 j = F j) → F1 39 = .inr (.inl (jm_upd (sy_ai F 39) (sy_i F 82).toNatClampNeg ((25 : Int32)))) → F1 41 = .inr (.inr (jm_updL (sy_al F 41) (sy_i F 82).toNatClampNeg (sy_l F 86))) → Q (some (.int (sy_i F 85))) (sy_dh F1 X1 X2 (iv_H 3))) :
    hd_W Ls xs d jm_M60 Q (6, sy_dL F [some (.inl (.ref 31)), some (.inr (.inl 82)), some (.inl (.ref 9)), some (.inr (.inl 83)), some (.inr (.inl 84)), some (.inr (.inl 85)), some (.inr (.inr 86)), none], sy_dS F [], sy_dh F X1 X2 (iv_H 3), 0, 0) := by
  refine hd_ret (s := 3) (nv := 87) (v := some (.inr (.inl 85))) (uh := hd_ov (iv_id 0 iv_B0) [(39, .inr (.inr (.inl 89))), (41, .inr (.inr (.inr 87)))]) (f := true) (sp := [6, 70]) (d0 := 1) (O := [true, false]) (T := [(40, [.inr (.inl 82), .inr (.inr 86)], [.inr (.inr 41)]), (1, [.inr (.inl 85), .inr (.inl 83)], []), (40, [.inr (.inl 82), .inl (.int 25)], [.inr (.inl 39)])]) (P := [(4, .inr (.inl 84), .inr (.inl 85)), (6, .inr (.inl 82), .inl (.ref 401)), (5, .inr (.inl 88), .inl (.int 8)), (6, .inr (.inl 82), .inl (.ref 401))]) jm_ok60 (by decide +kernel) (by decide +kernel) hd F X1 X2 (fun F' hF hs => ?_)
  have b84 := hd_b (F := F) (F' := F') (k := 84) (hF 84 (by decide))
  have b85 := hd_b (F := F) (F' := F') (k := 85) (hF 85 (by decide))
  have b82 := hd_b (F := F) (F' := F') (k := 82) (hF 82 (by decide))
  have b83 := hd_b (F := F) (F' := F') (k := 83) (hF 83 (by decide))
  have t88 : sy_dv F' (.inr (.inl 88)) = .int ((sy_i F 85) - (sy_i F 83)) := hd_o (hs 1 _ rfl) b85 b83 rfl
  have a39 := hd_ba (F := F) (F' := F') (k := 39) (hF 39 (by decide))
  have t89 : sy_da F' (.inr (.inl 89)) = .inl (jm_upd (sy_ai F 39) (sy_i F 82).toNatClampNeg ((25 : Int32))) := hd_up (hs 2 _ rfl) b82 rfl a39
  have b86 := hd_bl (F := F) (F' := F') (k := 86) (hF 86 (by decide))
  have a41 := hd_bA (F := F) (F' := F') (k := 41) (hF 41 (by decide))
  have t87 : sy_da F' (.inr (.inr 87)) = .inr (jm_updL (sy_al F 41) (sy_i F 82).toNatClampNeg (sy_l F 86)) := hd_uA (hs 0 _ rfl) b82 b86 a41
  have hB' : iv_in F' iv_B0 := iv_in_eq hB (fun j hj => hF j (Nat.lt_of_lt_of_le hj (by decide +kernel)))
  have hk := k (sy_cm F' (hd_ov (iv_id 0 iv_B0) [(39, .inr (.inr (.inl 89))), (41, .inr (.inr (.inr 87)))] ++ [])) (fun j hj hn => (hd_keep hB' (Nat.lt_of_lt_of_le hj (by decide +kernel)) (by simp; omega)).trans (hF j (by omega))) (hd_ga (a := .inr (.inl 89)) (by decide +kernel) t89) (hd_gA (a := .inr (.inr 87)) (by decide +kernel) t87)
  refine ⟨List.forall_mem_cons.mpr ⟨hd_p4 b84 b85 h0, List.forall_mem_cons.mpr ⟨hd_pb b82 (by first | exact h1 | exact h1), List.forall_mem_cons.mpr ⟨hd_p5 t88 rfl (by have hc : ((8) : Int32).toInt = 8 := (by decide); omega), List.forall_mem_cons.mpr ⟨hd_pb b82 (by first | exact h3 | exact h3), fun _ h => absurd h List.not_mem_nil⟩⟩⟩⟩, ?_⟩
  show Q (some (sy_dv F' (.inr (.inl 85)))) _
  rw [b85]
  exact hk
theorem cw3_6_2 {Ls : Nat} {xs : Nat → Int32} {d : Nat} {Q : Option Value → jm_h → Prop} (hd : 2 ≤ d) (F : Nat → sy_d) (X1 X2 : List jm_c) (hB : iv_in F iv_B0)
    (h0 : (sy_i F 85).toInt < (sy_i F 84).toInt)
    (h1 : 0 ≤ (sy_i F 85).toInt ∧ (sy_i F 85).toInt < 2000)
    (h2 : ((sy_ai F 2).getD (sy_i F 85).toNatClampNeg 0).toInt < 97)
    (h3 : 0 ≤ (sy_i F 82).toInt ∧ (sy_i F 82).toInt < 401)
    (h4 : ((sy_i F 85) - (sy_i F 83)).toInt ≤ 8)
    (k : ∀ F1 : Nat → sy_d, (∀ j, j < 82 → j ≠ 41 → F1 j = F j) → F1 41 = .inr (.inr (jm_updL (sy_al F 41) (sy_i F 82).toNatClampNeg (sy_l F 86))) → F1 82 = .inl (.int (sy_i F 85)) → F1 83 = .inl (.long (sy_l F 86)) → F1 84 = .inl (.int (sy_i F 82)) → hd_W Ls xs d jm_M60 Q (70, sy_dL F1 [none, none, none, none, none, some (.inr (.inl 82)), none, none], sy_dS F1 [.inr (.inr 83), .inl (.ref 31), .inr (.inl 84), .inl (.ref 32)], sy_dh F1 X1 X2 (iv_H 3), 0, 0)) :
    hd_W Ls xs d jm_M60 Q (6, sy_dL F [some (.inl (.ref 31)), some (.inr (.inl 82)), some (.inl (.ref 9)), some (.inr (.inl 83)), some (.inr (.inl 84)), some (.inr (.inl 85)), some (.inr (.inr 86)), none], sy_dS F [], sy_dh F X1 X2 (iv_H 3), 0, 0) := by
  refine hd_run (s := 3) (nv := 87) (pc := 70) (L := [none, none, none, none, none, some (.inr (.inl 82)), none, none]) (S := [.inr (.inr 83), .inl (.ref 31), .inr (.inl 84), .inl (.ref 32)]) (uh := hd_ov (iv_id 0 iv_B0) [(41, .inr (.inr (.inr 88)))]) (ul := [.inl (.inr (.inl 85)), .inl (.inr (.inr 86)), .inl (.inr (.inl 82))]) (f := true) (sp := [6, 70]) (d0 := 1) (O := [false, true, true]) (T := [(30, [.inr (.inl 85)], [.inr (.inl 2)]), (40, [.inr (.inl 82), .inr (.inr 86)], [.inr (.inr 41)]), (1, [.inr (.inl 85), .inr (.inl 83)], [])]) (P := [(5, .inr (.inl 84), .inr (.inl 85)), (6, .inr (.inl 85), .inl (.ref 2000)), (2, .inr (.inl 87), .inl (.int 97)), (6, .inr (.inl 82), .inl (.ref 401)), (4, .inr (.inl 89), .inl (.int 8))]) jm_ok60 (by decide +kernel) (by decide +kernel) hd F X1 X2 (fun F' hF hs => ?_)
  have b84 := hd_b (F := F) (F' := F') (k := 84) (hF 84 (by decide))
  have b85 := hd_b (F := F) (F' := F') (k := 85) (hF 85 (by decide))
  have a2 := hd_ba (F := F) (F' := F') (k := 2) (hF 2 (by decide))
  have t87 : sy_dv F' (.inr (.inl 87)) = .int ((sy_ai F 2).getD (sy_i F 85).toNatClampNeg 0) := hd_rd (hs 0 _ rfl) b85 a2
  have b82 := hd_b (F := F) (F' := F') (k := 82) (hF 82 (by decide))
  have b83 := hd_b (F := F) (F' := F') (k := 83) (hF 83 (by decide))
  have t89 : sy_dv F' (.inr (.inl 89)) = .int ((sy_i F 85) - (sy_i F 83)) := hd_o (hs 2 _ rfl) b85 b83 rfl
  have b86 := hd_bl (F := F) (F' := F') (k := 86) (hF 86 (by decide))
  have a41 := hd_bA (F := F) (F' := F') (k := 41) (hF 41 (by decide))
  have t88 : sy_da F' (.inr (.inr 88)) = .inr (jm_updL (sy_al F 41) (sy_i F 82).toNatClampNeg (sy_l F 86)) := hd_uA (hs 1 _ rfl) b82 b86 a41
  have hB' : iv_in F' iv_B0 := iv_in_eq hB (fun j hj => hF j (Nat.lt_of_lt_of_le hj (by decide +kernel)))
  refine ⟨List.forall_mem_cons.mpr ⟨hd_p5 b84 b85 h0, List.forall_mem_cons.mpr ⟨hd_pb b85 (by first | exact h1 | exact h1), List.forall_mem_cons.mpr ⟨hd_p2 t87 rfl (by have hc : ((97) : Int32).toInt = 97 := (by decide); omega), List.forall_mem_cons.mpr ⟨hd_pb b82 (by first | exact h3 | exact h3), List.forall_mem_cons.mpr ⟨hd_p4 t89 rfl (by have hc : ((8) : Int32).toInt = 8 := (by decide); omega), fun _ h => absurd h List.not_mem_nil⟩⟩⟩⟩⟩, ?_⟩
  refine k _ ?_ ?_ ?_ ?_ ?_
  · exact fun j hj hn => (hd_keep hB' (Nat.lt_of_lt_of_le hj (by decide +kernel)) (by simp; omega)).trans (hF j (by omega))
  · exact hd_gA (a := .inr (.inr 88)) (by decide +kernel) t88
  · exact hd_gi (x := .inr (.inl 85)) (by decide +kernel) b85
  · exact hd_gl (x := .inr (.inr 86)) (by decide +kernel) b86
  · exact hd_gi (x := .inr (.inl 82)) (by decide +kernel) b82
theorem cw3_6_3 {Ls : Nat} {xs : Nat → Int32} {d : Nat} {Q : Option Value → jm_h → Prop} (hd : 2 ≤ d) (F : Nat → sy_d) (X1 X2 : List jm_c) (hB : iv_in F iv_B0)
    (h0 : (sy_i F 85).toInt < (sy_i F 84).toInt)
    (h1 : 0 ≤ (sy_i F 85).toInt ∧ (sy_i F 85).toInt < 2000)
    (h2 : ((sy_ai F 2).getD (sy_i F 85).toNatClampNeg 0).toInt < 97)
    (h3 : 0 ≤ (sy_i F 82).toInt ∧ (sy_i F 82).toInt < 401)
    (h4 : 8 < ((sy_i F 85) - (sy_i F 83)).toInt)
    (h5 : 0 ≤ (sy_i F 82).toInt ∧ (sy_i F 82).toInt < 401)
    (k : ∀ F1 : Nat → sy_d, (∀ j, j < 82 → j ≠ 39 ∧ j ≠ 41 → F1 j = F j) → F1 39 = .inr (.inl (jm_upd (sy_ai F 39) (sy_i F 82).toNatClampNeg ((25 : Int32)))) → F1 41 = .inr (.inr (jm_updL (sy_al F 41) (sy_i F 82).toNatClampNeg (sy_l F 86))) → Q (some (.int (sy_i F 85))) (sy_dh F1 X1 X2 (iv_H 3))) :
    hd_W Ls xs d jm_M60 Q (6, sy_dL F [some (.inl (.ref 31)), some (.inr (.inl 82)), some (.inl (.ref 9)), some (.inr (.inl 83)), some (.inr (.inl 84)), some (.inr (.inl 85)), some (.inr (.inr 86)), none], sy_dS F [], sy_dh F X1 X2 (iv_H 3), 0, 0) := by
  refine hd_ret (s := 3) (nv := 87) (v := some (.inr (.inl 85))) (uh := hd_ov (iv_id 0 iv_B0) [(39, .inr (.inr (.inl 90))), (41, .inr (.inr (.inr 88)))]) (f := true) (sp := [6, 70]) (d0 := 1) (O := [false, true, false]) (T := [(30, [.inr (.inl 85)], [.inr (.inl 2)]), (40, [.inr (.inl 82), .inr (.inr 86)], [.inr (.inr 41)]), (1, [.inr (.inl 85), .inr (.inl 83)], []), (40, [.inr (.inl 82), .inl (.int 25)], [.inr (.inl 39)])]) (P := [(5, .inr (.inl 84), .inr (.inl 85)), (6, .inr (.inl 85), .inl (.ref 2000)), (2, .inr (.inl 87), .inl (.int 97)), (6, .inr (.inl 82), .inl (.ref 401)), (5, .inr (.inl 89), .inl (.int 8)), (6, .inr (.inl 82), .inl (.ref 401))]) jm_ok60 (by decide +kernel) (by decide +kernel) hd F X1 X2 (fun F' hF hs => ?_)
  have b84 := hd_b (F := F) (F' := F') (k := 84) (hF 84 (by decide))
  have b85 := hd_b (F := F) (F' := F') (k := 85) (hF 85 (by decide))
  have a2 := hd_ba (F := F) (F' := F') (k := 2) (hF 2 (by decide))
  have t87 : sy_dv F' (.inr (.inl 87)) = .int ((sy_ai F 2).getD (sy_i F 85).toNatClampNeg 0) := hd_rd (hs 0 _ rfl) b85 a2
  have b82 := hd_b (F := F) (F' := F') (k := 82) (hF 82 (by decide))
  have b83 := hd_b (F := F) (F' := F') (k := 83) (hF 83 (by decide))
  have t89 : sy_dv F' (.inr (.inl 89)) = .int ((sy_i F 85) - (sy_i F 83)) := hd_o (hs 2 _ rfl) b85 b83 rfl
  have a39 := hd_ba (F := F) (F' := F') (k := 39) (hF 39 (by decide))
  have t90 : sy_da F' (.inr (.inl 90)) = .inl (jm_upd (sy_ai F 39) (sy_i F 82).toNatClampNeg ((25 : Int32))) := hd_up (hs 3 _ rfl) b82 rfl a39
  have b86 := hd_bl (F := F) (F' := F') (k := 86) (hF 86 (by decide))
  have a41 := hd_bA (F := F) (F' := F') (k := 41) (hF 41 (by decide))
  have t88 : sy_da F' (.inr (.inr 88)) = .inr (jm_updL (sy_al F 41) (sy_i F 82).toNatClampNeg (sy_l F 86)) := hd_uA (hs 1 _ rfl) b82 b86 a41
  have hB' : iv_in F' iv_B0 := iv_in_eq hB (fun j hj => hF j (Nat.lt_of_lt_of_le hj (by decide +kernel)))
  have hk := k (sy_cm F' (hd_ov (iv_id 0 iv_B0) [(39, .inr (.inr (.inl 90))), (41, .inr (.inr (.inr 88)))] ++ [])) (fun j hj hn => (hd_keep hB' (Nat.lt_of_lt_of_le hj (by decide +kernel)) (by simp; omega)).trans (hF j (by omega))) (hd_ga (a := .inr (.inl 90)) (by decide +kernel) t90) (hd_gA (a := .inr (.inr 88)) (by decide +kernel) t88)
  refine ⟨List.forall_mem_cons.mpr ⟨hd_p5 b84 b85 h0, List.forall_mem_cons.mpr ⟨hd_pb b85 (by first | exact h1 | exact h1), List.forall_mem_cons.mpr ⟨hd_p2 t87 rfl (by have hc : ((97) : Int32).toInt = 97 := (by decide); omega), List.forall_mem_cons.mpr ⟨hd_pb b82 (by first | exact h3 | exact h3), List.forall_mem_cons.mpr ⟨hd_p5 t89 rfl (by have hc : ((8) : Int32).toInt = 8 := (by decide); omega), List.forall_mem_cons.mpr ⟨hd_pb b82 (by first | exact h5 | exact h5), fun _ h => absurd h List.not_mem_nil⟩⟩⟩⟩⟩⟩, ?_⟩
  show Q (some (sy_dv F' (.inr (.inl 85)))) _
  rw [b85]
  exact hk
theorem cw3_6_4 {Ls : Nat} {xs : Nat → Int32} {d : Nat} {Q : Option Value → jm_h → Prop} (hd : 2 ≤ d) (F : Nat → sy_d) (X1 X2 : List jm_c) (hB : iv_in F iv_B0)
    (h0 : (sy_i F 85).toInt < (sy_i F 84).toInt)
    (h1 : 0 ≤ (sy_i F 85).toInt ∧ (sy_i F 85).toInt < 2000)
    (h2 : 97 ≤ ((sy_ai F 2).getD (sy_i F 85).toNatClampNeg 0).toInt)
    (h3 : 122 < ((sy_ai F 2).getD (sy_i F 85).toNatClampNeg 0).toInt)
    (h4 : 0 ≤ (sy_i F 82).toInt ∧ (sy_i F 82).toInt < 401)
    (h5 : ((sy_i F 85) - (sy_i F 83)).toInt ≤ 8)
    (k : ∀ F1 : Nat → sy_d, (∀ j, j < 82 → j ≠ 41 → F1 j = F j) → F1 41 = .inr (.inr (jm_updL (sy_al F 41) (sy_i F 82).toNatClampNeg (sy_l F 86))) → F1 82 = .inl (.int (sy_i F 85)) → F1 83 = .inl (.long (sy_l F 86)) → F1 84 = .inl (.int (sy_i F 82)) → hd_W Ls xs d jm_M60 Q (70, sy_dL F1 [none, none, none, none, none, some (.inr (.inl 82)), none, none], sy_dS F1 [.inr (.inr 83), .inl (.ref 31), .inr (.inl 84), .inl (.ref 32)], sy_dh F1 X1 X2 (iv_H 3), 0, 0)) :
    hd_W Ls xs d jm_M60 Q (6, sy_dL F [some (.inl (.ref 31)), some (.inr (.inl 82)), some (.inl (.ref 9)), some (.inr (.inl 83)), some (.inr (.inl 84)), some (.inr (.inl 85)), some (.inr (.inr 86)), none], sy_dS F [], sy_dh F X1 X2 (iv_H 3), 0, 0) := by
  refine hd_run (s := 3) (nv := 87) (pc := 70) (L := [none, none, none, none, none, some (.inr (.inl 82)), none, none]) (S := [.inr (.inr 83), .inl (.ref 31), .inr (.inl 84), .inl (.ref 32)]) (uh := hd_ov (iv_id 0 iv_B0) [(41, .inr (.inr (.inr 88)))]) (ul := [.inl (.inr (.inl 85)), .inl (.inr (.inr 86)), .inl (.inr (.inl 82))]) (f := true) (sp := [6, 70]) (d0 := 1) (O := [false, false, true, true]) (T := [(30, [.inr (.inl 85)], [.inr (.inl 2)]), (40, [.inr (.inl 82), .inr (.inr 86)], [.inr (.inr 41)]), (1, [.inr (.inl 85), .inr (.inl 83)], [])]) (P := [(5, .inr (.inl 84), .inr (.inl 85)), (6, .inr (.inl 85), .inl (.ref 2000)), (3, .inr (.inl 87), .inl (.int 97)), (2, .inl (.int 122), .inr (.inl 87)), (6, .inr (.inl 82), .inl (.ref 401)), (4, .inr (.inl 89), .inl (.int 8))]) jm_ok60 (by decide +kernel) (by decide +kernel) hd F X1 X2 (fun F' hF hs => ?_)
  have b84 := hd_b (F := F) (F' := F') (k := 84) (hF 84 (by decide))
  have b85 := hd_b (F := F) (F' := F') (k := 85) (hF 85 (by decide))
  have a2 := hd_ba (F := F) (F' := F') (k := 2) (hF 2 (by decide))
  have t87 : sy_dv F' (.inr (.inl 87)) = .int ((sy_ai F 2).getD (sy_i F 85).toNatClampNeg 0) := hd_rd (hs 0 _ rfl) b85 a2
  have b82 := hd_b (F := F) (F' := F') (k := 82) (hF 82 (by decide))
  have b83 := hd_b (F := F) (F' := F') (k := 83) (hF 83 (by decide))
  have t89 : sy_dv F' (.inr (.inl 89)) = .int ((sy_i F 85) - (sy_i F 83)) := hd_o (hs 2 _ rfl) b85 b83 rfl
  have b86 := hd_bl (F := F) (F' := F') (k := 86) (hF 86 (by decide))
  have a41 := hd_bA (F := F) (F' := F') (k := 41) (hF 41 (by decide))
  have t88 : sy_da F' (.inr (.inr 88)) = .inr (jm_updL (sy_al F 41) (sy_i F 82).toNatClampNeg (sy_l F 86)) := hd_uA (hs 1 _ rfl) b82 b86 a41
  have hB' : iv_in F' iv_B0 := iv_in_eq hB (fun j hj => hF j (Nat.lt_of_lt_of_le hj (by decide +kernel)))
  refine ⟨List.forall_mem_cons.mpr ⟨hd_p5 b84 b85 h0, List.forall_mem_cons.mpr ⟨hd_pb b85 (by first | exact h1 | exact h1), List.forall_mem_cons.mpr ⟨hd_p3 t87 rfl (by have hc : ((97) : Int32).toInt = 97 := (by decide); omega), List.forall_mem_cons.mpr ⟨hd_p2 rfl t87 (by have hc : ((122) : Int32).toInt = 122 := (by decide); omega), List.forall_mem_cons.mpr ⟨hd_pb b82 (by first | exact h4 | exact h4), List.forall_mem_cons.mpr ⟨hd_p4 t89 rfl (by have hc : ((8) : Int32).toInt = 8 := (by decide); omega), fun _ h => absurd h List.not_mem_nil⟩⟩⟩⟩⟩⟩, ?_⟩
  refine k _ ?_ ?_ ?_ ?_ ?_
  · exact fun j hj hn => (hd_keep hB' (Nat.lt_of_lt_of_le hj (by decide +kernel)) (by simp; omega)).trans (hF j (by omega))
  · exact hd_gA (a := .inr (.inr 88)) (by decide +kernel) t88
  · exact hd_gi (x := .inr (.inl 85)) (by decide +kernel) b85
  · exact hd_gl (x := .inr (.inr 86)) (by decide +kernel) b86
  · exact hd_gi (x := .inr (.inl 82)) (by decide +kernel) b82
theorem cw3_6_5 {Ls : Nat} {xs : Nat → Int32} {d : Nat} {Q : Option Value → jm_h → Prop} (hd : 2 ≤ d) (F : Nat → sy_d) (X1 X2 : List jm_c) (hB : iv_in F iv_B0)
    (h0 : (sy_i F 85).toInt < (sy_i F 84).toInt)
    (h1 : 0 ≤ (sy_i F 85).toInt ∧ (sy_i F 85).toInt < 2000)
    (h2 : 97 ≤ ((sy_ai F 2).getD (sy_i F 85).toNatClampNeg 0).toInt)
    (h3 : 122 < ((sy_ai F 2).getD (sy_i F 85).toNatClampNeg 0).toInt)
    (h4 : 0 ≤ (sy_i F 82).toInt ∧ (sy_i F 82).toInt < 401)
    (h5 : 8 < ((sy_i F 85) - (sy_i F 83)).toInt)
    (h6 : 0 ≤ (sy_i F 82).toInt ∧ (sy_i F 82).toInt < 401)
    (k : ∀ F1 : Nat → sy_d, (∀ j, j < 82 → j ≠ 39 ∧ j ≠ 41 → F1 j = F j) → F1 39 = .inr (.inl (jm_upd (sy_ai F 39) (sy_i F 82).toNatClampNeg ((25 : Int32)))) → F1 41 = .inr (.inr (jm_updL (sy_al F 41) (sy_i F 82).toNatClampNeg (sy_l F 86))) → Q (some (.int (sy_i F 85))) (sy_dh F1 X1 X2 (iv_H 3))) :
    hd_W Ls xs d jm_M60 Q (6, sy_dL F [some (.inl (.ref 31)), some (.inr (.inl 82)), some (.inl (.ref 9)), some (.inr (.inl 83)), some (.inr (.inl 84)), some (.inr (.inl 85)), some (.inr (.inr 86)), none], sy_dS F [], sy_dh F X1 X2 (iv_H 3), 0, 0) := by
  refine hd_ret (s := 3) (nv := 87) (v := some (.inr (.inl 85))) (uh := hd_ov (iv_id 0 iv_B0) [(39, .inr (.inr (.inl 90))), (41, .inr (.inr (.inr 88)))]) (f := true) (sp := [6, 70]) (d0 := 1) (O := [false, false, true, false]) (T := [(30, [.inr (.inl 85)], [.inr (.inl 2)]), (40, [.inr (.inl 82), .inr (.inr 86)], [.inr (.inr 41)]), (1, [.inr (.inl 85), .inr (.inl 83)], []), (40, [.inr (.inl 82), .inl (.int 25)], [.inr (.inl 39)])]) (P := [(5, .inr (.inl 84), .inr (.inl 85)), (6, .inr (.inl 85), .inl (.ref 2000)), (3, .inr (.inl 87), .inl (.int 97)), (2, .inl (.int 122), .inr (.inl 87)), (6, .inr (.inl 82), .inl (.ref 401)), (5, .inr (.inl 89), .inl (.int 8)), (6, .inr (.inl 82), .inl (.ref 401))]) jm_ok60 (by decide +kernel) (by decide +kernel) hd F X1 X2 (fun F' hF hs => ?_)
  have b84 := hd_b (F := F) (F' := F') (k := 84) (hF 84 (by decide))
  have b85 := hd_b (F := F) (F' := F') (k := 85) (hF 85 (by decide))
  have a2 := hd_ba (F := F) (F' := F') (k := 2) (hF 2 (by decide))
  have t87 : sy_dv F' (.inr (.inl 87)) = .int ((sy_ai F 2).getD (sy_i F 85).toNatClampNeg 0) := hd_rd (hs 0 _ rfl) b85 a2
  have b82 := hd_b (F := F) (F' := F') (k := 82) (hF 82 (by decide))
  have b83 := hd_b (F := F) (F' := F') (k := 83) (hF 83 (by decide))
  have t89 : sy_dv F' (.inr (.inl 89)) = .int ((sy_i F 85) - (sy_i F 83)) := hd_o (hs 2 _ rfl) b85 b83 rfl
  have a39 := hd_ba (F := F) (F' := F') (k := 39) (hF 39 (by decide))
  have t90 : sy_da F' (.inr (.inl 90)) = .inl (jm_upd (sy_ai F 39) (sy_i F 82).toNatClampNeg ((25 : Int32))) := hd_up (hs 3 _ rfl) b82 rfl a39
  have b86 := hd_bl (F := F) (F' := F') (k := 86) (hF 86 (by decide))
  have a41 := hd_bA (F := F) (F' := F') (k := 41) (hF 41 (by decide))
  have t88 : sy_da F' (.inr (.inr 88)) = .inr (jm_updL (sy_al F 41) (sy_i F 82).toNatClampNeg (sy_l F 86)) := hd_uA (hs 1 _ rfl) b82 b86 a41
  have hB' : iv_in F' iv_B0 := iv_in_eq hB (fun j hj => hF j (Nat.lt_of_lt_of_le hj (by decide +kernel)))
  have hk := k (sy_cm F' (hd_ov (iv_id 0 iv_B0) [(39, .inr (.inr (.inl 90))), (41, .inr (.inr (.inr 88)))] ++ [])) (fun j hj hn => (hd_keep hB' (Nat.lt_of_lt_of_le hj (by decide +kernel)) (by simp; omega)).trans (hF j (by omega))) (hd_ga (a := .inr (.inl 90)) (by decide +kernel) t90) (hd_gA (a := .inr (.inr 88)) (by decide +kernel) t88)
  refine ⟨List.forall_mem_cons.mpr ⟨hd_p5 b84 b85 h0, List.forall_mem_cons.mpr ⟨hd_pb b85 (by first | exact h1 | exact h1), List.forall_mem_cons.mpr ⟨hd_p3 t87 rfl (by have hc : ((97) : Int32).toInt = 97 := (by decide); omega), List.forall_mem_cons.mpr ⟨hd_p2 rfl t87 (by have hc : ((122) : Int32).toInt = 122 := (by decide); omega), List.forall_mem_cons.mpr ⟨hd_pb b82 (by first | exact h4 | exact h4), List.forall_mem_cons.mpr ⟨hd_p5 t89 rfl (by have hc : ((8) : Int32).toInt = 8 := (by decide); omega), List.forall_mem_cons.mpr ⟨hd_pb b82 (by first | exact h6 | exact h6), fun _ h => absurd h List.not_mem_nil⟩⟩⟩⟩⟩⟩⟩, ?_⟩
  show Q (some (sy_dv F' (.inr (.inl 85)))) _
  rw [b85]
  exact hk
theorem cw3_6_6 {Ls : Nat} {xs : Nat → Int32} {d : Nat} {Q : Option Value → jm_h → Prop} (hd : 2 ≤ d) (F : Nat → sy_d) (X1 X2 : List jm_c) (hB : iv_in F iv_B0)
    (h0 : (sy_i F 85).toInt < (sy_i F 84).toInt)
    (h1 : 0 ≤ (sy_i F 85).toInt ∧ (sy_i F 85).toInt < 2000)
    (h2 : 97 ≤ ((sy_ai F 2).getD (sy_i F 85).toNatClampNeg 0).toInt)
    (h3 : ((sy_ai F 2).getD (sy_i F 85).toNatClampNeg 0).toInt ≤ 122)
    (h4 : 0 ≤ (sy_i F 85).toInt ∧ (sy_i F 85).toInt < 2000)
    (k : ∀ F1 : Nat → sy_d, (∀ j, j < 82 → True → F1 j = F j) → F1 82 = .inl (.int (sy_i F 82)) → F1 83 = .inl (.int (sy_i F 83)) → F1 84 = .inl (.int (sy_i F 84)) → F1 85 = .inl (.int ((sy_i F 85) + ((1 : Int32)))) → F1 86 = .inl (.long (((sy_l F 86) * ((27 : Int64))) + (((((sy_ai F 2).getD (sy_i F 85).toNatClampNeg 0) - ((97 : Int32))) + ((1 : Int32))).toInt64))) → hd_W Ls xs d jm_M60 Q (6, sy_dL F1 [some (.inl (.ref 31)), some (.inr (.inl 82)), some (.inl (.ref 9)), some (.inr (.inl 83)), some (.inr (.inl 84)), some (.inr (.inl 85)), some (.inr (.inr 86)), none], sy_dS F1 [], sy_dh F1 X1 X2 (iv_H 3), 0, 0)) :
    hd_W Ls xs d jm_M60 Q (6, sy_dL F [some (.inl (.ref 31)), some (.inr (.inl 82)), some (.inl (.ref 9)), some (.inr (.inl 83)), some (.inr (.inl 84)), some (.inr (.inl 85)), some (.inr (.inr 86)), none], sy_dS F [], sy_dh F X1 X2 (iv_H 3), 0, 0) := by
  refine hd_run (s := 3) (nv := 87) (pc := 6) (L := [some (.inl (.ref 31)), some (.inr (.inl 82)), some (.inl (.ref 9)), some (.inr (.inl 83)), some (.inr (.inl 84)), some (.inr (.inl 85)), some (.inr (.inr 86)), none]) (S := []) (uh := hd_ov (iv_id 0 iv_B0) []) (ul := [.inl (.inr (.inl 82)), .inl (.inr (.inl 83)), .inl (.inr (.inl 84)), .inl (.inr (.inl 94)), .inl (.inr (.inr 93))]) (f := true) (sp := [6, 70]) (d0 := 1) (O := [false, false, false]) (T := [(30, [.inr (.inl 85)], [.inr (.inl 2)]), (30, [.inr (.inl 85)], [.inr (.inl 2)]), (14, [.inr (.inr 86), .inl (.long 27)], []), (1, [.inr (.inl 88), .inl (.int 97)], []), (0, [.inr (.inl 90), .inl (.int 1)], []), (21, [.inr (.inl 91)], []), (12, [.inr (.inr 89), .inr (.inr 92)], []), (0, [.inr (.inl 85), .inl (.int 1)], [])]) (P := [(5, .inr (.inl 84), .inr (.inl 85)), (6, .inr (.inl 85), .inl (.ref 2000)), (3, .inr (.inl 87), .inl (.int 97)), (3, .inl (.int 122), .inr (.inl 87)), (6, .inr (.inl 85), .inl (.ref 2000))]) jm_ok60 (by decide +kernel) (by decide +kernel) hd F X1 X2 (fun F' hF hs => ?_)
  have b84 := hd_b (F := F) (F' := F') (k := 84) (hF 84 (by decide))
  have b85 := hd_b (F := F) (F' := F') (k := 85) (hF 85 (by decide))
  have a2 := hd_ba (F := F) (F' := F') (k := 2) (hF 2 (by decide))
  have t87 : sy_dv F' (.inr (.inl 87)) = .int ((sy_ai F 2).getD (sy_i F 85).toNatClampNeg 0) := hd_rd (hs 0 _ rfl) b85 a2
  have b82 := hd_b (F := F) (F' := F') (k := 82) (hF 82 (by decide))
  have b83 := hd_b (F := F) (F' := F') (k := 83) (hF 83 (by decide))
  have t94 : sy_dv F' (.inr (.inl 94)) = .int ((sy_i F 85) + ((1 : Int32))) := hd_o (hs 7 _ rfl) b85 rfl rfl
  have b86 := hd_bl (F := F) (F' := F') (k := 86) (hF 86 (by decide))
  have t89 : sy_dv F' (.inr (.inr 89)) = .long ((sy_l F 86) * ((27 : Int64))) := hd_oL (hs 2 _ rfl) b86 rfl rfl
  have t88 : sy_dv F' (.inr (.inl 88)) = .int ((sy_ai F 2).getD (sy_i F 85).toNatClampNeg 0) := hd_rd (hs 1 _ rfl) b85 a2
  have t90 : sy_dv F' (.inr (.inl 90)) = .int (((sy_ai F 2).getD (sy_i F 85).toNatClampNeg 0) - ((97 : Int32))) := hd_o (hs 3 _ rfl) t88 rfl rfl
  have t91 : sy_dv F' (.inr (.inl 91)) = .int ((((sy_ai F 2).getD (sy_i F 85).toNatClampNeg 0) - ((97 : Int32))) + ((1 : Int32))) := hd_o (hs 4 _ rfl) t90 rfl rfl
  have t92 : sy_dv F' (.inr (.inr 92)) = .long (((((sy_ai F 2).getD (sy_i F 85).toNatClampNeg 0) - ((97 : Int32))) + ((1 : Int32))).toInt64) := hd_uL (hs 5 _ rfl) t91 rfl
  have t93 : sy_dv F' (.inr (.inr 93)) = .long (((sy_l F 86) * ((27 : Int64))) + (((((sy_ai F 2).getD (sy_i F 85).toNatClampNeg 0) - ((97 : Int32))) + ((1 : Int32))).toInt64)) := hd_oL (hs 6 _ rfl) t89 t92 rfl
  have hB' : iv_in F' iv_B0 := iv_in_eq hB (fun j hj => hF j (Nat.lt_of_lt_of_le hj (by decide +kernel)))
  refine ⟨List.forall_mem_cons.mpr ⟨hd_p5 b84 b85 h0, List.forall_mem_cons.mpr ⟨hd_pb b85 (by first | exact h1 | exact h1), List.forall_mem_cons.mpr ⟨hd_p3 t87 rfl (by have hc : ((97) : Int32).toInt = 97 := (by decide); omega), List.forall_mem_cons.mpr ⟨hd_p3 rfl t87 (by have hc : ((122) : Int32).toInt = 122 := (by decide); omega), List.forall_mem_cons.mpr ⟨hd_pb b85 (by first | exact h4 | exact h4), fun _ h => absurd h List.not_mem_nil⟩⟩⟩⟩⟩, ?_⟩
  refine k _ ?_ ?_ ?_ ?_ ?_ ?_
  · exact fun j hj _ => (hd_keep hB' (Nat.lt_of_lt_of_le hj (by decide +kernel)) (by simp)).trans (hF j (by omega))
  · exact hd_gi (x := .inr (.inl 82)) (by decide +kernel) b82
  · exact hd_gi (x := .inr (.inl 83)) (by decide +kernel) b83
  · exact hd_gi (x := .inr (.inl 84)) (by decide +kernel) b84
  · exact hd_gi (x := .inr (.inl 94)) (by decide +kernel) t94
  · exact hd_gl (x := .inr (.inr 93)) (by decide +kernel) t93
theorem cw3_73_0 {Ls : Nat} {xs : Nat → Int32} {d : Nat} {Q : Option Value → jm_h → Prop} (hd : 2 ≤ d) (F : Nat → sy_d) (X1 X2 : List jm_c) (hB : iv_in F iv_B0)
    (h0 : 0 ≤ (sy_i F 84).toInt ∧ (sy_i F 84).toInt < 401)
    (k : ∀ F1 : Nat → sy_d, (∀ j, j < 82 → j ≠ 39 → F1 j = F j) → F1 39 = .inr (.inl (jm_upd (sy_ai F 39) (sy_i F 84).toNatClampNeg (sy_i F 85))) → Q (some (.int (sy_i F 82))) (sy_dh F1 X1 X2 (iv_H 3))) :
    hd_W Ls xs d jm_M60 Q (73, sy_dL F [none, none, none, none, none, some (.inr (.inl 82)), none, none], sy_dS F [.inr (.inl 85), .inr (.inl 84), .inl (.ref 32)], sy_dh F X1 X2 (iv_H 3), 0, 0) := by
  refine hd_ret (s := 3) (nv := 86) (v := some (.inr (.inl 82))) (uh := hd_ov (iv_id 0 iv_B0) [(39, .inr (.inr (.inl 86)))]) (f := false) (sp := [6, 70]) (d0 := 1) (O := []) (T := [(40, [.inr (.inl 84), .inr (.inl 85)], [.inr (.inl 39)])]) (P := [(6, .inr (.inl 84), .inl (.ref 401))]) jm_ok60 (by decide +kernel) (by decide +kernel) hd F X1 X2 (fun F' hF hs => ?_)
  have b84 := hd_b (F := F) (F' := F') (k := 84) (hF 84 (by decide))
  have b85 := hd_b (F := F) (F' := F') (k := 85) (hF 85 (by decide))
  have a39 := hd_ba (F := F) (F' := F') (k := 39) (hF 39 (by decide))
  have t86 : sy_da F' (.inr (.inl 86)) = .inl (jm_upd (sy_ai F 39) (sy_i F 84).toNatClampNeg (sy_i F 85)) := hd_up (hs 0 _ rfl) b84 b85 a39
  have b82 := hd_b (F := F) (F' := F') (k := 82) (hF 82 (by decide))
  have hB' : iv_in F' iv_B0 := iv_in_eq hB (fun j hj => hF j (Nat.lt_of_lt_of_le hj (by decide +kernel)))
  have hk := k (sy_cm F' (hd_ov (iv_id 0 iv_B0) [(39, .inr (.inr (.inl 86)))] ++ [])) (fun j hj hn => (hd_keep hB' (Nat.lt_of_lt_of_le hj (by decide +kernel)) (by simp; omega)).trans (hF j (by omega))) (hd_ga (a := .inr (.inl 86)) (by decide +kernel) t86)
  refine ⟨List.forall_mem_cons.mpr ⟨hd_pb b84 (by first | exact h0 | exact h0), fun _ h => absurd h List.not_mem_nil⟩, ?_⟩
  show Q (some (sy_dv F' (.inr (.inl 82)))) _
  rw [b82]
  exact hk
