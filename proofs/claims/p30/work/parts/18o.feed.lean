/-! ===== feed, way by way ===== -/
theorem ap0_0_0 {Ls : Nat} {xs : Nat → Int32} {d : Nat} {Q : Option Value → jm_h → Prop} (hd : 1 ≤ d) (F : Nat → sy_d) (X1 X2 : List jm_c) (hB : iv_in F iv_B0)
    (h0 : 2000 ≤ (sy_i F 0).toInt)
    (k : ∀ F1 : Nat → sy_d, (∀ j, j < 82 → True → F1 j = F j) → Q (none) (sy_dh F1 X1 X2 (iv_H 0))) :
    hd_W Ls xs d jm_M116 Q (0, sy_dL F [some (.inl (.ref 8)), some (.inr (.inl 82)), none], sy_dS F [], sy_dh F X1 X2 (iv_H 0), 0, 0) := by
  refine hd_ret (s := 0) (nv := 83) (v := none) (uh := hd_ov (iv_id 0 iv_B0) []) (f := true) (sp := []) (d0 := 0) (O := [true]) (T := []) (P := [(4, .inl (.int 2000), .inr (.inl 0))]) jm_ok116 (by decide +kernel) (by decide +kernel) hd F X1 X2 (fun F' hF hs => ?_)
  have b0 := hd_b (F := F) (F' := F') (k := 0) (hF 0 (by decide))
  have hB' : iv_in F' iv_B0 := iv_in_eq hB (fun j hj => hF j (Nat.lt_of_lt_of_le hj (by decide +kernel)))
  refine ⟨List.forall_mem_cons.mpr ⟨hd_p4 rfl b0 (by have hc : ((2000) : Int32).toInt = 2000 := (by decide); omega), fun _ h => absurd h List.not_mem_nil⟩, ?_⟩
  refine k _ ?_
  · exact fun j hj _ => (hd_keep hB' (Nat.lt_of_lt_of_le hj (by decide +kernel)) (by simp)).trans (hF j (by omega))
theorem ap0_0_1 {Ls : Nat} {xs : Nat → Int32} {d : Nat} {Q : Option Value → jm_h → Prop} (hd : 1 ≤ d) (F : Nat → sy_d) (X1 X2 : List jm_c) (hB : iv_in F iv_B0)
    (h0 : (sy_i F 0).toInt < 2000)
    (h1 : 0 ≤ (sy_i F 0).toInt ∧ (sy_i F 0).toInt < 2000)
    (h2 : 2000 ≤ ((sy_i F 0) + ((1 : Int32))).toInt)
    (k : ∀ F1 : Nat → sy_d, (∀ j, j < 82 → j ≠ 0 ∧ j ≠ 2 → F1 j = F j) → F1 0 = .inl (.int ((sy_i F 0) + ((1 : Int32)))) → F1 2 = .inr (.inl (jm_upd (sy_ai F 2) (sy_i F 0).toNatClampNeg ((((((sy_i F 82)).toUInt32 >>> ((((24 : Int32))).toUInt32 &&& Int32.toUInt32 31)).toInt32).toInt8.toInt32).toInt8.toInt32))) → Q (none) (sy_dh F1 X1 X2 (iv_H 0))) :
    hd_W Ls xs d jm_M116 Q (0, sy_dL F [some (.inl (.ref 8)), some (.inr (.inl 82)), none], sy_dS F [], sy_dh F X1 X2 (iv_H 0), 0, 0) := by
  refine hd_ret (s := 0) (nv := 83) (v := none) (uh := hd_ov (iv_id 0 iv_B0) [(0, .inl (.inr (.inl 87))), (2, .inr (.inr (.inl 86)))]) (f := true) (sp := []) (d0 := 0) (O := [false, true]) (T := [(8, [.inr (.inl 82), .inl (.int 24)], []), (22, [.inr (.inl 83)], []), (22, [.inr (.inl 84)], []), (40, [.inr (.inl 0), .inr (.inl 85)], [.inr (.inl 2)]), (0, [.inr (.inl 0), .inl (.int 1)], [])]) (P := [(5, .inl (.int 2000), .inr (.inl 0)), (6, .inr (.inl 0), .inl (.ref 2000)), (4, .inl (.int 2000), .inr (.inl 87))]) jm_ok116 (by decide +kernel) (by decide +kernel) hd F X1 X2 (fun F' hF hs => ?_)
  have b0 := hd_b (F := F) (F' := F') (k := 0) (hF 0 (by decide))
  have t87 : sy_dv F' (.inr (.inl 87)) = .int ((sy_i F 0) + ((1 : Int32))) := hd_o (hs 4 _ rfl) b0 rfl rfl
  have b82 := hd_b (F := F) (F' := F') (k := 82) (hF 82 (by decide))
  have t83 : sy_dv F' (.inr (.inl 83)) = .int ((((sy_i F 82)).toUInt32 >>> ((((24 : Int32))).toUInt32 &&& Int32.toUInt32 31)).toInt32) := hd_o (hs 0 _ rfl) b82 rfl rfl
  have t84 : sy_dv F' (.inr (.inl 84)) = .int (((((sy_i F 82)).toUInt32 >>> ((((24 : Int32))).toUInt32 &&& Int32.toUInt32 31)).toInt32).toInt8.toInt32) := hd_u (hs 1 _ rfl) t83 rfl
  have t85 : sy_dv F' (.inr (.inl 85)) = .int ((((((sy_i F 82)).toUInt32 >>> ((((24 : Int32))).toUInt32 &&& Int32.toUInt32 31)).toInt32).toInt8.toInt32).toInt8.toInt32) := hd_u (hs 2 _ rfl) t84 rfl
  have a2 := hd_ba (F := F) (F' := F') (k := 2) (hF 2 (by decide))
  have t86 : sy_da F' (.inr (.inl 86)) = .inl (jm_upd (sy_ai F 2) (sy_i F 0).toNatClampNeg ((((((sy_i F 82)).toUInt32 >>> ((((24 : Int32))).toUInt32 &&& Int32.toUInt32 31)).toInt32).toInt8.toInt32).toInt8.toInt32)) := hd_up (hs 3 _ rfl) b0 t85 a2
  have hB' : iv_in F' iv_B0 := iv_in_eq hB (fun j hj => hF j (Nat.lt_of_lt_of_le hj (by decide +kernel)))
  refine ⟨List.forall_mem_cons.mpr ⟨hd_p5 rfl b0 (by have hc : ((2000) : Int32).toInt = 2000 := (by decide); omega), List.forall_mem_cons.mpr ⟨hd_pb b0 (by first | exact h1 | exact h1), List.forall_mem_cons.mpr ⟨hd_p4 rfl t87 (by have hc : ((2000) : Int32).toInt = 2000 := (by decide); omega), fun _ h => absurd h List.not_mem_nil⟩⟩⟩, ?_⟩
  refine k _ ?_ ?_ ?_
  · exact fun j hj hn => (hd_keep hB' (Nat.lt_of_lt_of_le hj (by decide +kernel)) (by simp; omega)).trans (hF j (by omega))
  · exact hd_gi (x := .inr (.inl 87)) (by decide +kernel) t87
  · exact hd_ga (a := .inr (.inl 86)) (by decide +kernel) t86
theorem ap0_0_2 {Ls : Nat} {xs : Nat → Int32} {d : Nat} {Q : Option Value → jm_h → Prop} (hd : 1 ≤ d) (F : Nat → sy_d) (X1 X2 : List jm_c) (hB : iv_in F iv_B0)
    (h0 : (sy_i F 0).toInt < 2000)
    (h1 : 0 ≤ (sy_i F 0).toInt ∧ (sy_i F 0).toInt < 2000)
    (h2 : ((sy_i F 0) + ((1 : Int32))).toInt < 2000)
    (h3 : 0 ≤ ((sy_i F 0) + ((1 : Int32))).toInt ∧ ((sy_i F 0) + ((1 : Int32))).toInt < 2000)
    (h4 : 2000 ≤ (((sy_i F 0) + ((1 : Int32))) + ((1 : Int32))).toInt)
    (k : ∀ F1 : Nat → sy_d, (∀ j, j < 82 → j ≠ 0 ∧ j ≠ 2 → F1 j = F j) → F1 0 = .inl (.int (((sy_i F 0) + ((1 : Int32))) + ((1 : Int32)))) → F1 2 = .inr (.inl (jm_upd (jm_upd (sy_ai F 2) (sy_i F 0).toNatClampNeg ((((((sy_i F 82)).toUInt32 >>> ((((24 : Int32))).toUInt32 &&& Int32.toUInt32 31)).toInt32).toInt8.toInt32).toInt8.toInt32)) ((sy_i F 0) + ((1 : Int32))).toNatClampNeg ((((((sy_i F 82)).toUInt32 >>> ((((16 : Int32))).toUInt32 &&& Int32.toUInt32 31)).toInt32).toInt8.toInt32).toInt8.toInt32))) → Q (none) (sy_dh F1 X1 X2 (iv_H 0))) :
    hd_W Ls xs d jm_M116 Q (0, sy_dL F [some (.inl (.ref 8)), some (.inr (.inl 82)), none], sy_dS F [], sy_dh F X1 X2 (iv_H 0), 0, 0) := by
  refine hd_ret (s := 0) (nv := 83) (v := none) (uh := hd_ov (iv_id 0 iv_B0) [(0, .inl (.inr (.inl 92))), (2, .inr (.inr (.inl 91)))]) (f := true) (sp := []) (d0 := 0) (O := [false, false, true]) (T := [(8, [.inr (.inl 82), .inl (.int 24)], []), (22, [.inr (.inl 83)], []), (22, [.inr (.inl 84)], []), (40, [.inr (.inl 0), .inr (.inl 85)], [.inr (.inl 2)]), (0, [.inr (.inl 0), .inl (.int 1)], []), (8, [.inr (.inl 82), .inl (.int 16)], []), (22, [.inr (.inl 88)], []), (22, [.inr (.inl 89)], []), (40, [.inr (.inl 87), .inr (.inl 90)], [.inr (.inl 86)]), (0, [.inr (.inl 87), .inl (.int 1)], [])]) (P := [(5, .inl (.int 2000), .inr (.inl 0)), (6, .inr (.inl 0), .inl (.ref 2000)), (5, .inl (.int 2000), .inr (.inl 87)), (6, .inr (.inl 87), .inl (.ref 2000)), (4, .inl (.int 2000), .inr (.inl 92))]) jm_ok116 (by decide +kernel) (by decide +kernel) hd F X1 X2 (fun F' hF hs => ?_)
  have b0 := hd_b (F := F) (F' := F') (k := 0) (hF 0 (by decide))
  have t87 : sy_dv F' (.inr (.inl 87)) = .int ((sy_i F 0) + ((1 : Int32))) := hd_o (hs 4 _ rfl) b0 rfl rfl
  have t92 : sy_dv F' (.inr (.inl 92)) = .int (((sy_i F 0) + ((1 : Int32))) + ((1 : Int32))) := hd_o (hs 9 _ rfl) t87 rfl rfl
  have b82 := hd_b (F := F) (F' := F') (k := 82) (hF 82 (by decide))
  have t88 : sy_dv F' (.inr (.inl 88)) = .int ((((sy_i F 82)).toUInt32 >>> ((((16 : Int32))).toUInt32 &&& Int32.toUInt32 31)).toInt32) := hd_o (hs 5 _ rfl) b82 rfl rfl
  have t89 : sy_dv F' (.inr (.inl 89)) = .int (((((sy_i F 82)).toUInt32 >>> ((((16 : Int32))).toUInt32 &&& Int32.toUInt32 31)).toInt32).toInt8.toInt32) := hd_u (hs 6 _ rfl) t88 rfl
  have t90 : sy_dv F' (.inr (.inl 90)) = .int ((((((sy_i F 82)).toUInt32 >>> ((((16 : Int32))).toUInt32 &&& Int32.toUInt32 31)).toInt32).toInt8.toInt32).toInt8.toInt32) := hd_u (hs 7 _ rfl) t89 rfl
  have t83 : sy_dv F' (.inr (.inl 83)) = .int ((((sy_i F 82)).toUInt32 >>> ((((24 : Int32))).toUInt32 &&& Int32.toUInt32 31)).toInt32) := hd_o (hs 0 _ rfl) b82 rfl rfl
  have t84 : sy_dv F' (.inr (.inl 84)) = .int (((((sy_i F 82)).toUInt32 >>> ((((24 : Int32))).toUInt32 &&& Int32.toUInt32 31)).toInt32).toInt8.toInt32) := hd_u (hs 1 _ rfl) t83 rfl
  have t85 : sy_dv F' (.inr (.inl 85)) = .int ((((((sy_i F 82)).toUInt32 >>> ((((24 : Int32))).toUInt32 &&& Int32.toUInt32 31)).toInt32).toInt8.toInt32).toInt8.toInt32) := hd_u (hs 2 _ rfl) t84 rfl
  have a2 := hd_ba (F := F) (F' := F') (k := 2) (hF 2 (by decide))
  have t86 : sy_da F' (.inr (.inl 86)) = .inl (jm_upd (sy_ai F 2) (sy_i F 0).toNatClampNeg ((((((sy_i F 82)).toUInt32 >>> ((((24 : Int32))).toUInt32 &&& Int32.toUInt32 31)).toInt32).toInt8.toInt32).toInt8.toInt32)) := hd_up (hs 3 _ rfl) b0 t85 a2
  have t91 : sy_da F' (.inr (.inl 91)) = .inl (jm_upd (jm_upd (sy_ai F 2) (sy_i F 0).toNatClampNeg ((((((sy_i F 82)).toUInt32 >>> ((((24 : Int32))).toUInt32 &&& Int32.toUInt32 31)).toInt32).toInt8.toInt32).toInt8.toInt32)) ((sy_i F 0) + ((1 : Int32))).toNatClampNeg ((((((sy_i F 82)).toUInt32 >>> ((((16 : Int32))).toUInt32 &&& Int32.toUInt32 31)).toInt32).toInt8.toInt32).toInt8.toInt32)) := hd_up (hs 8 _ rfl) t87 t90 t86
  have hB' : iv_in F' iv_B0 := iv_in_eq hB (fun j hj => hF j (Nat.lt_of_lt_of_le hj (by decide +kernel)))
  refine ⟨List.forall_mem_cons.mpr ⟨hd_p5 rfl b0 (by have hc : ((2000) : Int32).toInt = 2000 := (by decide); omega), List.forall_mem_cons.mpr ⟨hd_pb b0 (by first | exact h1 | exact h1), List.forall_mem_cons.mpr ⟨hd_p5 rfl t87 (by have hc : ((2000) : Int32).toInt = 2000 := (by decide); omega), List.forall_mem_cons.mpr ⟨hd_pb t87 (by first | exact h3 | exact h3), List.forall_mem_cons.mpr ⟨hd_p4 rfl t92 (by have hc : ((2000) : Int32).toInt = 2000 := (by decide); omega), fun _ h => absurd h List.not_mem_nil⟩⟩⟩⟩⟩, ?_⟩
  refine k _ ?_ ?_ ?_
  · exact fun j hj hn => (hd_keep hB' (Nat.lt_of_lt_of_le hj (by decide +kernel)) (by simp; omega)).trans (hF j (by omega))
  · exact hd_gi (x := .inr (.inl 92)) (by decide +kernel) t92
  · exact hd_ga (a := .inr (.inl 91)) (by decide +kernel) t91
theorem ap0_0_3 {Ls : Nat} {xs : Nat → Int32} {d : Nat} {Q : Option Value → jm_h → Prop} (hd : 1 ≤ d) (F : Nat → sy_d) (X1 X2 : List jm_c) (hB : iv_in F iv_B0)
    (h0 : (sy_i F 0).toInt < 2000)
    (h1 : 0 ≤ (sy_i F 0).toInt ∧ (sy_i F 0).toInt < 2000)
    (h2 : ((sy_i F 0) + ((1 : Int32))).toInt < 2000)
    (h3 : 0 ≤ ((sy_i F 0) + ((1 : Int32))).toInt ∧ ((sy_i F 0) + ((1 : Int32))).toInt < 2000)
    (h4 : (((sy_i F 0) + ((1 : Int32))) + ((1 : Int32))).toInt < 2000)
    (h5 : 0 ≤ (((sy_i F 0) + ((1 : Int32))) + ((1 : Int32))).toInt ∧ (((sy_i F 0) + ((1 : Int32))) + ((1 : Int32))).toInt < 2000)
    (h6 : 2000 ≤ ((((sy_i F 0) + ((1 : Int32))) + ((1 : Int32))) + ((1 : Int32))).toInt)
    (k : ∀ F1 : Nat → sy_d, (∀ j, j < 82 → j ≠ 0 ∧ j ≠ 2 → F1 j = F j) → F1 0 = .inl (.int ((((sy_i F 0) + ((1 : Int32))) + ((1 : Int32))) + ((1 : Int32)))) → F1 2 = .inr (.inl (jm_upd (jm_upd (jm_upd (sy_ai F 2) (sy_i F 0).toNatClampNeg ((((((sy_i F 82)).toUInt32 >>> ((((24 : Int32))).toUInt32 &&& Int32.toUInt32 31)).toInt32).toInt8.toInt32).toInt8.toInt32)) ((sy_i F 0) + ((1 : Int32))).toNatClampNeg ((((((sy_i F 82)).toUInt32 >>> ((((16 : Int32))).toUInt32 &&& Int32.toUInt32 31)).toInt32).toInt8.toInt32).toInt8.toInt32)) (((sy_i F 0) + ((1 : Int32))) + ((1 : Int32))).toNatClampNeg ((((((sy_i F 82)).toUInt32 >>> ((((8 : Int32))).toUInt32 &&& Int32.toUInt32 31)).toInt32).toInt8.toInt32).toInt8.toInt32))) → Q (none) (sy_dh F1 X1 X2 (iv_H 0))) :
    hd_W Ls xs d jm_M116 Q (0, sy_dL F [some (.inl (.ref 8)), some (.inr (.inl 82)), none], sy_dS F [], sy_dh F X1 X2 (iv_H 0), 0, 0) := by
  refine hd_ret (s := 0) (nv := 83) (v := none) (uh := hd_ov (iv_id 0 iv_B0) [(0, .inl (.inr (.inl 97))), (2, .inr (.inr (.inl 96)))]) (f := true) (sp := []) (d0 := 0) (O := [false, false, false, true]) (T := [(8, [.inr (.inl 82), .inl (.int 24)], []), (22, [.inr (.inl 83)], []), (22, [.inr (.inl 84)], []), (40, [.inr (.inl 0), .inr (.inl 85)], [.inr (.inl 2)]), (0, [.inr (.inl 0), .inl (.int 1)], []), (8, [.inr (.inl 82), .inl (.int 16)], []), (22, [.inr (.inl 88)], []), (22, [.inr (.inl 89)], []), (40, [.inr (.inl 87), .inr (.inl 90)], [.inr (.inl 86)]), (0, [.inr (.inl 87), .inl (.int 1)], []), (8, [.inr (.inl 82), .inl (.int 8)], []), (22, [.inr (.inl 93)], []), (22, [.inr (.inl 94)], []), (40, [.inr (.inl 92), .inr (.inl 95)], [.inr (.inl 91)]), (0, [.inr (.inl 92), .inl (.int 1)], [])]) (P := [(5, .inl (.int 2000), .inr (.inl 0)), (6, .inr (.inl 0), .inl (.ref 2000)), (5, .inl (.int 2000), .inr (.inl 87)), (6, .inr (.inl 87), .inl (.ref 2000)), (5, .inl (.int 2000), .inr (.inl 92)), (6, .inr (.inl 92), .inl (.ref 2000)), (4, .inl (.int 2000), .inr (.inl 97))]) jm_ok116 (by decide +kernel) (by decide +kernel) hd F X1 X2 (fun F' hF hs => ?_)
  have b0 := hd_b (F := F) (F' := F') (k := 0) (hF 0 (by decide))
  have t87 : sy_dv F' (.inr (.inl 87)) = .int ((sy_i F 0) + ((1 : Int32))) := hd_o (hs 4 _ rfl) b0 rfl rfl
  have t92 : sy_dv F' (.inr (.inl 92)) = .int (((sy_i F 0) + ((1 : Int32))) + ((1 : Int32))) := hd_o (hs 9 _ rfl) t87 rfl rfl
  have t97 : sy_dv F' (.inr (.inl 97)) = .int ((((sy_i F 0) + ((1 : Int32))) + ((1 : Int32))) + ((1 : Int32))) := hd_o (hs 14 _ rfl) t92 rfl rfl
  have b82 := hd_b (F := F) (F' := F') (k := 82) (hF 82 (by decide))
  have t93 : sy_dv F' (.inr (.inl 93)) = .int ((((sy_i F 82)).toUInt32 >>> ((((8 : Int32))).toUInt32 &&& Int32.toUInt32 31)).toInt32) := hd_o (hs 10 _ rfl) b82 rfl rfl
  have t94 : sy_dv F' (.inr (.inl 94)) = .int (((((sy_i F 82)).toUInt32 >>> ((((8 : Int32))).toUInt32 &&& Int32.toUInt32 31)).toInt32).toInt8.toInt32) := hd_u (hs 11 _ rfl) t93 rfl
  have t95 : sy_dv F' (.inr (.inl 95)) = .int ((((((sy_i F 82)).toUInt32 >>> ((((8 : Int32))).toUInt32 &&& Int32.toUInt32 31)).toInt32).toInt8.toInt32).toInt8.toInt32) := hd_u (hs 12 _ rfl) t94 rfl
  have t88 : sy_dv F' (.inr (.inl 88)) = .int ((((sy_i F 82)).toUInt32 >>> ((((16 : Int32))).toUInt32 &&& Int32.toUInt32 31)).toInt32) := hd_o (hs 5 _ rfl) b82 rfl rfl
  have t89 : sy_dv F' (.inr (.inl 89)) = .int (((((sy_i F 82)).toUInt32 >>> ((((16 : Int32))).toUInt32 &&& Int32.toUInt32 31)).toInt32).toInt8.toInt32) := hd_u (hs 6 _ rfl) t88 rfl
  have t90 : sy_dv F' (.inr (.inl 90)) = .int ((((((sy_i F 82)).toUInt32 >>> ((((16 : Int32))).toUInt32 &&& Int32.toUInt32 31)).toInt32).toInt8.toInt32).toInt8.toInt32) := hd_u (hs 7 _ rfl) t89 rfl
  have t83 : sy_dv F' (.inr (.inl 83)) = .int ((((sy_i F 82)).toUInt32 >>> ((((24 : Int32))).toUInt32 &&& Int32.toUInt32 31)).toInt32) := hd_o (hs 0 _ rfl) b82 rfl rfl
  have t84 : sy_dv F' (.inr (.inl 84)) = .int (((((sy_i F 82)).toUInt32 >>> ((((24 : Int32))).toUInt32 &&& Int32.toUInt32 31)).toInt32).toInt8.toInt32) := hd_u (hs 1 _ rfl) t83 rfl
  have t85 : sy_dv F' (.inr (.inl 85)) = .int ((((((sy_i F 82)).toUInt32 >>> ((((24 : Int32))).toUInt32 &&& Int32.toUInt32 31)).toInt32).toInt8.toInt32).toInt8.toInt32) := hd_u (hs 2 _ rfl) t84 rfl
  have a2 := hd_ba (F := F) (F' := F') (k := 2) (hF 2 (by decide))
  have t86 : sy_da F' (.inr (.inl 86)) = .inl (jm_upd (sy_ai F 2) (sy_i F 0).toNatClampNeg ((((((sy_i F 82)).toUInt32 >>> ((((24 : Int32))).toUInt32 &&& Int32.toUInt32 31)).toInt32).toInt8.toInt32).toInt8.toInt32)) := hd_up (hs 3 _ rfl) b0 t85 a2
  have t91 : sy_da F' (.inr (.inl 91)) = .inl (jm_upd (jm_upd (sy_ai F 2) (sy_i F 0).toNatClampNeg ((((((sy_i F 82)).toUInt32 >>> ((((24 : Int32))).toUInt32 &&& Int32.toUInt32 31)).toInt32).toInt8.toInt32).toInt8.toInt32)) ((sy_i F 0) + ((1 : Int32))).toNatClampNeg ((((((sy_i F 82)).toUInt32 >>> ((((16 : Int32))).toUInt32 &&& Int32.toUInt32 31)).toInt32).toInt8.toInt32).toInt8.toInt32)) := hd_up (hs 8 _ rfl) t87 t90 t86
  have t96 : sy_da F' (.inr (.inl 96)) = .inl (jm_upd (jm_upd (jm_upd (sy_ai F 2) (sy_i F 0).toNatClampNeg ((((((sy_i F 82)).toUInt32 >>> ((((24 : Int32))).toUInt32 &&& Int32.toUInt32 31)).toInt32).toInt8.toInt32).toInt8.toInt32)) ((sy_i F 0) + ((1 : Int32))).toNatClampNeg ((((((sy_i F 82)).toUInt32 >>> ((((16 : Int32))).toUInt32 &&& Int32.toUInt32 31)).toInt32).toInt8.toInt32).toInt8.toInt32)) (((sy_i F 0) + ((1 : Int32))) + ((1 : Int32))).toNatClampNeg ((((((sy_i F 82)).toUInt32 >>> ((((8 : Int32))).toUInt32 &&& Int32.toUInt32 31)).toInt32).toInt8.toInt32).toInt8.toInt32)) := hd_up (hs 13 _ rfl) t92 t95 t91
  have hB' : iv_in F' iv_B0 := iv_in_eq hB (fun j hj => hF j (Nat.lt_of_lt_of_le hj (by decide +kernel)))
  refine ⟨List.forall_mem_cons.mpr ⟨hd_p5 rfl b0 (by have hc : ((2000) : Int32).toInt = 2000 := (by decide); omega), List.forall_mem_cons.mpr ⟨hd_pb b0 (by first | exact h1 | exact h1), List.forall_mem_cons.mpr ⟨hd_p5 rfl t87 (by have hc : ((2000) : Int32).toInt = 2000 := (by decide); omega), List.forall_mem_cons.mpr ⟨hd_pb t87 (by first | exact h3 | exact h3), List.forall_mem_cons.mpr ⟨hd_p5 rfl t92 (by have hc : ((2000) : Int32).toInt = 2000 := (by decide); omega), List.forall_mem_cons.mpr ⟨hd_pb t92 (by first | exact h5 | exact h5), List.forall_mem_cons.mpr ⟨hd_p4 rfl t97 (by have hc : ((2000) : Int32).toInt = 2000 := (by decide); omega), fun _ h => absurd h List.not_mem_nil⟩⟩⟩⟩⟩⟩⟩, ?_⟩
  refine k _ ?_ ?_ ?_
  · exact fun j hj hn => (hd_keep hB' (Nat.lt_of_lt_of_le hj (by decide +kernel)) (by simp; omega)).trans (hF j (by omega))
  · exact hd_gi (x := .inr (.inl 97)) (by decide +kernel) t97
  · exact hd_ga (a := .inr (.inl 96)) (by decide +kernel) t96
theorem ap0_0_4 {Ls : Nat} {xs : Nat → Int32} {d : Nat} {Q : Option Value → jm_h → Prop} (hd : 1 ≤ d) (F : Nat → sy_d) (X1 X2 : List jm_c) (hB : iv_in F iv_B0)
    (h0 : (sy_i F 0).toInt < 2000)
    (h1 : 0 ≤ (sy_i F 0).toInt ∧ (sy_i F 0).toInt < 2000)
    (h2 : ((sy_i F 0) + ((1 : Int32))).toInt < 2000)
    (h3 : 0 ≤ ((sy_i F 0) + ((1 : Int32))).toInt ∧ ((sy_i F 0) + ((1 : Int32))).toInt < 2000)
    (h4 : (((sy_i F 0) + ((1 : Int32))) + ((1 : Int32))).toInt < 2000)
    (h5 : 0 ≤ (((sy_i F 0) + ((1 : Int32))) + ((1 : Int32))).toInt ∧ (((sy_i F 0) + ((1 : Int32))) + ((1 : Int32))).toInt < 2000)
    (h6 : ((((sy_i F 0) + ((1 : Int32))) + ((1 : Int32))) + ((1 : Int32))).toInt < 2000)
    (h7 : 0 ≤ ((((sy_i F 0) + ((1 : Int32))) + ((1 : Int32))) + ((1 : Int32))).toInt ∧ ((((sy_i F 0) + ((1 : Int32))) + ((1 : Int32))) + ((1 : Int32))).toInt < 2000)
    (k : ∀ F1 : Nat → sy_d, (∀ j, j < 82 → j ≠ 0 ∧ j ≠ 2 → F1 j = F j) → F1 0 = .inl (.int (((((sy_i F 0) + ((1 : Int32))) + ((1 : Int32))) + ((1 : Int32))) + ((1 : Int32)))) → F1 2 = .inr (.inl (jm_upd (jm_upd (jm_upd (jm_upd (sy_ai F 2) (sy_i F 0).toNatClampNeg ((((((sy_i F 82)).toUInt32 >>> ((((24 : Int32))).toUInt32 &&& Int32.toUInt32 31)).toInt32).toInt8.toInt32).toInt8.toInt32)) ((sy_i F 0) + ((1 : Int32))).toNatClampNeg ((((((sy_i F 82)).toUInt32 >>> ((((16 : Int32))).toUInt32 &&& Int32.toUInt32 31)).toInt32).toInt8.toInt32).toInt8.toInt32)) (((sy_i F 0) + ((1 : Int32))) + ((1 : Int32))).toNatClampNeg ((((((sy_i F 82)).toUInt32 >>> ((((8 : Int32))).toUInt32 &&& Int32.toUInt32 31)).toInt32).toInt8.toInt32).toInt8.toInt32)) ((((sy_i F 0) + ((1 : Int32))) + ((1 : Int32))) + ((1 : Int32))).toNatClampNeg ((((((sy_i F 82)).toUInt32 >>> ((((0 : Int32))).toUInt32 &&& Int32.toUInt32 31)).toInt32).toInt8.toInt32).toInt8.toInt32))) → Q (none) (sy_dh F1 X1 X2 (iv_H 0))) :
    hd_W Ls xs d jm_M116 Q (0, sy_dL F [some (.inl (.ref 8)), some (.inr (.inl 82)), none], sy_dS F [], sy_dh F X1 X2 (iv_H 0), 0, 0) := by
  refine hd_ret (s := 0) (nv := 83) (v := none) (uh := hd_ov (iv_id 0 iv_B0) [(0, .inl (.inr (.inl 102))), (2, .inr (.inr (.inl 101)))]) (f := true) (sp := []) (d0 := 0) (O := [false, false, false, false]) (T := [(8, [.inr (.inl 82), .inl (.int 24)], []), (22, [.inr (.inl 83)], []), (22, [.inr (.inl 84)], []), (40, [.inr (.inl 0), .inr (.inl 85)], [.inr (.inl 2)]), (0, [.inr (.inl 0), .inl (.int 1)], []), (8, [.inr (.inl 82), .inl (.int 16)], []), (22, [.inr (.inl 88)], []), (22, [.inr (.inl 89)], []), (40, [.inr (.inl 87), .inr (.inl 90)], [.inr (.inl 86)]), (0, [.inr (.inl 87), .inl (.int 1)], []), (8, [.inr (.inl 82), .inl (.int 8)], []), (22, [.inr (.inl 93)], []), (22, [.inr (.inl 94)], []), (40, [.inr (.inl 92), .inr (.inl 95)], [.inr (.inl 91)]), (0, [.inr (.inl 92), .inl (.int 1)], []), (8, [.inr (.inl 82), .inl (.int 0)], []), (22, [.inr (.inl 98)], []), (22, [.inr (.inl 99)], []), (40, [.inr (.inl 97), .inr (.inl 100)], [.inr (.inl 96)]), (0, [.inr (.inl 97), .inl (.int 1)], [])]) (P := [(5, .inl (.int 2000), .inr (.inl 0)), (6, .inr (.inl 0), .inl (.ref 2000)), (5, .inl (.int 2000), .inr (.inl 87)), (6, .inr (.inl 87), .inl (.ref 2000)), (5, .inl (.int 2000), .inr (.inl 92)), (6, .inr (.inl 92), .inl (.ref 2000)), (5, .inl (.int 2000), .inr (.inl 97)), (6, .inr (.inl 97), .inl (.ref 2000))]) jm_ok116 (by decide +kernel) (by decide +kernel) hd F X1 X2 (fun F' hF hs => ?_)
  have b0 := hd_b (F := F) (F' := F') (k := 0) (hF 0 (by decide))
  have t87 : sy_dv F' (.inr (.inl 87)) = .int ((sy_i F 0) + ((1 : Int32))) := hd_o (hs 4 _ rfl) b0 rfl rfl
  have t92 : sy_dv F' (.inr (.inl 92)) = .int (((sy_i F 0) + ((1 : Int32))) + ((1 : Int32))) := hd_o (hs 9 _ rfl) t87 rfl rfl
  have t97 : sy_dv F' (.inr (.inl 97)) = .int ((((sy_i F 0) + ((1 : Int32))) + ((1 : Int32))) + ((1 : Int32))) := hd_o (hs 14 _ rfl) t92 rfl rfl
  have t102 : sy_dv F' (.inr (.inl 102)) = .int (((((sy_i F 0) + ((1 : Int32))) + ((1 : Int32))) + ((1 : Int32))) + ((1 : Int32))) := hd_o (hs 19 _ rfl) t97 rfl rfl
  have b82 := hd_b (F := F) (F' := F') (k := 82) (hF 82 (by decide))
  have t98 : sy_dv F' (.inr (.inl 98)) = .int ((((sy_i F 82)).toUInt32 >>> ((((0 : Int32))).toUInt32 &&& Int32.toUInt32 31)).toInt32) := hd_o (hs 15 _ rfl) b82 rfl rfl
  have t99 : sy_dv F' (.inr (.inl 99)) = .int (((((sy_i F 82)).toUInt32 >>> ((((0 : Int32))).toUInt32 &&& Int32.toUInt32 31)).toInt32).toInt8.toInt32) := hd_u (hs 16 _ rfl) t98 rfl
  have t100 : sy_dv F' (.inr (.inl 100)) = .int ((((((sy_i F 82)).toUInt32 >>> ((((0 : Int32))).toUInt32 &&& Int32.toUInt32 31)).toInt32).toInt8.toInt32).toInt8.toInt32) := hd_u (hs 17 _ rfl) t99 rfl
  have t93 : sy_dv F' (.inr (.inl 93)) = .int ((((sy_i F 82)).toUInt32 >>> ((((8 : Int32))).toUInt32 &&& Int32.toUInt32 31)).toInt32) := hd_o (hs 10 _ rfl) b82 rfl rfl
  have t94 : sy_dv F' (.inr (.inl 94)) = .int (((((sy_i F 82)).toUInt32 >>> ((((8 : Int32))).toUInt32 &&& Int32.toUInt32 31)).toInt32).toInt8.toInt32) := hd_u (hs 11 _ rfl) t93 rfl
  have t95 : sy_dv F' (.inr (.inl 95)) = .int ((((((sy_i F 82)).toUInt32 >>> ((((8 : Int32))).toUInt32 &&& Int32.toUInt32 31)).toInt32).toInt8.toInt32).toInt8.toInt32) := hd_u (hs 12 _ rfl) t94 rfl
  have t88 : sy_dv F' (.inr (.inl 88)) = .int ((((sy_i F 82)).toUInt32 >>> ((((16 : Int32))).toUInt32 &&& Int32.toUInt32 31)).toInt32) := hd_o (hs 5 _ rfl) b82 rfl rfl
  have t89 : sy_dv F' (.inr (.inl 89)) = .int (((((sy_i F 82)).toUInt32 >>> ((((16 : Int32))).toUInt32 &&& Int32.toUInt32 31)).toInt32).toInt8.toInt32) := hd_u (hs 6 _ rfl) t88 rfl
  have t90 : sy_dv F' (.inr (.inl 90)) = .int ((((((sy_i F 82)).toUInt32 >>> ((((16 : Int32))).toUInt32 &&& Int32.toUInt32 31)).toInt32).toInt8.toInt32).toInt8.toInt32) := hd_u (hs 7 _ rfl) t89 rfl
  have t83 : sy_dv F' (.inr (.inl 83)) = .int ((((sy_i F 82)).toUInt32 >>> ((((24 : Int32))).toUInt32 &&& Int32.toUInt32 31)).toInt32) := hd_o (hs 0 _ rfl) b82 rfl rfl
  have t84 : sy_dv F' (.inr (.inl 84)) = .int (((((sy_i F 82)).toUInt32 >>> ((((24 : Int32))).toUInt32 &&& Int32.toUInt32 31)).toInt32).toInt8.toInt32) := hd_u (hs 1 _ rfl) t83 rfl
  have t85 : sy_dv F' (.inr (.inl 85)) = .int ((((((sy_i F 82)).toUInt32 >>> ((((24 : Int32))).toUInt32 &&& Int32.toUInt32 31)).toInt32).toInt8.toInt32).toInt8.toInt32) := hd_u (hs 2 _ rfl) t84 rfl
  have a2 := hd_ba (F := F) (F' := F') (k := 2) (hF 2 (by decide))
  have t86 : sy_da F' (.inr (.inl 86)) = .inl (jm_upd (sy_ai F 2) (sy_i F 0).toNatClampNeg ((((((sy_i F 82)).toUInt32 >>> ((((24 : Int32))).toUInt32 &&& Int32.toUInt32 31)).toInt32).toInt8.toInt32).toInt8.toInt32)) := hd_up (hs 3 _ rfl) b0 t85 a2
  have t91 : sy_da F' (.inr (.inl 91)) = .inl (jm_upd (jm_upd (sy_ai F 2) (sy_i F 0).toNatClampNeg ((((((sy_i F 82)).toUInt32 >>> ((((24 : Int32))).toUInt32 &&& Int32.toUInt32 31)).toInt32).toInt8.toInt32).toInt8.toInt32)) ((sy_i F 0) + ((1 : Int32))).toNatClampNeg ((((((sy_i F 82)).toUInt32 >>> ((((16 : Int32))).toUInt32 &&& Int32.toUInt32 31)).toInt32).toInt8.toInt32).toInt8.toInt32)) := hd_up (hs 8 _ rfl) t87 t90 t86
  have t96 : sy_da F' (.inr (.inl 96)) = .inl (jm_upd (jm_upd (jm_upd (sy_ai F 2) (sy_i F 0).toNatClampNeg ((((((sy_i F 82)).toUInt32 >>> ((((24 : Int32))).toUInt32 &&& Int32.toUInt32 31)).toInt32).toInt8.toInt32).toInt8.toInt32)) ((sy_i F 0) + ((1 : Int32))).toNatClampNeg ((((((sy_i F 82)).toUInt32 >>> ((((16 : Int32))).toUInt32 &&& Int32.toUInt32 31)).toInt32).toInt8.toInt32).toInt8.toInt32)) (((sy_i F 0) + ((1 : Int32))) + ((1 : Int32))).toNatClampNeg ((((((sy_i F 82)).toUInt32 >>> ((((8 : Int32))).toUInt32 &&& Int32.toUInt32 31)).toInt32).toInt8.toInt32).toInt8.toInt32)) := hd_up (hs 13 _ rfl) t92 t95 t91
  have t101 : sy_da F' (.inr (.inl 101)) = .inl (jm_upd (jm_upd (jm_upd (jm_upd (sy_ai F 2) (sy_i F 0).toNatClampNeg ((((((sy_i F 82)).toUInt32 >>> ((((24 : Int32))).toUInt32 &&& Int32.toUInt32 31)).toInt32).toInt8.toInt32).toInt8.toInt32)) ((sy_i F 0) + ((1 : Int32))).toNatClampNeg ((((((sy_i F 82)).toUInt32 >>> ((((16 : Int32))).toUInt32 &&& Int32.toUInt32 31)).toInt32).toInt8.toInt32).toInt8.toInt32)) (((sy_i F 0) + ((1 : Int32))) + ((1 : Int32))).toNatClampNeg ((((((sy_i F 82)).toUInt32 >>> ((((8 : Int32))).toUInt32 &&& Int32.toUInt32 31)).toInt32).toInt8.toInt32).toInt8.toInt32)) ((((sy_i F 0) + ((1 : Int32))) + ((1 : Int32))) + ((1 : Int32))).toNatClampNeg ((((((sy_i F 82)).toUInt32 >>> ((((0 : Int32))).toUInt32 &&& Int32.toUInt32 31)).toInt32).toInt8.toInt32).toInt8.toInt32)) := hd_up (hs 18 _ rfl) t97 t100 t96
  have hB' : iv_in F' iv_B0 := iv_in_eq hB (fun j hj => hF j (Nat.lt_of_lt_of_le hj (by decide +kernel)))
  refine ⟨List.forall_mem_cons.mpr ⟨hd_p5 rfl b0 (by have hc : ((2000) : Int32).toInt = 2000 := (by decide); omega), List.forall_mem_cons.mpr ⟨hd_pb b0 (by first | exact h1 | exact h1), List.forall_mem_cons.mpr ⟨hd_p5 rfl t87 (by have hc : ((2000) : Int32).toInt = 2000 := (by decide); omega), List.forall_mem_cons.mpr ⟨hd_pb t87 (by first | exact h3 | exact h3), List.forall_mem_cons.mpr ⟨hd_p5 rfl t92 (by have hc : ((2000) : Int32).toInt = 2000 := (by decide); omega), List.forall_mem_cons.mpr ⟨hd_pb t92 (by first | exact h5 | exact h5), List.forall_mem_cons.mpr ⟨hd_p5 rfl t97 (by have hc : ((2000) : Int32).toInt = 2000 := (by decide); omega), List.forall_mem_cons.mpr ⟨hd_pb t97 (by first | exact h7 | exact h7), fun _ h => absurd h List.not_mem_nil⟩⟩⟩⟩⟩⟩⟩⟩, ?_⟩
  refine k _ ?_ ?_ ?_
  · exact fun j hj hn => (hd_keep hB' (Nat.lt_of_lt_of_le hj (by decide +kernel)) (by simp; omega)).trans (hF j (by omega))
  · exact hd_gi (x := .inr (.inl 102)) (by decide +kernel) t102
  · exact hd_ga (a := .inr (.inl 101)) (by decide +kernel) t101
theorem fd0_0_0 {Ls : Nat} {xs : Nat → Int32} {d : Nat} {Q : Option Value → jm_h → Prop} (hd : 2 ≤ d) (F : Nat → sy_d) (X1 X2 : List jm_c) (hB : iv_in F iv_B0)
    (h0 : ((sy_i F 0) + ((20 : Int32))).toInt ≤ 2000)
    (k : ∀ F1 : Nat → sy_d, (∀ j, j < 82 → True → F1 j = F j) → F1 82 = .inl (.int (sy_i F 82)) → F1 83 = .inl (.int (sy_i F 83)) → F1 84 = .inl (.int (sy_i F 84)) → F1 85 = .inl (.int (sy_i F 85)) → F1 86 = .inl (.int (sy_i F 86)) → hd_W Ls xs d jm_M81 Q (17, sy_dL F1 [some (.inl (.ref 8)), some (.inr (.inl 82)), some (.inr (.inl 83)), some (.inr (.inl 84)), some (.inr (.inl 85)), some (.inr (.inl 86))], sy_dS F1 [.inr (.inl 82), .inl (.ref 8)], sy_dh F1 X1 X2 (iv_H 0), 0, 0)) :
    hd_W Ls xs d jm_M81 Q (0, sy_dL F [some (.inl (.ref 8)), some (.inr (.inl 82)), some (.inr (.inl 83)), some (.inr (.inl 84)), some (.inr (.inl 85)), some (.inr (.inl 86))], sy_dS F [], sy_dh F X1 X2 (iv_H 0), 0, 0) := by
  refine hd_run (s := 0) (nv := 87) (pc := 17) (L := [some (.inl (.ref 8)), some (.inr (.inl 82)), some (.inr (.inl 83)), some (.inr (.inl 84)), some (.inr (.inl 85)), some (.inr (.inl 86))]) (S := [.inr (.inl 82), .inl (.ref 8)]) (uh := hd_ov (iv_id 0 iv_B0) []) (ul := [.inl (.inr (.inl 82)), .inl (.inr (.inl 83)), .inl (.inr (.inl 84)), .inl (.inr (.inl 85)), .inl (.inr (.inl 86))]) (f := true) (sp := [17, 22, 27, 33, 39]) (d0 := 1) (O := [true]) (T := [(0, [.inr (.inl 0), .inl (.int 20)], [])]) (P := [(4, .inr (.inl 87), .inl (.int 2000))]) jm_ok81 (by decide +kernel) (by decide +kernel) hd F X1 X2 (fun F' hF hs => ?_)
  have b0 := hd_b (F := F) (F' := F') (k := 0) (hF 0 (by decide))
  have t87 : sy_dv F' (.inr (.inl 87)) = .int ((sy_i F 0) + ((20 : Int32))) := hd_o (hs 0 _ rfl) b0 rfl rfl
  have b82 := hd_b (F := F) (F' := F') (k := 82) (hF 82 (by decide))
  have b83 := hd_b (F := F) (F' := F') (k := 83) (hF 83 (by decide))
  have b84 := hd_b (F := F) (F' := F') (k := 84) (hF 84 (by decide))
  have b85 := hd_b (F := F) (F' := F') (k := 85) (hF 85 (by decide))
  have b86 := hd_b (F := F) (F' := F') (k := 86) (hF 86 (by decide))
  have hB' : iv_in F' iv_B0 := iv_in_eq hB (fun j hj => hF j (Nat.lt_of_lt_of_le hj (by decide +kernel)))
  refine ⟨List.forall_mem_cons.mpr ⟨hd_p4 t87 rfl (by have hc : ((2000) : Int32).toInt = 2000 := (by decide); omega), fun _ h => absurd h List.not_mem_nil⟩, ?_⟩
  refine k _ ?_ ?_ ?_ ?_ ?_ ?_
  · exact fun j hj _ => (hd_keep hB' (Nat.lt_of_lt_of_le hj (by decide +kernel)) (by simp)).trans (hF j (by omega))
  · exact hd_gi (x := .inr (.inl 82)) (by decide +kernel) b82
  · exact hd_gi (x := .inr (.inl 83)) (by decide +kernel) b83
  · exact hd_gi (x := .inr (.inl 84)) (by decide +kernel) b84
  · exact hd_gi (x := .inr (.inl 85)) (by decide +kernel) b85
  · exact hd_gi (x := .inr (.inl 86)) (by decide +kernel) b86
theorem fd0_0_1 {Ls : Nat} {xs : Nat → Int32} {d : Nat} {Q : Option Value → jm_h → Prop} (hd : 2 ≤ d) (F : Nat → sy_d) (X1 X2 : List jm_c) (hB : iv_in F iv_B0)
    (h0 : 2000 < ((sy_i F 0) + ((20 : Int32))).toInt)
    (k : ∀ F1 : Nat → sy_d, (∀ j, j < 82 → True → F1 j = F j) → Q (some (.int (((-1) : Int32)))) (sy_dh F1 X1 X2 (iv_H 0))) :
    hd_W Ls xs d jm_M81 Q (0, sy_dL F [some (.inl (.ref 8)), some (.inr (.inl 82)), some (.inr (.inl 83)), some (.inr (.inl 84)), some (.inr (.inl 85)), some (.inr (.inl 86))], sy_dS F [], sy_dh F X1 X2 (iv_H 0), 0, 0) := by
  refine hd_ret (s := 0) (nv := 87) (v := some (.inl (.int (-1)))) (uh := hd_ov (iv_id 0 iv_B0) []) (f := true) (sp := [17, 22, 27, 33, 39]) (d0 := 1) (O := [false]) (T := [(0, [.inr (.inl 0), .inl (.int 20)], [])]) (P := [(5, .inr (.inl 87), .inl (.int 2000))]) jm_ok81 (by decide +kernel) (by decide +kernel) hd F X1 X2 (fun F' hF hs => ?_)
  have b0 := hd_b (F := F) (F' := F') (k := 0) (hF 0 (by decide))
  have t87 : sy_dv F' (.inr (.inl 87)) = .int ((sy_i F 0) + ((20 : Int32))) := hd_o (hs 0 _ rfl) b0 rfl rfl
  have hB' : iv_in F' iv_B0 := iv_in_eq hB (fun j hj => hF j (Nat.lt_of_lt_of_le hj (by decide +kernel)))
  refine ⟨List.forall_mem_cons.mpr ⟨hd_p5 t87 rfl (by have hc : ((2000) : Int32).toInt = 2000 := (by decide); omega), fun _ h => absurd h List.not_mem_nil⟩, ?_⟩
  refine k _ ?_
  · exact fun j hj _ => (hd_keep hB' (Nat.lt_of_lt_of_le hj (by decide +kernel)) (by simp)).trans (hF j (by omega))
theorem fd0_20_0 {Ls : Nat} {xs : Nat → Int32} {d : Nat} {Q : Option Value → jm_h → Prop} (hd : 2 ≤ d) (F : Nat → sy_d) (X1 X2 : List jm_c) (hB : iv_in F iv_B0)
    (k : ∀ F1 : Nat → sy_d, (∀ j, j < 82 → True → F1 j = F j) → F1 82 = .inl (.int (sy_i F 82)) → F1 83 = .inl (.int (sy_i F 83)) → F1 84 = .inl (.int (sy_i F 84)) → F1 85 = .inl (.int (sy_i F 85)) → F1 86 = .inl (.int (sy_i F 86)) → hd_W Ls xs d jm_M81 Q (22, sy_dL F1 [some (.inl (.ref 8)), some (.inr (.inl 82)), some (.inr (.inl 83)), some (.inr (.inl 84)), some (.inr (.inl 85)), some (.inr (.inl 86))], sy_dS F1 [.inr (.inl 83), .inl (.ref 8)], sy_dh F1 X1 X2 (iv_H 0), 0, 0)) :
    hd_W Ls xs d jm_M81 Q (20, sy_dL F [some (.inl (.ref 8)), some (.inr (.inl 82)), some (.inr (.inl 83)), some (.inr (.inl 84)), some (.inr (.inl 85)), some (.inr (.inl 86))], sy_dS F [], sy_dh F X1 X2 (iv_H 0), 0, 0) := by
  refine hd_run (s := 0) (nv := 87) (pc := 22) (L := [some (.inl (.ref 8)), some (.inr (.inl 82)), some (.inr (.inl 83)), some (.inr (.inl 84)), some (.inr (.inl 85)), some (.inr (.inl 86))]) (S := [.inr (.inl 83), .inl (.ref 8)]) (uh := hd_ov (iv_id 0 iv_B0) []) (ul := [.inl (.inr (.inl 82)), .inl (.inr (.inl 83)), .inl (.inr (.inl 84)), .inl (.inr (.inl 85)), .inl (.inr (.inl 86))]) (f := false) (sp := [17, 22, 27, 33, 39]) (d0 := 1) (O := []) (T := []) (P := []) jm_ok81 (by decide +kernel) (by decide +kernel) hd F X1 X2 (fun F' hF hs => ?_)
  have b82 := hd_b (F := F) (F' := F') (k := 82) (hF 82 (by decide))
  have b83 := hd_b (F := F) (F' := F') (k := 83) (hF 83 (by decide))
  have b84 := hd_b (F := F) (F' := F') (k := 84) (hF 84 (by decide))
  have b85 := hd_b (F := F) (F' := F') (k := 85) (hF 85 (by decide))
  have b86 := hd_b (F := F) (F' := F') (k := 86) (hF 86 (by decide))
  have hB' : iv_in F' iv_B0 := iv_in_eq hB (fun j hj => hF j (Nat.lt_of_lt_of_le hj (by decide +kernel)))
  refine ⟨fun _ h => absurd h List.not_mem_nil, ?_⟩
  refine k _ ?_ ?_ ?_ ?_ ?_ ?_
  · exact fun j hj _ => (hd_keep hB' (Nat.lt_of_lt_of_le hj (by decide +kernel)) (by simp)).trans (hF j (by omega))
  · exact hd_gi (x := .inr (.inl 82)) (by decide +kernel) b82
  · exact hd_gi (x := .inr (.inl 83)) (by decide +kernel) b83
  · exact hd_gi (x := .inr (.inl 84)) (by decide +kernel) b84
  · exact hd_gi (x := .inr (.inl 85)) (by decide +kernel) b85
  · exact hd_gi (x := .inr (.inl 86)) (by decide +kernel) b86
theorem fd0_25_0 {Ls : Nat} {xs : Nat → Int32} {d : Nat} {Q : Option Value → jm_h → Prop} (hd : 2 ≤ d) (F : Nat → sy_d) (X1 X2 : List jm_c) (hB : iv_in F iv_B0)
    (k : ∀ F1 : Nat → sy_d, (∀ j, j < 82 → True → F1 j = F j) → F1 82 = .inl (.int (sy_i F 82)) → F1 83 = .inl (.int (sy_i F 83)) → F1 84 = .inl (.int (sy_i F 84)) → F1 85 = .inl (.int (sy_i F 85)) → F1 86 = .inl (.int (sy_i F 86)) → hd_W Ls xs d jm_M81 Q (27, sy_dL F1 [some (.inl (.ref 8)), some (.inr (.inl 82)), some (.inr (.inl 83)), some (.inr (.inl 84)), some (.inr (.inl 85)), some (.inr (.inl 86))], sy_dS F1 [.inr (.inl 84), .inl (.ref 8)], sy_dh F1 X1 X2 (iv_H 0), 0, 0)) :
    hd_W Ls xs d jm_M81 Q (25, sy_dL F [some (.inl (.ref 8)), some (.inr (.inl 82)), some (.inr (.inl 83)), some (.inr (.inl 84)), some (.inr (.inl 85)), some (.inr (.inl 86))], sy_dS F [], sy_dh F X1 X2 (iv_H 0), 0, 0) := by
  refine hd_run (s := 0) (nv := 87) (pc := 27) (L := [some (.inl (.ref 8)), some (.inr (.inl 82)), some (.inr (.inl 83)), some (.inr (.inl 84)), some (.inr (.inl 85)), some (.inr (.inl 86))]) (S := [.inr (.inl 84), .inl (.ref 8)]) (uh := hd_ov (iv_id 0 iv_B0) []) (ul := [.inl (.inr (.inl 82)), .inl (.inr (.inl 83)), .inl (.inr (.inl 84)), .inl (.inr (.inl 85)), .inl (.inr (.inl 86))]) (f := false) (sp := [17, 22, 27, 33, 39]) (d0 := 1) (O := []) (T := []) (P := []) jm_ok81 (by decide +kernel) (by decide +kernel) hd F X1 X2 (fun F' hF hs => ?_)
  have b82 := hd_b (F := F) (F' := F') (k := 82) (hF 82 (by decide))
  have b83 := hd_b (F := F) (F' := F') (k := 83) (hF 83 (by decide))
  have b84 := hd_b (F := F) (F' := F') (k := 84) (hF 84 (by decide))
  have b85 := hd_b (F := F) (F' := F') (k := 85) (hF 85 (by decide))
  have b86 := hd_b (F := F) (F' := F') (k := 86) (hF 86 (by decide))
  have hB' : iv_in F' iv_B0 := iv_in_eq hB (fun j hj => hF j (Nat.lt_of_lt_of_le hj (by decide +kernel)))
  refine ⟨fun _ h => absurd h List.not_mem_nil, ?_⟩
  refine k _ ?_ ?_ ?_ ?_ ?_ ?_
  · exact fun j hj _ => (hd_keep hB' (Nat.lt_of_lt_of_le hj (by decide +kernel)) (by simp)).trans (hF j (by omega))
  · exact hd_gi (x := .inr (.inl 82)) (by decide +kernel) b82
  · exact hd_gi (x := .inr (.inl 83)) (by decide +kernel) b83
  · exact hd_gi (x := .inr (.inl 84)) (by decide +kernel) b84
  · exact hd_gi (x := .inr (.inl 85)) (by decide +kernel) b85
  · exact hd_gi (x := .inr (.inl 86)) (by decide +kernel) b86
theorem fd0_30_0 {Ls : Nat} {xs : Nat → Int32} {d : Nat} {Q : Option Value → jm_h → Prop} (hd : 2 ≤ d) (F : Nat → sy_d) (X1 X2 : List jm_c) (hB : iv_in F iv_B0)
    (k : ∀ F1 : Nat → sy_d, (∀ j, j < 82 → True → F1 j = F j) → F1 82 = .inl (.int (sy_i F 82)) → F1 83 = .inl (.int (sy_i F 83)) → F1 84 = .inl (.int (sy_i F 84)) → F1 85 = .inl (.int (sy_i F 85)) → F1 86 = .inl (.int (sy_i F 86)) → hd_W Ls xs d jm_M81 Q (33, sy_dL F1 [some (.inl (.ref 8)), some (.inr (.inl 82)), some (.inr (.inl 83)), some (.inr (.inl 84)), some (.inr (.inl 85)), some (.inr (.inl 86))], sy_dS F1 [.inr (.inl 85), .inl (.ref 8)], sy_dh F1 X1 X2 (iv_H 0), 0, 0)) :
    hd_W Ls xs d jm_M81 Q (30, sy_dL F [some (.inl (.ref 8)), some (.inr (.inl 82)), some (.inr (.inl 83)), some (.inr (.inl 84)), some (.inr (.inl 85)), some (.inr (.inl 86))], sy_dS F [], sy_dh F X1 X2 (iv_H 0), 0, 0) := by
  refine hd_run (s := 0) (nv := 87) (pc := 33) (L := [some (.inl (.ref 8)), some (.inr (.inl 82)), some (.inr (.inl 83)), some (.inr (.inl 84)), some (.inr (.inl 85)), some (.inr (.inl 86))]) (S := [.inr (.inl 85), .inl (.ref 8)]) (uh := hd_ov (iv_id 0 iv_B0) []) (ul := [.inl (.inr (.inl 82)), .inl (.inr (.inl 83)), .inl (.inr (.inl 84)), .inl (.inr (.inl 85)), .inl (.inr (.inl 86))]) (f := false) (sp := [17, 22, 27, 33, 39]) (d0 := 1) (O := []) (T := []) (P := []) jm_ok81 (by decide +kernel) (by decide +kernel) hd F X1 X2 (fun F' hF hs => ?_)
  have b82 := hd_b (F := F) (F' := F') (k := 82) (hF 82 (by decide))
  have b83 := hd_b (F := F) (F' := F') (k := 83) (hF 83 (by decide))
  have b84 := hd_b (F := F) (F' := F') (k := 84) (hF 84 (by decide))
  have b85 := hd_b (F := F) (F' := F') (k := 85) (hF 85 (by decide))
  have b86 := hd_b (F := F) (F' := F') (k := 86) (hF 86 (by decide))
  have hB' : iv_in F' iv_B0 := iv_in_eq hB (fun j hj => hF j (Nat.lt_of_lt_of_le hj (by decide +kernel)))
  refine ⟨fun _ h => absurd h List.not_mem_nil, ?_⟩
  refine k _ ?_ ?_ ?_ ?_ ?_ ?_
  · exact fun j hj _ => (hd_keep hB' (Nat.lt_of_lt_of_le hj (by decide +kernel)) (by simp)).trans (hF j (by omega))
  · exact hd_gi (x := .inr (.inl 82)) (by decide +kernel) b82
  · exact hd_gi (x := .inr (.inl 83)) (by decide +kernel) b83
  · exact hd_gi (x := .inr (.inl 84)) (by decide +kernel) b84
  · exact hd_gi (x := .inr (.inl 85)) (by decide +kernel) b85
  · exact hd_gi (x := .inr (.inl 86)) (by decide +kernel) b86
theorem fd0_36_0 {Ls : Nat} {xs : Nat → Int32} {d : Nat} {Q : Option Value → jm_h → Prop} (hd : 2 ≤ d) (F : Nat → sy_d) (X1 X2 : List jm_c) (hB : iv_in F iv_B0)
    (k : ∀ F1 : Nat → sy_d, (∀ j, j < 82 → True → F1 j = F j) → F1 82 = .inl (.int (sy_i F 82)) → F1 83 = .inl (.int (sy_i F 83)) → F1 84 = .inl (.int (sy_i F 84)) → F1 85 = .inl (.int (sy_i F 85)) → F1 86 = .inl (.int (sy_i F 86)) → hd_W Ls xs d jm_M81 Q (39, sy_dL F1 [some (.inl (.ref 8)), some (.inr (.inl 82)), some (.inr (.inl 83)), some (.inr (.inl 84)), some (.inr (.inl 85)), some (.inr (.inl 86))], sy_dS F1 [.inr (.inl 86), .inl (.ref 8)], sy_dh F1 X1 X2 (iv_H 0), 0, 0)) :
    hd_W Ls xs d jm_M81 Q (36, sy_dL F [some (.inl (.ref 8)), some (.inr (.inl 82)), some (.inr (.inl 83)), some (.inr (.inl 84)), some (.inr (.inl 85)), some (.inr (.inl 86))], sy_dS F [], sy_dh F X1 X2 (iv_H 0), 0, 0) := by
  refine hd_run (s := 0) (nv := 87) (pc := 39) (L := [some (.inl (.ref 8)), some (.inr (.inl 82)), some (.inr (.inl 83)), some (.inr (.inl 84)), some (.inr (.inl 85)), some (.inr (.inl 86))]) (S := [.inr (.inl 86), .inl (.ref 8)]) (uh := hd_ov (iv_id 0 iv_B0) []) (ul := [.inl (.inr (.inl 82)), .inl (.inr (.inl 83)), .inl (.inr (.inl 84)), .inl (.inr (.inl 85)), .inl (.inr (.inl 86))]) (f := false) (sp := [17, 22, 27, 33, 39]) (d0 := 1) (O := []) (T := []) (P := []) jm_ok81 (by decide +kernel) (by decide +kernel) hd F X1 X2 (fun F' hF hs => ?_)
  have b82 := hd_b (F := F) (F' := F') (k := 82) (hF 82 (by decide))
  have b83 := hd_b (F := F) (F' := F') (k := 83) (hF 83 (by decide))
  have b84 := hd_b (F := F) (F' := F') (k := 84) (hF 84 (by decide))
  have b85 := hd_b (F := F) (F' := F') (k := 85) (hF 85 (by decide))
  have b86 := hd_b (F := F) (F' := F') (k := 86) (hF 86 (by decide))
  have hB' : iv_in F' iv_B0 := iv_in_eq hB (fun j hj => hF j (Nat.lt_of_lt_of_le hj (by decide +kernel)))
  refine ⟨fun _ h => absurd h List.not_mem_nil, ?_⟩
  refine k _ ?_ ?_ ?_ ?_ ?_ ?_
  · exact fun j hj _ => (hd_keep hB' (Nat.lt_of_lt_of_le hj (by decide +kernel)) (by simp)).trans (hF j (by omega))
  · exact hd_gi (x := .inr (.inl 82)) (by decide +kernel) b82
  · exact hd_gi (x := .inr (.inl 83)) (by decide +kernel) b83
  · exact hd_gi (x := .inr (.inl 84)) (by decide +kernel) b84
  · exact hd_gi (x := .inr (.inl 85)) (by decide +kernel) b85
  · exact hd_gi (x := .inr (.inl 86)) (by decide +kernel) b86
theorem fd0_42_0 {Ls : Nat} {xs : Nat → Int32} {d : Nat} {Q : Option Value → jm_h → Prop} (hd : 2 ≤ d) (F : Nat → sy_d) (X1 X2 : List jm_c) (hB : iv_in F iv_B0)
    (k : ∀ F1 : Nat → sy_d, (∀ j, j < 82 → True → F1 j = F j) → Q (some (.int (sy_i F 0))) (sy_dh F1 X1 X2 (iv_H 0))) :
    hd_W Ls xs d jm_M81 Q (42, sy_dL F [some (.inl (.ref 8)), some (.inr (.inl 82)), some (.inr (.inl 83)), some (.inr (.inl 84)), some (.inr (.inl 85)), some (.inr (.inl 86))], sy_dS F [], sy_dh F X1 X2 (iv_H 0), 0, 0) := by
  refine hd_ret (s := 0) (nv := 87) (v := some (.inr (.inl 0))) (uh := hd_ov (iv_id 0 iv_B0) []) (f := false) (sp := [17, 22, 27, 33, 39]) (d0 := 1) (O := []) (T := []) (P := []) jm_ok81 (by decide +kernel) (by decide +kernel) hd F X1 X2 (fun F' hF hs => ?_)
  have b0 := hd_b (F := F) (F' := F') (k := 0) (hF 0 (by decide))
  have hB' : iv_in F' iv_B0 := iv_in_eq hB (fun j hj => hF j (Nat.lt_of_lt_of_le hj (by decide +kernel)))
  have hk := k (sy_cm F' (hd_ov (iv_id 0 iv_B0) [] ++ [])) (fun j hj _ => (hd_keep hB' (Nat.lt_of_lt_of_le hj (by decide +kernel)) (by simp)).trans (hF j (by omega)))
  refine ⟨fun _ h => absurd h List.not_mem_nil, ?_⟩
  show Q (some (sy_dv F' (.inr (.inl 0)))) _
  rw [b0]
  exact hk
theorem ap1_0_0 {Ls : Nat} {xs : Nat → Int32} {d : Nat} {Q : Option Value → jm_h → Prop} (hd : 1 ≤ d) (F : Nat → sy_d) (X1 X2 : List jm_c) (hB : iv_in F iv_B0)
    (h0 : 2000 ≤ (sy_i F 0).toInt)
    (k : ∀ F1 : Nat → sy_d, (∀ j, j < 82 → True → F1 j = F j) → Q (none) (sy_dh F1 X1 X2 (iv_H 1))) :
    hd_W Ls xs d jm_M116 Q (0, sy_dL F [some (.inl (.ref 8)), some (.inr (.inl 82)), none], sy_dS F [], sy_dh F X1 X2 (iv_H 1), 0, 0) := by
  refine hd_ret (s := 1) (nv := 83) (v := none) (uh := hd_ov (iv_id 0 iv_B0) []) (f := true) (sp := []) (d0 := 0) (O := [true]) (T := []) (P := [(4, .inl (.int 2000), .inr (.inl 0))]) jm_ok116 (by decide +kernel) (by decide +kernel) hd F X1 X2 (fun F' hF hs => ?_)
  have b0 := hd_b (F := F) (F' := F') (k := 0) (hF 0 (by decide))
  have hB' : iv_in F' iv_B0 := iv_in_eq hB (fun j hj => hF j (Nat.lt_of_lt_of_le hj (by decide +kernel)))
  refine ⟨List.forall_mem_cons.mpr ⟨hd_p4 rfl b0 (by have hc : ((2000) : Int32).toInt = 2000 := (by decide); omega), fun _ h => absurd h List.not_mem_nil⟩, ?_⟩
  refine k _ ?_
  · exact fun j hj _ => (hd_keep hB' (Nat.lt_of_lt_of_le hj (by decide +kernel)) (by simp)).trans (hF j (by omega))
theorem ap1_0_1 {Ls : Nat} {xs : Nat → Int32} {d : Nat} {Q : Option Value → jm_h → Prop} (hd : 1 ≤ d) (F : Nat → sy_d) (X1 X2 : List jm_c) (hB : iv_in F iv_B0)
    (h0 : (sy_i F 0).toInt < 2000)
    (h1 : 0 ≤ (sy_i F 0).toInt ∧ (sy_i F 0).toInt < 2000)
    (h2 : 2000 ≤ ((sy_i F 0) + ((1 : Int32))).toInt)
    (k : ∀ F1 : Nat → sy_d, (∀ j, j < 82 → j ≠ 0 ∧ j ≠ 2 → F1 j = F j) → F1 0 = .inl (.int ((sy_i F 0) + ((1 : Int32)))) → F1 2 = .inr (.inl (jm_upd (sy_ai F 2) (sy_i F 0).toNatClampNeg ((((((sy_i F 82)).toUInt32 >>> ((((24 : Int32))).toUInt32 &&& Int32.toUInt32 31)).toInt32).toInt8.toInt32).toInt8.toInt32))) → Q (none) (sy_dh F1 X1 X2 (iv_H 1))) :
    hd_W Ls xs d jm_M116 Q (0, sy_dL F [some (.inl (.ref 8)), some (.inr (.inl 82)), none], sy_dS F [], sy_dh F X1 X2 (iv_H 1), 0, 0) := by
  refine hd_ret (s := 1) (nv := 83) (v := none) (uh := hd_ov (iv_id 0 iv_B0) [(0, .inl (.inr (.inl 87))), (2, .inr (.inr (.inl 86)))]) (f := true) (sp := []) (d0 := 0) (O := [false, true]) (T := [(8, [.inr (.inl 82), .inl (.int 24)], []), (22, [.inr (.inl 83)], []), (22, [.inr (.inl 84)], []), (40, [.inr (.inl 0), .inr (.inl 85)], [.inr (.inl 2)]), (0, [.inr (.inl 0), .inl (.int 1)], [])]) (P := [(5, .inl (.int 2000), .inr (.inl 0)), (6, .inr (.inl 0), .inl (.ref 2000)), (4, .inl (.int 2000), .inr (.inl 87))]) jm_ok116 (by decide +kernel) (by decide +kernel) hd F X1 X2 (fun F' hF hs => ?_)
  have b0 := hd_b (F := F) (F' := F') (k := 0) (hF 0 (by decide))
  have t87 : sy_dv F' (.inr (.inl 87)) = .int ((sy_i F 0) + ((1 : Int32))) := hd_o (hs 4 _ rfl) b0 rfl rfl
  have b82 := hd_b (F := F) (F' := F') (k := 82) (hF 82 (by decide))
  have t83 : sy_dv F' (.inr (.inl 83)) = .int ((((sy_i F 82)).toUInt32 >>> ((((24 : Int32))).toUInt32 &&& Int32.toUInt32 31)).toInt32) := hd_o (hs 0 _ rfl) b82 rfl rfl
  have t84 : sy_dv F' (.inr (.inl 84)) = .int (((((sy_i F 82)).toUInt32 >>> ((((24 : Int32))).toUInt32 &&& Int32.toUInt32 31)).toInt32).toInt8.toInt32) := hd_u (hs 1 _ rfl) t83 rfl
  have t85 : sy_dv F' (.inr (.inl 85)) = .int ((((((sy_i F 82)).toUInt32 >>> ((((24 : Int32))).toUInt32 &&& Int32.toUInt32 31)).toInt32).toInt8.toInt32).toInt8.toInt32) := hd_u (hs 2 _ rfl) t84 rfl
  have a2 := hd_ba (F := F) (F' := F') (k := 2) (hF 2 (by decide))
  have t86 : sy_da F' (.inr (.inl 86)) = .inl (jm_upd (sy_ai F 2) (sy_i F 0).toNatClampNeg ((((((sy_i F 82)).toUInt32 >>> ((((24 : Int32))).toUInt32 &&& Int32.toUInt32 31)).toInt32).toInt8.toInt32).toInt8.toInt32)) := hd_up (hs 3 _ rfl) b0 t85 a2
  have hB' : iv_in F' iv_B0 := iv_in_eq hB (fun j hj => hF j (Nat.lt_of_lt_of_le hj (by decide +kernel)))
  refine ⟨List.forall_mem_cons.mpr ⟨hd_p5 rfl b0 (by have hc : ((2000) : Int32).toInt = 2000 := (by decide); omega), List.forall_mem_cons.mpr ⟨hd_pb b0 (by first | exact h1 | exact h1), List.forall_mem_cons.mpr ⟨hd_p4 rfl t87 (by have hc : ((2000) : Int32).toInt = 2000 := (by decide); omega), fun _ h => absurd h List.not_mem_nil⟩⟩⟩, ?_⟩
  refine k _ ?_ ?_ ?_
  · exact fun j hj hn => (hd_keep hB' (Nat.lt_of_lt_of_le hj (by decide +kernel)) (by simp; omega)).trans (hF j (by omega))
  · exact hd_gi (x := .inr (.inl 87)) (by decide +kernel) t87
  · exact hd_ga (a := .inr (.inl 86)) (by decide +kernel) t86
theorem ap1_0_2 {Ls : Nat} {xs : Nat → Int32} {d : Nat} {Q : Option Value → jm_h → Prop} (hd : 1 ≤ d) (F : Nat → sy_d) (X1 X2 : List jm_c) (hB : iv_in F iv_B0)
    (h0 : (sy_i F 0).toInt < 2000)
    (h1 : 0 ≤ (sy_i F 0).toInt ∧ (sy_i F 0).toInt < 2000)
    (h2 : ((sy_i F 0) + ((1 : Int32))).toInt < 2000)
    (h3 : 0 ≤ ((sy_i F 0) + ((1 : Int32))).toInt ∧ ((sy_i F 0) + ((1 : Int32))).toInt < 2000)
    (h4 : 2000 ≤ (((sy_i F 0) + ((1 : Int32))) + ((1 : Int32))).toInt)
    (k : ∀ F1 : Nat → sy_d, (∀ j, j < 82 → j ≠ 0 ∧ j ≠ 2 → F1 j = F j) → F1 0 = .inl (.int (((sy_i F 0) + ((1 : Int32))) + ((1 : Int32)))) → F1 2 = .inr (.inl (jm_upd (jm_upd (sy_ai F 2) (sy_i F 0).toNatClampNeg ((((((sy_i F 82)).toUInt32 >>> ((((24 : Int32))).toUInt32 &&& Int32.toUInt32 31)).toInt32).toInt8.toInt32).toInt8.toInt32)) ((sy_i F 0) + ((1 : Int32))).toNatClampNeg ((((((sy_i F 82)).toUInt32 >>> ((((16 : Int32))).toUInt32 &&& Int32.toUInt32 31)).toInt32).toInt8.toInt32).toInt8.toInt32))) → Q (none) (sy_dh F1 X1 X2 (iv_H 1))) :
    hd_W Ls xs d jm_M116 Q (0, sy_dL F [some (.inl (.ref 8)), some (.inr (.inl 82)), none], sy_dS F [], sy_dh F X1 X2 (iv_H 1), 0, 0) := by
  refine hd_ret (s := 1) (nv := 83) (v := none) (uh := hd_ov (iv_id 0 iv_B0) [(0, .inl (.inr (.inl 92))), (2, .inr (.inr (.inl 91)))]) (f := true) (sp := []) (d0 := 0) (O := [false, false, true]) (T := [(8, [.inr (.inl 82), .inl (.int 24)], []), (22, [.inr (.inl 83)], []), (22, [.inr (.inl 84)], []), (40, [.inr (.inl 0), .inr (.inl 85)], [.inr (.inl 2)]), (0, [.inr (.inl 0), .inl (.int 1)], []), (8, [.inr (.inl 82), .inl (.int 16)], []), (22, [.inr (.inl 88)], []), (22, [.inr (.inl 89)], []), (40, [.inr (.inl 87), .inr (.inl 90)], [.inr (.inl 86)]), (0, [.inr (.inl 87), .inl (.int 1)], [])]) (P := [(5, .inl (.int 2000), .inr (.inl 0)), (6, .inr (.inl 0), .inl (.ref 2000)), (5, .inl (.int 2000), .inr (.inl 87)), (6, .inr (.inl 87), .inl (.ref 2000)), (4, .inl (.int 2000), .inr (.inl 92))]) jm_ok116 (by decide +kernel) (by decide +kernel) hd F X1 X2 (fun F' hF hs => ?_)
  have b0 := hd_b (F := F) (F' := F') (k := 0) (hF 0 (by decide))
  have t87 : sy_dv F' (.inr (.inl 87)) = .int ((sy_i F 0) + ((1 : Int32))) := hd_o (hs 4 _ rfl) b0 rfl rfl
  have t92 : sy_dv F' (.inr (.inl 92)) = .int (((sy_i F 0) + ((1 : Int32))) + ((1 : Int32))) := hd_o (hs 9 _ rfl) t87 rfl rfl
  have b82 := hd_b (F := F) (F' := F') (k := 82) (hF 82 (by decide))
  have t88 : sy_dv F' (.inr (.inl 88)) = .int ((((sy_i F 82)).toUInt32 >>> ((((16 : Int32))).toUInt32 &&& Int32.toUInt32 31)).toInt32) := hd_o (hs 5 _ rfl) b82 rfl rfl
  have t89 : sy_dv F' (.inr (.inl 89)) = .int (((((sy_i F 82)).toUInt32 >>> ((((16 : Int32))).toUInt32 &&& Int32.toUInt32 31)).toInt32).toInt8.toInt32) := hd_u (hs 6 _ rfl) t88 rfl
  have t90 : sy_dv F' (.inr (.inl 90)) = .int ((((((sy_i F 82)).toUInt32 >>> ((((16 : Int32))).toUInt32 &&& Int32.toUInt32 31)).toInt32).toInt8.toInt32).toInt8.toInt32) := hd_u (hs 7 _ rfl) t89 rfl
  have t83 : sy_dv F' (.inr (.inl 83)) = .int ((((sy_i F 82)).toUInt32 >>> ((((24 : Int32))).toUInt32 &&& Int32.toUInt32 31)).toInt32) := hd_o (hs 0 _ rfl) b82 rfl rfl
  have t84 : sy_dv F' (.inr (.inl 84)) = .int (((((sy_i F 82)).toUInt32 >>> ((((24 : Int32))).toUInt32 &&& Int32.toUInt32 31)).toInt32).toInt8.toInt32) := hd_u (hs 1 _ rfl) t83 rfl
  have t85 : sy_dv F' (.inr (.inl 85)) = .int ((((((sy_i F 82)).toUInt32 >>> ((((24 : Int32))).toUInt32 &&& Int32.toUInt32 31)).toInt32).toInt8.toInt32).toInt8.toInt32) := hd_u (hs 2 _ rfl) t84 rfl
  have a2 := hd_ba (F := F) (F' := F') (k := 2) (hF 2 (by decide))
  have t86 : sy_da F' (.inr (.inl 86)) = .inl (jm_upd (sy_ai F 2) (sy_i F 0).toNatClampNeg ((((((sy_i F 82)).toUInt32 >>> ((((24 : Int32))).toUInt32 &&& Int32.toUInt32 31)).toInt32).toInt8.toInt32).toInt8.toInt32)) := hd_up (hs 3 _ rfl) b0 t85 a2
  have t91 : sy_da F' (.inr (.inl 91)) = .inl (jm_upd (jm_upd (sy_ai F 2) (sy_i F 0).toNatClampNeg ((((((sy_i F 82)).toUInt32 >>> ((((24 : Int32))).toUInt32 &&& Int32.toUInt32 31)).toInt32).toInt8.toInt32).toInt8.toInt32)) ((sy_i F 0) + ((1 : Int32))).toNatClampNeg ((((((sy_i F 82)).toUInt32 >>> ((((16 : Int32))).toUInt32 &&& Int32.toUInt32 31)).toInt32).toInt8.toInt32).toInt8.toInt32)) := hd_up (hs 8 _ rfl) t87 t90 t86
  have hB' : iv_in F' iv_B0 := iv_in_eq hB (fun j hj => hF j (Nat.lt_of_lt_of_le hj (by decide +kernel)))
  refine ⟨List.forall_mem_cons.mpr ⟨hd_p5 rfl b0 (by have hc : ((2000) : Int32).toInt = 2000 := (by decide); omega), List.forall_mem_cons.mpr ⟨hd_pb b0 (by first | exact h1 | exact h1), List.forall_mem_cons.mpr ⟨hd_p5 rfl t87 (by have hc : ((2000) : Int32).toInt = 2000 := (by decide); omega), List.forall_mem_cons.mpr ⟨hd_pb t87 (by first | exact h3 | exact h3), List.forall_mem_cons.mpr ⟨hd_p4 rfl t92 (by have hc : ((2000) : Int32).toInt = 2000 := (by decide); omega), fun _ h => absurd h List.not_mem_nil⟩⟩⟩⟩⟩, ?_⟩
  refine k _ ?_ ?_ ?_
  · exact fun j hj hn => (hd_keep hB' (Nat.lt_of_lt_of_le hj (by decide +kernel)) (by simp; omega)).trans (hF j (by omega))
  · exact hd_gi (x := .inr (.inl 92)) (by decide +kernel) t92
  · exact hd_ga (a := .inr (.inl 91)) (by decide +kernel) t91
theorem ap1_0_3 {Ls : Nat} {xs : Nat → Int32} {d : Nat} {Q : Option Value → jm_h → Prop} (hd : 1 ≤ d) (F : Nat → sy_d) (X1 X2 : List jm_c) (hB : iv_in F iv_B0)
    (h0 : (sy_i F 0).toInt < 2000)
    (h1 : 0 ≤ (sy_i F 0).toInt ∧ (sy_i F 0).toInt < 2000)
    (h2 : ((sy_i F 0) + ((1 : Int32))).toInt < 2000)
    (h3 : 0 ≤ ((sy_i F 0) + ((1 : Int32))).toInt ∧ ((sy_i F 0) + ((1 : Int32))).toInt < 2000)
    (h4 : (((sy_i F 0) + ((1 : Int32))) + ((1 : Int32))).toInt < 2000)
    (h5 : 0 ≤ (((sy_i F 0) + ((1 : Int32))) + ((1 : Int32))).toInt ∧ (((sy_i F 0) + ((1 : Int32))) + ((1 : Int32))).toInt < 2000)
    (h6 : 2000 ≤ ((((sy_i F 0) + ((1 : Int32))) + ((1 : Int32))) + ((1 : Int32))).toInt)
    (k : ∀ F1 : Nat → sy_d, (∀ j, j < 82 → j ≠ 0 ∧ j ≠ 2 → F1 j = F j) → F1 0 = .inl (.int ((((sy_i F 0) + ((1 : Int32))) + ((1 : Int32))) + ((1 : Int32)))) → F1 2 = .inr (.inl (jm_upd (jm_upd (jm_upd (sy_ai F 2) (sy_i F 0).toNatClampNeg ((((((sy_i F 82)).toUInt32 >>> ((((24 : Int32))).toUInt32 &&& Int32.toUInt32 31)).toInt32).toInt8.toInt32).toInt8.toInt32)) ((sy_i F 0) + ((1 : Int32))).toNatClampNeg ((((((sy_i F 82)).toUInt32 >>> ((((16 : Int32))).toUInt32 &&& Int32.toUInt32 31)).toInt32).toInt8.toInt32).toInt8.toInt32)) (((sy_i F 0) + ((1 : Int32))) + ((1 : Int32))).toNatClampNeg ((((((sy_i F 82)).toUInt32 >>> ((((8 : Int32))).toUInt32 &&& Int32.toUInt32 31)).toInt32).toInt8.toInt32).toInt8.toInt32))) → Q (none) (sy_dh F1 X1 X2 (iv_H 1))) :
    hd_W Ls xs d jm_M116 Q (0, sy_dL F [some (.inl (.ref 8)), some (.inr (.inl 82)), none], sy_dS F [], sy_dh F X1 X2 (iv_H 1), 0, 0) := by
  refine hd_ret (s := 1) (nv := 83) (v := none) (uh := hd_ov (iv_id 0 iv_B0) [(0, .inl (.inr (.inl 97))), (2, .inr (.inr (.inl 96)))]) (f := true) (sp := []) (d0 := 0) (O := [false, false, false, true]) (T := [(8, [.inr (.inl 82), .inl (.int 24)], []), (22, [.inr (.inl 83)], []), (22, [.inr (.inl 84)], []), (40, [.inr (.inl 0), .inr (.inl 85)], [.inr (.inl 2)]), (0, [.inr (.inl 0), .inl (.int 1)], []), (8, [.inr (.inl 82), .inl (.int 16)], []), (22, [.inr (.inl 88)], []), (22, [.inr (.inl 89)], []), (40, [.inr (.inl 87), .inr (.inl 90)], [.inr (.inl 86)]), (0, [.inr (.inl 87), .inl (.int 1)], []), (8, [.inr (.inl 82), .inl (.int 8)], []), (22, [.inr (.inl 93)], []), (22, [.inr (.inl 94)], []), (40, [.inr (.inl 92), .inr (.inl 95)], [.inr (.inl 91)]), (0, [.inr (.inl 92), .inl (.int 1)], [])]) (P := [(5, .inl (.int 2000), .inr (.inl 0)), (6, .inr (.inl 0), .inl (.ref 2000)), (5, .inl (.int 2000), .inr (.inl 87)), (6, .inr (.inl 87), .inl (.ref 2000)), (5, .inl (.int 2000), .inr (.inl 92)), (6, .inr (.inl 92), .inl (.ref 2000)), (4, .inl (.int 2000), .inr (.inl 97))]) jm_ok116 (by decide +kernel) (by decide +kernel) hd F X1 X2 (fun F' hF hs => ?_)
  have b0 := hd_b (F := F) (F' := F') (k := 0) (hF 0 (by decide))
  have t87 : sy_dv F' (.inr (.inl 87)) = .int ((sy_i F 0) + ((1 : Int32))) := hd_o (hs 4 _ rfl) b0 rfl rfl
  have t92 : sy_dv F' (.inr (.inl 92)) = .int (((sy_i F 0) + ((1 : Int32))) + ((1 : Int32))) := hd_o (hs 9 _ rfl) t87 rfl rfl
  have t97 : sy_dv F' (.inr (.inl 97)) = .int ((((sy_i F 0) + ((1 : Int32))) + ((1 : Int32))) + ((1 : Int32))) := hd_o (hs 14 _ rfl) t92 rfl rfl
  have b82 := hd_b (F := F) (F' := F') (k := 82) (hF 82 (by decide))
  have t93 : sy_dv F' (.inr (.inl 93)) = .int ((((sy_i F 82)).toUInt32 >>> ((((8 : Int32))).toUInt32 &&& Int32.toUInt32 31)).toInt32) := hd_o (hs 10 _ rfl) b82 rfl rfl
  have t94 : sy_dv F' (.inr (.inl 94)) = .int (((((sy_i F 82)).toUInt32 >>> ((((8 : Int32))).toUInt32 &&& Int32.toUInt32 31)).toInt32).toInt8.toInt32) := hd_u (hs 11 _ rfl) t93 rfl
  have t95 : sy_dv F' (.inr (.inl 95)) = .int ((((((sy_i F 82)).toUInt32 >>> ((((8 : Int32))).toUInt32 &&& Int32.toUInt32 31)).toInt32).toInt8.toInt32).toInt8.toInt32) := hd_u (hs 12 _ rfl) t94 rfl
  have t88 : sy_dv F' (.inr (.inl 88)) = .int ((((sy_i F 82)).toUInt32 >>> ((((16 : Int32))).toUInt32 &&& Int32.toUInt32 31)).toInt32) := hd_o (hs 5 _ rfl) b82 rfl rfl
  have t89 : sy_dv F' (.inr (.inl 89)) = .int (((((sy_i F 82)).toUInt32 >>> ((((16 : Int32))).toUInt32 &&& Int32.toUInt32 31)).toInt32).toInt8.toInt32) := hd_u (hs 6 _ rfl) t88 rfl
  have t90 : sy_dv F' (.inr (.inl 90)) = .int ((((((sy_i F 82)).toUInt32 >>> ((((16 : Int32))).toUInt32 &&& Int32.toUInt32 31)).toInt32).toInt8.toInt32).toInt8.toInt32) := hd_u (hs 7 _ rfl) t89 rfl
  have t83 : sy_dv F' (.inr (.inl 83)) = .int ((((sy_i F 82)).toUInt32 >>> ((((24 : Int32))).toUInt32 &&& Int32.toUInt32 31)).toInt32) := hd_o (hs 0 _ rfl) b82 rfl rfl
  have t84 : sy_dv F' (.inr (.inl 84)) = .int (((((sy_i F 82)).toUInt32 >>> ((((24 : Int32))).toUInt32 &&& Int32.toUInt32 31)).toInt32).toInt8.toInt32) := hd_u (hs 1 _ rfl) t83 rfl
  have t85 : sy_dv F' (.inr (.inl 85)) = .int ((((((sy_i F 82)).toUInt32 >>> ((((24 : Int32))).toUInt32 &&& Int32.toUInt32 31)).toInt32).toInt8.toInt32).toInt8.toInt32) := hd_u (hs 2 _ rfl) t84 rfl
  have a2 := hd_ba (F := F) (F' := F') (k := 2) (hF 2 (by decide))
  have t86 : sy_da F' (.inr (.inl 86)) = .inl (jm_upd (sy_ai F 2) (sy_i F 0).toNatClampNeg ((((((sy_i F 82)).toUInt32 >>> ((((24 : Int32))).toUInt32 &&& Int32.toUInt32 31)).toInt32).toInt8.toInt32).toInt8.toInt32)) := hd_up (hs 3 _ rfl) b0 t85 a2
  have t91 : sy_da F' (.inr (.inl 91)) = .inl (jm_upd (jm_upd (sy_ai F 2) (sy_i F 0).toNatClampNeg ((((((sy_i F 82)).toUInt32 >>> ((((24 : Int32))).toUInt32 &&& Int32.toUInt32 31)).toInt32).toInt8.toInt32).toInt8.toInt32)) ((sy_i F 0) + ((1 : Int32))).toNatClampNeg ((((((sy_i F 82)).toUInt32 >>> ((((16 : Int32))).toUInt32 &&& Int32.toUInt32 31)).toInt32).toInt8.toInt32).toInt8.toInt32)) := hd_up (hs 8 _ rfl) t87 t90 t86
  have t96 : sy_da F' (.inr (.inl 96)) = .inl (jm_upd (jm_upd (jm_upd (sy_ai F 2) (sy_i F 0).toNatClampNeg ((((((sy_i F 82)).toUInt32 >>> ((((24 : Int32))).toUInt32 &&& Int32.toUInt32 31)).toInt32).toInt8.toInt32).toInt8.toInt32)) ((sy_i F 0) + ((1 : Int32))).toNatClampNeg ((((((sy_i F 82)).toUInt32 >>> ((((16 : Int32))).toUInt32 &&& Int32.toUInt32 31)).toInt32).toInt8.toInt32).toInt8.toInt32)) (((sy_i F 0) + ((1 : Int32))) + ((1 : Int32))).toNatClampNeg ((((((sy_i F 82)).toUInt32 >>> ((((8 : Int32))).toUInt32 &&& Int32.toUInt32 31)).toInt32).toInt8.toInt32).toInt8.toInt32)) := hd_up (hs 13 _ rfl) t92 t95 t91
  have hB' : iv_in F' iv_B0 := iv_in_eq hB (fun j hj => hF j (Nat.lt_of_lt_of_le hj (by decide +kernel)))
  refine ⟨List.forall_mem_cons.mpr ⟨hd_p5 rfl b0 (by have hc : ((2000) : Int32).toInt = 2000 := (by decide); omega), List.forall_mem_cons.mpr ⟨hd_pb b0 (by first | exact h1 | exact h1), List.forall_mem_cons.mpr ⟨hd_p5 rfl t87 (by have hc : ((2000) : Int32).toInt = 2000 := (by decide); omega), List.forall_mem_cons.mpr ⟨hd_pb t87 (by first | exact h3 | exact h3), List.forall_mem_cons.mpr ⟨hd_p5 rfl t92 (by have hc : ((2000) : Int32).toInt = 2000 := (by decide); omega), List.forall_mem_cons.mpr ⟨hd_pb t92 (by first | exact h5 | exact h5), List.forall_mem_cons.mpr ⟨hd_p4 rfl t97 (by have hc : ((2000) : Int32).toInt = 2000 := (by decide); omega), fun _ h => absurd h List.not_mem_nil⟩⟩⟩⟩⟩⟩⟩, ?_⟩
  refine k _ ?_ ?_ ?_
  · exact fun j hj hn => (hd_keep hB' (Nat.lt_of_lt_of_le hj (by decide +kernel)) (by simp; omega)).trans (hF j (by omega))
  · exact hd_gi (x := .inr (.inl 97)) (by decide +kernel) t97
  · exact hd_ga (a := .inr (.inl 96)) (by decide +kernel) t96
theorem ap1_0_4 {Ls : Nat} {xs : Nat → Int32} {d : Nat} {Q : Option Value → jm_h → Prop} (hd : 1 ≤ d) (F : Nat → sy_d) (X1 X2 : List jm_c) (hB : iv_in F iv_B0)
    (h0 : (sy_i F 0).toInt < 2000)
    (h1 : 0 ≤ (sy_i F 0).toInt ∧ (sy_i F 0).toInt < 2000)
    (h2 : ((sy_i F 0) + ((1 : Int32))).toInt < 2000)
    (h3 : 0 ≤ ((sy_i F 0) + ((1 : Int32))).toInt ∧ ((sy_i F 0) + ((1 : Int32))).toInt < 2000)
    (h4 : (((sy_i F 0) + ((1 : Int32))) + ((1 : Int32))).toInt < 2000)
    (h5 : 0 ≤ (((sy_i F 0) + ((1 : Int32))) + ((1 : Int32))).toInt ∧ (((sy_i F 0) + ((1 : Int32))) + ((1 : Int32))).toInt < 2000)
    (h6 : ((((sy_i F 0) + ((1 : Int32))) + ((1 : Int32))) + ((1 : Int32))).toInt < 2000)
    (h7 : 0 ≤ ((((sy_i F 0) + ((1 : Int32))) + ((1 : Int32))) + ((1 : Int32))).toInt ∧ ((((sy_i F 0) + ((1 : Int32))) + ((1 : Int32))) + ((1 : Int32))).toInt < 2000)
    (k : ∀ F1 : Nat → sy_d, (∀ j, j < 82 → j ≠ 0 ∧ j ≠ 2 → F1 j = F j) → F1 0 = .inl (.int (((((sy_i F 0) + ((1 : Int32))) + ((1 : Int32))) + ((1 : Int32))) + ((1 : Int32)))) → F1 2 = .inr (.inl (jm_upd (jm_upd (jm_upd (jm_upd (sy_ai F 2) (sy_i F 0).toNatClampNeg ((((((sy_i F 82)).toUInt32 >>> ((((24 : Int32))).toUInt32 &&& Int32.toUInt32 31)).toInt32).toInt8.toInt32).toInt8.toInt32)) ((sy_i F 0) + ((1 : Int32))).toNatClampNeg ((((((sy_i F 82)).toUInt32 >>> ((((16 : Int32))).toUInt32 &&& Int32.toUInt32 31)).toInt32).toInt8.toInt32).toInt8.toInt32)) (((sy_i F 0) + ((1 : Int32))) + ((1 : Int32))).toNatClampNeg ((((((sy_i F 82)).toUInt32 >>> ((((8 : Int32))).toUInt32 &&& Int32.toUInt32 31)).toInt32).toInt8.toInt32).toInt8.toInt32)) ((((sy_i F 0) + ((1 : Int32))) + ((1 : Int32))) + ((1 : Int32))).toNatClampNeg ((((((sy_i F 82)).toUInt32 >>> ((((0 : Int32))).toUInt32 &&& Int32.toUInt32 31)).toInt32).toInt8.toInt32).toInt8.toInt32))) → Q (none) (sy_dh F1 X1 X2 (iv_H 1))) :
    hd_W Ls xs d jm_M116 Q (0, sy_dL F [some (.inl (.ref 8)), some (.inr (.inl 82)), none], sy_dS F [], sy_dh F X1 X2 (iv_H 1), 0, 0) := by
  refine hd_ret (s := 1) (nv := 83) (v := none) (uh := hd_ov (iv_id 0 iv_B0) [(0, .inl (.inr (.inl 102))), (2, .inr (.inr (.inl 101)))]) (f := true) (sp := []) (d0 := 0) (O := [false, false, false, false]) (T := [(8, [.inr (.inl 82), .inl (.int 24)], []), (22, [.inr (.inl 83)], []), (22, [.inr (.inl 84)], []), (40, [.inr (.inl 0), .inr (.inl 85)], [.inr (.inl 2)]), (0, [.inr (.inl 0), .inl (.int 1)], []), (8, [.inr (.inl 82), .inl (.int 16)], []), (22, [.inr (.inl 88)], []), (22, [.inr (.inl 89)], []), (40, [.inr (.inl 87), .inr (.inl 90)], [.inr (.inl 86)]), (0, [.inr (.inl 87), .inl (.int 1)], []), (8, [.inr (.inl 82), .inl (.int 8)], []), (22, [.inr (.inl 93)], []), (22, [.inr (.inl 94)], []), (40, [.inr (.inl 92), .inr (.inl 95)], [.inr (.inl 91)]), (0, [.inr (.inl 92), .inl (.int 1)], []), (8, [.inr (.inl 82), .inl (.int 0)], []), (22, [.inr (.inl 98)], []), (22, [.inr (.inl 99)], []), (40, [.inr (.inl 97), .inr (.inl 100)], [.inr (.inl 96)]), (0, [.inr (.inl 97), .inl (.int 1)], [])]) (P := [(5, .inl (.int 2000), .inr (.inl 0)), (6, .inr (.inl 0), .inl (.ref 2000)), (5, .inl (.int 2000), .inr (.inl 87)), (6, .inr (.inl 87), .inl (.ref 2000)), (5, .inl (.int 2000), .inr (.inl 92)), (6, .inr (.inl 92), .inl (.ref 2000)), (5, .inl (.int 2000), .inr (.inl 97)), (6, .inr (.inl 97), .inl (.ref 2000))]) jm_ok116 (by decide +kernel) (by decide +kernel) hd F X1 X2 (fun F' hF hs => ?_)
  have b0 := hd_b (F := F) (F' := F') (k := 0) (hF 0 (by decide))
  have t87 : sy_dv F' (.inr (.inl 87)) = .int ((sy_i F 0) + ((1 : Int32))) := hd_o (hs 4 _ rfl) b0 rfl rfl
  have t92 : sy_dv F' (.inr (.inl 92)) = .int (((sy_i F 0) + ((1 : Int32))) + ((1 : Int32))) := hd_o (hs 9 _ rfl) t87 rfl rfl
  have t97 : sy_dv F' (.inr (.inl 97)) = .int ((((sy_i F 0) + ((1 : Int32))) + ((1 : Int32))) + ((1 : Int32))) := hd_o (hs 14 _ rfl) t92 rfl rfl
  have t102 : sy_dv F' (.inr (.inl 102)) = .int (((((sy_i F 0) + ((1 : Int32))) + ((1 : Int32))) + ((1 : Int32))) + ((1 : Int32))) := hd_o (hs 19 _ rfl) t97 rfl rfl
  have b82 := hd_b (F := F) (F' := F') (k := 82) (hF 82 (by decide))
  have t98 : sy_dv F' (.inr (.inl 98)) = .int ((((sy_i F 82)).toUInt32 >>> ((((0 : Int32))).toUInt32 &&& Int32.toUInt32 31)).toInt32) := hd_o (hs 15 _ rfl) b82 rfl rfl
  have t99 : sy_dv F' (.inr (.inl 99)) = .int (((((sy_i F 82)).toUInt32 >>> ((((0 : Int32))).toUInt32 &&& Int32.toUInt32 31)).toInt32).toInt8.toInt32) := hd_u (hs 16 _ rfl) t98 rfl
  have t100 : sy_dv F' (.inr (.inl 100)) = .int ((((((sy_i F 82)).toUInt32 >>> ((((0 : Int32))).toUInt32 &&& Int32.toUInt32 31)).toInt32).toInt8.toInt32).toInt8.toInt32) := hd_u (hs 17 _ rfl) t99 rfl
  have t93 : sy_dv F' (.inr (.inl 93)) = .int ((((sy_i F 82)).toUInt32 >>> ((((8 : Int32))).toUInt32 &&& Int32.toUInt32 31)).toInt32) := hd_o (hs 10 _ rfl) b82 rfl rfl
  have t94 : sy_dv F' (.inr (.inl 94)) = .int (((((sy_i F 82)).toUInt32 >>> ((((8 : Int32))).toUInt32 &&& Int32.toUInt32 31)).toInt32).toInt8.toInt32) := hd_u (hs 11 _ rfl) t93 rfl
  have t95 : sy_dv F' (.inr (.inl 95)) = .int ((((((sy_i F 82)).toUInt32 >>> ((((8 : Int32))).toUInt32 &&& Int32.toUInt32 31)).toInt32).toInt8.toInt32).toInt8.toInt32) := hd_u (hs 12 _ rfl) t94 rfl
  have t88 : sy_dv F' (.inr (.inl 88)) = .int ((((sy_i F 82)).toUInt32 >>> ((((16 : Int32))).toUInt32 &&& Int32.toUInt32 31)).toInt32) := hd_o (hs 5 _ rfl) b82 rfl rfl
  have t89 : sy_dv F' (.inr (.inl 89)) = .int (((((sy_i F 82)).toUInt32 >>> ((((16 : Int32))).toUInt32 &&& Int32.toUInt32 31)).toInt32).toInt8.toInt32) := hd_u (hs 6 _ rfl) t88 rfl
  have t90 : sy_dv F' (.inr (.inl 90)) = .int ((((((sy_i F 82)).toUInt32 >>> ((((16 : Int32))).toUInt32 &&& Int32.toUInt32 31)).toInt32).toInt8.toInt32).toInt8.toInt32) := hd_u (hs 7 _ rfl) t89 rfl
  have t83 : sy_dv F' (.inr (.inl 83)) = .int ((((sy_i F 82)).toUInt32 >>> ((((24 : Int32))).toUInt32 &&& Int32.toUInt32 31)).toInt32) := hd_o (hs 0 _ rfl) b82 rfl rfl
  have t84 : sy_dv F' (.inr (.inl 84)) = .int (((((sy_i F 82)).toUInt32 >>> ((((24 : Int32))).toUInt32 &&& Int32.toUInt32 31)).toInt32).toInt8.toInt32) := hd_u (hs 1 _ rfl) t83 rfl
  have t85 : sy_dv F' (.inr (.inl 85)) = .int ((((((sy_i F 82)).toUInt32 >>> ((((24 : Int32))).toUInt32 &&& Int32.toUInt32 31)).toInt32).toInt8.toInt32).toInt8.toInt32) := hd_u (hs 2 _ rfl) t84 rfl
  have a2 := hd_ba (F := F) (F' := F') (k := 2) (hF 2 (by decide))
  have t86 : sy_da F' (.inr (.inl 86)) = .inl (jm_upd (sy_ai F 2) (sy_i F 0).toNatClampNeg ((((((sy_i F 82)).toUInt32 >>> ((((24 : Int32))).toUInt32 &&& Int32.toUInt32 31)).toInt32).toInt8.toInt32).toInt8.toInt32)) := hd_up (hs 3 _ rfl) b0 t85 a2
  have t91 : sy_da F' (.inr (.inl 91)) = .inl (jm_upd (jm_upd (sy_ai F 2) (sy_i F 0).toNatClampNeg ((((((sy_i F 82)).toUInt32 >>> ((((24 : Int32))).toUInt32 &&& Int32.toUInt32 31)).toInt32).toInt8.toInt32).toInt8.toInt32)) ((sy_i F 0) + ((1 : Int32))).toNatClampNeg ((((((sy_i F 82)).toUInt32 >>> ((((16 : Int32))).toUInt32 &&& Int32.toUInt32 31)).toInt32).toInt8.toInt32).toInt8.toInt32)) := hd_up (hs 8 _ rfl) t87 t90 t86
  have t96 : sy_da F' (.inr (.inl 96)) = .inl (jm_upd (jm_upd (jm_upd (sy_ai F 2) (sy_i F 0).toNatClampNeg ((((((sy_i F 82)).toUInt32 >>> ((((24 : Int32))).toUInt32 &&& Int32.toUInt32 31)).toInt32).toInt8.toInt32).toInt8.toInt32)) ((sy_i F 0) + ((1 : Int32))).toNatClampNeg ((((((sy_i F 82)).toUInt32 >>> ((((16 : Int32))).toUInt32 &&& Int32.toUInt32 31)).toInt32).toInt8.toInt32).toInt8.toInt32)) (((sy_i F 0) + ((1 : Int32))) + ((1 : Int32))).toNatClampNeg ((((((sy_i F 82)).toUInt32 >>> ((((8 : Int32))).toUInt32 &&& Int32.toUInt32 31)).toInt32).toInt8.toInt32).toInt8.toInt32)) := hd_up (hs 13 _ rfl) t92 t95 t91
  have t101 : sy_da F' (.inr (.inl 101)) = .inl (jm_upd (jm_upd (jm_upd (jm_upd (sy_ai F 2) (sy_i F 0).toNatClampNeg ((((((sy_i F 82)).toUInt32 >>> ((((24 : Int32))).toUInt32 &&& Int32.toUInt32 31)).toInt32).toInt8.toInt32).toInt8.toInt32)) ((sy_i F 0) + ((1 : Int32))).toNatClampNeg ((((((sy_i F 82)).toUInt32 >>> ((((16 : Int32))).toUInt32 &&& Int32.toUInt32 31)).toInt32).toInt8.toInt32).toInt8.toInt32)) (((sy_i F 0) + ((1 : Int32))) + ((1 : Int32))).toNatClampNeg ((((((sy_i F 82)).toUInt32 >>> ((((8 : Int32))).toUInt32 &&& Int32.toUInt32 31)).toInt32).toInt8.toInt32).toInt8.toInt32)) ((((sy_i F 0) + ((1 : Int32))) + ((1 : Int32))) + ((1 : Int32))).toNatClampNeg ((((((sy_i F 82)).toUInt32 >>> ((((0 : Int32))).toUInt32 &&& Int32.toUInt32 31)).toInt32).toInt8.toInt32).toInt8.toInt32)) := hd_up (hs 18 _ rfl) t97 t100 t96
  have hB' : iv_in F' iv_B0 := iv_in_eq hB (fun j hj => hF j (Nat.lt_of_lt_of_le hj (by decide +kernel)))
  refine ⟨List.forall_mem_cons.mpr ⟨hd_p5 rfl b0 (by have hc : ((2000) : Int32).toInt = 2000 := (by decide); omega), List.forall_mem_cons.mpr ⟨hd_pb b0 (by first | exact h1 | exact h1), List.forall_mem_cons.mpr ⟨hd_p5 rfl t87 (by have hc : ((2000) : Int32).toInt = 2000 := (by decide); omega), List.forall_mem_cons.mpr ⟨hd_pb t87 (by first | exact h3 | exact h3), List.forall_mem_cons.mpr ⟨hd_p5 rfl t92 (by have hc : ((2000) : Int32).toInt = 2000 := (by decide); omega), List.forall_mem_cons.mpr ⟨hd_pb t92 (by first | exact h5 | exact h5), List.forall_mem_cons.mpr ⟨hd_p5 rfl t97 (by have hc : ((2000) : Int32).toInt = 2000 := (by decide); omega), List.forall_mem_cons.mpr ⟨hd_pb t97 (by first | exact h7 | exact h7), fun _ h => absurd h List.not_mem_nil⟩⟩⟩⟩⟩⟩⟩⟩, ?_⟩
  refine k _ ?_ ?_ ?_
  · exact fun j hj hn => (hd_keep hB' (Nat.lt_of_lt_of_le hj (by decide +kernel)) (by simp; omega)).trans (hF j (by omega))
  · exact hd_gi (x := .inr (.inl 102)) (by decide +kernel) t102
  · exact hd_ga (a := .inr (.inl 101)) (by decide +kernel) t101
theorem fd1_0_0 {Ls : Nat} {xs : Nat → Int32} {d : Nat} {Q : Option Value → jm_h → Prop} (hd : 2 ≤ d) (F : Nat → sy_d) (X1 X2 : List jm_c) (hB : iv_in F iv_B0)
    (h0 : ((sy_i F 0) + ((20 : Int32))).toInt ≤ 2000)
    (k : ∀ F1 : Nat → sy_d, (∀ j, j < 82 → True → F1 j = F j) → F1 82 = .inl (.int (sy_i F 82)) → F1 83 = .inl (.int (sy_i F 83)) → F1 84 = .inl (.int (sy_i F 84)) → F1 85 = .inl (.int (sy_i F 85)) → F1 86 = .inl (.int (sy_i F 86)) → hd_W Ls xs d jm_M81 Q (17, sy_dL F1 [some (.inl (.ref 8)), some (.inr (.inl 82)), some (.inr (.inl 83)), some (.inr (.inl 84)), some (.inr (.inl 85)), some (.inr (.inl 86))], sy_dS F1 [.inr (.inl 82), .inl (.ref 8)], sy_dh F1 X1 X2 (iv_H 1), 0, 0)) :
    hd_W Ls xs d jm_M81 Q (0, sy_dL F [some (.inl (.ref 8)), some (.inr (.inl 82)), some (.inr (.inl 83)), some (.inr (.inl 84)), some (.inr (.inl 85)), some (.inr (.inl 86))], sy_dS F [], sy_dh F X1 X2 (iv_H 1), 0, 0) := by
  refine hd_run (s := 1) (nv := 87) (pc := 17) (L := [some (.inl (.ref 8)), some (.inr (.inl 82)), some (.inr (.inl 83)), some (.inr (.inl 84)), some (.inr (.inl 85)), some (.inr (.inl 86))]) (S := [.inr (.inl 82), .inl (.ref 8)]) (uh := hd_ov (iv_id 0 iv_B0) []) (ul := [.inl (.inr (.inl 82)), .inl (.inr (.inl 83)), .inl (.inr (.inl 84)), .inl (.inr (.inl 85)), .inl (.inr (.inl 86))]) (f := true) (sp := [17, 22, 27, 33, 39]) (d0 := 1) (O := [true]) (T := [(0, [.inr (.inl 0), .inl (.int 20)], [])]) (P := [(4, .inr (.inl 87), .inl (.int 2000))]) jm_ok81 (by decide +kernel) (by decide +kernel) hd F X1 X2 (fun F' hF hs => ?_)
  have b0 := hd_b (F := F) (F' := F') (k := 0) (hF 0 (by decide))
  have t87 : sy_dv F' (.inr (.inl 87)) = .int ((sy_i F 0) + ((20 : Int32))) := hd_o (hs 0 _ rfl) b0 rfl rfl
  have b82 := hd_b (F := F) (F' := F') (k := 82) (hF 82 (by decide))
  have b83 := hd_b (F := F) (F' := F') (k := 83) (hF 83 (by decide))
  have b84 := hd_b (F := F) (F' := F') (k := 84) (hF 84 (by decide))
  have b85 := hd_b (F := F) (F' := F') (k := 85) (hF 85 (by decide))
  have b86 := hd_b (F := F) (F' := F') (k := 86) (hF 86 (by decide))
  have hB' : iv_in F' iv_B0 := iv_in_eq hB (fun j hj => hF j (Nat.lt_of_lt_of_le hj (by decide +kernel)))
  refine ⟨List.forall_mem_cons.mpr ⟨hd_p4 t87 rfl (by have hc : ((2000) : Int32).toInt = 2000 := (by decide); omega), fun _ h => absurd h List.not_mem_nil⟩, ?_⟩
  refine k _ ?_ ?_ ?_ ?_ ?_ ?_
  · exact fun j hj _ => (hd_keep hB' (Nat.lt_of_lt_of_le hj (by decide +kernel)) (by simp)).trans (hF j (by omega))
  · exact hd_gi (x := .inr (.inl 82)) (by decide +kernel) b82
  · exact hd_gi (x := .inr (.inl 83)) (by decide +kernel) b83
  · exact hd_gi (x := .inr (.inl 84)) (by decide +kernel) b84
  · exact hd_gi (x := .inr (.inl 85)) (by decide +kernel) b85
  · exact hd_gi (x := .inr (.inl 86)) (by decide +kernel) b86
theorem fd1_0_1 {Ls : Nat} {xs : Nat → Int32} {d : Nat} {Q : Option Value → jm_h → Prop} (hd : 2 ≤ d) (F : Nat → sy_d) (X1 X2 : List jm_c) (hB : iv_in F iv_B0)
    (h0 : 2000 < ((sy_i F 0) + ((20 : Int32))).toInt)
    (k : ∀ F1 : Nat → sy_d, (∀ j, j < 82 → True → F1 j = F j) → Q (some (.int (((-1) : Int32)))) (sy_dh F1 X1 X2 (iv_H 1))) :
    hd_W Ls xs d jm_M81 Q (0, sy_dL F [some (.inl (.ref 8)), some (.inr (.inl 82)), some (.inr (.inl 83)), some (.inr (.inl 84)), some (.inr (.inl 85)), some (.inr (.inl 86))], sy_dS F [], sy_dh F X1 X2 (iv_H 1), 0, 0) := by
  refine hd_ret (s := 1) (nv := 87) (v := some (.inl (.int (-1)))) (uh := hd_ov (iv_id 0 iv_B0) []) (f := true) (sp := [17, 22, 27, 33, 39]) (d0 := 1) (O := [false]) (T := [(0, [.inr (.inl 0), .inl (.int 20)], [])]) (P := [(5, .inr (.inl 87), .inl (.int 2000))]) jm_ok81 (by decide +kernel) (by decide +kernel) hd F X1 X2 (fun F' hF hs => ?_)
  have b0 := hd_b (F := F) (F' := F') (k := 0) (hF 0 (by decide))
  have t87 : sy_dv F' (.inr (.inl 87)) = .int ((sy_i F 0) + ((20 : Int32))) := hd_o (hs 0 _ rfl) b0 rfl rfl
  have hB' : iv_in F' iv_B0 := iv_in_eq hB (fun j hj => hF j (Nat.lt_of_lt_of_le hj (by decide +kernel)))
  refine ⟨List.forall_mem_cons.mpr ⟨hd_p5 t87 rfl (by have hc : ((2000) : Int32).toInt = 2000 := (by decide); omega), fun _ h => absurd h List.not_mem_nil⟩, ?_⟩
  refine k _ ?_
  · exact fun j hj _ => (hd_keep hB' (Nat.lt_of_lt_of_le hj (by decide +kernel)) (by simp)).trans (hF j (by omega))
theorem fd1_20_0 {Ls : Nat} {xs : Nat → Int32} {d : Nat} {Q : Option Value → jm_h → Prop} (hd : 2 ≤ d) (F : Nat → sy_d) (X1 X2 : List jm_c) (hB : iv_in F iv_B0)
    (k : ∀ F1 : Nat → sy_d, (∀ j, j < 82 → True → F1 j = F j) → F1 82 = .inl (.int (sy_i F 82)) → F1 83 = .inl (.int (sy_i F 83)) → F1 84 = .inl (.int (sy_i F 84)) → F1 85 = .inl (.int (sy_i F 85)) → F1 86 = .inl (.int (sy_i F 86)) → hd_W Ls xs d jm_M81 Q (22, sy_dL F1 [some (.inl (.ref 8)), some (.inr (.inl 82)), some (.inr (.inl 83)), some (.inr (.inl 84)), some (.inr (.inl 85)), some (.inr (.inl 86))], sy_dS F1 [.inr (.inl 83), .inl (.ref 8)], sy_dh F1 X1 X2 (iv_H 1), 0, 0)) :
    hd_W Ls xs d jm_M81 Q (20, sy_dL F [some (.inl (.ref 8)), some (.inr (.inl 82)), some (.inr (.inl 83)), some (.inr (.inl 84)), some (.inr (.inl 85)), some (.inr (.inl 86))], sy_dS F [], sy_dh F X1 X2 (iv_H 1), 0, 0) := by
  refine hd_run (s := 1) (nv := 87) (pc := 22) (L := [some (.inl (.ref 8)), some (.inr (.inl 82)), some (.inr (.inl 83)), some (.inr (.inl 84)), some (.inr (.inl 85)), some (.inr (.inl 86))]) (S := [.inr (.inl 83), .inl (.ref 8)]) (uh := hd_ov (iv_id 0 iv_B0) []) (ul := [.inl (.inr (.inl 82)), .inl (.inr (.inl 83)), .inl (.inr (.inl 84)), .inl (.inr (.inl 85)), .inl (.inr (.inl 86))]) (f := false) (sp := [17, 22, 27, 33, 39]) (d0 := 1) (O := []) (T := []) (P := []) jm_ok81 (by decide +kernel) (by decide +kernel) hd F X1 X2 (fun F' hF hs => ?_)
  have b82 := hd_b (F := F) (F' := F') (k := 82) (hF 82 (by decide))
  have b83 := hd_b (F := F) (F' := F') (k := 83) (hF 83 (by decide))
  have b84 := hd_b (F := F) (F' := F') (k := 84) (hF 84 (by decide))
  have b85 := hd_b (F := F) (F' := F') (k := 85) (hF 85 (by decide))
  have b86 := hd_b (F := F) (F' := F') (k := 86) (hF 86 (by decide))
  have hB' : iv_in F' iv_B0 := iv_in_eq hB (fun j hj => hF j (Nat.lt_of_lt_of_le hj (by decide +kernel)))
  refine ⟨fun _ h => absurd h List.not_mem_nil, ?_⟩
  refine k _ ?_ ?_ ?_ ?_ ?_ ?_
  · exact fun j hj _ => (hd_keep hB' (Nat.lt_of_lt_of_le hj (by decide +kernel)) (by simp)).trans (hF j (by omega))
  · exact hd_gi (x := .inr (.inl 82)) (by decide +kernel) b82
  · exact hd_gi (x := .inr (.inl 83)) (by decide +kernel) b83
  · exact hd_gi (x := .inr (.inl 84)) (by decide +kernel) b84
  · exact hd_gi (x := .inr (.inl 85)) (by decide +kernel) b85
  · exact hd_gi (x := .inr (.inl 86)) (by decide +kernel) b86
theorem fd1_25_0 {Ls : Nat} {xs : Nat → Int32} {d : Nat} {Q : Option Value → jm_h → Prop} (hd : 2 ≤ d) (F : Nat → sy_d) (X1 X2 : List jm_c) (hB : iv_in F iv_B0)
    (k : ∀ F1 : Nat → sy_d, (∀ j, j < 82 → True → F1 j = F j) → F1 82 = .inl (.int (sy_i F 82)) → F1 83 = .inl (.int (sy_i F 83)) → F1 84 = .inl (.int (sy_i F 84)) → F1 85 = .inl (.int (sy_i F 85)) → F1 86 = .inl (.int (sy_i F 86)) → hd_W Ls xs d jm_M81 Q (27, sy_dL F1 [some (.inl (.ref 8)), some (.inr (.inl 82)), some (.inr (.inl 83)), some (.inr (.inl 84)), some (.inr (.inl 85)), some (.inr (.inl 86))], sy_dS F1 [.inr (.inl 84), .inl (.ref 8)], sy_dh F1 X1 X2 (iv_H 1), 0, 0)) :
    hd_W Ls xs d jm_M81 Q (25, sy_dL F [some (.inl (.ref 8)), some (.inr (.inl 82)), some (.inr (.inl 83)), some (.inr (.inl 84)), some (.inr (.inl 85)), some (.inr (.inl 86))], sy_dS F [], sy_dh F X1 X2 (iv_H 1), 0, 0) := by
  refine hd_run (s := 1) (nv := 87) (pc := 27) (L := [some (.inl (.ref 8)), some (.inr (.inl 82)), some (.inr (.inl 83)), some (.inr (.inl 84)), some (.inr (.inl 85)), some (.inr (.inl 86))]) (S := [.inr (.inl 84), .inl (.ref 8)]) (uh := hd_ov (iv_id 0 iv_B0) []) (ul := [.inl (.inr (.inl 82)), .inl (.inr (.inl 83)), .inl (.inr (.inl 84)), .inl (.inr (.inl 85)), .inl (.inr (.inl 86))]) (f := false) (sp := [17, 22, 27, 33, 39]) (d0 := 1) (O := []) (T := []) (P := []) jm_ok81 (by decide +kernel) (by decide +kernel) hd F X1 X2 (fun F' hF hs => ?_)
  have b82 := hd_b (F := F) (F' := F') (k := 82) (hF 82 (by decide))
  have b83 := hd_b (F := F) (F' := F') (k := 83) (hF 83 (by decide))
  have b84 := hd_b (F := F) (F' := F') (k := 84) (hF 84 (by decide))
  have b85 := hd_b (F := F) (F' := F') (k := 85) (hF 85 (by decide))
  have b86 := hd_b (F := F) (F' := F') (k := 86) (hF 86 (by decide))
  have hB' : iv_in F' iv_B0 := iv_in_eq hB (fun j hj => hF j (Nat.lt_of_lt_of_le hj (by decide +kernel)))
  refine ⟨fun _ h => absurd h List.not_mem_nil, ?_⟩
  refine k _ ?_ ?_ ?_ ?_ ?_ ?_
  · exact fun j hj _ => (hd_keep hB' (Nat.lt_of_lt_of_le hj (by decide +kernel)) (by simp)).trans (hF j (by omega))
  · exact hd_gi (x := .inr (.inl 82)) (by decide +kernel) b82
  · exact hd_gi (x := .inr (.inl 83)) (by decide +kernel) b83
  · exact hd_gi (x := .inr (.inl 84)) (by decide +kernel) b84
  · exact hd_gi (x := .inr (.inl 85)) (by decide +kernel) b85
  · exact hd_gi (x := .inr (.inl 86)) (by decide +kernel) b86
theorem fd1_30_0 {Ls : Nat} {xs : Nat → Int32} {d : Nat} {Q : Option Value → jm_h → Prop} (hd : 2 ≤ d) (F : Nat → sy_d) (X1 X2 : List jm_c) (hB : iv_in F iv_B0)
    (k : ∀ F1 : Nat → sy_d, (∀ j, j < 82 → True → F1 j = F j) → F1 82 = .inl (.int (sy_i F 82)) → F1 83 = .inl (.int (sy_i F 83)) → F1 84 = .inl (.int (sy_i F 84)) → F1 85 = .inl (.int (sy_i F 85)) → F1 86 = .inl (.int (sy_i F 86)) → hd_W Ls xs d jm_M81 Q (33, sy_dL F1 [some (.inl (.ref 8)), some (.inr (.inl 82)), some (.inr (.inl 83)), some (.inr (.inl 84)), some (.inr (.inl 85)), some (.inr (.inl 86))], sy_dS F1 [.inr (.inl 85), .inl (.ref 8)], sy_dh F1 X1 X2 (iv_H 1), 0, 0)) :
    hd_W Ls xs d jm_M81 Q (30, sy_dL F [some (.inl (.ref 8)), some (.inr (.inl 82)), some (.inr (.inl 83)), some (.inr (.inl 84)), some (.inr (.inl 85)), some (.inr (.inl 86))], sy_dS F [], sy_dh F X1 X2 (iv_H 1), 0, 0) := by
  refine hd_run (s := 1) (nv := 87) (pc := 33) (L := [some (.inl (.ref 8)), some (.inr (.inl 82)), some (.inr (.inl 83)), some (.inr (.inl 84)), some (.inr (.inl 85)), some (.inr (.inl 86))]) (S := [.inr (.inl 85), .inl (.ref 8)]) (uh := hd_ov (iv_id 0 iv_B0) []) (ul := [.inl (.inr (.inl 82)), .inl (.inr (.inl 83)), .inl (.inr (.inl 84)), .inl (.inr (.inl 85)), .inl (.inr (.inl 86))]) (f := false) (sp := [17, 22, 27, 33, 39]) (d0 := 1) (O := []) (T := []) (P := []) jm_ok81 (by decide +kernel) (by decide +kernel) hd F X1 X2 (fun F' hF hs => ?_)
  have b82 := hd_b (F := F) (F' := F') (k := 82) (hF 82 (by decide))
  have b83 := hd_b (F := F) (F' := F') (k := 83) (hF 83 (by decide))
  have b84 := hd_b (F := F) (F' := F') (k := 84) (hF 84 (by decide))
  have b85 := hd_b (F := F) (F' := F') (k := 85) (hF 85 (by decide))
  have b86 := hd_b (F := F) (F' := F') (k := 86) (hF 86 (by decide))
  have hB' : iv_in F' iv_B0 := iv_in_eq hB (fun j hj => hF j (Nat.lt_of_lt_of_le hj (by decide +kernel)))
  refine ⟨fun _ h => absurd h List.not_mem_nil, ?_⟩
  refine k _ ?_ ?_ ?_ ?_ ?_ ?_
  · exact fun j hj _ => (hd_keep hB' (Nat.lt_of_lt_of_le hj (by decide +kernel)) (by simp)).trans (hF j (by omega))
  · exact hd_gi (x := .inr (.inl 82)) (by decide +kernel) b82
  · exact hd_gi (x := .inr (.inl 83)) (by decide +kernel) b83
  · exact hd_gi (x := .inr (.inl 84)) (by decide +kernel) b84
  · exact hd_gi (x := .inr (.inl 85)) (by decide +kernel) b85
  · exact hd_gi (x := .inr (.inl 86)) (by decide +kernel) b86
theorem fd1_36_0 {Ls : Nat} {xs : Nat → Int32} {d : Nat} {Q : Option Value → jm_h → Prop} (hd : 2 ≤ d) (F : Nat → sy_d) (X1 X2 : List jm_c) (hB : iv_in F iv_B0)
    (k : ∀ F1 : Nat → sy_d, (∀ j, j < 82 → True → F1 j = F j) → F1 82 = .inl (.int (sy_i F 82)) → F1 83 = .inl (.int (sy_i F 83)) → F1 84 = .inl (.int (sy_i F 84)) → F1 85 = .inl (.int (sy_i F 85)) → F1 86 = .inl (.int (sy_i F 86)) → hd_W Ls xs d jm_M81 Q (39, sy_dL F1 [some (.inl (.ref 8)), some (.inr (.inl 82)), some (.inr (.inl 83)), some (.inr (.inl 84)), some (.inr (.inl 85)), some (.inr (.inl 86))], sy_dS F1 [.inr (.inl 86), .inl (.ref 8)], sy_dh F1 X1 X2 (iv_H 1), 0, 0)) :
    hd_W Ls xs d jm_M81 Q (36, sy_dL F [some (.inl (.ref 8)), some (.inr (.inl 82)), some (.inr (.inl 83)), some (.inr (.inl 84)), some (.inr (.inl 85)), some (.inr (.inl 86))], sy_dS F [], sy_dh F X1 X2 (iv_H 1), 0, 0) := by
  refine hd_run (s := 1) (nv := 87) (pc := 39) (L := [some (.inl (.ref 8)), some (.inr (.inl 82)), some (.inr (.inl 83)), some (.inr (.inl 84)), some (.inr (.inl 85)), some (.inr (.inl 86))]) (S := [.inr (.inl 86), .inl (.ref 8)]) (uh := hd_ov (iv_id 0 iv_B0) []) (ul := [.inl (.inr (.inl 82)), .inl (.inr (.inl 83)), .inl (.inr (.inl 84)), .inl (.inr (.inl 85)), .inl (.inr (.inl 86))]) (f := false) (sp := [17, 22, 27, 33, 39]) (d0 := 1) (O := []) (T := []) (P := []) jm_ok81 (by decide +kernel) (by decide +kernel) hd F X1 X2 (fun F' hF hs => ?_)
  have b82 := hd_b (F := F) (F' := F') (k := 82) (hF 82 (by decide))
  have b83 := hd_b (F := F) (F' := F') (k := 83) (hF 83 (by decide))
  have b84 := hd_b (F := F) (F' := F') (k := 84) (hF 84 (by decide))
  have b85 := hd_b (F := F) (F' := F') (k := 85) (hF 85 (by decide))
  have b86 := hd_b (F := F) (F' := F') (k := 86) (hF 86 (by decide))
  have hB' : iv_in F' iv_B0 := iv_in_eq hB (fun j hj => hF j (Nat.lt_of_lt_of_le hj (by decide +kernel)))
  refine ⟨fun _ h => absurd h List.not_mem_nil, ?_⟩
  refine k _ ?_ ?_ ?_ ?_ ?_ ?_
  · exact fun j hj _ => (hd_keep hB' (Nat.lt_of_lt_of_le hj (by decide +kernel)) (by simp)).trans (hF j (by omega))
  · exact hd_gi (x := .inr (.inl 82)) (by decide +kernel) b82
  · exact hd_gi (x := .inr (.inl 83)) (by decide +kernel) b83
  · exact hd_gi (x := .inr (.inl 84)) (by decide +kernel) b84
  · exact hd_gi (x := .inr (.inl 85)) (by decide +kernel) b85
  · exact hd_gi (x := .inr (.inl 86)) (by decide +kernel) b86
theorem fd1_42_0 {Ls : Nat} {xs : Nat → Int32} {d : Nat} {Q : Option Value → jm_h → Prop} (hd : 2 ≤ d) (F : Nat → sy_d) (X1 X2 : List jm_c) (hB : iv_in F iv_B0)
    (k : ∀ F1 : Nat → sy_d, (∀ j, j < 82 → True → F1 j = F j) → Q (some (.int (sy_i F 0))) (sy_dh F1 X1 X2 (iv_H 1))) :
    hd_W Ls xs d jm_M81 Q (42, sy_dL F [some (.inl (.ref 8)), some (.inr (.inl 82)), some (.inr (.inl 83)), some (.inr (.inl 84)), some (.inr (.inl 85)), some (.inr (.inl 86))], sy_dS F [], sy_dh F X1 X2 (iv_H 1), 0, 0) := by
  refine hd_ret (s := 1) (nv := 87) (v := some (.inr (.inl 0))) (uh := hd_ov (iv_id 0 iv_B0) []) (f := false) (sp := [17, 22, 27, 33, 39]) (d0 := 1) (O := []) (T := []) (P := []) jm_ok81 (by decide +kernel) (by decide +kernel) hd F X1 X2 (fun F' hF hs => ?_)
  have b0 := hd_b (F := F) (F' := F') (k := 0) (hF 0 (by decide))
  have hB' : iv_in F' iv_B0 := iv_in_eq hB (fun j hj => hF j (Nat.lt_of_lt_of_le hj (by decide +kernel)))
  have hk := k (sy_cm F' (hd_ov (iv_id 0 iv_B0) [] ++ [])) (fun j hj _ => (hd_keep hB' (Nat.lt_of_lt_of_le hj (by decide +kernel)) (by simp)).trans (hF j (by omega)))
  refine ⟨fun _ h => absurd h List.not_mem_nil, ?_⟩
  show Q (some (sy_dv F' (.inr (.inl 0)))) _
  rw [b0]
  exact hk
theorem ap2_0_0 {Ls : Nat} {xs : Nat → Int32} {d : Nat} {Q : Option Value → jm_h → Prop} (hd : 1 ≤ d) (F : Nat → sy_d) (X1 X2 : List jm_c) (hB : iv_in F iv_B0)
    (h0 : 2000 ≤ (sy_i F 0).toInt)
    (k : ∀ F1 : Nat → sy_d, (∀ j, j < 82 → True → F1 j = F j) → Q (none) (sy_dh F1 X1 X2 (iv_H 2))) :
    hd_W Ls xs d jm_M116 Q (0, sy_dL F [some (.inl (.ref 8)), some (.inr (.inl 82)), none], sy_dS F [], sy_dh F X1 X2 (iv_H 2), 0, 0) := by
  refine hd_ret (s := 2) (nv := 83) (v := none) (uh := hd_ov (iv_id 0 iv_B0) []) (f := true) (sp := []) (d0 := 0) (O := [true]) (T := []) (P := [(4, .inl (.int 2000), .inr (.inl 0))]) jm_ok116 (by decide +kernel) (by decide +kernel) hd F X1 X2 (fun F' hF hs => ?_)
  have b0 := hd_b (F := F) (F' := F') (k := 0) (hF 0 (by decide))
  have hB' : iv_in F' iv_B0 := iv_in_eq hB (fun j hj => hF j (Nat.lt_of_lt_of_le hj (by decide +kernel)))
  refine ⟨List.forall_mem_cons.mpr ⟨hd_p4 rfl b0 (by have hc : ((2000) : Int32).toInt = 2000 := (by decide); omega), fun _ h => absurd h List.not_mem_nil⟩, ?_⟩
  refine k _ ?_
  · exact fun j hj _ => (hd_keep hB' (Nat.lt_of_lt_of_le hj (by decide +kernel)) (by simp)).trans (hF j (by omega))
theorem ap2_0_1 {Ls : Nat} {xs : Nat → Int32} {d : Nat} {Q : Option Value → jm_h → Prop} (hd : 1 ≤ d) (F : Nat → sy_d) (X1 X2 : List jm_c) (hB : iv_in F iv_B0)
    (h0 : (sy_i F 0).toInt < 2000)
    (h1 : 0 ≤ (sy_i F 0).toInt ∧ (sy_i F 0).toInt < 2000)
    (h2 : 2000 ≤ ((sy_i F 0) + ((1 : Int32))).toInt)
    (k : ∀ F1 : Nat → sy_d, (∀ j, j < 82 → j ≠ 0 ∧ j ≠ 2 → F1 j = F j) → F1 0 = .inl (.int ((sy_i F 0) + ((1 : Int32)))) → F1 2 = .inr (.inl (jm_upd (sy_ai F 2) (sy_i F 0).toNatClampNeg ((((((sy_i F 82)).toUInt32 >>> ((((24 : Int32))).toUInt32 &&& Int32.toUInt32 31)).toInt32).toInt8.toInt32).toInt8.toInt32))) → Q (none) (sy_dh F1 X1 X2 (iv_H 2))) :
    hd_W Ls xs d jm_M116 Q (0, sy_dL F [some (.inl (.ref 8)), some (.inr (.inl 82)), none], sy_dS F [], sy_dh F X1 X2 (iv_H 2), 0, 0) := by
  refine hd_ret (s := 2) (nv := 83) (v := none) (uh := hd_ov (iv_id 0 iv_B0) [(0, .inl (.inr (.inl 87))), (2, .inr (.inr (.inl 86)))]) (f := true) (sp := []) (d0 := 0) (O := [false, true]) (T := [(8, [.inr (.inl 82), .inl (.int 24)], []), (22, [.inr (.inl 83)], []), (22, [.inr (.inl 84)], []), (40, [.inr (.inl 0), .inr (.inl 85)], [.inr (.inl 2)]), (0, [.inr (.inl 0), .inl (.int 1)], [])]) (P := [(5, .inl (.int 2000), .inr (.inl 0)), (6, .inr (.inl 0), .inl (.ref 2000)), (4, .inl (.int 2000), .inr (.inl 87))]) jm_ok116 (by decide +kernel) (by decide +kernel) hd F X1 X2 (fun F' hF hs => ?_)
  have b0 := hd_b (F := F) (F' := F') (k := 0) (hF 0 (by decide))
  have t87 : sy_dv F' (.inr (.inl 87)) = .int ((sy_i F 0) + ((1 : Int32))) := hd_o (hs 4 _ rfl) b0 rfl rfl
  have b82 := hd_b (F := F) (F' := F') (k := 82) (hF 82 (by decide))
  have t83 : sy_dv F' (.inr (.inl 83)) = .int ((((sy_i F 82)).toUInt32 >>> ((((24 : Int32))).toUInt32 &&& Int32.toUInt32 31)).toInt32) := hd_o (hs 0 _ rfl) b82 rfl rfl
  have t84 : sy_dv F' (.inr (.inl 84)) = .int (((((sy_i F 82)).toUInt32 >>> ((((24 : Int32))).toUInt32 &&& Int32.toUInt32 31)).toInt32).toInt8.toInt32) := hd_u (hs 1 _ rfl) t83 rfl
  have t85 : sy_dv F' (.inr (.inl 85)) = .int ((((((sy_i F 82)).toUInt32 >>> ((((24 : Int32))).toUInt32 &&& Int32.toUInt32 31)).toInt32).toInt8.toInt32).toInt8.toInt32) := hd_u (hs 2 _ rfl) t84 rfl
  have a2 := hd_ba (F := F) (F' := F') (k := 2) (hF 2 (by decide))
  have t86 : sy_da F' (.inr (.inl 86)) = .inl (jm_upd (sy_ai F 2) (sy_i F 0).toNatClampNeg ((((((sy_i F 82)).toUInt32 >>> ((((24 : Int32))).toUInt32 &&& Int32.toUInt32 31)).toInt32).toInt8.toInt32).toInt8.toInt32)) := hd_up (hs 3 _ rfl) b0 t85 a2
  have hB' : iv_in F' iv_B0 := iv_in_eq hB (fun j hj => hF j (Nat.lt_of_lt_of_le hj (by decide +kernel)))
  refine ⟨List.forall_mem_cons.mpr ⟨hd_p5 rfl b0 (by have hc : ((2000) : Int32).toInt = 2000 := (by decide); omega), List.forall_mem_cons.mpr ⟨hd_pb b0 (by first | exact h1 | exact h1), List.forall_mem_cons.mpr ⟨hd_p4 rfl t87 (by have hc : ((2000) : Int32).toInt = 2000 := (by decide); omega), fun _ h => absurd h List.not_mem_nil⟩⟩⟩, ?_⟩
  refine k _ ?_ ?_ ?_
  · exact fun j hj hn => (hd_keep hB' (Nat.lt_of_lt_of_le hj (by decide +kernel)) (by simp; omega)).trans (hF j (by omega))
  · exact hd_gi (x := .inr (.inl 87)) (by decide +kernel) t87
  · exact hd_ga (a := .inr (.inl 86)) (by decide +kernel) t86
theorem ap2_0_2 {Ls : Nat} {xs : Nat → Int32} {d : Nat} {Q : Option Value → jm_h → Prop} (hd : 1 ≤ d) (F : Nat → sy_d) (X1 X2 : List jm_c) (hB : iv_in F iv_B0)
    (h0 : (sy_i F 0).toInt < 2000)
    (h1 : 0 ≤ (sy_i F 0).toInt ∧ (sy_i F 0).toInt < 2000)
    (h2 : ((sy_i F 0) + ((1 : Int32))).toInt < 2000)
    (h3 : 0 ≤ ((sy_i F 0) + ((1 : Int32))).toInt ∧ ((sy_i F 0) + ((1 : Int32))).toInt < 2000)
    (h4 : 2000 ≤ (((sy_i F 0) + ((1 : Int32))) + ((1 : Int32))).toInt)
    (k : ∀ F1 : Nat → sy_d, (∀ j, j < 82 → j ≠ 0 ∧ j ≠ 2 → F1 j = F j) → F1 0 = .inl (.int (((sy_i F 0) + ((1 : Int32))) + ((1 : Int32)))) → F1 2 = .inr (.inl (jm_upd (jm_upd (sy_ai F 2) (sy_i F 0).toNatClampNeg ((((((sy_i F 82)).toUInt32 >>> ((((24 : Int32))).toUInt32 &&& Int32.toUInt32 31)).toInt32).toInt8.toInt32).toInt8.toInt32)) ((sy_i F 0) + ((1 : Int32))).toNatClampNeg ((((((sy_i F 82)).toUInt32 >>> ((((16 : Int32))).toUInt32 &&& Int32.toUInt32 31)).toInt32).toInt8.toInt32).toInt8.toInt32))) → Q (none) (sy_dh F1 X1 X2 (iv_H 2))) :
    hd_W Ls xs d jm_M116 Q (0, sy_dL F [some (.inl (.ref 8)), some (.inr (.inl 82)), none], sy_dS F [], sy_dh F X1 X2 (iv_H 2), 0, 0) := by
  refine hd_ret (s := 2) (nv := 83) (v := none) (uh := hd_ov (iv_id 0 iv_B0) [(0, .inl (.inr (.inl 92))), (2, .inr (.inr (.inl 91)))]) (f := true) (sp := []) (d0 := 0) (O := [false, false, true]) (T := [(8, [.inr (.inl 82), .inl (.int 24)], []), (22, [.inr (.inl 83)], []), (22, [.inr (.inl 84)], []), (40, [.inr (.inl 0), .inr (.inl 85)], [.inr (.inl 2)]), (0, [.inr (.inl 0), .inl (.int 1)], []), (8, [.inr (.inl 82), .inl (.int 16)], []), (22, [.inr (.inl 88)], []), (22, [.inr (.inl 89)], []), (40, [.inr (.inl 87), .inr (.inl 90)], [.inr (.inl 86)]), (0, [.inr (.inl 87), .inl (.int 1)], [])]) (P := [(5, .inl (.int 2000), .inr (.inl 0)), (6, .inr (.inl 0), .inl (.ref 2000)), (5, .inl (.int 2000), .inr (.inl 87)), (6, .inr (.inl 87), .inl (.ref 2000)), (4, .inl (.int 2000), .inr (.inl 92))]) jm_ok116 (by decide +kernel) (by decide +kernel) hd F X1 X2 (fun F' hF hs => ?_)
  have b0 := hd_b (F := F) (F' := F') (k := 0) (hF 0 (by decide))
  have t87 : sy_dv F' (.inr (.inl 87)) = .int ((sy_i F 0) + ((1 : Int32))) := hd_o (hs 4 _ rfl) b0 rfl rfl
  have t92 : sy_dv F' (.inr (.inl 92)) = .int (((sy_i F 0) + ((1 : Int32))) + ((1 : Int32))) := hd_o (hs 9 _ rfl) t87 rfl rfl
  have b82 := hd_b (F := F) (F' := F') (k := 82) (hF 82 (by decide))
  have t88 : sy_dv F' (.inr (.inl 88)) = .int ((((sy_i F 82)).toUInt32 >>> ((((16 : Int32))).toUInt32 &&& Int32.toUInt32 31)).toInt32) := hd_o (hs 5 _ rfl) b82 rfl rfl
  have t89 : sy_dv F' (.inr (.inl 89)) = .int (((((sy_i F 82)).toUInt32 >>> ((((16 : Int32))).toUInt32 &&& Int32.toUInt32 31)).toInt32).toInt8.toInt32) := hd_u (hs 6 _ rfl) t88 rfl
  have t90 : sy_dv F' (.inr (.inl 90)) = .int ((((((sy_i F 82)).toUInt32 >>> ((((16 : Int32))).toUInt32 &&& Int32.toUInt32 31)).toInt32).toInt8.toInt32).toInt8.toInt32) := hd_u (hs 7 _ rfl) t89 rfl
  have t83 : sy_dv F' (.inr (.inl 83)) = .int ((((sy_i F 82)).toUInt32 >>> ((((24 : Int32))).toUInt32 &&& Int32.toUInt32 31)).toInt32) := hd_o (hs 0 _ rfl) b82 rfl rfl
  have t84 : sy_dv F' (.inr (.inl 84)) = .int (((((sy_i F 82)).toUInt32 >>> ((((24 : Int32))).toUInt32 &&& Int32.toUInt32 31)).toInt32).toInt8.toInt32) := hd_u (hs 1 _ rfl) t83 rfl
  have t85 : sy_dv F' (.inr (.inl 85)) = .int ((((((sy_i F 82)).toUInt32 >>> ((((24 : Int32))).toUInt32 &&& Int32.toUInt32 31)).toInt32).toInt8.toInt32).toInt8.toInt32) := hd_u (hs 2 _ rfl) t84 rfl
  have a2 := hd_ba (F := F) (F' := F') (k := 2) (hF 2 (by decide))
  have t86 : sy_da F' (.inr (.inl 86)) = .inl (jm_upd (sy_ai F 2) (sy_i F 0).toNatClampNeg ((((((sy_i F 82)).toUInt32 >>> ((((24 : Int32))).toUInt32 &&& Int32.toUInt32 31)).toInt32).toInt8.toInt32).toInt8.toInt32)) := hd_up (hs 3 _ rfl) b0 t85 a2
  have t91 : sy_da F' (.inr (.inl 91)) = .inl (jm_upd (jm_upd (sy_ai F 2) (sy_i F 0).toNatClampNeg ((((((sy_i F 82)).toUInt32 >>> ((((24 : Int32))).toUInt32 &&& Int32.toUInt32 31)).toInt32).toInt8.toInt32).toInt8.toInt32)) ((sy_i F 0) + ((1 : Int32))).toNatClampNeg ((((((sy_i F 82)).toUInt32 >>> ((((16 : Int32))).toUInt32 &&& Int32.toUInt32 31)).toInt32).toInt8.toInt32).toInt8.toInt32)) := hd_up (hs 8 _ rfl) t87 t90 t86
  have hB' : iv_in F' iv_B0 := iv_in_eq hB (fun j hj => hF j (Nat.lt_of_lt_of_le hj (by decide +kernel)))
  refine ⟨List.forall_mem_cons.mpr ⟨hd_p5 rfl b0 (by have hc : ((2000) : Int32).toInt = 2000 := (by decide); omega), List.forall_mem_cons.mpr ⟨hd_pb b0 (by first | exact h1 | exact h1), List.forall_mem_cons.mpr ⟨hd_p5 rfl t87 (by have hc : ((2000) : Int32).toInt = 2000 := (by decide); omega), List.forall_mem_cons.mpr ⟨hd_pb t87 (by first | exact h3 | exact h3), List.forall_mem_cons.mpr ⟨hd_p4 rfl t92 (by have hc : ((2000) : Int32).toInt = 2000 := (by decide); omega), fun _ h => absurd h List.not_mem_nil⟩⟩⟩⟩⟩, ?_⟩
  refine k _ ?_ ?_ ?_
  · exact fun j hj hn => (hd_keep hB' (Nat.lt_of_lt_of_le hj (by decide +kernel)) (by simp; omega)).trans (hF j (by omega))
  · exact hd_gi (x := .inr (.inl 92)) (by decide +kernel) t92
  · exact hd_ga (a := .inr (.inl 91)) (by decide +kernel) t91
theorem ap2_0_3 {Ls : Nat} {xs : Nat → Int32} {d : Nat} {Q : Option Value → jm_h → Prop} (hd : 1 ≤ d) (F : Nat → sy_d) (X1 X2 : List jm_c) (hB : iv_in F iv_B0)
    (h0 : (sy_i F 0).toInt < 2000)
    (h1 : 0 ≤ (sy_i F 0).toInt ∧ (sy_i F 0).toInt < 2000)
    (h2 : ((sy_i F 0) + ((1 : Int32))).toInt < 2000)
    (h3 : 0 ≤ ((sy_i F 0) + ((1 : Int32))).toInt ∧ ((sy_i F 0) + ((1 : Int32))).toInt < 2000)
    (h4 : (((sy_i F 0) + ((1 : Int32))) + ((1 : Int32))).toInt < 2000)
    (h5 : 0 ≤ (((sy_i F 0) + ((1 : Int32))) + ((1 : Int32))).toInt ∧ (((sy_i F 0) + ((1 : Int32))) + ((1 : Int32))).toInt < 2000)
    (h6 : 2000 ≤ ((((sy_i F 0) + ((1 : Int32))) + ((1 : Int32))) + ((1 : Int32))).toInt)
    (k : ∀ F1 : Nat → sy_d, (∀ j, j < 82 → j ≠ 0 ∧ j ≠ 2 → F1 j = F j) → F1 0 = .inl (.int ((((sy_i F 0) + ((1 : Int32))) + ((1 : Int32))) + ((1 : Int32)))) → F1 2 = .inr (.inl (jm_upd (jm_upd (jm_upd (sy_ai F 2) (sy_i F 0).toNatClampNeg ((((((sy_i F 82)).toUInt32 >>> ((((24 : Int32))).toUInt32 &&& Int32.toUInt32 31)).toInt32).toInt8.toInt32).toInt8.toInt32)) ((sy_i F 0) + ((1 : Int32))).toNatClampNeg ((((((sy_i F 82)).toUInt32 >>> ((((16 : Int32))).toUInt32 &&& Int32.toUInt32 31)).toInt32).toInt8.toInt32).toInt8.toInt32)) (((sy_i F 0) + ((1 : Int32))) + ((1 : Int32))).toNatClampNeg ((((((sy_i F 82)).toUInt32 >>> ((((8 : Int32))).toUInt32 &&& Int32.toUInt32 31)).toInt32).toInt8.toInt32).toInt8.toInt32))) → Q (none) (sy_dh F1 X1 X2 (iv_H 2))) :
    hd_W Ls xs d jm_M116 Q (0, sy_dL F [some (.inl (.ref 8)), some (.inr (.inl 82)), none], sy_dS F [], sy_dh F X1 X2 (iv_H 2), 0, 0) := by
  refine hd_ret (s := 2) (nv := 83) (v := none) (uh := hd_ov (iv_id 0 iv_B0) [(0, .inl (.inr (.inl 97))), (2, .inr (.inr (.inl 96)))]) (f := true) (sp := []) (d0 := 0) (O := [false, false, false, true]) (T := [(8, [.inr (.inl 82), .inl (.int 24)], []), (22, [.inr (.inl 83)], []), (22, [.inr (.inl 84)], []), (40, [.inr (.inl 0), .inr (.inl 85)], [.inr (.inl 2)]), (0, [.inr (.inl 0), .inl (.int 1)], []), (8, [.inr (.inl 82), .inl (.int 16)], []), (22, [.inr (.inl 88)], []), (22, [.inr (.inl 89)], []), (40, [.inr (.inl 87), .inr (.inl 90)], [.inr (.inl 86)]), (0, [.inr (.inl 87), .inl (.int 1)], []), (8, [.inr (.inl 82), .inl (.int 8)], []), (22, [.inr (.inl 93)], []), (22, [.inr (.inl 94)], []), (40, [.inr (.inl 92), .inr (.inl 95)], [.inr (.inl 91)]), (0, [.inr (.inl 92), .inl (.int 1)], [])]) (P := [(5, .inl (.int 2000), .inr (.inl 0)), (6, .inr (.inl 0), .inl (.ref 2000)), (5, .inl (.int 2000), .inr (.inl 87)), (6, .inr (.inl 87), .inl (.ref 2000)), (5, .inl (.int 2000), .inr (.inl 92)), (6, .inr (.inl 92), .inl (.ref 2000)), (4, .inl (.int 2000), .inr (.inl 97))]) jm_ok116 (by decide +kernel) (by decide +kernel) hd F X1 X2 (fun F' hF hs => ?_)
  have b0 := hd_b (F := F) (F' := F') (k := 0) (hF 0 (by decide))
  have t87 : sy_dv F' (.inr (.inl 87)) = .int ((sy_i F 0) + ((1 : Int32))) := hd_o (hs 4 _ rfl) b0 rfl rfl
  have t92 : sy_dv F' (.inr (.inl 92)) = .int (((sy_i F 0) + ((1 : Int32))) + ((1 : Int32))) := hd_o (hs 9 _ rfl) t87 rfl rfl
  have t97 : sy_dv F' (.inr (.inl 97)) = .int ((((sy_i F 0) + ((1 : Int32))) + ((1 : Int32))) + ((1 : Int32))) := hd_o (hs 14 _ rfl) t92 rfl rfl
  have b82 := hd_b (F := F) (F' := F') (k := 82) (hF 82 (by decide))
  have t93 : sy_dv F' (.inr (.inl 93)) = .int ((((sy_i F 82)).toUInt32 >>> ((((8 : Int32))).toUInt32 &&& Int32.toUInt32 31)).toInt32) := hd_o (hs 10 _ rfl) b82 rfl rfl
  have t94 : sy_dv F' (.inr (.inl 94)) = .int (((((sy_i F 82)).toUInt32 >>> ((((8 : Int32))).toUInt32 &&& Int32.toUInt32 31)).toInt32).toInt8.toInt32) := hd_u (hs 11 _ rfl) t93 rfl
  have t95 : sy_dv F' (.inr (.inl 95)) = .int ((((((sy_i F 82)).toUInt32 >>> ((((8 : Int32))).toUInt32 &&& Int32.toUInt32 31)).toInt32).toInt8.toInt32).toInt8.toInt32) := hd_u (hs 12 _ rfl) t94 rfl
  have t88 : sy_dv F' (.inr (.inl 88)) = .int ((((sy_i F 82)).toUInt32 >>> ((((16 : Int32))).toUInt32 &&& Int32.toUInt32 31)).toInt32) := hd_o (hs 5 _ rfl) b82 rfl rfl
  have t89 : sy_dv F' (.inr (.inl 89)) = .int (((((sy_i F 82)).toUInt32 >>> ((((16 : Int32))).toUInt32 &&& Int32.toUInt32 31)).toInt32).toInt8.toInt32) := hd_u (hs 6 _ rfl) t88 rfl
  have t90 : sy_dv F' (.inr (.inl 90)) = .int ((((((sy_i F 82)).toUInt32 >>> ((((16 : Int32))).toUInt32 &&& Int32.toUInt32 31)).toInt32).toInt8.toInt32).toInt8.toInt32) := hd_u (hs 7 _ rfl) t89 rfl
  have t83 : sy_dv F' (.inr (.inl 83)) = .int ((((sy_i F 82)).toUInt32 >>> ((((24 : Int32))).toUInt32 &&& Int32.toUInt32 31)).toInt32) := hd_o (hs 0 _ rfl) b82 rfl rfl
  have t84 : sy_dv F' (.inr (.inl 84)) = .int (((((sy_i F 82)).toUInt32 >>> ((((24 : Int32))).toUInt32 &&& Int32.toUInt32 31)).toInt32).toInt8.toInt32) := hd_u (hs 1 _ rfl) t83 rfl
  have t85 : sy_dv F' (.inr (.inl 85)) = .int ((((((sy_i F 82)).toUInt32 >>> ((((24 : Int32))).toUInt32 &&& Int32.toUInt32 31)).toInt32).toInt8.toInt32).toInt8.toInt32) := hd_u (hs 2 _ rfl) t84 rfl
  have a2 := hd_ba (F := F) (F' := F') (k := 2) (hF 2 (by decide))
  have t86 : sy_da F' (.inr (.inl 86)) = .inl (jm_upd (sy_ai F 2) (sy_i F 0).toNatClampNeg ((((((sy_i F 82)).toUInt32 >>> ((((24 : Int32))).toUInt32 &&& Int32.toUInt32 31)).toInt32).toInt8.toInt32).toInt8.toInt32)) := hd_up (hs 3 _ rfl) b0 t85 a2
  have t91 : sy_da F' (.inr (.inl 91)) = .inl (jm_upd (jm_upd (sy_ai F 2) (sy_i F 0).toNatClampNeg ((((((sy_i F 82)).toUInt32 >>> ((((24 : Int32))).toUInt32 &&& Int32.toUInt32 31)).toInt32).toInt8.toInt32).toInt8.toInt32)) ((sy_i F 0) + ((1 : Int32))).toNatClampNeg ((((((sy_i F 82)).toUInt32 >>> ((((16 : Int32))).toUInt32 &&& Int32.toUInt32 31)).toInt32).toInt8.toInt32).toInt8.toInt32)) := hd_up (hs 8 _ rfl) t87 t90 t86
  have t96 : sy_da F' (.inr (.inl 96)) = .inl (jm_upd (jm_upd (jm_upd (sy_ai F 2) (sy_i F 0).toNatClampNeg ((((((sy_i F 82)).toUInt32 >>> ((((24 : Int32))).toUInt32 &&& Int32.toUInt32 31)).toInt32).toInt8.toInt32).toInt8.toInt32)) ((sy_i F 0) + ((1 : Int32))).toNatClampNeg ((((((sy_i F 82)).toUInt32 >>> ((((16 : Int32))).toUInt32 &&& Int32.toUInt32 31)).toInt32).toInt8.toInt32).toInt8.toInt32)) (((sy_i F 0) + ((1 : Int32))) + ((1 : Int32))).toNatClampNeg ((((((sy_i F 82)).toUInt32 >>> ((((8 : Int32))).toUInt32 &&& Int32.toUInt32 31)).toInt32).toInt8.toInt32).toInt8.toInt32)) := hd_up (hs 13 _ rfl) t92 t95 t91
  have hB' : iv_in F' iv_B0 := iv_in_eq hB (fun j hj => hF j (Nat.lt_of_lt_of_le hj (by decide +kernel)))
  refine ⟨List.forall_mem_cons.mpr ⟨hd_p5 rfl b0 (by have hc : ((2000) : Int32).toInt = 2000 := (by decide); omega), List.forall_mem_cons.mpr ⟨hd_pb b0 (by first | exact h1 | exact h1), List.forall_mem_cons.mpr ⟨hd_p5 rfl t87 (by have hc : ((2000) : Int32).toInt = 2000 := (by decide); omega), List.forall_mem_cons.mpr ⟨hd_pb t87 (by first | exact h3 | exact h3), List.forall_mem_cons.mpr ⟨hd_p5 rfl t92 (by have hc : ((2000) : Int32).toInt = 2000 := (by decide); omega), List.forall_mem_cons.mpr ⟨hd_pb t92 (by first | exact h5 | exact h5), List.forall_mem_cons.mpr ⟨hd_p4 rfl t97 (by have hc : ((2000) : Int32).toInt = 2000 := (by decide); omega), fun _ h => absurd h List.not_mem_nil⟩⟩⟩⟩⟩⟩⟩, ?_⟩
  refine k _ ?_ ?_ ?_
  · exact fun j hj hn => (hd_keep hB' (Nat.lt_of_lt_of_le hj (by decide +kernel)) (by simp; omega)).trans (hF j (by omega))
  · exact hd_gi (x := .inr (.inl 97)) (by decide +kernel) t97
  · exact hd_ga (a := .inr (.inl 96)) (by decide +kernel) t96
theorem ap2_0_4 {Ls : Nat} {xs : Nat → Int32} {d : Nat} {Q : Option Value → jm_h → Prop} (hd : 1 ≤ d) (F : Nat → sy_d) (X1 X2 : List jm_c) (hB : iv_in F iv_B0)
    (h0 : (sy_i F 0).toInt < 2000)
    (h1 : 0 ≤ (sy_i F 0).toInt ∧ (sy_i F 0).toInt < 2000)
    (h2 : ((sy_i F 0) + ((1 : Int32))).toInt < 2000)
    (h3 : 0 ≤ ((sy_i F 0) + ((1 : Int32))).toInt ∧ ((sy_i F 0) + ((1 : Int32))).toInt < 2000)
    (h4 : (((sy_i F 0) + ((1 : Int32))) + ((1 : Int32))).toInt < 2000)
    (h5 : 0 ≤ (((sy_i F 0) + ((1 : Int32))) + ((1 : Int32))).toInt ∧ (((sy_i F 0) + ((1 : Int32))) + ((1 : Int32))).toInt < 2000)
    (h6 : ((((sy_i F 0) + ((1 : Int32))) + ((1 : Int32))) + ((1 : Int32))).toInt < 2000)
    (h7 : 0 ≤ ((((sy_i F 0) + ((1 : Int32))) + ((1 : Int32))) + ((1 : Int32))).toInt ∧ ((((sy_i F 0) + ((1 : Int32))) + ((1 : Int32))) + ((1 : Int32))).toInt < 2000)
    (k : ∀ F1 : Nat → sy_d, (∀ j, j < 82 → j ≠ 0 ∧ j ≠ 2 → F1 j = F j) → F1 0 = .inl (.int (((((sy_i F 0) + ((1 : Int32))) + ((1 : Int32))) + ((1 : Int32))) + ((1 : Int32)))) → F1 2 = .inr (.inl (jm_upd (jm_upd (jm_upd (jm_upd (sy_ai F 2) (sy_i F 0).toNatClampNeg ((((((sy_i F 82)).toUInt32 >>> ((((24 : Int32))).toUInt32 &&& Int32.toUInt32 31)).toInt32).toInt8.toInt32).toInt8.toInt32)) ((sy_i F 0) + ((1 : Int32))).toNatClampNeg ((((((sy_i F 82)).toUInt32 >>> ((((16 : Int32))).toUInt32 &&& Int32.toUInt32 31)).toInt32).toInt8.toInt32).toInt8.toInt32)) (((sy_i F 0) + ((1 : Int32))) + ((1 : Int32))).toNatClampNeg ((((((sy_i F 82)).toUInt32 >>> ((((8 : Int32))).toUInt32 &&& Int32.toUInt32 31)).toInt32).toInt8.toInt32).toInt8.toInt32)) ((((sy_i F 0) + ((1 : Int32))) + ((1 : Int32))) + ((1 : Int32))).toNatClampNeg ((((((sy_i F 82)).toUInt32 >>> ((((0 : Int32))).toUInt32 &&& Int32.toUInt32 31)).toInt32).toInt8.toInt32).toInt8.toInt32))) → Q (none) (sy_dh F1 X1 X2 (iv_H 2))) :
    hd_W Ls xs d jm_M116 Q (0, sy_dL F [some (.inl (.ref 8)), some (.inr (.inl 82)), none], sy_dS F [], sy_dh F X1 X2 (iv_H 2), 0, 0) := by
  refine hd_ret (s := 2) (nv := 83) (v := none) (uh := hd_ov (iv_id 0 iv_B0) [(0, .inl (.inr (.inl 102))), (2, .inr (.inr (.inl 101)))]) (f := true) (sp := []) (d0 := 0) (O := [false, false, false, false]) (T := [(8, [.inr (.inl 82), .inl (.int 24)], []), (22, [.inr (.inl 83)], []), (22, [.inr (.inl 84)], []), (40, [.inr (.inl 0), .inr (.inl 85)], [.inr (.inl 2)]), (0, [.inr (.inl 0), .inl (.int 1)], []), (8, [.inr (.inl 82), .inl (.int 16)], []), (22, [.inr (.inl 88)], []), (22, [.inr (.inl 89)], []), (40, [.inr (.inl 87), .inr (.inl 90)], [.inr (.inl 86)]), (0, [.inr (.inl 87), .inl (.int 1)], []), (8, [.inr (.inl 82), .inl (.int 8)], []), (22, [.inr (.inl 93)], []), (22, [.inr (.inl 94)], []), (40, [.inr (.inl 92), .inr (.inl 95)], [.inr (.inl 91)]), (0, [.inr (.inl 92), .inl (.int 1)], []), (8, [.inr (.inl 82), .inl (.int 0)], []), (22, [.inr (.inl 98)], []), (22, [.inr (.inl 99)], []), (40, [.inr (.inl 97), .inr (.inl 100)], [.inr (.inl 96)]), (0, [.inr (.inl 97), .inl (.int 1)], [])]) (P := [(5, .inl (.int 2000), .inr (.inl 0)), (6, .inr (.inl 0), .inl (.ref 2000)), (5, .inl (.int 2000), .inr (.inl 87)), (6, .inr (.inl 87), .inl (.ref 2000)), (5, .inl (.int 2000), .inr (.inl 92)), (6, .inr (.inl 92), .inl (.ref 2000)), (5, .inl (.int 2000), .inr (.inl 97)), (6, .inr (.inl 97), .inl (.ref 2000))]) jm_ok116 (by decide +kernel) (by decide +kernel) hd F X1 X2 (fun F' hF hs => ?_)
  have b0 := hd_b (F := F) (F' := F') (k := 0) (hF 0 (by decide))
  have t87 : sy_dv F' (.inr (.inl 87)) = .int ((sy_i F 0) + ((1 : Int32))) := hd_o (hs 4 _ rfl) b0 rfl rfl
  have t92 : sy_dv F' (.inr (.inl 92)) = .int (((sy_i F 0) + ((1 : Int32))) + ((1 : Int32))) := hd_o (hs 9 _ rfl) t87 rfl rfl
  have t97 : sy_dv F' (.inr (.inl 97)) = .int ((((sy_i F 0) + ((1 : Int32))) + ((1 : Int32))) + ((1 : Int32))) := hd_o (hs 14 _ rfl) t92 rfl rfl
  have t102 : sy_dv F' (.inr (.inl 102)) = .int (((((sy_i F 0) + ((1 : Int32))) + ((1 : Int32))) + ((1 : Int32))) + ((1 : Int32))) := hd_o (hs 19 _ rfl) t97 rfl rfl
  have b82 := hd_b (F := F) (F' := F') (k := 82) (hF 82 (by decide))
  have t98 : sy_dv F' (.inr (.inl 98)) = .int ((((sy_i F 82)).toUInt32 >>> ((((0 : Int32))).toUInt32 &&& Int32.toUInt32 31)).toInt32) := hd_o (hs 15 _ rfl) b82 rfl rfl
  have t99 : sy_dv F' (.inr (.inl 99)) = .int (((((sy_i F 82)).toUInt32 >>> ((((0 : Int32))).toUInt32 &&& Int32.toUInt32 31)).toInt32).toInt8.toInt32) := hd_u (hs 16 _ rfl) t98 rfl
  have t100 : sy_dv F' (.inr (.inl 100)) = .int ((((((sy_i F 82)).toUInt32 >>> ((((0 : Int32))).toUInt32 &&& Int32.toUInt32 31)).toInt32).toInt8.toInt32).toInt8.toInt32) := hd_u (hs 17 _ rfl) t99 rfl
  have t93 : sy_dv F' (.inr (.inl 93)) = .int ((((sy_i F 82)).toUInt32 >>> ((((8 : Int32))).toUInt32 &&& Int32.toUInt32 31)).toInt32) := hd_o (hs 10 _ rfl) b82 rfl rfl
  have t94 : sy_dv F' (.inr (.inl 94)) = .int (((((sy_i F 82)).toUInt32 >>> ((((8 : Int32))).toUInt32 &&& Int32.toUInt32 31)).toInt32).toInt8.toInt32) := hd_u (hs 11 _ rfl) t93 rfl
  have t95 : sy_dv F' (.inr (.inl 95)) = .int ((((((sy_i F 82)).toUInt32 >>> ((((8 : Int32))).toUInt32 &&& Int32.toUInt32 31)).toInt32).toInt8.toInt32).toInt8.toInt32) := hd_u (hs 12 _ rfl) t94 rfl
  have t88 : sy_dv F' (.inr (.inl 88)) = .int ((((sy_i F 82)).toUInt32 >>> ((((16 : Int32))).toUInt32 &&& Int32.toUInt32 31)).toInt32) := hd_o (hs 5 _ rfl) b82 rfl rfl
  have t89 : sy_dv F' (.inr (.inl 89)) = .int (((((sy_i F 82)).toUInt32 >>> ((((16 : Int32))).toUInt32 &&& Int32.toUInt32 31)).toInt32).toInt8.toInt32) := hd_u (hs 6 _ rfl) t88 rfl
  have t90 : sy_dv F' (.inr (.inl 90)) = .int ((((((sy_i F 82)).toUInt32 >>> ((((16 : Int32))).toUInt32 &&& Int32.toUInt32 31)).toInt32).toInt8.toInt32).toInt8.toInt32) := hd_u (hs 7 _ rfl) t89 rfl
  have t83 : sy_dv F' (.inr (.inl 83)) = .int ((((sy_i F 82)).toUInt32 >>> ((((24 : Int32))).toUInt32 &&& Int32.toUInt32 31)).toInt32) := hd_o (hs 0 _ rfl) b82 rfl rfl
  have t84 : sy_dv F' (.inr (.inl 84)) = .int (((((sy_i F 82)).toUInt32 >>> ((((24 : Int32))).toUInt32 &&& Int32.toUInt32 31)).toInt32).toInt8.toInt32) := hd_u (hs 1 _ rfl) t83 rfl
  have t85 : sy_dv F' (.inr (.inl 85)) = .int ((((((sy_i F 82)).toUInt32 >>> ((((24 : Int32))).toUInt32 &&& Int32.toUInt32 31)).toInt32).toInt8.toInt32).toInt8.toInt32) := hd_u (hs 2 _ rfl) t84 rfl
  have a2 := hd_ba (F := F) (F' := F') (k := 2) (hF 2 (by decide))
  have t86 : sy_da F' (.inr (.inl 86)) = .inl (jm_upd (sy_ai F 2) (sy_i F 0).toNatClampNeg ((((((sy_i F 82)).toUInt32 >>> ((((24 : Int32))).toUInt32 &&& Int32.toUInt32 31)).toInt32).toInt8.toInt32).toInt8.toInt32)) := hd_up (hs 3 _ rfl) b0 t85 a2
  have t91 : sy_da F' (.inr (.inl 91)) = .inl (jm_upd (jm_upd (sy_ai F 2) (sy_i F 0).toNatClampNeg ((((((sy_i F 82)).toUInt32 >>> ((((24 : Int32))).toUInt32 &&& Int32.toUInt32 31)).toInt32).toInt8.toInt32).toInt8.toInt32)) ((sy_i F 0) + ((1 : Int32))).toNatClampNeg ((((((sy_i F 82)).toUInt32 >>> ((((16 : Int32))).toUInt32 &&& Int32.toUInt32 31)).toInt32).toInt8.toInt32).toInt8.toInt32)) := hd_up (hs 8 _ rfl) t87 t90 t86
  have t96 : sy_da F' (.inr (.inl 96)) = .inl (jm_upd (jm_upd (jm_upd (sy_ai F 2) (sy_i F 0).toNatClampNeg ((((((sy_i F 82)).toUInt32 >>> ((((24 : Int32))).toUInt32 &&& Int32.toUInt32 31)).toInt32).toInt8.toInt32).toInt8.toInt32)) ((sy_i F 0) + ((1 : Int32))).toNatClampNeg ((((((sy_i F 82)).toUInt32 >>> ((((16 : Int32))).toUInt32 &&& Int32.toUInt32 31)).toInt32).toInt8.toInt32).toInt8.toInt32)) (((sy_i F 0) + ((1 : Int32))) + ((1 : Int32))).toNatClampNeg ((((((sy_i F 82)).toUInt32 >>> ((((8 : Int32))).toUInt32 &&& Int32.toUInt32 31)).toInt32).toInt8.toInt32).toInt8.toInt32)) := hd_up (hs 13 _ rfl) t92 t95 t91
  have t101 : sy_da F' (.inr (.inl 101)) = .inl (jm_upd (jm_upd (jm_upd (jm_upd (sy_ai F 2) (sy_i F 0).toNatClampNeg ((((((sy_i F 82)).toUInt32 >>> ((((24 : Int32))).toUInt32 &&& Int32.toUInt32 31)).toInt32).toInt8.toInt32).toInt8.toInt32)) ((sy_i F 0) + ((1 : Int32))).toNatClampNeg ((((((sy_i F 82)).toUInt32 >>> ((((16 : Int32))).toUInt32 &&& Int32.toUInt32 31)).toInt32).toInt8.toInt32).toInt8.toInt32)) (((sy_i F 0) + ((1 : Int32))) + ((1 : Int32))).toNatClampNeg ((((((sy_i F 82)).toUInt32 >>> ((((8 : Int32))).toUInt32 &&& Int32.toUInt32 31)).toInt32).toInt8.toInt32).toInt8.toInt32)) ((((sy_i F 0) + ((1 : Int32))) + ((1 : Int32))) + ((1 : Int32))).toNatClampNeg ((((((sy_i F 82)).toUInt32 >>> ((((0 : Int32))).toUInt32 &&& Int32.toUInt32 31)).toInt32).toInt8.toInt32).toInt8.toInt32)) := hd_up (hs 18 _ rfl) t97 t100 t96
  have hB' : iv_in F' iv_B0 := iv_in_eq hB (fun j hj => hF j (Nat.lt_of_lt_of_le hj (by decide +kernel)))
  refine ⟨List.forall_mem_cons.mpr ⟨hd_p5 rfl b0 (by have hc : ((2000) : Int32).toInt = 2000 := (by decide); omega), List.forall_mem_cons.mpr ⟨hd_pb b0 (by first | exact h1 | exact h1), List.forall_mem_cons.mpr ⟨hd_p5 rfl t87 (by have hc : ((2000) : Int32).toInt = 2000 := (by decide); omega), List.forall_mem_cons.mpr ⟨hd_pb t87 (by first | exact h3 | exact h3), List.forall_mem_cons.mpr ⟨hd_p5 rfl t92 (by have hc : ((2000) : Int32).toInt = 2000 := (by decide); omega), List.forall_mem_cons.mpr ⟨hd_pb t92 (by first | exact h5 | exact h5), List.forall_mem_cons.mpr ⟨hd_p5 rfl t97 (by have hc : ((2000) : Int32).toInt = 2000 := (by decide); omega), List.forall_mem_cons.mpr ⟨hd_pb t97 (by first | exact h7 | exact h7), fun _ h => absurd h List.not_mem_nil⟩⟩⟩⟩⟩⟩⟩⟩, ?_⟩
  refine k _ ?_ ?_ ?_
  · exact fun j hj hn => (hd_keep hB' (Nat.lt_of_lt_of_le hj (by decide +kernel)) (by simp; omega)).trans (hF j (by omega))
  · exact hd_gi (x := .inr (.inl 102)) (by decide +kernel) t102
  · exact hd_ga (a := .inr (.inl 101)) (by decide +kernel) t101
theorem fd2_0_0 {Ls : Nat} {xs : Nat → Int32} {d : Nat} {Q : Option Value → jm_h → Prop} (hd : 2 ≤ d) (F : Nat → sy_d) (X1 X2 : List jm_c) (hB : iv_in F iv_B0)
    (h0 : ((sy_i F 0) + ((20 : Int32))).toInt ≤ 2000)
    (k : ∀ F1 : Nat → sy_d, (∀ j, j < 82 → True → F1 j = F j) → F1 82 = .inl (.int (sy_i F 82)) → F1 83 = .inl (.int (sy_i F 83)) → F1 84 = .inl (.int (sy_i F 84)) → F1 85 = .inl (.int (sy_i F 85)) → F1 86 = .inl (.int (sy_i F 86)) → hd_W Ls xs d jm_M81 Q (17, sy_dL F1 [some (.inl (.ref 8)), some (.inr (.inl 82)), some (.inr (.inl 83)), some (.inr (.inl 84)), some (.inr (.inl 85)), some (.inr (.inl 86))], sy_dS F1 [.inr (.inl 82), .inl (.ref 8)], sy_dh F1 X1 X2 (iv_H 2), 0, 0)) :
    hd_W Ls xs d jm_M81 Q (0, sy_dL F [some (.inl (.ref 8)), some (.inr (.inl 82)), some (.inr (.inl 83)), some (.inr (.inl 84)), some (.inr (.inl 85)), some (.inr (.inl 86))], sy_dS F [], sy_dh F X1 X2 (iv_H 2), 0, 0) := by
  refine hd_run (s := 2) (nv := 87) (pc := 17) (L := [some (.inl (.ref 8)), some (.inr (.inl 82)), some (.inr (.inl 83)), some (.inr (.inl 84)), some (.inr (.inl 85)), some (.inr (.inl 86))]) (S := [.inr (.inl 82), .inl (.ref 8)]) (uh := hd_ov (iv_id 0 iv_B0) []) (ul := [.inl (.inr (.inl 82)), .inl (.inr (.inl 83)), .inl (.inr (.inl 84)), .inl (.inr (.inl 85)), .inl (.inr (.inl 86))]) (f := true) (sp := [17, 22, 27, 33, 39]) (d0 := 1) (O := [true]) (T := [(0, [.inr (.inl 0), .inl (.int 20)], [])]) (P := [(4, .inr (.inl 87), .inl (.int 2000))]) jm_ok81 (by decide +kernel) (by decide +kernel) hd F X1 X2 (fun F' hF hs => ?_)
  have b0 := hd_b (F := F) (F' := F') (k := 0) (hF 0 (by decide))
  have t87 : sy_dv F' (.inr (.inl 87)) = .int ((sy_i F 0) + ((20 : Int32))) := hd_o (hs 0 _ rfl) b0 rfl rfl
  have b82 := hd_b (F := F) (F' := F') (k := 82) (hF 82 (by decide))
  have b83 := hd_b (F := F) (F' := F') (k := 83) (hF 83 (by decide))
  have b84 := hd_b (F := F) (F' := F') (k := 84) (hF 84 (by decide))
  have b85 := hd_b (F := F) (F' := F') (k := 85) (hF 85 (by decide))
  have b86 := hd_b (F := F) (F' := F') (k := 86) (hF 86 (by decide))
  have hB' : iv_in F' iv_B0 := iv_in_eq hB (fun j hj => hF j (Nat.lt_of_lt_of_le hj (by decide +kernel)))
  refine ⟨List.forall_mem_cons.mpr ⟨hd_p4 t87 rfl (by have hc : ((2000) : Int32).toInt = 2000 := (by decide); omega), fun _ h => absurd h List.not_mem_nil⟩, ?_⟩
  refine k _ ?_ ?_ ?_ ?_ ?_ ?_
  · exact fun j hj _ => (hd_keep hB' (Nat.lt_of_lt_of_le hj (by decide +kernel)) (by simp)).trans (hF j (by omega))
  · exact hd_gi (x := .inr (.inl 82)) (by decide +kernel) b82
  · exact hd_gi (x := .inr (.inl 83)) (by decide +kernel) b83
  · exact hd_gi (x := .inr (.inl 84)) (by decide +kernel) b84
  · exact hd_gi (x := .inr (.inl 85)) (by decide +kernel) b85
  · exact hd_gi (x := .inr (.inl 86)) (by decide +kernel) b86
theorem fd2_0_1 {Ls : Nat} {xs : Nat → Int32} {d : Nat} {Q : Option Value → jm_h → Prop} (hd : 2 ≤ d) (F : Nat → sy_d) (X1 X2 : List jm_c) (hB : iv_in F iv_B0)
    (h0 : 2000 < ((sy_i F 0) + ((20 : Int32))).toInt)
    (k : ∀ F1 : Nat → sy_d, (∀ j, j < 82 → True → F1 j = F j) → Q (some (.int (((-1) : Int32)))) (sy_dh F1 X1 X2 (iv_H 2))) :
    hd_W Ls xs d jm_M81 Q (0, sy_dL F [some (.inl (.ref 8)), some (.inr (.inl 82)), some (.inr (.inl 83)), some (.inr (.inl 84)), some (.inr (.inl 85)), some (.inr (.inl 86))], sy_dS F [], sy_dh F X1 X2 (iv_H 2), 0, 0) := by
  refine hd_ret (s := 2) (nv := 87) (v := some (.inl (.int (-1)))) (uh := hd_ov (iv_id 0 iv_B0) []) (f := true) (sp := [17, 22, 27, 33, 39]) (d0 := 1) (O := [false]) (T := [(0, [.inr (.inl 0), .inl (.int 20)], [])]) (P := [(5, .inr (.inl 87), .inl (.int 2000))]) jm_ok81 (by decide +kernel) (by decide +kernel) hd F X1 X2 (fun F' hF hs => ?_)
  have b0 := hd_b (F := F) (F' := F') (k := 0) (hF 0 (by decide))
  have t87 : sy_dv F' (.inr (.inl 87)) = .int ((sy_i F 0) + ((20 : Int32))) := hd_o (hs 0 _ rfl) b0 rfl rfl
  have hB' : iv_in F' iv_B0 := iv_in_eq hB (fun j hj => hF j (Nat.lt_of_lt_of_le hj (by decide +kernel)))
  refine ⟨List.forall_mem_cons.mpr ⟨hd_p5 t87 rfl (by have hc : ((2000) : Int32).toInt = 2000 := (by decide); omega), fun _ h => absurd h List.not_mem_nil⟩, ?_⟩
  refine k _ ?_
  · exact fun j hj _ => (hd_keep hB' (Nat.lt_of_lt_of_le hj (by decide +kernel)) (by simp)).trans (hF j (by omega))
theorem fd2_20_0 {Ls : Nat} {xs : Nat → Int32} {d : Nat} {Q : Option Value → jm_h → Prop} (hd : 2 ≤ d) (F : Nat → sy_d) (X1 X2 : List jm_c) (hB : iv_in F iv_B0)
    (k : ∀ F1 : Nat → sy_d, (∀ j, j < 82 → True → F1 j = F j) → F1 82 = .inl (.int (sy_i F 82)) → F1 83 = .inl (.int (sy_i F 83)) → F1 84 = .inl (.int (sy_i F 84)) → F1 85 = .inl (.int (sy_i F 85)) → F1 86 = .inl (.int (sy_i F 86)) → hd_W Ls xs d jm_M81 Q (22, sy_dL F1 [some (.inl (.ref 8)), some (.inr (.inl 82)), some (.inr (.inl 83)), some (.inr (.inl 84)), some (.inr (.inl 85)), some (.inr (.inl 86))], sy_dS F1 [.inr (.inl 83), .inl (.ref 8)], sy_dh F1 X1 X2 (iv_H 2), 0, 0)) :
    hd_W Ls xs d jm_M81 Q (20, sy_dL F [some (.inl (.ref 8)), some (.inr (.inl 82)), some (.inr (.inl 83)), some (.inr (.inl 84)), some (.inr (.inl 85)), some (.inr (.inl 86))], sy_dS F [], sy_dh F X1 X2 (iv_H 2), 0, 0) := by
  refine hd_run (s := 2) (nv := 87) (pc := 22) (L := [some (.inl (.ref 8)), some (.inr (.inl 82)), some (.inr (.inl 83)), some (.inr (.inl 84)), some (.inr (.inl 85)), some (.inr (.inl 86))]) (S := [.inr (.inl 83), .inl (.ref 8)]) (uh := hd_ov (iv_id 0 iv_B0) []) (ul := [.inl (.inr (.inl 82)), .inl (.inr (.inl 83)), .inl (.inr (.inl 84)), .inl (.inr (.inl 85)), .inl (.inr (.inl 86))]) (f := false) (sp := [17, 22, 27, 33, 39]) (d0 := 1) (O := []) (T := []) (P := []) jm_ok81 (by decide +kernel) (by decide +kernel) hd F X1 X2 (fun F' hF hs => ?_)
  have b82 := hd_b (F := F) (F' := F') (k := 82) (hF 82 (by decide))
  have b83 := hd_b (F := F) (F' := F') (k := 83) (hF 83 (by decide))
  have b84 := hd_b (F := F) (F' := F') (k := 84) (hF 84 (by decide))
  have b85 := hd_b (F := F) (F' := F') (k := 85) (hF 85 (by decide))
  have b86 := hd_b (F := F) (F' := F') (k := 86) (hF 86 (by decide))
  have hB' : iv_in F' iv_B0 := iv_in_eq hB (fun j hj => hF j (Nat.lt_of_lt_of_le hj (by decide +kernel)))
  refine ⟨fun _ h => absurd h List.not_mem_nil, ?_⟩
  refine k _ ?_ ?_ ?_ ?_ ?_ ?_
  · exact fun j hj _ => (hd_keep hB' (Nat.lt_of_lt_of_le hj (by decide +kernel)) (by simp)).trans (hF j (by omega))
  · exact hd_gi (x := .inr (.inl 82)) (by decide +kernel) b82
  · exact hd_gi (x := .inr (.inl 83)) (by decide +kernel) b83
  · exact hd_gi (x := .inr (.inl 84)) (by decide +kernel) b84
  · exact hd_gi (x := .inr (.inl 85)) (by decide +kernel) b85
  · exact hd_gi (x := .inr (.inl 86)) (by decide +kernel) b86
theorem fd2_25_0 {Ls : Nat} {xs : Nat → Int32} {d : Nat} {Q : Option Value → jm_h → Prop} (hd : 2 ≤ d) (F : Nat → sy_d) (X1 X2 : List jm_c) (hB : iv_in F iv_B0)
    (k : ∀ F1 : Nat → sy_d, (∀ j, j < 82 → True → F1 j = F j) → F1 82 = .inl (.int (sy_i F 82)) → F1 83 = .inl (.int (sy_i F 83)) → F1 84 = .inl (.int (sy_i F 84)) → F1 85 = .inl (.int (sy_i F 85)) → F1 86 = .inl (.int (sy_i F 86)) → hd_W Ls xs d jm_M81 Q (27, sy_dL F1 [some (.inl (.ref 8)), some (.inr (.inl 82)), some (.inr (.inl 83)), some (.inr (.inl 84)), some (.inr (.inl 85)), some (.inr (.inl 86))], sy_dS F1 [.inr (.inl 84), .inl (.ref 8)], sy_dh F1 X1 X2 (iv_H 2), 0, 0)) :
    hd_W Ls xs d jm_M81 Q (25, sy_dL F [some (.inl (.ref 8)), some (.inr (.inl 82)), some (.inr (.inl 83)), some (.inr (.inl 84)), some (.inr (.inl 85)), some (.inr (.inl 86))], sy_dS F [], sy_dh F X1 X2 (iv_H 2), 0, 0) := by
  refine hd_run (s := 2) (nv := 87) (pc := 27) (L := [some (.inl (.ref 8)), some (.inr (.inl 82)), some (.inr (.inl 83)), some (.inr (.inl 84)), some (.inr (.inl 85)), some (.inr (.inl 86))]) (S := [.inr (.inl 84), .inl (.ref 8)]) (uh := hd_ov (iv_id 0 iv_B0) []) (ul := [.inl (.inr (.inl 82)), .inl (.inr (.inl 83)), .inl (.inr (.inl 84)), .inl (.inr (.inl 85)), .inl (.inr (.inl 86))]) (f := false) (sp := [17, 22, 27, 33, 39]) (d0 := 1) (O := []) (T := []) (P := []) jm_ok81 (by decide +kernel) (by decide +kernel) hd F X1 X2 (fun F' hF hs => ?_)
  have b82 := hd_b (F := F) (F' := F') (k := 82) (hF 82 (by decide))
  have b83 := hd_b (F := F) (F' := F') (k := 83) (hF 83 (by decide))
  have b84 := hd_b (F := F) (F' := F') (k := 84) (hF 84 (by decide))
  have b85 := hd_b (F := F) (F' := F') (k := 85) (hF 85 (by decide))
  have b86 := hd_b (F := F) (F' := F') (k := 86) (hF 86 (by decide))
  have hB' : iv_in F' iv_B0 := iv_in_eq hB (fun j hj => hF j (Nat.lt_of_lt_of_le hj (by decide +kernel)))
  refine ⟨fun _ h => absurd h List.not_mem_nil, ?_⟩
  refine k _ ?_ ?_ ?_ ?_ ?_ ?_
  · exact fun j hj _ => (hd_keep hB' (Nat.lt_of_lt_of_le hj (by decide +kernel)) (by simp)).trans (hF j (by omega))
  · exact hd_gi (x := .inr (.inl 82)) (by decide +kernel) b82
  · exact hd_gi (x := .inr (.inl 83)) (by decide +kernel) b83
  · exact hd_gi (x := .inr (.inl 84)) (by decide +kernel) b84
  · exact hd_gi (x := .inr (.inl 85)) (by decide +kernel) b85
  · exact hd_gi (x := .inr (.inl 86)) (by decide +kernel) b86
theorem fd2_30_0 {Ls : Nat} {xs : Nat → Int32} {d : Nat} {Q : Option Value → jm_h → Prop} (hd : 2 ≤ d) (F : Nat → sy_d) (X1 X2 : List jm_c) (hB : iv_in F iv_B0)
    (k : ∀ F1 : Nat → sy_d, (∀ j, j < 82 → True → F1 j = F j) → F1 82 = .inl (.int (sy_i F 82)) → F1 83 = .inl (.int (sy_i F 83)) → F1 84 = .inl (.int (sy_i F 84)) → F1 85 = .inl (.int (sy_i F 85)) → F1 86 = .inl (.int (sy_i F 86)) → hd_W Ls xs d jm_M81 Q (33, sy_dL F1 [some (.inl (.ref 8)), some (.inr (.inl 82)), some (.inr (.inl 83)), some (.inr (.inl 84)), some (.inr (.inl 85)), some (.inr (.inl 86))], sy_dS F1 [.inr (.inl 85), .inl (.ref 8)], sy_dh F1 X1 X2 (iv_H 2), 0, 0)) :
    hd_W Ls xs d jm_M81 Q (30, sy_dL F [some (.inl (.ref 8)), some (.inr (.inl 82)), some (.inr (.inl 83)), some (.inr (.inl 84)), some (.inr (.inl 85)), some (.inr (.inl 86))], sy_dS F [], sy_dh F X1 X2 (iv_H 2), 0, 0) := by
  refine hd_run (s := 2) (nv := 87) (pc := 33) (L := [some (.inl (.ref 8)), some (.inr (.inl 82)), some (.inr (.inl 83)), some (.inr (.inl 84)), some (.inr (.inl 85)), some (.inr (.inl 86))]) (S := [.inr (.inl 85), .inl (.ref 8)]) (uh := hd_ov (iv_id 0 iv_B0) []) (ul := [.inl (.inr (.inl 82)), .inl (.inr (.inl 83)), .inl (.inr (.inl 84)), .inl (.inr (.inl 85)), .inl (.inr (.inl 86))]) (f := false) (sp := [17, 22, 27, 33, 39]) (d0 := 1) (O := []) (T := []) (P := []) jm_ok81 (by decide +kernel) (by decide +kernel) hd F X1 X2 (fun F' hF hs => ?_)
  have b82 := hd_b (F := F) (F' := F') (k := 82) (hF 82 (by decide))
  have b83 := hd_b (F := F) (F' := F') (k := 83) (hF 83 (by decide))
  have b84 := hd_b (F := F) (F' := F') (k := 84) (hF 84 (by decide))
  have b85 := hd_b (F := F) (F' := F') (k := 85) (hF 85 (by decide))
  have b86 := hd_b (F := F) (F' := F') (k := 86) (hF 86 (by decide))
  have hB' : iv_in F' iv_B0 := iv_in_eq hB (fun j hj => hF j (Nat.lt_of_lt_of_le hj (by decide +kernel)))
  refine ⟨fun _ h => absurd h List.not_mem_nil, ?_⟩
  refine k _ ?_ ?_ ?_ ?_ ?_ ?_
  · exact fun j hj _ => (hd_keep hB' (Nat.lt_of_lt_of_le hj (by decide +kernel)) (by simp)).trans (hF j (by omega))
  · exact hd_gi (x := .inr (.inl 82)) (by decide +kernel) b82
  · exact hd_gi (x := .inr (.inl 83)) (by decide +kernel) b83
  · exact hd_gi (x := .inr (.inl 84)) (by decide +kernel) b84
  · exact hd_gi (x := .inr (.inl 85)) (by decide +kernel) b85
  · exact hd_gi (x := .inr (.inl 86)) (by decide +kernel) b86
theorem fd2_36_0 {Ls : Nat} {xs : Nat → Int32} {d : Nat} {Q : Option Value → jm_h → Prop} (hd : 2 ≤ d) (F : Nat → sy_d) (X1 X2 : List jm_c) (hB : iv_in F iv_B0)
    (k : ∀ F1 : Nat → sy_d, (∀ j, j < 82 → True → F1 j = F j) → F1 82 = .inl (.int (sy_i F 82)) → F1 83 = .inl (.int (sy_i F 83)) → F1 84 = .inl (.int (sy_i F 84)) → F1 85 = .inl (.int (sy_i F 85)) → F1 86 = .inl (.int (sy_i F 86)) → hd_W Ls xs d jm_M81 Q (39, sy_dL F1 [some (.inl (.ref 8)), some (.inr (.inl 82)), some (.inr (.inl 83)), some (.inr (.inl 84)), some (.inr (.inl 85)), some (.inr (.inl 86))], sy_dS F1 [.inr (.inl 86), .inl (.ref 8)], sy_dh F1 X1 X2 (iv_H 2), 0, 0)) :
    hd_W Ls xs d jm_M81 Q (36, sy_dL F [some (.inl (.ref 8)), some (.inr (.inl 82)), some (.inr (.inl 83)), some (.inr (.inl 84)), some (.inr (.inl 85)), some (.inr (.inl 86))], sy_dS F [], sy_dh F X1 X2 (iv_H 2), 0, 0) := by
  refine hd_run (s := 2) (nv := 87) (pc := 39) (L := [some (.inl (.ref 8)), some (.inr (.inl 82)), some (.inr (.inl 83)), some (.inr (.inl 84)), some (.inr (.inl 85)), some (.inr (.inl 86))]) (S := [.inr (.inl 86), .inl (.ref 8)]) (uh := hd_ov (iv_id 0 iv_B0) []) (ul := [.inl (.inr (.inl 82)), .inl (.inr (.inl 83)), .inl (.inr (.inl 84)), .inl (.inr (.inl 85)), .inl (.inr (.inl 86))]) (f := false) (sp := [17, 22, 27, 33, 39]) (d0 := 1) (O := []) (T := []) (P := []) jm_ok81 (by decide +kernel) (by decide +kernel) hd F X1 X2 (fun F' hF hs => ?_)
  have b82 := hd_b (F := F) (F' := F') (k := 82) (hF 82 (by decide))
  have b83 := hd_b (F := F) (F' := F') (k := 83) (hF 83 (by decide))
  have b84 := hd_b (F := F) (F' := F') (k := 84) (hF 84 (by decide))
  have b85 := hd_b (F := F) (F' := F') (k := 85) (hF 85 (by decide))
  have b86 := hd_b (F := F) (F' := F') (k := 86) (hF 86 (by decide))
  have hB' : iv_in F' iv_B0 := iv_in_eq hB (fun j hj => hF j (Nat.lt_of_lt_of_le hj (by decide +kernel)))
  refine ⟨fun _ h => absurd h List.not_mem_nil, ?_⟩
  refine k _ ?_ ?_ ?_ ?_ ?_ ?_
  · exact fun j hj _ => (hd_keep hB' (Nat.lt_of_lt_of_le hj (by decide +kernel)) (by simp)).trans (hF j (by omega))
  · exact hd_gi (x := .inr (.inl 82)) (by decide +kernel) b82
  · exact hd_gi (x := .inr (.inl 83)) (by decide +kernel) b83
  · exact hd_gi (x := .inr (.inl 84)) (by decide +kernel) b84
  · exact hd_gi (x := .inr (.inl 85)) (by decide +kernel) b85
  · exact hd_gi (x := .inr (.inl 86)) (by decide +kernel) b86
theorem fd2_42_0 {Ls : Nat} {xs : Nat → Int32} {d : Nat} {Q : Option Value → jm_h → Prop} (hd : 2 ≤ d) (F : Nat → sy_d) (X1 X2 : List jm_c) (hB : iv_in F iv_B0)
    (k : ∀ F1 : Nat → sy_d, (∀ j, j < 82 → True → F1 j = F j) → Q (some (.int (sy_i F 0))) (sy_dh F1 X1 X2 (iv_H 2))) :
    hd_W Ls xs d jm_M81 Q (42, sy_dL F [some (.inl (.ref 8)), some (.inr (.inl 82)), some (.inr (.inl 83)), some (.inr (.inl 84)), some (.inr (.inl 85)), some (.inr (.inl 86))], sy_dS F [], sy_dh F X1 X2 (iv_H 2), 0, 0) := by
  refine hd_ret (s := 2) (nv := 87) (v := some (.inr (.inl 0))) (uh := hd_ov (iv_id 0 iv_B0) []) (f := false) (sp := [17, 22, 27, 33, 39]) (d0 := 1) (O := []) (T := []) (P := []) jm_ok81 (by decide +kernel) (by decide +kernel) hd F X1 X2 (fun F' hF hs => ?_)
  have b0 := hd_b (F := F) (F' := F') (k := 0) (hF 0 (by decide))
  have hB' : iv_in F' iv_B0 := iv_in_eq hB (fun j hj => hF j (Nat.lt_of_lt_of_le hj (by decide +kernel)))
  have hk := k (sy_cm F' (hd_ov (iv_id 0 iv_B0) [] ++ [])) (fun j hj _ => (hd_keep hB' (Nat.lt_of_lt_of_le hj (by decide +kernel)) (by simp)).trans (hF j (by omega)))
  refine ⟨fun _ h => absurd h List.not_mem_nil, ?_⟩
  show Q (some (sy_dv F' (.inr (.inl 0)))) _
  rw [b0]
  exact hk
theorem ap3_0_0 {Ls : Nat} {xs : Nat → Int32} {d : Nat} {Q : Option Value → jm_h → Prop} (hd : 1 ≤ d) (F : Nat → sy_d) (X1 X2 : List jm_c) (hB : iv_in F iv_B0)
    (h0 : 2000 ≤ (sy_i F 0).toInt)
    (k : ∀ F1 : Nat → sy_d, (∀ j, j < 82 → True → F1 j = F j) → Q (none) (sy_dh F1 X1 X2 (iv_H 3))) :
    hd_W Ls xs d jm_M116 Q (0, sy_dL F [some (.inl (.ref 8)), some (.inr (.inl 82)), none], sy_dS F [], sy_dh F X1 X2 (iv_H 3), 0, 0) := by
  refine hd_ret (s := 3) (nv := 83) (v := none) (uh := hd_ov (iv_id 0 iv_B0) []) (f := true) (sp := []) (d0 := 0) (O := [true]) (T := []) (P := [(4, .inl (.int 2000), .inr (.inl 0))]) jm_ok116 (by decide +kernel) (by decide +kernel) hd F X1 X2 (fun F' hF hs => ?_)
  have b0 := hd_b (F := F) (F' := F') (k := 0) (hF 0 (by decide))
  have hB' : iv_in F' iv_B0 := iv_in_eq hB (fun j hj => hF j (Nat.lt_of_lt_of_le hj (by decide +kernel)))
  refine ⟨List.forall_mem_cons.mpr ⟨hd_p4 rfl b0 (by have hc : ((2000) : Int32).toInt = 2000 := (by decide); omega), fun _ h => absurd h List.not_mem_nil⟩, ?_⟩
  refine k _ ?_
  · exact fun j hj _ => (hd_keep hB' (Nat.lt_of_lt_of_le hj (by decide +kernel)) (by simp)).trans (hF j (by omega))
theorem ap3_0_1 {Ls : Nat} {xs : Nat → Int32} {d : Nat} {Q : Option Value → jm_h → Prop} (hd : 1 ≤ d) (F : Nat → sy_d) (X1 X2 : List jm_c) (hB : iv_in F iv_B0)
    (h0 : (sy_i F 0).toInt < 2000)
    (h1 : 0 ≤ (sy_i F 0).toInt ∧ (sy_i F 0).toInt < 2000)
    (h2 : 2000 ≤ ((sy_i F 0) + ((1 : Int32))).toInt)
    (k : ∀ F1 : Nat → sy_d, (∀ j, j < 82 → j ≠ 0 ∧ j ≠ 2 → F1 j = F j) → F1 0 = .inl (.int ((sy_i F 0) + ((1 : Int32)))) → F1 2 = .inr (.inl (jm_upd (sy_ai F 2) (sy_i F 0).toNatClampNeg ((((((sy_i F 82)).toUInt32 >>> ((((24 : Int32))).toUInt32 &&& Int32.toUInt32 31)).toInt32).toInt8.toInt32).toInt8.toInt32))) → Q (none) (sy_dh F1 X1 X2 (iv_H 3))) :
    hd_W Ls xs d jm_M116 Q (0, sy_dL F [some (.inl (.ref 8)), some (.inr (.inl 82)), none], sy_dS F [], sy_dh F X1 X2 (iv_H 3), 0, 0) := by
  refine hd_ret (s := 3) (nv := 83) (v := none) (uh := hd_ov (iv_id 0 iv_B0) [(0, .inl (.inr (.inl 87))), (2, .inr (.inr (.inl 86)))]) (f := true) (sp := []) (d0 := 0) (O := [false, true]) (T := [(8, [.inr (.inl 82), .inl (.int 24)], []), (22, [.inr (.inl 83)], []), (22, [.inr (.inl 84)], []), (40, [.inr (.inl 0), .inr (.inl 85)], [.inr (.inl 2)]), (0, [.inr (.inl 0), .inl (.int 1)], [])]) (P := [(5, .inl (.int 2000), .inr (.inl 0)), (6, .inr (.inl 0), .inl (.ref 2000)), (4, .inl (.int 2000), .inr (.inl 87))]) jm_ok116 (by decide +kernel) (by decide +kernel) hd F X1 X2 (fun F' hF hs => ?_)
  have b0 := hd_b (F := F) (F' := F') (k := 0) (hF 0 (by decide))
  have t87 : sy_dv F' (.inr (.inl 87)) = .int ((sy_i F 0) + ((1 : Int32))) := hd_o (hs 4 _ rfl) b0 rfl rfl
  have b82 := hd_b (F := F) (F' := F') (k := 82) (hF 82 (by decide))
  have t83 : sy_dv F' (.inr (.inl 83)) = .int ((((sy_i F 82)).toUInt32 >>> ((((24 : Int32))).toUInt32 &&& Int32.toUInt32 31)).toInt32) := hd_o (hs 0 _ rfl) b82 rfl rfl
  have t84 : sy_dv F' (.inr (.inl 84)) = .int (((((sy_i F 82)).toUInt32 >>> ((((24 : Int32))).toUInt32 &&& Int32.toUInt32 31)).toInt32).toInt8.toInt32) := hd_u (hs 1 _ rfl) t83 rfl
  have t85 : sy_dv F' (.inr (.inl 85)) = .int ((((((sy_i F 82)).toUInt32 >>> ((((24 : Int32))).toUInt32 &&& Int32.toUInt32 31)).toInt32).toInt8.toInt32).toInt8.toInt32) := hd_u (hs 2 _ rfl) t84 rfl
  have a2 := hd_ba (F := F) (F' := F') (k := 2) (hF 2 (by decide))
  have t86 : sy_da F' (.inr (.inl 86)) = .inl (jm_upd (sy_ai F 2) (sy_i F 0).toNatClampNeg ((((((sy_i F 82)).toUInt32 >>> ((((24 : Int32))).toUInt32 &&& Int32.toUInt32 31)).toInt32).toInt8.toInt32).toInt8.toInt32)) := hd_up (hs 3 _ rfl) b0 t85 a2
  have hB' : iv_in F' iv_B0 := iv_in_eq hB (fun j hj => hF j (Nat.lt_of_lt_of_le hj (by decide +kernel)))
  refine ⟨List.forall_mem_cons.mpr ⟨hd_p5 rfl b0 (by have hc : ((2000) : Int32).toInt = 2000 := (by decide); omega), List.forall_mem_cons.mpr ⟨hd_pb b0 (by first | exact h1 | exact h1), List.forall_mem_cons.mpr ⟨hd_p4 rfl t87 (by have hc : ((2000) : Int32).toInt = 2000 := (by decide); omega), fun _ h => absurd h List.not_mem_nil⟩⟩⟩, ?_⟩
  refine k _ ?_ ?_ ?_
  · exact fun j hj hn => (hd_keep hB' (Nat.lt_of_lt_of_le hj (by decide +kernel)) (by simp; omega)).trans (hF j (by omega))
  · exact hd_gi (x := .inr (.inl 87)) (by decide +kernel) t87
  · exact hd_ga (a := .inr (.inl 86)) (by decide +kernel) t86
theorem ap3_0_2 {Ls : Nat} {xs : Nat → Int32} {d : Nat} {Q : Option Value → jm_h → Prop} (hd : 1 ≤ d) (F : Nat → sy_d) (X1 X2 : List jm_c) (hB : iv_in F iv_B0)
    (h0 : (sy_i F 0).toInt < 2000)
    (h1 : 0 ≤ (sy_i F 0).toInt ∧ (sy_i F 0).toInt < 2000)
    (h2 : ((sy_i F 0) + ((1 : Int32))).toInt < 2000)
    (h3 : 0 ≤ ((sy_i F 0) + ((1 : Int32))).toInt ∧ ((sy_i F 0) + ((1 : Int32))).toInt < 2000)
    (h4 : 2000 ≤ (((sy_i F 0) + ((1 : Int32))) + ((1 : Int32))).toInt)
    (k : ∀ F1 : Nat → sy_d, (∀ j, j < 82 → j ≠ 0 ∧ j ≠ 2 → F1 j = F j) → F1 0 = .inl (.int (((sy_i F 0) + ((1 : Int32))) + ((1 : Int32)))) → F1 2 = .inr (.inl (jm_upd (jm_upd (sy_ai F 2) (sy_i F 0).toNatClampNeg ((((((sy_i F 82)).toUInt32 >>> ((((24 : Int32))).toUInt32 &&& Int32.toUInt32 31)).toInt32).toInt8.toInt32).toInt8.toInt32)) ((sy_i F 0) + ((1 : Int32))).toNatClampNeg ((((((sy_i F 82)).toUInt32 >>> ((((16 : Int32))).toUInt32 &&& Int32.toUInt32 31)).toInt32).toInt8.toInt32).toInt8.toInt32))) → Q (none) (sy_dh F1 X1 X2 (iv_H 3))) :
    hd_W Ls xs d jm_M116 Q (0, sy_dL F [some (.inl (.ref 8)), some (.inr (.inl 82)), none], sy_dS F [], sy_dh F X1 X2 (iv_H 3), 0, 0) := by
  refine hd_ret (s := 3) (nv := 83) (v := none) (uh := hd_ov (iv_id 0 iv_B0) [(0, .inl (.inr (.inl 92))), (2, .inr (.inr (.inl 91)))]) (f := true) (sp := []) (d0 := 0) (O := [false, false, true]) (T := [(8, [.inr (.inl 82), .inl (.int 24)], []), (22, [.inr (.inl 83)], []), (22, [.inr (.inl 84)], []), (40, [.inr (.inl 0), .inr (.inl 85)], [.inr (.inl 2)]), (0, [.inr (.inl 0), .inl (.int 1)], []), (8, [.inr (.inl 82), .inl (.int 16)], []), (22, [.inr (.inl 88)], []), (22, [.inr (.inl 89)], []), (40, [.inr (.inl 87), .inr (.inl 90)], [.inr (.inl 86)]), (0, [.inr (.inl 87), .inl (.int 1)], [])]) (P := [(5, .inl (.int 2000), .inr (.inl 0)), (6, .inr (.inl 0), .inl (.ref 2000)), (5, .inl (.int 2000), .inr (.inl 87)), (6, .inr (.inl 87), .inl (.ref 2000)), (4, .inl (.int 2000), .inr (.inl 92))]) jm_ok116 (by decide +kernel) (by decide +kernel) hd F X1 X2 (fun F' hF hs => ?_)
  have b0 := hd_b (F := F) (F' := F') (k := 0) (hF 0 (by decide))
  have t87 : sy_dv F' (.inr (.inl 87)) = .int ((sy_i F 0) + ((1 : Int32))) := hd_o (hs 4 _ rfl) b0 rfl rfl
  have t92 : sy_dv F' (.inr (.inl 92)) = .int (((sy_i F 0) + ((1 : Int32))) + ((1 : Int32))) := hd_o (hs 9 _ rfl) t87 rfl rfl
  have b82 := hd_b (F := F) (F' := F') (k := 82) (hF 82 (by decide))
  have t88 : sy_dv F' (.inr (.inl 88)) = .int ((((sy_i F 82)).toUInt32 >>> ((((16 : Int32))).toUInt32 &&& Int32.toUInt32 31)).toInt32) := hd_o (hs 5 _ rfl) b82 rfl rfl
  have t89 : sy_dv F' (.inr (.inl 89)) = .int (((((sy_i F 82)).toUInt32 >>> ((((16 : Int32))).toUInt32 &&& Int32.toUInt32 31)).toInt32).toInt8.toInt32) := hd_u (hs 6 _ rfl) t88 rfl
  have t90 : sy_dv F' (.inr (.inl 90)) = .int ((((((sy_i F 82)).toUInt32 >>> ((((16 : Int32))).toUInt32 &&& Int32.toUInt32 31)).toInt32).toInt8.toInt32).toInt8.toInt32) := hd_u (hs 7 _ rfl) t89 rfl
  have t83 : sy_dv F' (.inr (.inl 83)) = .int ((((sy_i F 82)).toUInt32 >>> ((((24 : Int32))).toUInt32 &&& Int32.toUInt32 31)).toInt32) := hd_o (hs 0 _ rfl) b82 rfl rfl
  have t84 : sy_dv F' (.inr (.inl 84)) = .int (((((sy_i F 82)).toUInt32 >>> ((((24 : Int32))).toUInt32 &&& Int32.toUInt32 31)).toInt32).toInt8.toInt32) := hd_u (hs 1 _ rfl) t83 rfl
  have t85 : sy_dv F' (.inr (.inl 85)) = .int ((((((sy_i F 82)).toUInt32 >>> ((((24 : Int32))).toUInt32 &&& Int32.toUInt32 31)).toInt32).toInt8.toInt32).toInt8.toInt32) := hd_u (hs 2 _ rfl) t84 rfl
  have a2 := hd_ba (F := F) (F' := F') (k := 2) (hF 2 (by decide))
  have t86 : sy_da F' (.inr (.inl 86)) = .inl (jm_upd (sy_ai F 2) (sy_i F 0).toNatClampNeg ((((((sy_i F 82)).toUInt32 >>> ((((24 : Int32))).toUInt32 &&& Int32.toUInt32 31)).toInt32).toInt8.toInt32).toInt8.toInt32)) := hd_up (hs 3 _ rfl) b0 t85 a2
  have t91 : sy_da F' (.inr (.inl 91)) = .inl (jm_upd (jm_upd (sy_ai F 2) (sy_i F 0).toNatClampNeg ((((((sy_i F 82)).toUInt32 >>> ((((24 : Int32))).toUInt32 &&& Int32.toUInt32 31)).toInt32).toInt8.toInt32).toInt8.toInt32)) ((sy_i F 0) + ((1 : Int32))).toNatClampNeg ((((((sy_i F 82)).toUInt32 >>> ((((16 : Int32))).toUInt32 &&& Int32.toUInt32 31)).toInt32).toInt8.toInt32).toInt8.toInt32)) := hd_up (hs 8 _ rfl) t87 t90 t86
  have hB' : iv_in F' iv_B0 := iv_in_eq hB (fun j hj => hF j (Nat.lt_of_lt_of_le hj (by decide +kernel)))
  refine ⟨List.forall_mem_cons.mpr ⟨hd_p5 rfl b0 (by have hc : ((2000) : Int32).toInt = 2000 := (by decide); omega), List.forall_mem_cons.mpr ⟨hd_pb b0 (by first | exact h1 | exact h1), List.forall_mem_cons.mpr ⟨hd_p5 rfl t87 (by have hc : ((2000) : Int32).toInt = 2000 := (by decide); omega), List.forall_mem_cons.mpr ⟨hd_pb t87 (by first | exact h3 | exact h3), List.forall_mem_cons.mpr ⟨hd_p4 rfl t92 (by have hc : ((2000) : Int32).toInt = 2000 := (by decide); omega), fun _ h => absurd h List.not_mem_nil⟩⟩⟩⟩⟩, ?_⟩
  refine k _ ?_ ?_ ?_
  · exact fun j hj hn => (hd_keep hB' (Nat.lt_of_lt_of_le hj (by decide +kernel)) (by simp; omega)).trans (hF j (by omega))
  · exact hd_gi (x := .inr (.inl 92)) (by decide +kernel) t92
  · exact hd_ga (a := .inr (.inl 91)) (by decide +kernel) t91
theorem ap3_0_3 {Ls : Nat} {xs : Nat → Int32} {d : Nat} {Q : Option Value → jm_h → Prop} (hd : 1 ≤ d) (F : Nat → sy_d) (X1 X2 : List jm_c) (hB : iv_in F iv_B0)
    (h0 : (sy_i F 0).toInt < 2000)
    (h1 : 0 ≤ (sy_i F 0).toInt ∧ (sy_i F 0).toInt < 2000)
    (h2 : ((sy_i F 0) + ((1 : Int32))).toInt < 2000)
    (h3 : 0 ≤ ((sy_i F 0) + ((1 : Int32))).toInt ∧ ((sy_i F 0) + ((1 : Int32))).toInt < 2000)
    (h4 : (((sy_i F 0) + ((1 : Int32))) + ((1 : Int32))).toInt < 2000)
    (h5 : 0 ≤ (((sy_i F 0) + ((1 : Int32))) + ((1 : Int32))).toInt ∧ (((sy_i F 0) + ((1 : Int32))) + ((1 : Int32))).toInt < 2000)
    (h6 : 2000 ≤ ((((sy_i F 0) + ((1 : Int32))) + ((1 : Int32))) + ((1 : Int32))).toInt)
    (k : ∀ F1 : Nat → sy_d, (∀ j, j < 82 → j ≠ 0 ∧ j ≠ 2 → F1 j = F j) → F1 0 = .inl (.int ((((sy_i F 0) + ((1 : Int32))) + ((1 : Int32))) + ((1 : Int32)))) → F1 2 = .inr (.inl (jm_upd (jm_upd (jm_upd (sy_ai F 2) (sy_i F 0).toNatClampNeg ((((((sy_i F 82)).toUInt32 >>> ((((24 : Int32))).toUInt32 &&& Int32.toUInt32 31)).toInt32).toInt8.toInt32).toInt8.toInt32)) ((sy_i F 0) + ((1 : Int32))).toNatClampNeg ((((((sy_i F 82)).toUInt32 >>> ((((16 : Int32))).toUInt32 &&& Int32.toUInt32 31)).toInt32).toInt8.toInt32).toInt8.toInt32)) (((sy_i F 0) + ((1 : Int32))) + ((1 : Int32))).toNatClampNeg ((((((sy_i F 82)).toUInt32 >>> ((((8 : Int32))).toUInt32 &&& Int32.toUInt32 31)).toInt32).toInt8.toInt32).toInt8.toInt32))) → Q (none) (sy_dh F1 X1 X2 (iv_H 3))) :
    hd_W Ls xs d jm_M116 Q (0, sy_dL F [some (.inl (.ref 8)), some (.inr (.inl 82)), none], sy_dS F [], sy_dh F X1 X2 (iv_H 3), 0, 0) := by
  refine hd_ret (s := 3) (nv := 83) (v := none) (uh := hd_ov (iv_id 0 iv_B0) [(0, .inl (.inr (.inl 97))), (2, .inr (.inr (.inl 96)))]) (f := true) (sp := []) (d0 := 0) (O := [false, false, false, true]) (T := [(8, [.inr (.inl 82), .inl (.int 24)], []), (22, [.inr (.inl 83)], []), (22, [.inr (.inl 84)], []), (40, [.inr (.inl 0), .inr (.inl 85)], [.inr (.inl 2)]), (0, [.inr (.inl 0), .inl (.int 1)], []), (8, [.inr (.inl 82), .inl (.int 16)], []), (22, [.inr (.inl 88)], []), (22, [.inr (.inl 89)], []), (40, [.inr (.inl 87), .inr (.inl 90)], [.inr (.inl 86)]), (0, [.inr (.inl 87), .inl (.int 1)], []), (8, [.inr (.inl 82), .inl (.int 8)], []), (22, [.inr (.inl 93)], []), (22, [.inr (.inl 94)], []), (40, [.inr (.inl 92), .inr (.inl 95)], [.inr (.inl 91)]), (0, [.inr (.inl 92), .inl (.int 1)], [])]) (P := [(5, .inl (.int 2000), .inr (.inl 0)), (6, .inr (.inl 0), .inl (.ref 2000)), (5, .inl (.int 2000), .inr (.inl 87)), (6, .inr (.inl 87), .inl (.ref 2000)), (5, .inl (.int 2000), .inr (.inl 92)), (6, .inr (.inl 92), .inl (.ref 2000)), (4, .inl (.int 2000), .inr (.inl 97))]) jm_ok116 (by decide +kernel) (by decide +kernel) hd F X1 X2 (fun F' hF hs => ?_)
  have b0 := hd_b (F := F) (F' := F') (k := 0) (hF 0 (by decide))
  have t87 : sy_dv F' (.inr (.inl 87)) = .int ((sy_i F 0) + ((1 : Int32))) := hd_o (hs 4 _ rfl) b0 rfl rfl
  have t92 : sy_dv F' (.inr (.inl 92)) = .int (((sy_i F 0) + ((1 : Int32))) + ((1 : Int32))) := hd_o (hs 9 _ rfl) t87 rfl rfl
  have t97 : sy_dv F' (.inr (.inl 97)) = .int ((((sy_i F 0) + ((1 : Int32))) + ((1 : Int32))) + ((1 : Int32))) := hd_o (hs 14 _ rfl) t92 rfl rfl
  have b82 := hd_b (F := F) (F' := F') (k := 82) (hF 82 (by decide))
  have t93 : sy_dv F' (.inr (.inl 93)) = .int ((((sy_i F 82)).toUInt32 >>> ((((8 : Int32))).toUInt32 &&& Int32.toUInt32 31)).toInt32) := hd_o (hs 10 _ rfl) b82 rfl rfl
  have t94 : sy_dv F' (.inr (.inl 94)) = .int (((((sy_i F 82)).toUInt32 >>> ((((8 : Int32))).toUInt32 &&& Int32.toUInt32 31)).toInt32).toInt8.toInt32) := hd_u (hs 11 _ rfl) t93 rfl
  have t95 : sy_dv F' (.inr (.inl 95)) = .int ((((((sy_i F 82)).toUInt32 >>> ((((8 : Int32))).toUInt32 &&& Int32.toUInt32 31)).toInt32).toInt8.toInt32).toInt8.toInt32) := hd_u (hs 12 _ rfl) t94 rfl
  have t88 : sy_dv F' (.inr (.inl 88)) = .int ((((sy_i F 82)).toUInt32 >>> ((((16 : Int32))).toUInt32 &&& Int32.toUInt32 31)).toInt32) := hd_o (hs 5 _ rfl) b82 rfl rfl
  have t89 : sy_dv F' (.inr (.inl 89)) = .int (((((sy_i F 82)).toUInt32 >>> ((((16 : Int32))).toUInt32 &&& Int32.toUInt32 31)).toInt32).toInt8.toInt32) := hd_u (hs 6 _ rfl) t88 rfl
  have t90 : sy_dv F' (.inr (.inl 90)) = .int ((((((sy_i F 82)).toUInt32 >>> ((((16 : Int32))).toUInt32 &&& Int32.toUInt32 31)).toInt32).toInt8.toInt32).toInt8.toInt32) := hd_u (hs 7 _ rfl) t89 rfl
  have t83 : sy_dv F' (.inr (.inl 83)) = .int ((((sy_i F 82)).toUInt32 >>> ((((24 : Int32))).toUInt32 &&& Int32.toUInt32 31)).toInt32) := hd_o (hs 0 _ rfl) b82 rfl rfl
  have t84 : sy_dv F' (.inr (.inl 84)) = .int (((((sy_i F 82)).toUInt32 >>> ((((24 : Int32))).toUInt32 &&& Int32.toUInt32 31)).toInt32).toInt8.toInt32) := hd_u (hs 1 _ rfl) t83 rfl
  have t85 : sy_dv F' (.inr (.inl 85)) = .int ((((((sy_i F 82)).toUInt32 >>> ((((24 : Int32))).toUInt32 &&& Int32.toUInt32 31)).toInt32).toInt8.toInt32).toInt8.toInt32) := hd_u (hs 2 _ rfl) t84 rfl
  have a2 := hd_ba (F := F) (F' := F') (k := 2) (hF 2 (by decide))
  have t86 : sy_da F' (.inr (.inl 86)) = .inl (jm_upd (sy_ai F 2) (sy_i F 0).toNatClampNeg ((((((sy_i F 82)).toUInt32 >>> ((((24 : Int32))).toUInt32 &&& Int32.toUInt32 31)).toInt32).toInt8.toInt32).toInt8.toInt32)) := hd_up (hs 3 _ rfl) b0 t85 a2
  have t91 : sy_da F' (.inr (.inl 91)) = .inl (jm_upd (jm_upd (sy_ai F 2) (sy_i F 0).toNatClampNeg ((((((sy_i F 82)).toUInt32 >>> ((((24 : Int32))).toUInt32 &&& Int32.toUInt32 31)).toInt32).toInt8.toInt32).toInt8.toInt32)) ((sy_i F 0) + ((1 : Int32))).toNatClampNeg ((((((sy_i F 82)).toUInt32 >>> ((((16 : Int32))).toUInt32 &&& Int32.toUInt32 31)).toInt32).toInt8.toInt32).toInt8.toInt32)) := hd_up (hs 8 _ rfl) t87 t90 t86
  have t96 : sy_da F' (.inr (.inl 96)) = .inl (jm_upd (jm_upd (jm_upd (sy_ai F 2) (sy_i F 0).toNatClampNeg ((((((sy_i F 82)).toUInt32 >>> ((((24 : Int32))).toUInt32 &&& Int32.toUInt32 31)).toInt32).toInt8.toInt32).toInt8.toInt32)) ((sy_i F 0) + ((1 : Int32))).toNatClampNeg ((((((sy_i F 82)).toUInt32 >>> ((((16 : Int32))).toUInt32 &&& Int32.toUInt32 31)).toInt32).toInt8.toInt32).toInt8.toInt32)) (((sy_i F 0) + ((1 : Int32))) + ((1 : Int32))).toNatClampNeg ((((((sy_i F 82)).toUInt32 >>> ((((8 : Int32))).toUInt32 &&& Int32.toUInt32 31)).toInt32).toInt8.toInt32).toInt8.toInt32)) := hd_up (hs 13 _ rfl) t92 t95 t91
  have hB' : iv_in F' iv_B0 := iv_in_eq hB (fun j hj => hF j (Nat.lt_of_lt_of_le hj (by decide +kernel)))
  refine ⟨List.forall_mem_cons.mpr ⟨hd_p5 rfl b0 (by have hc : ((2000) : Int32).toInt = 2000 := (by decide); omega), List.forall_mem_cons.mpr ⟨hd_pb b0 (by first | exact h1 | exact h1), List.forall_mem_cons.mpr ⟨hd_p5 rfl t87 (by have hc : ((2000) : Int32).toInt = 2000 := (by decide); omega), List.forall_mem_cons.mpr ⟨hd_pb t87 (by first | exact h3 | exact h3), List.forall_mem_cons.mpr ⟨hd_p5 rfl t92 (by have hc : ((2000) : Int32).toInt = 2000 := (by decide); omega), List.forall_mem_cons.mpr ⟨hd_pb t92 (by first | exact h5 | exact h5), List.forall_mem_cons.mpr ⟨hd_p4 rfl t97 (by have hc : ((2000) : Int32).toInt = 2000 := (by decide); omega), fun _ h => absurd h List.not_mem_nil⟩⟩⟩⟩⟩⟩⟩, ?_⟩
  refine k _ ?_ ?_ ?_
  · exact fun j hj hn => (hd_keep hB' (Nat.lt_of_lt_of_le hj (by decide +kernel)) (by simp; omega)).trans (hF j (by omega))
  · exact hd_gi (x := .inr (.inl 97)) (by decide +kernel) t97
  · exact hd_ga (a := .inr (.inl 96)) (by decide +kernel) t96
theorem ap3_0_4 {Ls : Nat} {xs : Nat → Int32} {d : Nat} {Q : Option Value → jm_h → Prop} (hd : 1 ≤ d) (F : Nat → sy_d) (X1 X2 : List jm_c) (hB : iv_in F iv_B0)
    (h0 : (sy_i F 0).toInt < 2000)
    (h1 : 0 ≤ (sy_i F 0).toInt ∧ (sy_i F 0).toInt < 2000)
    (h2 : ((sy_i F 0) + ((1 : Int32))).toInt < 2000)
    (h3 : 0 ≤ ((sy_i F 0) + ((1 : Int32))).toInt ∧ ((sy_i F 0) + ((1 : Int32))).toInt < 2000)
    (h4 : (((sy_i F 0) + ((1 : Int32))) + ((1 : Int32))).toInt < 2000)
    (h5 : 0 ≤ (((sy_i F 0) + ((1 : Int32))) + ((1 : Int32))).toInt ∧ (((sy_i F 0) + ((1 : Int32))) + ((1 : Int32))).toInt < 2000)
    (h6 : ((((sy_i F 0) + ((1 : Int32))) + ((1 : Int32))) + ((1 : Int32))).toInt < 2000)
    (h7 : 0 ≤ ((((sy_i F 0) + ((1 : Int32))) + ((1 : Int32))) + ((1 : Int32))).toInt ∧ ((((sy_i F 0) + ((1 : Int32))) + ((1 : Int32))) + ((1 : Int32))).toInt < 2000)
    (k : ∀ F1 : Nat → sy_d, (∀ j, j < 82 → j ≠ 0 ∧ j ≠ 2 → F1 j = F j) → F1 0 = .inl (.int (((((sy_i F 0) + ((1 : Int32))) + ((1 : Int32))) + ((1 : Int32))) + ((1 : Int32)))) → F1 2 = .inr (.inl (jm_upd (jm_upd (jm_upd (jm_upd (sy_ai F 2) (sy_i F 0).toNatClampNeg ((((((sy_i F 82)).toUInt32 >>> ((((24 : Int32))).toUInt32 &&& Int32.toUInt32 31)).toInt32).toInt8.toInt32).toInt8.toInt32)) ((sy_i F 0) + ((1 : Int32))).toNatClampNeg ((((((sy_i F 82)).toUInt32 >>> ((((16 : Int32))).toUInt32 &&& Int32.toUInt32 31)).toInt32).toInt8.toInt32).toInt8.toInt32)) (((sy_i F 0) + ((1 : Int32))) + ((1 : Int32))).toNatClampNeg ((((((sy_i F 82)).toUInt32 >>> ((((8 : Int32))).toUInt32 &&& Int32.toUInt32 31)).toInt32).toInt8.toInt32).toInt8.toInt32)) ((((sy_i F 0) + ((1 : Int32))) + ((1 : Int32))) + ((1 : Int32))).toNatClampNeg ((((((sy_i F 82)).toUInt32 >>> ((((0 : Int32))).toUInt32 &&& Int32.toUInt32 31)).toInt32).toInt8.toInt32).toInt8.toInt32))) → Q (none) (sy_dh F1 X1 X2 (iv_H 3))) :
    hd_W Ls xs d jm_M116 Q (0, sy_dL F [some (.inl (.ref 8)), some (.inr (.inl 82)), none], sy_dS F [], sy_dh F X1 X2 (iv_H 3), 0, 0) := by
  refine hd_ret (s := 3) (nv := 83) (v := none) (uh := hd_ov (iv_id 0 iv_B0) [(0, .inl (.inr (.inl 102))), (2, .inr (.inr (.inl 101)))]) (f := true) (sp := []) (d0 := 0) (O := [false, false, false, false]) (T := [(8, [.inr (.inl 82), .inl (.int 24)], []), (22, [.inr (.inl 83)], []), (22, [.inr (.inl 84)], []), (40, [.inr (.inl 0), .inr (.inl 85)], [.inr (.inl 2)]), (0, [.inr (.inl 0), .inl (.int 1)], []), (8, [.inr (.inl 82), .inl (.int 16)], []), (22, [.inr (.inl 88)], []), (22, [.inr (.inl 89)], []), (40, [.inr (.inl 87), .inr (.inl 90)], [.inr (.inl 86)]), (0, [.inr (.inl 87), .inl (.int 1)], []), (8, [.inr (.inl 82), .inl (.int 8)], []), (22, [.inr (.inl 93)], []), (22, [.inr (.inl 94)], []), (40, [.inr (.inl 92), .inr (.inl 95)], [.inr (.inl 91)]), (0, [.inr (.inl 92), .inl (.int 1)], []), (8, [.inr (.inl 82), .inl (.int 0)], []), (22, [.inr (.inl 98)], []), (22, [.inr (.inl 99)], []), (40, [.inr (.inl 97), .inr (.inl 100)], [.inr (.inl 96)]), (0, [.inr (.inl 97), .inl (.int 1)], [])]) (P := [(5, .inl (.int 2000), .inr (.inl 0)), (6, .inr (.inl 0), .inl (.ref 2000)), (5, .inl (.int 2000), .inr (.inl 87)), (6, .inr (.inl 87), .inl (.ref 2000)), (5, .inl (.int 2000), .inr (.inl 92)), (6, .inr (.inl 92), .inl (.ref 2000)), (5, .inl (.int 2000), .inr (.inl 97)), (6, .inr (.inl 97), .inl (.ref 2000))]) jm_ok116 (by decide +kernel) (by decide +kernel) hd F X1 X2 (fun F' hF hs => ?_)
  have b0 := hd_b (F := F) (F' := F') (k := 0) (hF 0 (by decide))
  have t87 : sy_dv F' (.inr (.inl 87)) = .int ((sy_i F 0) + ((1 : Int32))) := hd_o (hs 4 _ rfl) b0 rfl rfl
  have t92 : sy_dv F' (.inr (.inl 92)) = .int (((sy_i F 0) + ((1 : Int32))) + ((1 : Int32))) := hd_o (hs 9 _ rfl) t87 rfl rfl
  have t97 : sy_dv F' (.inr (.inl 97)) = .int ((((sy_i F 0) + ((1 : Int32))) + ((1 : Int32))) + ((1 : Int32))) := hd_o (hs 14 _ rfl) t92 rfl rfl
  have t102 : sy_dv F' (.inr (.inl 102)) = .int (((((sy_i F 0) + ((1 : Int32))) + ((1 : Int32))) + ((1 : Int32))) + ((1 : Int32))) := hd_o (hs 19 _ rfl) t97 rfl rfl
  have b82 := hd_b (F := F) (F' := F') (k := 82) (hF 82 (by decide))
  have t98 : sy_dv F' (.inr (.inl 98)) = .int ((((sy_i F 82)).toUInt32 >>> ((((0 : Int32))).toUInt32 &&& Int32.toUInt32 31)).toInt32) := hd_o (hs 15 _ rfl) b82 rfl rfl
  have t99 : sy_dv F' (.inr (.inl 99)) = .int (((((sy_i F 82)).toUInt32 >>> ((((0 : Int32))).toUInt32 &&& Int32.toUInt32 31)).toInt32).toInt8.toInt32) := hd_u (hs 16 _ rfl) t98 rfl
  have t100 : sy_dv F' (.inr (.inl 100)) = .int ((((((sy_i F 82)).toUInt32 >>> ((((0 : Int32))).toUInt32 &&& Int32.toUInt32 31)).toInt32).toInt8.toInt32).toInt8.toInt32) := hd_u (hs 17 _ rfl) t99 rfl
  have t93 : sy_dv F' (.inr (.inl 93)) = .int ((((sy_i F 82)).toUInt32 >>> ((((8 : Int32))).toUInt32 &&& Int32.toUInt32 31)).toInt32) := hd_o (hs 10 _ rfl) b82 rfl rfl
  have t94 : sy_dv F' (.inr (.inl 94)) = .int (((((sy_i F 82)).toUInt32 >>> ((((8 : Int32))).toUInt32 &&& Int32.toUInt32 31)).toInt32).toInt8.toInt32) := hd_u (hs 11 _ rfl) t93 rfl
  have t95 : sy_dv F' (.inr (.inl 95)) = .int ((((((sy_i F 82)).toUInt32 >>> ((((8 : Int32))).toUInt32 &&& Int32.toUInt32 31)).toInt32).toInt8.toInt32).toInt8.toInt32) := hd_u (hs 12 _ rfl) t94 rfl
  have t88 : sy_dv F' (.inr (.inl 88)) = .int ((((sy_i F 82)).toUInt32 >>> ((((16 : Int32))).toUInt32 &&& Int32.toUInt32 31)).toInt32) := hd_o (hs 5 _ rfl) b82 rfl rfl
  have t89 : sy_dv F' (.inr (.inl 89)) = .int (((((sy_i F 82)).toUInt32 >>> ((((16 : Int32))).toUInt32 &&& Int32.toUInt32 31)).toInt32).toInt8.toInt32) := hd_u (hs 6 _ rfl) t88 rfl
  have t90 : sy_dv F' (.inr (.inl 90)) = .int ((((((sy_i F 82)).toUInt32 >>> ((((16 : Int32))).toUInt32 &&& Int32.toUInt32 31)).toInt32).toInt8.toInt32).toInt8.toInt32) := hd_u (hs 7 _ rfl) t89 rfl
  have t83 : sy_dv F' (.inr (.inl 83)) = .int ((((sy_i F 82)).toUInt32 >>> ((((24 : Int32))).toUInt32 &&& Int32.toUInt32 31)).toInt32) := hd_o (hs 0 _ rfl) b82 rfl rfl
  have t84 : sy_dv F' (.inr (.inl 84)) = .int (((((sy_i F 82)).toUInt32 >>> ((((24 : Int32))).toUInt32 &&& Int32.toUInt32 31)).toInt32).toInt8.toInt32) := hd_u (hs 1 _ rfl) t83 rfl
  have t85 : sy_dv F' (.inr (.inl 85)) = .int ((((((sy_i F 82)).toUInt32 >>> ((((24 : Int32))).toUInt32 &&& Int32.toUInt32 31)).toInt32).toInt8.toInt32).toInt8.toInt32) := hd_u (hs 2 _ rfl) t84 rfl
  have a2 := hd_ba (F := F) (F' := F') (k := 2) (hF 2 (by decide))
  have t86 : sy_da F' (.inr (.inl 86)) = .inl (jm_upd (sy_ai F 2) (sy_i F 0).toNatClampNeg ((((((sy_i F 82)).toUInt32 >>> ((((24 : Int32))).toUInt32 &&& Int32.toUInt32 31)).toInt32).toInt8.toInt32).toInt8.toInt32)) := hd_up (hs 3 _ rfl) b0 t85 a2
  have t91 : sy_da F' (.inr (.inl 91)) = .inl (jm_upd (jm_upd (sy_ai F 2) (sy_i F 0).toNatClampNeg ((((((sy_i F 82)).toUInt32 >>> ((((24 : Int32))).toUInt32 &&& Int32.toUInt32 31)).toInt32).toInt8.toInt32).toInt8.toInt32)) ((sy_i F 0) + ((1 : Int32))).toNatClampNeg ((((((sy_i F 82)).toUInt32 >>> ((((16 : Int32))).toUInt32 &&& Int32.toUInt32 31)).toInt32).toInt8.toInt32).toInt8.toInt32)) := hd_up (hs 8 _ rfl) t87 t90 t86
  have t96 : sy_da F' (.inr (.inl 96)) = .inl (jm_upd (jm_upd (jm_upd (sy_ai F 2) (sy_i F 0).toNatClampNeg ((((((sy_i F 82)).toUInt32 >>> ((((24 : Int32))).toUInt32 &&& Int32.toUInt32 31)).toInt32).toInt8.toInt32).toInt8.toInt32)) ((sy_i F 0) + ((1 : Int32))).toNatClampNeg ((((((sy_i F 82)).toUInt32 >>> ((((16 : Int32))).toUInt32 &&& Int32.toUInt32 31)).toInt32).toInt8.toInt32).toInt8.toInt32)) (((sy_i F 0) + ((1 : Int32))) + ((1 : Int32))).toNatClampNeg ((((((sy_i F 82)).toUInt32 >>> ((((8 : Int32))).toUInt32 &&& Int32.toUInt32 31)).toInt32).toInt8.toInt32).toInt8.toInt32)) := hd_up (hs 13 _ rfl) t92 t95 t91
  have t101 : sy_da F' (.inr (.inl 101)) = .inl (jm_upd (jm_upd (jm_upd (jm_upd (sy_ai F 2) (sy_i F 0).toNatClampNeg ((((((sy_i F 82)).toUInt32 >>> ((((24 : Int32))).toUInt32 &&& Int32.toUInt32 31)).toInt32).toInt8.toInt32).toInt8.toInt32)) ((sy_i F 0) + ((1 : Int32))).toNatClampNeg ((((((sy_i F 82)).toUInt32 >>> ((((16 : Int32))).toUInt32 &&& Int32.toUInt32 31)).toInt32).toInt8.toInt32).toInt8.toInt32)) (((sy_i F 0) + ((1 : Int32))) + ((1 : Int32))).toNatClampNeg ((((((sy_i F 82)).toUInt32 >>> ((((8 : Int32))).toUInt32 &&& Int32.toUInt32 31)).toInt32).toInt8.toInt32).toInt8.toInt32)) ((((sy_i F 0) + ((1 : Int32))) + ((1 : Int32))) + ((1 : Int32))).toNatClampNeg ((((((sy_i F 82)).toUInt32 >>> ((((0 : Int32))).toUInt32 &&& Int32.toUInt32 31)).toInt32).toInt8.toInt32).toInt8.toInt32)) := hd_up (hs 18 _ rfl) t97 t100 t96
  have hB' : iv_in F' iv_B0 := iv_in_eq hB (fun j hj => hF j (Nat.lt_of_lt_of_le hj (by decide +kernel)))
  refine ⟨List.forall_mem_cons.mpr ⟨hd_p5 rfl b0 (by have hc : ((2000) : Int32).toInt = 2000 := (by decide); omega), List.forall_mem_cons.mpr ⟨hd_pb b0 (by first | exact h1 | exact h1), List.forall_mem_cons.mpr ⟨hd_p5 rfl t87 (by have hc : ((2000) : Int32).toInt = 2000 := (by decide); omega), List.forall_mem_cons.mpr ⟨hd_pb t87 (by first | exact h3 | exact h3), List.forall_mem_cons.mpr ⟨hd_p5 rfl t92 (by have hc : ((2000) : Int32).toInt = 2000 := (by decide); omega), List.forall_mem_cons.mpr ⟨hd_pb t92 (by first | exact h5 | exact h5), List.forall_mem_cons.mpr ⟨hd_p5 rfl t97 (by have hc : ((2000) : Int32).toInt = 2000 := (by decide); omega), List.forall_mem_cons.mpr ⟨hd_pb t97 (by first | exact h7 | exact h7), fun _ h => absurd h List.not_mem_nil⟩⟩⟩⟩⟩⟩⟩⟩, ?_⟩
  refine k _ ?_ ?_ ?_
  · exact fun j hj hn => (hd_keep hB' (Nat.lt_of_lt_of_le hj (by decide +kernel)) (by simp; omega)).trans (hF j (by omega))
  · exact hd_gi (x := .inr (.inl 102)) (by decide +kernel) t102
  · exact hd_ga (a := .inr (.inl 101)) (by decide +kernel) t101
theorem fd3_0_0 {Ls : Nat} {xs : Nat → Int32} {d : Nat} {Q : Option Value → jm_h → Prop} (hd : 2 ≤ d) (F : Nat → sy_d) (X1 X2 : List jm_c) (hB : iv_in F iv_B0)
    (h0 : ((sy_i F 0) + ((20 : Int32))).toInt ≤ 2000)
    (k : ∀ F1 : Nat → sy_d, (∀ j, j < 82 → True → F1 j = F j) → F1 82 = .inl (.int (sy_i F 82)) → F1 83 = .inl (.int (sy_i F 83)) → F1 84 = .inl (.int (sy_i F 84)) → F1 85 = .inl (.int (sy_i F 85)) → F1 86 = .inl (.int (sy_i F 86)) → hd_W Ls xs d jm_M81 Q (17, sy_dL F1 [some (.inl (.ref 8)), some (.inr (.inl 82)), some (.inr (.inl 83)), some (.inr (.inl 84)), some (.inr (.inl 85)), some (.inr (.inl 86))], sy_dS F1 [.inr (.inl 82), .inl (.ref 8)], sy_dh F1 X1 X2 (iv_H 3), 0, 0)) :
    hd_W Ls xs d jm_M81 Q (0, sy_dL F [some (.inl (.ref 8)), some (.inr (.inl 82)), some (.inr (.inl 83)), some (.inr (.inl 84)), some (.inr (.inl 85)), some (.inr (.inl 86))], sy_dS F [], sy_dh F X1 X2 (iv_H 3), 0, 0) := by
  refine hd_run (s := 3) (nv := 87) (pc := 17) (L := [some (.inl (.ref 8)), some (.inr (.inl 82)), some (.inr (.inl 83)), some (.inr (.inl 84)), some (.inr (.inl 85)), some (.inr (.inl 86))]) (S := [.inr (.inl 82), .inl (.ref 8)]) (uh := hd_ov (iv_id 0 iv_B0) []) (ul := [.inl (.inr (.inl 82)), .inl (.inr (.inl 83)), .inl (.inr (.inl 84)), .inl (.inr (.inl 85)), .inl (.inr (.inl 86))]) (f := true) (sp := [17, 22, 27, 33, 39]) (d0 := 1) (O := [true]) (T := [(0, [.inr (.inl 0), .inl (.int 20)], [])]) (P := [(4, .inr (.inl 87), .inl (.int 2000))]) jm_ok81 (by decide +kernel) (by decide +kernel) hd F X1 X2 (fun F' hF hs => ?_)
  have b0 := hd_b (F := F) (F' := F') (k := 0) (hF 0 (by decide))
  have t87 : sy_dv F' (.inr (.inl 87)) = .int ((sy_i F 0) + ((20 : Int32))) := hd_o (hs 0 _ rfl) b0 rfl rfl
  have b82 := hd_b (F := F) (F' := F') (k := 82) (hF 82 (by decide))
  have b83 := hd_b (F := F) (F' := F') (k := 83) (hF 83 (by decide))
  have b84 := hd_b (F := F) (F' := F') (k := 84) (hF 84 (by decide))
  have b85 := hd_b (F := F) (F' := F') (k := 85) (hF 85 (by decide))
  have b86 := hd_b (F := F) (F' := F') (k := 86) (hF 86 (by decide))
  have hB' : iv_in F' iv_B0 := iv_in_eq hB (fun j hj => hF j (Nat.lt_of_lt_of_le hj (by decide +kernel)))
  refine ⟨List.forall_mem_cons.mpr ⟨hd_p4 t87 rfl (by have hc : ((2000) : Int32).toInt = 2000 := (by decide); omega), fun _ h => absurd h List.not_mem_nil⟩, ?_⟩
  refine k _ ?_ ?_ ?_ ?_ ?_ ?_
  · exact fun j hj _ => (hd_keep hB' (Nat.lt_of_lt_of_le hj (by decide +kernel)) (by simp)).trans (hF j (by omega))
  · exact hd_gi (x := .inr (.inl 82)) (by decide +kernel) b82
  · exact hd_gi (x := .inr (.inl 83)) (by decide +kernel) b83
  · exact hd_gi (x := .inr (.inl 84)) (by decide +kernel) b84
  · exact hd_gi (x := .inr (.inl 85)) (by decide +kernel) b85
  · exact hd_gi (x := .inr (.inl 86)) (by decide +kernel) b86
theorem fd3_0_1 {Ls : Nat} {xs : Nat → Int32} {d : Nat} {Q : Option Value → jm_h → Prop} (hd : 2 ≤ d) (F : Nat → sy_d) (X1 X2 : List jm_c) (hB : iv_in F iv_B0)
    (h0 : 2000 < ((sy_i F 0) + ((20 : Int32))).toInt)
    (k : ∀ F1 : Nat → sy_d, (∀ j, j < 82 → True → F1 j = F j) → Q (some (.int (((-1) : Int32)))) (sy_dh F1 X1 X2 (iv_H 3))) :
    hd_W Ls xs d jm_M81 Q (0, sy_dL F [some (.inl (.ref 8)), some (.inr (.inl 82)), some (.inr (.inl 83)), some (.inr (.inl 84)), some (.inr (.inl 85)), some (.inr (.inl 86))], sy_dS F [], sy_dh F X1 X2 (iv_H 3), 0, 0) := by
  refine hd_ret (s := 3) (nv := 87) (v := some (.inl (.int (-1)))) (uh := hd_ov (iv_id 0 iv_B0) []) (f := true) (sp := [17, 22, 27, 33, 39]) (d0 := 1) (O := [false]) (T := [(0, [.inr (.inl 0), .inl (.int 20)], [])]) (P := [(5, .inr (.inl 87), .inl (.int 2000))]) jm_ok81 (by decide +kernel) (by decide +kernel) hd F X1 X2 (fun F' hF hs => ?_)
  have b0 := hd_b (F := F) (F' := F') (k := 0) (hF 0 (by decide))
  have t87 : sy_dv F' (.inr (.inl 87)) = .int ((sy_i F 0) + ((20 : Int32))) := hd_o (hs 0 _ rfl) b0 rfl rfl
  have hB' : iv_in F' iv_B0 := iv_in_eq hB (fun j hj => hF j (Nat.lt_of_lt_of_le hj (by decide +kernel)))
  refine ⟨List.forall_mem_cons.mpr ⟨hd_p5 t87 rfl (by have hc : ((2000) : Int32).toInt = 2000 := (by decide); omega), fun _ h => absurd h List.not_mem_nil⟩, ?_⟩
  refine k _ ?_
  · exact fun j hj _ => (hd_keep hB' (Nat.lt_of_lt_of_le hj (by decide +kernel)) (by simp)).trans (hF j (by omega))
theorem fd3_20_0 {Ls : Nat} {xs : Nat → Int32} {d : Nat} {Q : Option Value → jm_h → Prop} (hd : 2 ≤ d) (F : Nat → sy_d) (X1 X2 : List jm_c) (hB : iv_in F iv_B0)
    (k : ∀ F1 : Nat → sy_d, (∀ j, j < 82 → True → F1 j = F j) → F1 82 = .inl (.int (sy_i F 82)) → F1 83 = .inl (.int (sy_i F 83)) → F1 84 = .inl (.int (sy_i F 84)) → F1 85 = .inl (.int (sy_i F 85)) → F1 86 = .inl (.int (sy_i F 86)) → hd_W Ls xs d jm_M81 Q (22, sy_dL F1 [some (.inl (.ref 8)), some (.inr (.inl 82)), some (.inr (.inl 83)), some (.inr (.inl 84)), some (.inr (.inl 85)), some (.inr (.inl 86))], sy_dS F1 [.inr (.inl 83), .inl (.ref 8)], sy_dh F1 X1 X2 (iv_H 3), 0, 0)) :
    hd_W Ls xs d jm_M81 Q (20, sy_dL F [some (.inl (.ref 8)), some (.inr (.inl 82)), some (.inr (.inl 83)), some (.inr (.inl 84)), some (.inr (.inl 85)), some (.inr (.inl 86))], sy_dS F [], sy_dh F X1 X2 (iv_H 3), 0, 0) := by
  refine hd_run (s := 3) (nv := 87) (pc := 22) (L := [some (.inl (.ref 8)), some (.inr (.inl 82)), some (.inr (.inl 83)), some (.inr (.inl 84)), some (.inr (.inl 85)), some (.inr (.inl 86))]) (S := [.inr (.inl 83), .inl (.ref 8)]) (uh := hd_ov (iv_id 0 iv_B0) []) (ul := [.inl (.inr (.inl 82)), .inl (.inr (.inl 83)), .inl (.inr (.inl 84)), .inl (.inr (.inl 85)), .inl (.inr (.inl 86))]) (f := false) (sp := [17, 22, 27, 33, 39]) (d0 := 1) (O := []) (T := []) (P := []) jm_ok81 (by decide +kernel) (by decide +kernel) hd F X1 X2 (fun F' hF hs => ?_)
  have b82 := hd_b (F := F) (F' := F') (k := 82) (hF 82 (by decide))
  have b83 := hd_b (F := F) (F' := F') (k := 83) (hF 83 (by decide))
  have b84 := hd_b (F := F) (F' := F') (k := 84) (hF 84 (by decide))
  have b85 := hd_b (F := F) (F' := F') (k := 85) (hF 85 (by decide))
  have b86 := hd_b (F := F) (F' := F') (k := 86) (hF 86 (by decide))
  have hB' : iv_in F' iv_B0 := iv_in_eq hB (fun j hj => hF j (Nat.lt_of_lt_of_le hj (by decide +kernel)))
  refine ⟨fun _ h => absurd h List.not_mem_nil, ?_⟩
  refine k _ ?_ ?_ ?_ ?_ ?_ ?_
  · exact fun j hj _ => (hd_keep hB' (Nat.lt_of_lt_of_le hj (by decide +kernel)) (by simp)).trans (hF j (by omega))
  · exact hd_gi (x := .inr (.inl 82)) (by decide +kernel) b82
  · exact hd_gi (x := .inr (.inl 83)) (by decide +kernel) b83
  · exact hd_gi (x := .inr (.inl 84)) (by decide +kernel) b84
  · exact hd_gi (x := .inr (.inl 85)) (by decide +kernel) b85
  · exact hd_gi (x := .inr (.inl 86)) (by decide +kernel) b86
theorem fd3_25_0 {Ls : Nat} {xs : Nat → Int32} {d : Nat} {Q : Option Value → jm_h → Prop} (hd : 2 ≤ d) (F : Nat → sy_d) (X1 X2 : List jm_c) (hB : iv_in F iv_B0)
    (k : ∀ F1 : Nat → sy_d, (∀ j, j < 82 → True → F1 j = F j) → F1 82 = .inl (.int (sy_i F 82)) → F1 83 = .inl (.int (sy_i F 83)) → F1 84 = .inl (.int (sy_i F 84)) → F1 85 = .inl (.int (sy_i F 85)) → F1 86 = .inl (.int (sy_i F 86)) → hd_W Ls xs d jm_M81 Q (27, sy_dL F1 [some (.inl (.ref 8)), some (.inr (.inl 82)), some (.inr (.inl 83)), some (.inr (.inl 84)), some (.inr (.inl 85)), some (.inr (.inl 86))], sy_dS F1 [.inr (.inl 84), .inl (.ref 8)], sy_dh F1 X1 X2 (iv_H 3), 0, 0)) :
    hd_W Ls xs d jm_M81 Q (25, sy_dL F [some (.inl (.ref 8)), some (.inr (.inl 82)), some (.inr (.inl 83)), some (.inr (.inl 84)), some (.inr (.inl 85)), some (.inr (.inl 86))], sy_dS F [], sy_dh F X1 X2 (iv_H 3), 0, 0) := by
  refine hd_run (s := 3) (nv := 87) (pc := 27) (L := [some (.inl (.ref 8)), some (.inr (.inl 82)), some (.inr (.inl 83)), some (.inr (.inl 84)), some (.inr (.inl 85)), some (.inr (.inl 86))]) (S := [.inr (.inl 84), .inl (.ref 8)]) (uh := hd_ov (iv_id 0 iv_B0) []) (ul := [.inl (.inr (.inl 82)), .inl (.inr (.inl 83)), .inl (.inr (.inl 84)), .inl (.inr (.inl 85)), .inl (.inr (.inl 86))]) (f := false) (sp := [17, 22, 27, 33, 39]) (d0 := 1) (O := []) (T := []) (P := []) jm_ok81 (by decide +kernel) (by decide +kernel) hd F X1 X2 (fun F' hF hs => ?_)
  have b82 := hd_b (F := F) (F' := F') (k := 82) (hF 82 (by decide))
  have b83 := hd_b (F := F) (F' := F') (k := 83) (hF 83 (by decide))
  have b84 := hd_b (F := F) (F' := F') (k := 84) (hF 84 (by decide))
  have b85 := hd_b (F := F) (F' := F') (k := 85) (hF 85 (by decide))
  have b86 := hd_b (F := F) (F' := F') (k := 86) (hF 86 (by decide))
  have hB' : iv_in F' iv_B0 := iv_in_eq hB (fun j hj => hF j (Nat.lt_of_lt_of_le hj (by decide +kernel)))
  refine ⟨fun _ h => absurd h List.not_mem_nil, ?_⟩
  refine k _ ?_ ?_ ?_ ?_ ?_ ?_
  · exact fun j hj _ => (hd_keep hB' (Nat.lt_of_lt_of_le hj (by decide +kernel)) (by simp)).trans (hF j (by omega))
  · exact hd_gi (x := .inr (.inl 82)) (by decide +kernel) b82
  · exact hd_gi (x := .inr (.inl 83)) (by decide +kernel) b83
  · exact hd_gi (x := .inr (.inl 84)) (by decide +kernel) b84
  · exact hd_gi (x := .inr (.inl 85)) (by decide +kernel) b85
  · exact hd_gi (x := .inr (.inl 86)) (by decide +kernel) b86
theorem fd3_30_0 {Ls : Nat} {xs : Nat → Int32} {d : Nat} {Q : Option Value → jm_h → Prop} (hd : 2 ≤ d) (F : Nat → sy_d) (X1 X2 : List jm_c) (hB : iv_in F iv_B0)
    (k : ∀ F1 : Nat → sy_d, (∀ j, j < 82 → True → F1 j = F j) → F1 82 = .inl (.int (sy_i F 82)) → F1 83 = .inl (.int (sy_i F 83)) → F1 84 = .inl (.int (sy_i F 84)) → F1 85 = .inl (.int (sy_i F 85)) → F1 86 = .inl (.int (sy_i F 86)) → hd_W Ls xs d jm_M81 Q (33, sy_dL F1 [some (.inl (.ref 8)), some (.inr (.inl 82)), some (.inr (.inl 83)), some (.inr (.inl 84)), some (.inr (.inl 85)), some (.inr (.inl 86))], sy_dS F1 [.inr (.inl 85), .inl (.ref 8)], sy_dh F1 X1 X2 (iv_H 3), 0, 0)) :
    hd_W Ls xs d jm_M81 Q (30, sy_dL F [some (.inl (.ref 8)), some (.inr (.inl 82)), some (.inr (.inl 83)), some (.inr (.inl 84)), some (.inr (.inl 85)), some (.inr (.inl 86))], sy_dS F [], sy_dh F X1 X2 (iv_H 3), 0, 0) := by
  refine hd_run (s := 3) (nv := 87) (pc := 33) (L := [some (.inl (.ref 8)), some (.inr (.inl 82)), some (.inr (.inl 83)), some (.inr (.inl 84)), some (.inr (.inl 85)), some (.inr (.inl 86))]) (S := [.inr (.inl 85), .inl (.ref 8)]) (uh := hd_ov (iv_id 0 iv_B0) []) (ul := [.inl (.inr (.inl 82)), .inl (.inr (.inl 83)), .inl (.inr (.inl 84)), .inl (.inr (.inl 85)), .inl (.inr (.inl 86))]) (f := false) (sp := [17, 22, 27, 33, 39]) (d0 := 1) (O := []) (T := []) (P := []) jm_ok81 (by decide +kernel) (by decide +kernel) hd F X1 X2 (fun F' hF hs => ?_)
  have b82 := hd_b (F := F) (F' := F') (k := 82) (hF 82 (by decide))
  have b83 := hd_b (F := F) (F' := F') (k := 83) (hF 83 (by decide))
  have b84 := hd_b (F := F) (F' := F') (k := 84) (hF 84 (by decide))
  have b85 := hd_b (F := F) (F' := F') (k := 85) (hF 85 (by decide))
  have b86 := hd_b (F := F) (F' := F') (k := 86) (hF 86 (by decide))
  have hB' : iv_in F' iv_B0 := iv_in_eq hB (fun j hj => hF j (Nat.lt_of_lt_of_le hj (by decide +kernel)))
  refine ⟨fun _ h => absurd h List.not_mem_nil, ?_⟩
  refine k _ ?_ ?_ ?_ ?_ ?_ ?_
  · exact fun j hj _ => (hd_keep hB' (Nat.lt_of_lt_of_le hj (by decide +kernel)) (by simp)).trans (hF j (by omega))
  · exact hd_gi (x := .inr (.inl 82)) (by decide +kernel) b82
  · exact hd_gi (x := .inr (.inl 83)) (by decide +kernel) b83
  · exact hd_gi (x := .inr (.inl 84)) (by decide +kernel) b84
  · exact hd_gi (x := .inr (.inl 85)) (by decide +kernel) b85
  · exact hd_gi (x := .inr (.inl 86)) (by decide +kernel) b86
theorem fd3_36_0 {Ls : Nat} {xs : Nat → Int32} {d : Nat} {Q : Option Value → jm_h → Prop} (hd : 2 ≤ d) (F : Nat → sy_d) (X1 X2 : List jm_c) (hB : iv_in F iv_B0)
    (k : ∀ F1 : Nat → sy_d, (∀ j, j < 82 → True → F1 j = F j) → F1 82 = .inl (.int (sy_i F 82)) → F1 83 = .inl (.int (sy_i F 83)) → F1 84 = .inl (.int (sy_i F 84)) → F1 85 = .inl (.int (sy_i F 85)) → F1 86 = .inl (.int (sy_i F 86)) → hd_W Ls xs d jm_M81 Q (39, sy_dL F1 [some (.inl (.ref 8)), some (.inr (.inl 82)), some (.inr (.inl 83)), some (.inr (.inl 84)), some (.inr (.inl 85)), some (.inr (.inl 86))], sy_dS F1 [.inr (.inl 86), .inl (.ref 8)], sy_dh F1 X1 X2 (iv_H 3), 0, 0)) :
    hd_W Ls xs d jm_M81 Q (36, sy_dL F [some (.inl (.ref 8)), some (.inr (.inl 82)), some (.inr (.inl 83)), some (.inr (.inl 84)), some (.inr (.inl 85)), some (.inr (.inl 86))], sy_dS F [], sy_dh F X1 X2 (iv_H 3), 0, 0) := by
  refine hd_run (s := 3) (nv := 87) (pc := 39) (L := [some (.inl (.ref 8)), some (.inr (.inl 82)), some (.inr (.inl 83)), some (.inr (.inl 84)), some (.inr (.inl 85)), some (.inr (.inl 86))]) (S := [.inr (.inl 86), .inl (.ref 8)]) (uh := hd_ov (iv_id 0 iv_B0) []) (ul := [.inl (.inr (.inl 82)), .inl (.inr (.inl 83)), .inl (.inr (.inl 84)), .inl (.inr (.inl 85)), .inl (.inr (.inl 86))]) (f := false) (sp := [17, 22, 27, 33, 39]) (d0 := 1) (O := []) (T := []) (P := []) jm_ok81 (by decide +kernel) (by decide +kernel) hd F X1 X2 (fun F' hF hs => ?_)
  have b82 := hd_b (F := F) (F' := F') (k := 82) (hF 82 (by decide))
  have b83 := hd_b (F := F) (F' := F') (k := 83) (hF 83 (by decide))
  have b84 := hd_b (F := F) (F' := F') (k := 84) (hF 84 (by decide))
  have b85 := hd_b (F := F) (F' := F') (k := 85) (hF 85 (by decide))
  have b86 := hd_b (F := F) (F' := F') (k := 86) (hF 86 (by decide))
  have hB' : iv_in F' iv_B0 := iv_in_eq hB (fun j hj => hF j (Nat.lt_of_lt_of_le hj (by decide +kernel)))
  refine ⟨fun _ h => absurd h List.not_mem_nil, ?_⟩
  refine k _ ?_ ?_ ?_ ?_ ?_ ?_
  · exact fun j hj _ => (hd_keep hB' (Nat.lt_of_lt_of_le hj (by decide +kernel)) (by simp)).trans (hF j (by omega))
  · exact hd_gi (x := .inr (.inl 82)) (by decide +kernel) b82
  · exact hd_gi (x := .inr (.inl 83)) (by decide +kernel) b83
  · exact hd_gi (x := .inr (.inl 84)) (by decide +kernel) b84
  · exact hd_gi (x := .inr (.inl 85)) (by decide +kernel) b85
  · exact hd_gi (x := .inr (.inl 86)) (by decide +kernel) b86
theorem fd3_42_0 {Ls : Nat} {xs : Nat → Int32} {d : Nat} {Q : Option Value → jm_h → Prop} (hd : 2 ≤ d) (F : Nat → sy_d) (X1 X2 : List jm_c) (hB : iv_in F iv_B0)
    (k : ∀ F1 : Nat → sy_d, (∀ j, j < 82 → True → F1 j = F j) → Q (some (.int (sy_i F 0))) (sy_dh F1 X1 X2 (iv_H 3))) :
    hd_W Ls xs d jm_M81 Q (42, sy_dL F [some (.inl (.ref 8)), some (.inr (.inl 82)), some (.inr (.inl 83)), some (.inr (.inl 84)), some (.inr (.inl 85)), some (.inr (.inl 86))], sy_dS F [], sy_dh F X1 X2 (iv_H 3), 0, 0) := by
  refine hd_ret (s := 3) (nv := 87) (v := some (.inr (.inl 0))) (uh := hd_ov (iv_id 0 iv_B0) []) (f := false) (sp := [17, 22, 27, 33, 39]) (d0 := 1) (O := []) (T := []) (P := []) jm_ok81 (by decide +kernel) (by decide +kernel) hd F X1 X2 (fun F' hF hs => ?_)
  have b0 := hd_b (F := F) (F' := F') (k := 0) (hF 0 (by decide))
  have hB' : iv_in F' iv_B0 := iv_in_eq hB (fun j hj => hF j (Nat.lt_of_lt_of_le hj (by decide +kernel)))
  have hk := k (sy_cm F' (hd_ov (iv_id 0 iv_B0) [] ++ [])) (fun j hj _ => (hd_keep hB' (Nat.lt_of_lt_of_le hj (by decide +kernel)) (by simp)).trans (hF j (by omega)))
  refine ⟨fun _ h => absurd h List.not_mem_nil, ?_⟩
  show Q (some (sy_dv F' (.inr (.inl 0)))) _
  rw [b0]
  exact hk
theorem ap4_0_0 {Ls : Nat} {xs : Nat → Int32} {d : Nat} {Q : Option Value → jm_h → Prop} (hd : 1 ≤ d) (F : Nat → sy_d) (X1 X2 : List jm_c) (hB : iv_in F iv_B4)
    (h0 : 0 ≤ (sy_i F 1).toInt ∧ (sy_i F 1).toInt < 2000)
    (h1 : 0 ≤ ((sy_i F 1) + ((1 : Int32))).toInt ∧ ((sy_i F 1) + ((1 : Int32))).toInt < 2000)
    (h2 : 0 ≤ (((sy_i F 1) + ((1 : Int32))) + ((1 : Int32))).toInt ∧ (((sy_i F 1) + ((1 : Int32))) + ((1 : Int32))).toInt < 2000)
    (h3 : 0 ≤ ((((sy_i F 1) + ((1 : Int32))) + ((1 : Int32))) + ((1 : Int32))).toInt ∧ ((((sy_i F 1) + ((1 : Int32))) + ((1 : Int32))) + ((1 : Int32))).toInt < 2000)
    (k : ∀ F1 : Nat → sy_d, (∀ j, j < 69 → j ≠ 1 ∧ j ≠ 23 → F1 j = F j) → F1 1 = .inl (.int (((((sy_i F 1) + ((1 : Int32))) + ((1 : Int32))) + ((1 : Int32))) + ((1 : Int32)))) → F1 23 = .inr (.inl (jm_upd (jm_upd (jm_upd (jm_upd (sy_ai F 23) (sy_i F 1).toNatClampNeg ((((sy_i F 69) >>> (((24 : Int32)) &&& 31)).toInt8.toInt32).toInt8.toInt32)) ((sy_i F 1) + ((1 : Int32))).toNatClampNeg ((((sy_i F 69) >>> (((16 : Int32)) &&& 31)).toInt8.toInt32).toInt8.toInt32)) (((sy_i F 1) + ((1 : Int32))) + ((1 : Int32))).toNatClampNeg ((((sy_i F 69) >>> (((8 : Int32)) &&& 31)).toInt8.toInt32).toInt8.toInt32)) ((((sy_i F 1) + ((1 : Int32))) + ((1 : Int32))) + ((1 : Int32))).toNatClampNeg ((((sy_i F 69) >>> (((0 : Int32)) &&& 31)).toInt8.toInt32).toInt8.toInt32))) → Q (none) (sy_dh F1 X1 X2 (iv_H 4))) :
    hd_W Ls xs d jm_M134 Q (0, sy_dL F [some (.inl (.ref 1000)), some (.inr (.inl 69)), none], sy_dS F [], sy_dh F X1 X2 (iv_H 4), 0, 0) := by
  refine hd_ret (s := 4) (nv := 70) (v := none) (uh := hd_ov (iv_id 0 iv_B4) [(1, .inl (.inr (.inl 89))), (23, .inr (.inr (.inl 88)))]) (f := true) (sp := []) (d0 := 0) (O := []) (T := [(7, [.inr (.inl 69), .inl (.int 24)], []), (22, [.inr (.inl 70)], []), (22, [.inr (.inl 71)], []), (40, [.inr (.inl 1), .inr (.inl 72)], [.inr (.inl 23)]), (0, [.inr (.inl 1), .inl (.int 1)], []), (7, [.inr (.inl 69), .inl (.int 16)], []), (22, [.inr (.inl 75)], []), (22, [.inr (.inl 76)], []), (40, [.inr (.inl 74), .inr (.inl 77)], [.inr (.inl 73)]), (0, [.inr (.inl 74), .inl (.int 1)], []), (7, [.inr (.inl 69), .inl (.int 8)], []), (22, [.inr (.inl 80)], []), (22, [.inr (.inl 81)], []), (40, [.inr (.inl 79), .inr (.inl 82)], [.inr (.inl 78)]), (0, [.inr (.inl 79), .inl (.int 1)], []), (7, [.inr (.inl 69), .inl (.int 0)], []), (22, [.inr (.inl 85)], []), (22, [.inr (.inl 86)], []), (40, [.inr (.inl 84), .inr (.inl 87)], [.inr (.inl 83)]), (0, [.inr (.inl 84), .inl (.int 1)], [])]) (P := [(6, .inr (.inl 1), .inl (.ref 2000)), (6, .inr (.inl 74), .inl (.ref 2000)), (6, .inr (.inl 79), .inl (.ref 2000)), (6, .inr (.inl 84), .inl (.ref 2000))]) jm_ok134 (by decide +kernel) (by decide +kernel) hd F X1 X2 (fun F' hF hs => ?_)
  have b1 := hd_b (F := F) (F' := F') (k := 1) (hF 1 (by decide))
  have t74 : sy_dv F' (.inr (.inl 74)) = .int ((sy_i F 1) + ((1 : Int32))) := hd_o (hs 4 _ rfl) b1 rfl rfl
  have t79 : sy_dv F' (.inr (.inl 79)) = .int (((sy_i F 1) + ((1 : Int32))) + ((1 : Int32))) := hd_o (hs 9 _ rfl) t74 rfl rfl
  have t84 : sy_dv F' (.inr (.inl 84)) = .int ((((sy_i F 1) + ((1 : Int32))) + ((1 : Int32))) + ((1 : Int32))) := hd_o (hs 14 _ rfl) t79 rfl rfl
  have t89 : sy_dv F' (.inr (.inl 89)) = .int (((((sy_i F 1) + ((1 : Int32))) + ((1 : Int32))) + ((1 : Int32))) + ((1 : Int32))) := hd_o (hs 19 _ rfl) t84 rfl rfl
  have b69 := hd_b (F := F) (F' := F') (k := 69) (hF 69 (by decide))
  have t85 : sy_dv F' (.inr (.inl 85)) = .int ((sy_i F 69) >>> (((0 : Int32)) &&& 31)) := hd_o (hs 15 _ rfl) b69 rfl rfl
  have t86 : sy_dv F' (.inr (.inl 86)) = .int (((sy_i F 69) >>> (((0 : Int32)) &&& 31)).toInt8.toInt32) := hd_u (hs 16 _ rfl) t85 rfl
  have t87 : sy_dv F' (.inr (.inl 87)) = .int ((((sy_i F 69) >>> (((0 : Int32)) &&& 31)).toInt8.toInt32).toInt8.toInt32) := hd_u (hs 17 _ rfl) t86 rfl
  have t80 : sy_dv F' (.inr (.inl 80)) = .int ((sy_i F 69) >>> (((8 : Int32)) &&& 31)) := hd_o (hs 10 _ rfl) b69 rfl rfl
  have t81 : sy_dv F' (.inr (.inl 81)) = .int (((sy_i F 69) >>> (((8 : Int32)) &&& 31)).toInt8.toInt32) := hd_u (hs 11 _ rfl) t80 rfl
  have t82 : sy_dv F' (.inr (.inl 82)) = .int ((((sy_i F 69) >>> (((8 : Int32)) &&& 31)).toInt8.toInt32).toInt8.toInt32) := hd_u (hs 12 _ rfl) t81 rfl
  have t75 : sy_dv F' (.inr (.inl 75)) = .int ((sy_i F 69) >>> (((16 : Int32)) &&& 31)) := hd_o (hs 5 _ rfl) b69 rfl rfl
  have t76 : sy_dv F' (.inr (.inl 76)) = .int (((sy_i F 69) >>> (((16 : Int32)) &&& 31)).toInt8.toInt32) := hd_u (hs 6 _ rfl) t75 rfl
  have t77 : sy_dv F' (.inr (.inl 77)) = .int ((((sy_i F 69) >>> (((16 : Int32)) &&& 31)).toInt8.toInt32).toInt8.toInt32) := hd_u (hs 7 _ rfl) t76 rfl
  have t70 : sy_dv F' (.inr (.inl 70)) = .int ((sy_i F 69) >>> (((24 : Int32)) &&& 31)) := hd_o (hs 0 _ rfl) b69 rfl rfl
  have t71 : sy_dv F' (.inr (.inl 71)) = .int (((sy_i F 69) >>> (((24 : Int32)) &&& 31)).toInt8.toInt32) := hd_u (hs 1 _ rfl) t70 rfl
  have t72 : sy_dv F' (.inr (.inl 72)) = .int ((((sy_i F 69) >>> (((24 : Int32)) &&& 31)).toInt8.toInt32).toInt8.toInt32) := hd_u (hs 2 _ rfl) t71 rfl
  have a23 := hd_ba (F := F) (F' := F') (k := 23) (hF 23 (by decide))
  have t73 : sy_da F' (.inr (.inl 73)) = .inl (jm_upd (sy_ai F 23) (sy_i F 1).toNatClampNeg ((((sy_i F 69) >>> (((24 : Int32)) &&& 31)).toInt8.toInt32).toInt8.toInt32)) := hd_up (hs 3 _ rfl) b1 t72 a23
  have t78 : sy_da F' (.inr (.inl 78)) = .inl (jm_upd (jm_upd (sy_ai F 23) (sy_i F 1).toNatClampNeg ((((sy_i F 69) >>> (((24 : Int32)) &&& 31)).toInt8.toInt32).toInt8.toInt32)) ((sy_i F 1) + ((1 : Int32))).toNatClampNeg ((((sy_i F 69) >>> (((16 : Int32)) &&& 31)).toInt8.toInt32).toInt8.toInt32)) := hd_up (hs 8 _ rfl) t74 t77 t73
  have t83 : sy_da F' (.inr (.inl 83)) = .inl (jm_upd (jm_upd (jm_upd (sy_ai F 23) (sy_i F 1).toNatClampNeg ((((sy_i F 69) >>> (((24 : Int32)) &&& 31)).toInt8.toInt32).toInt8.toInt32)) ((sy_i F 1) + ((1 : Int32))).toNatClampNeg ((((sy_i F 69) >>> (((16 : Int32)) &&& 31)).toInt8.toInt32).toInt8.toInt32)) (((sy_i F 1) + ((1 : Int32))) + ((1 : Int32))).toNatClampNeg ((((sy_i F 69) >>> (((8 : Int32)) &&& 31)).toInt8.toInt32).toInt8.toInt32)) := hd_up (hs 13 _ rfl) t79 t82 t78
  have t88 : sy_da F' (.inr (.inl 88)) = .inl (jm_upd (jm_upd (jm_upd (jm_upd (sy_ai F 23) (sy_i F 1).toNatClampNeg ((((sy_i F 69) >>> (((24 : Int32)) &&& 31)).toInt8.toInt32).toInt8.toInt32)) ((sy_i F 1) + ((1 : Int32))).toNatClampNeg ((((sy_i F 69) >>> (((16 : Int32)) &&& 31)).toInt8.toInt32).toInt8.toInt32)) (((sy_i F 1) + ((1 : Int32))) + ((1 : Int32))).toNatClampNeg ((((sy_i F 69) >>> (((8 : Int32)) &&& 31)).toInt8.toInt32).toInt8.toInt32)) ((((sy_i F 1) + ((1 : Int32))) + ((1 : Int32))) + ((1 : Int32))).toNatClampNeg ((((sy_i F 69) >>> (((0 : Int32)) &&& 31)).toInt8.toInt32).toInt8.toInt32)) := hd_up (hs 18 _ rfl) t84 t87 t83
  have hB' : iv_in F' iv_B4 := iv_in_eq hB (fun j hj => hF j (Nat.lt_of_lt_of_le hj (by decide +kernel)))
  refine ⟨List.forall_mem_cons.mpr ⟨hd_pb b1 (by first | exact h0 | exact h0), List.forall_mem_cons.mpr ⟨hd_pb t74 (by first | exact h1 | exact h1), List.forall_mem_cons.mpr ⟨hd_pb t79 (by first | exact h2 | exact h2), List.forall_mem_cons.mpr ⟨hd_pb t84 (by first | exact h3 | exact h3), fun _ h => absurd h List.not_mem_nil⟩⟩⟩⟩, ?_⟩
  refine k _ ?_ ?_ ?_
  · exact fun j hj hn => (hd_keep hB' (Nat.lt_of_lt_of_le hj (by decide +kernel)) (by simp; omega)).trans (hF j (by omega))
  · exact hd_gi (x := .inr (.inl 89)) (by decide +kernel) t89
  · exact hd_ga (a := .inr (.inl 88)) (by decide +kernel) t88
theorem fd4_0_0 {Ls : Nat} {xs : Nat → Int32} {d : Nat} {Q : Option Value → jm_h → Prop} (hd : 2 ≤ d) (F : Nat → sy_d) (X1 X2 : List jm_c) (hB : iv_in F iv_B4)
    (h0 : ((sy_i F 1) + ((20 : Int32))).toInt ≤ 2000)
    (k : ∀ F1 : Nat → sy_d, (∀ j, j < 69 → True → F1 j = F j) → F1 69 = .inl (.int (sy_i F 69)) → F1 70 = .inl (.int (sy_i F 70)) → F1 71 = .inl (.int (sy_i F 71)) → F1 72 = .inl (.int (sy_i F 72)) → F1 73 = .inl (.int (sy_i F 73)) → hd_W Ls xs d jm_M133 Q (17, sy_dL F1 [some (.inl (.ref 1000)), some (.inr (.inl 69)), some (.inr (.inl 70)), some (.inr (.inl 71)), some (.inr (.inl 72)), some (.inr (.inl 73))], sy_dS F1 [.inr (.inl 69), .inl (.ref 1000)], sy_dh F1 X1 X2 (iv_H 4), 0, 0)) :
    hd_W Ls xs d jm_M133 Q (0, sy_dL F [some (.inl (.ref 1000)), some (.inr (.inl 69)), some (.inr (.inl 70)), some (.inr (.inl 71)), some (.inr (.inl 72)), some (.inr (.inl 73))], sy_dS F [], sy_dh F X1 X2 (iv_H 4), 0, 0) := by
  refine hd_run (s := 4) (nv := 74) (pc := 17) (L := [some (.inl (.ref 1000)), some (.inr (.inl 69)), some (.inr (.inl 70)), some (.inr (.inl 71)), some (.inr (.inl 72)), some (.inr (.inl 73))]) (S := [.inr (.inl 69), .inl (.ref 1000)]) (uh := hd_ov (iv_id 0 iv_B4) []) (ul := [.inl (.inr (.inl 69)), .inl (.inr (.inl 70)), .inl (.inr (.inl 71)), .inl (.inr (.inl 72)), .inl (.inr (.inl 73))]) (f := true) (sp := [17, 22, 27, 33, 39]) (d0 := 1) (O := [true]) (T := [(0, [.inr (.inl 1), .inl (.int 20)], [])]) (P := [(4, .inr (.inl 74), .inl (.int 2000))]) jm_ok133 (by decide +kernel) (by decide +kernel) hd F X1 X2 (fun F' hF hs => ?_)
  have b1 := hd_b (F := F) (F' := F') (k := 1) (hF 1 (by decide))
  have t74 : sy_dv F' (.inr (.inl 74)) = .int ((sy_i F 1) + ((20 : Int32))) := hd_o (hs 0 _ rfl) b1 rfl rfl
  have b69 := hd_b (F := F) (F' := F') (k := 69) (hF 69 (by decide))
  have b70 := hd_b (F := F) (F' := F') (k := 70) (hF 70 (by decide))
  have b71 := hd_b (F := F) (F' := F') (k := 71) (hF 71 (by decide))
  have b72 := hd_b (F := F) (F' := F') (k := 72) (hF 72 (by decide))
  have b73 := hd_b (F := F) (F' := F') (k := 73) (hF 73 (by decide))
  have hB' : iv_in F' iv_B4 := iv_in_eq hB (fun j hj => hF j (Nat.lt_of_lt_of_le hj (by decide +kernel)))
  refine ⟨List.forall_mem_cons.mpr ⟨hd_p4 t74 rfl (by have hc : ((2000) : Int32).toInt = 2000 := (by decide); omega), fun _ h => absurd h List.not_mem_nil⟩, ?_⟩
  refine k _ ?_ ?_ ?_ ?_ ?_ ?_
  · exact fun j hj _ => (hd_keep hB' (Nat.lt_of_lt_of_le hj (by decide +kernel)) (by simp)).trans (hF j (by omega))
  · exact hd_gi (x := .inr (.inl 69)) (by decide +kernel) b69
  · exact hd_gi (x := .inr (.inl 70)) (by decide +kernel) b70
  · exact hd_gi (x := .inr (.inl 71)) (by decide +kernel) b71
  · exact hd_gi (x := .inr (.inl 72)) (by decide +kernel) b72
  · exact hd_gi (x := .inr (.inl 73)) (by decide +kernel) b73
theorem fd4_0_1 {Ls : Nat} {xs : Nat → Int32} {d : Nat} {Q : Option Value → jm_h → Prop} (hd : 2 ≤ d) (F : Nat → sy_d) (X1 X2 : List jm_c) (hB : iv_in F iv_B4)
    (h0 : 2000 < ((sy_i F 1) + ((20 : Int32))).toInt)
    (k : ∀ F1 : Nat → sy_d, (∀ j, j < 69 → True → F1 j = F j) → Q (some (.int (((-1) : Int32)))) (sy_dh F1 X1 X2 (iv_H 4))) :
    hd_W Ls xs d jm_M133 Q (0, sy_dL F [some (.inl (.ref 1000)), some (.inr (.inl 69)), some (.inr (.inl 70)), some (.inr (.inl 71)), some (.inr (.inl 72)), some (.inr (.inl 73))], sy_dS F [], sy_dh F X1 X2 (iv_H 4), 0, 0) := by
  refine hd_ret (s := 4) (nv := 74) (v := some (.inl (.int (-1)))) (uh := hd_ov (iv_id 0 iv_B4) []) (f := true) (sp := [17, 22, 27, 33, 39]) (d0 := 1) (O := [false]) (T := [(0, [.inr (.inl 1), .inl (.int 20)], [])]) (P := [(5, .inr (.inl 74), .inl (.int 2000))]) jm_ok133 (by decide +kernel) (by decide +kernel) hd F X1 X2 (fun F' hF hs => ?_)
  have b1 := hd_b (F := F) (F' := F') (k := 1) (hF 1 (by decide))
  have t74 : sy_dv F' (.inr (.inl 74)) = .int ((sy_i F 1) + ((20 : Int32))) := hd_o (hs 0 _ rfl) b1 rfl rfl
  have hB' : iv_in F' iv_B4 := iv_in_eq hB (fun j hj => hF j (Nat.lt_of_lt_of_le hj (by decide +kernel)))
  refine ⟨List.forall_mem_cons.mpr ⟨hd_p5 t74 rfl (by have hc : ((2000) : Int32).toInt = 2000 := (by decide); omega), fun _ h => absurd h List.not_mem_nil⟩, ?_⟩
  refine k _ ?_
  · exact fun j hj _ => (hd_keep hB' (Nat.lt_of_lt_of_le hj (by decide +kernel)) (by simp)).trans (hF j (by omega))
theorem fd4_20_0 {Ls : Nat} {xs : Nat → Int32} {d : Nat} {Q : Option Value → jm_h → Prop} (hd : 2 ≤ d) (F : Nat → sy_d) (X1 X2 : List jm_c) (hB : iv_in F iv_B4)
    (k : ∀ F1 : Nat → sy_d, (∀ j, j < 69 → True → F1 j = F j) → F1 69 = .inl (.int (sy_i F 69)) → F1 70 = .inl (.int (sy_i F 70)) → F1 71 = .inl (.int (sy_i F 71)) → F1 72 = .inl (.int (sy_i F 72)) → F1 73 = .inl (.int (sy_i F 73)) → hd_W Ls xs d jm_M133 Q (22, sy_dL F1 [some (.inl (.ref 1000)), some (.inr (.inl 69)), some (.inr (.inl 70)), some (.inr (.inl 71)), some (.inr (.inl 72)), some (.inr (.inl 73))], sy_dS F1 [.inr (.inl 70), .inl (.ref 1000)], sy_dh F1 X1 X2 (iv_H 4), 0, 0)) :
    hd_W Ls xs d jm_M133 Q (20, sy_dL F [some (.inl (.ref 1000)), some (.inr (.inl 69)), some (.inr (.inl 70)), some (.inr (.inl 71)), some (.inr (.inl 72)), some (.inr (.inl 73))], sy_dS F [], sy_dh F X1 X2 (iv_H 4), 0, 0) := by
  refine hd_run (s := 4) (nv := 74) (pc := 22) (L := [some (.inl (.ref 1000)), some (.inr (.inl 69)), some (.inr (.inl 70)), some (.inr (.inl 71)), some (.inr (.inl 72)), some (.inr (.inl 73))]) (S := [.inr (.inl 70), .inl (.ref 1000)]) (uh := hd_ov (iv_id 0 iv_B4) []) (ul := [.inl (.inr (.inl 69)), .inl (.inr (.inl 70)), .inl (.inr (.inl 71)), .inl (.inr (.inl 72)), .inl (.inr (.inl 73))]) (f := false) (sp := [17, 22, 27, 33, 39]) (d0 := 1) (O := []) (T := []) (P := []) jm_ok133 (by decide +kernel) (by decide +kernel) hd F X1 X2 (fun F' hF hs => ?_)
  have b69 := hd_b (F := F) (F' := F') (k := 69) (hF 69 (by decide))
  have b70 := hd_b (F := F) (F' := F') (k := 70) (hF 70 (by decide))
  have b71 := hd_b (F := F) (F' := F') (k := 71) (hF 71 (by decide))
  have b72 := hd_b (F := F) (F' := F') (k := 72) (hF 72 (by decide))
  have b73 := hd_b (F := F) (F' := F') (k := 73) (hF 73 (by decide))
  have hB' : iv_in F' iv_B4 := iv_in_eq hB (fun j hj => hF j (Nat.lt_of_lt_of_le hj (by decide +kernel)))
  refine ⟨fun _ h => absurd h List.not_mem_nil, ?_⟩
  refine k _ ?_ ?_ ?_ ?_ ?_ ?_
  · exact fun j hj _ => (hd_keep hB' (Nat.lt_of_lt_of_le hj (by decide +kernel)) (by simp)).trans (hF j (by omega))
  · exact hd_gi (x := .inr (.inl 69)) (by decide +kernel) b69
  · exact hd_gi (x := .inr (.inl 70)) (by decide +kernel) b70
  · exact hd_gi (x := .inr (.inl 71)) (by decide +kernel) b71
  · exact hd_gi (x := .inr (.inl 72)) (by decide +kernel) b72
  · exact hd_gi (x := .inr (.inl 73)) (by decide +kernel) b73
theorem fd4_25_0 {Ls : Nat} {xs : Nat → Int32} {d : Nat} {Q : Option Value → jm_h → Prop} (hd : 2 ≤ d) (F : Nat → sy_d) (X1 X2 : List jm_c) (hB : iv_in F iv_B4)
    (k : ∀ F1 : Nat → sy_d, (∀ j, j < 69 → True → F1 j = F j) → F1 69 = .inl (.int (sy_i F 69)) → F1 70 = .inl (.int (sy_i F 70)) → F1 71 = .inl (.int (sy_i F 71)) → F1 72 = .inl (.int (sy_i F 72)) → F1 73 = .inl (.int (sy_i F 73)) → hd_W Ls xs d jm_M133 Q (27, sy_dL F1 [some (.inl (.ref 1000)), some (.inr (.inl 69)), some (.inr (.inl 70)), some (.inr (.inl 71)), some (.inr (.inl 72)), some (.inr (.inl 73))], sy_dS F1 [.inr (.inl 71), .inl (.ref 1000)], sy_dh F1 X1 X2 (iv_H 4), 0, 0)) :
    hd_W Ls xs d jm_M133 Q (25, sy_dL F [some (.inl (.ref 1000)), some (.inr (.inl 69)), some (.inr (.inl 70)), some (.inr (.inl 71)), some (.inr (.inl 72)), some (.inr (.inl 73))], sy_dS F [], sy_dh F X1 X2 (iv_H 4), 0, 0) := by
  refine hd_run (s := 4) (nv := 74) (pc := 27) (L := [some (.inl (.ref 1000)), some (.inr (.inl 69)), some (.inr (.inl 70)), some (.inr (.inl 71)), some (.inr (.inl 72)), some (.inr (.inl 73))]) (S := [.inr (.inl 71), .inl (.ref 1000)]) (uh := hd_ov (iv_id 0 iv_B4) []) (ul := [.inl (.inr (.inl 69)), .inl (.inr (.inl 70)), .inl (.inr (.inl 71)), .inl (.inr (.inl 72)), .inl (.inr (.inl 73))]) (f := false) (sp := [17, 22, 27, 33, 39]) (d0 := 1) (O := []) (T := []) (P := []) jm_ok133 (by decide +kernel) (by decide +kernel) hd F X1 X2 (fun F' hF hs => ?_)
  have b69 := hd_b (F := F) (F' := F') (k := 69) (hF 69 (by decide))
  have b70 := hd_b (F := F) (F' := F') (k := 70) (hF 70 (by decide))
  have b71 := hd_b (F := F) (F' := F') (k := 71) (hF 71 (by decide))
  have b72 := hd_b (F := F) (F' := F') (k := 72) (hF 72 (by decide))
  have b73 := hd_b (F := F) (F' := F') (k := 73) (hF 73 (by decide))
  have hB' : iv_in F' iv_B4 := iv_in_eq hB (fun j hj => hF j (Nat.lt_of_lt_of_le hj (by decide +kernel)))
  refine ⟨fun _ h => absurd h List.not_mem_nil, ?_⟩
  refine k _ ?_ ?_ ?_ ?_ ?_ ?_
  · exact fun j hj _ => (hd_keep hB' (Nat.lt_of_lt_of_le hj (by decide +kernel)) (by simp)).trans (hF j (by omega))
  · exact hd_gi (x := .inr (.inl 69)) (by decide +kernel) b69
  · exact hd_gi (x := .inr (.inl 70)) (by decide +kernel) b70
  · exact hd_gi (x := .inr (.inl 71)) (by decide +kernel) b71
  · exact hd_gi (x := .inr (.inl 72)) (by decide +kernel) b72
  · exact hd_gi (x := .inr (.inl 73)) (by decide +kernel) b73
theorem fd4_30_0 {Ls : Nat} {xs : Nat → Int32} {d : Nat} {Q : Option Value → jm_h → Prop} (hd : 2 ≤ d) (F : Nat → sy_d) (X1 X2 : List jm_c) (hB : iv_in F iv_B4)
    (k : ∀ F1 : Nat → sy_d, (∀ j, j < 69 → True → F1 j = F j) → F1 69 = .inl (.int (sy_i F 69)) → F1 70 = .inl (.int (sy_i F 70)) → F1 71 = .inl (.int (sy_i F 71)) → F1 72 = .inl (.int (sy_i F 72)) → F1 73 = .inl (.int (sy_i F 73)) → hd_W Ls xs d jm_M133 Q (33, sy_dL F1 [some (.inl (.ref 1000)), some (.inr (.inl 69)), some (.inr (.inl 70)), some (.inr (.inl 71)), some (.inr (.inl 72)), some (.inr (.inl 73))], sy_dS F1 [.inr (.inl 72), .inl (.ref 1000)], sy_dh F1 X1 X2 (iv_H 4), 0, 0)) :
    hd_W Ls xs d jm_M133 Q (30, sy_dL F [some (.inl (.ref 1000)), some (.inr (.inl 69)), some (.inr (.inl 70)), some (.inr (.inl 71)), some (.inr (.inl 72)), some (.inr (.inl 73))], sy_dS F [], sy_dh F X1 X2 (iv_H 4), 0, 0) := by
  refine hd_run (s := 4) (nv := 74) (pc := 33) (L := [some (.inl (.ref 1000)), some (.inr (.inl 69)), some (.inr (.inl 70)), some (.inr (.inl 71)), some (.inr (.inl 72)), some (.inr (.inl 73))]) (S := [.inr (.inl 72), .inl (.ref 1000)]) (uh := hd_ov (iv_id 0 iv_B4) []) (ul := [.inl (.inr (.inl 69)), .inl (.inr (.inl 70)), .inl (.inr (.inl 71)), .inl (.inr (.inl 72)), .inl (.inr (.inl 73))]) (f := false) (sp := [17, 22, 27, 33, 39]) (d0 := 1) (O := []) (T := []) (P := []) jm_ok133 (by decide +kernel) (by decide +kernel) hd F X1 X2 (fun F' hF hs => ?_)
  have b69 := hd_b (F := F) (F' := F') (k := 69) (hF 69 (by decide))
  have b70 := hd_b (F := F) (F' := F') (k := 70) (hF 70 (by decide))
  have b71 := hd_b (F := F) (F' := F') (k := 71) (hF 71 (by decide))
  have b72 := hd_b (F := F) (F' := F') (k := 72) (hF 72 (by decide))
  have b73 := hd_b (F := F) (F' := F') (k := 73) (hF 73 (by decide))
  have hB' : iv_in F' iv_B4 := iv_in_eq hB (fun j hj => hF j (Nat.lt_of_lt_of_le hj (by decide +kernel)))
  refine ⟨fun _ h => absurd h List.not_mem_nil, ?_⟩
  refine k _ ?_ ?_ ?_ ?_ ?_ ?_
  · exact fun j hj _ => (hd_keep hB' (Nat.lt_of_lt_of_le hj (by decide +kernel)) (by simp)).trans (hF j (by omega))
  · exact hd_gi (x := .inr (.inl 69)) (by decide +kernel) b69
  · exact hd_gi (x := .inr (.inl 70)) (by decide +kernel) b70
  · exact hd_gi (x := .inr (.inl 71)) (by decide +kernel) b71
  · exact hd_gi (x := .inr (.inl 72)) (by decide +kernel) b72
  · exact hd_gi (x := .inr (.inl 73)) (by decide +kernel) b73
theorem fd4_36_0 {Ls : Nat} {xs : Nat → Int32} {d : Nat} {Q : Option Value → jm_h → Prop} (hd : 2 ≤ d) (F : Nat → sy_d) (X1 X2 : List jm_c) (hB : iv_in F iv_B4)
    (k : ∀ F1 : Nat → sy_d, (∀ j, j < 69 → True → F1 j = F j) → F1 69 = .inl (.int (sy_i F 69)) → F1 70 = .inl (.int (sy_i F 70)) → F1 71 = .inl (.int (sy_i F 71)) → F1 72 = .inl (.int (sy_i F 72)) → F1 73 = .inl (.int (sy_i F 73)) → hd_W Ls xs d jm_M133 Q (39, sy_dL F1 [some (.inl (.ref 1000)), some (.inr (.inl 69)), some (.inr (.inl 70)), some (.inr (.inl 71)), some (.inr (.inl 72)), some (.inr (.inl 73))], sy_dS F1 [.inr (.inl 73), .inl (.ref 1000)], sy_dh F1 X1 X2 (iv_H 4), 0, 0)) :
    hd_W Ls xs d jm_M133 Q (36, sy_dL F [some (.inl (.ref 1000)), some (.inr (.inl 69)), some (.inr (.inl 70)), some (.inr (.inl 71)), some (.inr (.inl 72)), some (.inr (.inl 73))], sy_dS F [], sy_dh F X1 X2 (iv_H 4), 0, 0) := by
  refine hd_run (s := 4) (nv := 74) (pc := 39) (L := [some (.inl (.ref 1000)), some (.inr (.inl 69)), some (.inr (.inl 70)), some (.inr (.inl 71)), some (.inr (.inl 72)), some (.inr (.inl 73))]) (S := [.inr (.inl 73), .inl (.ref 1000)]) (uh := hd_ov (iv_id 0 iv_B4) []) (ul := [.inl (.inr (.inl 69)), .inl (.inr (.inl 70)), .inl (.inr (.inl 71)), .inl (.inr (.inl 72)), .inl (.inr (.inl 73))]) (f := false) (sp := [17, 22, 27, 33, 39]) (d0 := 1) (O := []) (T := []) (P := []) jm_ok133 (by decide +kernel) (by decide +kernel) hd F X1 X2 (fun F' hF hs => ?_)
  have b69 := hd_b (F := F) (F' := F') (k := 69) (hF 69 (by decide))
  have b70 := hd_b (F := F) (F' := F') (k := 70) (hF 70 (by decide))
  have b71 := hd_b (F := F) (F' := F') (k := 71) (hF 71 (by decide))
  have b72 := hd_b (F := F) (F' := F') (k := 72) (hF 72 (by decide))
  have b73 := hd_b (F := F) (F' := F') (k := 73) (hF 73 (by decide))
  have hB' : iv_in F' iv_B4 := iv_in_eq hB (fun j hj => hF j (Nat.lt_of_lt_of_le hj (by decide +kernel)))
  refine ⟨fun _ h => absurd h List.not_mem_nil, ?_⟩
  refine k _ ?_ ?_ ?_ ?_ ?_ ?_
  · exact fun j hj _ => (hd_keep hB' (Nat.lt_of_lt_of_le hj (by decide +kernel)) (by simp)).trans (hF j (by omega))
  · exact hd_gi (x := .inr (.inl 69)) (by decide +kernel) b69
  · exact hd_gi (x := .inr (.inl 70)) (by decide +kernel) b70
  · exact hd_gi (x := .inr (.inl 71)) (by decide +kernel) b71
  · exact hd_gi (x := .inr (.inl 72)) (by decide +kernel) b72
  · exact hd_gi (x := .inr (.inl 73)) (by decide +kernel) b73
theorem fd4_42_0 {Ls : Nat} {xs : Nat → Int32} {d : Nat} {Q : Option Value → jm_h → Prop} (hd : 2 ≤ d) (F : Nat → sy_d) (X1 X2 : List jm_c) (hB : iv_in F iv_B4)
    (k : ∀ F1 : Nat → sy_d, (∀ j, j < 69 → True → F1 j = F j) → Q (some (.int (sy_i F 1))) (sy_dh F1 X1 X2 (iv_H 4))) :
    hd_W Ls xs d jm_M133 Q (42, sy_dL F [some (.inl (.ref 1000)), some (.inr (.inl 69)), some (.inr (.inl 70)), some (.inr (.inl 71)), some (.inr (.inl 72)), some (.inr (.inl 73))], sy_dS F [], sy_dh F X1 X2 (iv_H 4), 0, 0) := by
  refine hd_ret (s := 4) (nv := 74) (v := some (.inr (.inl 1))) (uh := hd_ov (iv_id 0 iv_B4) []) (f := false) (sp := [17, 22, 27, 33, 39]) (d0 := 1) (O := []) (T := []) (P := []) jm_ok133 (by decide +kernel) (by decide +kernel) hd F X1 X2 (fun F' hF hs => ?_)
  have b1 := hd_b (F := F) (F' := F') (k := 1) (hF 1 (by decide))
  have hB' : iv_in F' iv_B4 := iv_in_eq hB (fun j hj => hF j (Nat.lt_of_lt_of_le hj (by decide +kernel)))
  have hk := k (sy_cm F' (hd_ov (iv_id 0 iv_B4) [] ++ [])) (fun j hj _ => (hd_keep hB' (Nat.lt_of_lt_of_le hj (by decide +kernel)) (by simp)).trans (hF j (by omega)))
  refine ⟨fun _ h => absurd h List.not_mem_nil, ?_⟩
  show Q (some (sy_dv F' (.inr (.inl 1)))) _
  rw [b1]
  exact hk
