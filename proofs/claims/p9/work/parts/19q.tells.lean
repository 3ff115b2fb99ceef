/-! ===== fruit and buyers are told, way by way ===== -/
theorem tf_0_p0 {Ls : Nat} {xs : Nat → Int32} {d : Nat} {Q : Option Value → jm_h → Prop} (hd : 5 ≤ d) (F : Nat → sy_d) (X1 X2 : List jm_c) (hB : iv_in F iv_B4)
    (h0 : 0 ≤ (sy_i F 12).toInt ∧ (sy_i F 12).toInt < 2)
    (k : ∀ F1 : Nat → sy_d, (∀ j, j < 69 → True → F1 j = F j) → F1 69 = .inl (.int ((((7 : Int32)) * (sy_i F 12)) + ((sy_ai F 31).getD (sy_i F 12).toNatClampNeg 0))) → hd_W Ls xs d jm_M158 Q (19, sy_dL F1 [some (.inl (.ref 1000)), some (.inr (.inl 69)), none], sy_dS F1 [.inl (.ref 1000)], sy_dh F1 X1 X2 (iv_H 4), 0, 0)) :
    hd_W Ls xs d jm_M158 Q (0, sy_dL F [some (.inl (.ref 1000)), none, none], sy_dS F [], sy_dh F X1 X2 (iv_H 4), 0, 0) := by
  refine hd_run (s := 4) (nv := 69) (pc := 19) (L := [some (.inl (.ref 1000)), some (.inr (.inl 69)), none]) (S := [.inl (.ref 1000)]) (uh := hd_ov (iv_id 0 iv_B4) []) (ul := [.inl (.inr (.inl 71))]) (f := true) (sp := [19]) (d0 := 4) (O := []) (T := [(2, [.inl (.int 7), .inr (.inl 12)], []), (30, [.inr (.inl 12)], [.inr (.inl 31)]), (0, [.inr (.inl 69), .inr (.inl 70)], [])]) (P := [(6, .inr (.inl 12), .inl (.ref 2))]) jm_ok158 (by decide +kernel) (by decide +kernel) hd F X1 X2 (fun F' hF hs => ?_)
  have b12 := hd_b (F := F) (F' := F') (k := 12) (hF 12 (by decide))
  have t69 : sy_dv F' (.inr (.inl 69)) = .int (((7 : Int32)) * (sy_i F 12)) := hd_o (hs 0 _ rfl) rfl b12 rfl
  have a31 := hd_ba (F := F) (F' := F') (k := 31) (hF 31 (by decide))
  have t70 : sy_dv F' (.inr (.inl 70)) = .int ((sy_ai F 31).getD (sy_i F 12).toNatClampNeg 0) := hd_rd (hs 1 _ rfl) b12 a31
  have t71 : sy_dv F' (.inr (.inl 71)) = .int ((((7 : Int32)) * (sy_i F 12)) + ((sy_ai F 31).getD (sy_i F 12).toNatClampNeg 0)) := hd_o (hs 2 _ rfl) t69 t70 rfl
  have hB' : iv_in F' iv_B4 := iv_in_eq hB (fun j hj => hF j (Nat.lt_of_lt_of_le hj (by decide +kernel)))
  refine ⟨List.forall_mem_cons.mpr ⟨hd_pb b12 (by first | exact h0 | exact h0), fun _ h => absurd h List.not_mem_nil⟩, ?_⟩
  refine k _ ?_ ?_
  · exact fun j hj _ => (hd_keep hB' (Nat.lt_of_lt_of_le hj (by decide +kernel)) (by simp)).trans (hF j (by omega))
  · exact hd_gi (x := .inr (.inl 71)) (by decide +kernel) t71
theorem tf_22_p0 {Ls : Nat} {xs : Nat → Int32} {d : Nat} {Q : Option Value → jm_h → Prop} (hd : 5 ≤ d) (F : Nat → sy_d) (X1 X2 : List jm_c) (hB : iv_in F iv_B4)
    (k : ∀ F1 : Nat → sy_d, (∀ j, j < 69 → True → F1 j = F j) → F1 69 = .inl (.int (sy_i F 69)) → F1 70 = .inl (.int (sy_i F 70)) → hd_W Ls xs d jm_M158 Q (32, sy_dL F1 [some (.inl (.ref 1000)), some (.inr (.inl 69)), some (.inr (.inl 70))], sy_dS F1 [.inl (.int 9), .inl (.int 0), .inl (.ref 1000), .inr (.inl 69), .inl (.ref 1010)], sy_dh F1 X1 X2 (iv_H 4), 0, 0)) :
    hd_W Ls xs d jm_M158 Q (22, sy_dL F [some (.inl (.ref 1000)), some (.inr (.inl 69)), none], sy_dS F [.inr (.inl 70)], sy_dh F X1 X2 (iv_H 4), 0, 0) := by
  refine hd_run (s := 4) (nv := 71) (pc := 32) (L := [some (.inl (.ref 1000)), some (.inr (.inl 69)), some (.inr (.inl 70))]) (S := [.inl (.int 9), .inl (.int 0), .inl (.ref 1000), .inr (.inl 69), .inl (.ref 1010)]) (uh := hd_ov (iv_id 0 iv_B4) []) (ul := [.inl (.inr (.inl 69)), .inl (.inr (.inl 70))]) (f := false) (sp := [32]) (d0 := 4) (O := []) (T := []) (P := []) jm_ok158 (by decide +kernel) (by decide +kernel) hd F X1 X2 (fun F' hF hs => ?_)
  have b69 := hd_b (F := F) (F' := F') (k := 69) (hF 69 (by decide))
  have b70 := hd_b (F := F) (F' := F') (k := 70) (hF 70 (by decide))
  have hB' : iv_in F' iv_B4 := iv_in_eq hB (fun j hj => hF j (Nat.lt_of_lt_of_le hj (by decide +kernel)))
  refine ⟨fun _ h => absurd h List.not_mem_nil, ?_⟩
  refine k _ ?_ ?_ ?_
  · exact fun j hj _ => (hd_keep hB' (Nat.lt_of_lt_of_le hj (by decide +kernel)) (by simp)).trans (hF j (by omega))
  · exact hd_gi (x := .inr (.inl 69)) (by decide +kernel) b69
  · exact hd_gi (x := .inr (.inl 70)) (by decide +kernel) b70
theorem tf_35_p0 {Ls : Nat} {xs : Nat → Int32} {d : Nat} {Q : Option Value → jm_h → Prop} (hd : 5 ≤ d) (F : Nat → sy_d) (X1 X2 : List jm_c) (hB : iv_in F iv_B4)
    (h0 : 0 ≤ (sy_i F 69).toInt ∧ (sy_i F 69).toInt < 14)
    (k : ∀ F1 : Nat → sy_d, (∀ j, j < 69 → j ≠ 32 → F1 j = F j) → F1 32 = .inr (.inl (jm_upd (sy_ai F 32) (sy_i F 69).toNatClampNeg (sy_i F 71))) → F1 69 = .inl (.int (sy_i F 69)) → F1 70 = .inl (.int (sy_i F 70)) → hd_W Ls xs d jm_M158 Q (45, sy_dL F1 [some (.inl (.ref 1000)), some (.inr (.inl 69)), some (.inr (.inl 70))], sy_dS F1 [.inl (.int 9), .inl (.int 1), .inl (.ref 1000), .inr (.inl 69), .inl (.ref 1011)], sy_dh F1 X1 X2 (iv_H 4), 0, 0)) :
    hd_W Ls xs d jm_M158 Q (35, sy_dL F [some (.inl (.ref 1000)), some (.inr (.inl 69)), some (.inr (.inl 70))], sy_dS F [.inr (.inl 71), .inr (.inl 69), .inl (.ref 1010)], sy_dh F X1 X2 (iv_H 4), 0, 0) := by
  refine hd_run (s := 4) (nv := 72) (pc := 45) (L := [some (.inl (.ref 1000)), some (.inr (.inl 69)), some (.inr (.inl 70))]) (S := [.inl (.int 9), .inl (.int 1), .inl (.ref 1000), .inr (.inl 69), .inl (.ref 1011)]) (uh := hd_ov (iv_id 0 iv_B4) [(32, .inr (.inr (.inl 72)))]) (ul := [.inl (.inr (.inl 69)), .inl (.inr (.inl 70))]) (f := false) (sp := [45]) (d0 := 4) (O := []) (T := [(40, [.inr (.inl 69), .inr (.inl 71)], [.inr (.inl 32)])]) (P := [(6, .inr (.inl 69), .inl (.ref 14))]) jm_ok158 (by decide +kernel) (by decide +kernel) hd F X1 X2 (fun F' hF hs => ?_)
  have b69 := hd_b (F := F) (F' := F') (k := 69) (hF 69 (by decide))
  have b71 := hd_b (F := F) (F' := F') (k := 71) (hF 71 (by decide))
  have a32 := hd_ba (F := F) (F' := F') (k := 32) (hF 32 (by decide))
  have t72 : sy_da F' (.inr (.inl 72)) = .inl (jm_upd (sy_ai F 32) (sy_i F 69).toNatClampNeg (sy_i F 71)) := hd_up (hs 0 _ rfl) b69 b71 a32
  have b70 := hd_b (F := F) (F' := F') (k := 70) (hF 70 (by decide))
  have hB' : iv_in F' iv_B4 := iv_in_eq hB (fun j hj => hF j (Nat.lt_of_lt_of_le hj (by decide +kernel)))
  refine ⟨List.forall_mem_cons.mpr ⟨hd_pb b69 (by first | exact h0 | exact h0), fun _ h => absurd h List.not_mem_nil⟩, ?_⟩
  refine k _ ?_ ?_ ?_ ?_
  · exact fun j hj hn => (hd_keep hB' (Nat.lt_of_lt_of_le hj (by decide +kernel)) (by simp; omega)).trans (hF j (by omega))
  · exact hd_ga (a := .inr (.inl 72)) (by decide +kernel) t72
  · exact hd_gi (x := .inr (.inl 69)) (by decide +kernel) b69
  · exact hd_gi (x := .inr (.inl 70)) (by decide +kernel) b70
theorem tf_48_p0 {Ls : Nat} {xs : Nat → Int32} {d : Nat} {Q : Option Value → jm_h → Prop} (hd : 5 ≤ d) (F : Nat → sy_d) (X1 X2 : List jm_c) (hB : iv_in F iv_B4)
    (h0 : 0 ≤ (sy_i F 69).toInt ∧ (sy_i F 69).toInt < 14)
    (k : ∀ F1 : Nat → sy_d, (∀ j, j < 69 → j ≠ 33 → F1 j = F j) → F1 33 = .inr (.inl (jm_upd (sy_ai F 33) (sy_i F 69).toNatClampNeg (sy_i F 71))) → F1 69 = .inl (.int (sy_i F 69)) → F1 70 = .inl (.int (sy_i F 70)) → hd_W Ls xs d jm_M158 Q (58, sy_dL F1 [some (.inl (.ref 1000)), some (.inr (.inl 69)), some (.inr (.inl 70))], sy_dS F1 [.inl (.int 99), .inl (.int 0), .inl (.ref 1000), .inr (.inl 69), .inl (.ref 1012)], sy_dh F1 X1 X2 (iv_H 4), 0, 0)) :
    hd_W Ls xs d jm_M158 Q (48, sy_dL F [some (.inl (.ref 1000)), some (.inr (.inl 69)), some (.inr (.inl 70))], sy_dS F [.inr (.inl 71), .inr (.inl 69), .inl (.ref 1011)], sy_dh F X1 X2 (iv_H 4), 0, 0) := by
  refine hd_run (s := 4) (nv := 72) (pc := 58) (L := [some (.inl (.ref 1000)), some (.inr (.inl 69)), some (.inr (.inl 70))]) (S := [.inl (.int 99), .inl (.int 0), .inl (.ref 1000), .inr (.inl 69), .inl (.ref 1012)]) (uh := hd_ov (iv_id 0 iv_B4) [(33, .inr (.inr (.inl 72)))]) (ul := [.inl (.inr (.inl 69)), .inl (.inr (.inl 70))]) (f := false) (sp := [58]) (d0 := 4) (O := []) (T := [(40, [.inr (.inl 69), .inr (.inl 71)], [.inr (.inl 33)])]) (P := [(6, .inr (.inl 69), .inl (.ref 14))]) jm_ok158 (by decide +kernel) (by decide +kernel) hd F X1 X2 (fun F' hF hs => ?_)
  have b69 := hd_b (F := F) (F' := F') (k := 69) (hF 69 (by decide))
  have b71 := hd_b (F := F) (F' := F') (k := 71) (hF 71 (by decide))
  have a33 := hd_ba (F := F) (F' := F') (k := 33) (hF 33 (by decide))
  have t72 : sy_da F' (.inr (.inl 72)) = .inl (jm_upd (sy_ai F 33) (sy_i F 69).toNatClampNeg (sy_i F 71)) := hd_up (hs 0 _ rfl) b69 b71 a33
  have b70 := hd_b (F := F) (F' := F') (k := 70) (hF 70 (by decide))
  have hB' : iv_in F' iv_B4 := iv_in_eq hB (fun j hj => hF j (Nat.lt_of_lt_of_le hj (by decide +kernel)))
  refine ⟨List.forall_mem_cons.mpr ⟨hd_pb b69 (by first | exact h0 | exact h0), fun _ h => absurd h List.not_mem_nil⟩, ?_⟩
  refine k _ ?_ ?_ ?_ ?_
  · exact fun j hj hn => (hd_keep hB' (Nat.lt_of_lt_of_le hj (by decide +kernel)) (by simp; omega)).trans (hF j (by omega))
  · exact hd_ga (a := .inr (.inl 72)) (by decide +kernel) t72
  · exact hd_gi (x := .inr (.inl 69)) (by decide +kernel) b69
  · exact hd_gi (x := .inr (.inl 70)) (by decide +kernel) b70
theorem tf_61_p0 {Ls : Nat} {xs : Nat → Int32} {d : Nat} {Q : Option Value → jm_h → Prop} (hd : 5 ≤ d) (F : Nat → sy_d) (X1 X2 : List jm_c) (hB : iv_in F iv_B4)
    (h0 : 0 ≤ (sy_i F 69).toInt ∧ (sy_i F 69).toInt < 14)
    (k : ∀ F1 : Nat → sy_d, (∀ j, j < 69 → j ≠ 34 → F1 j = F j) → F1 34 = .inr (.inl (jm_upd (sy_ai F 34) (sy_i F 69).toNatClampNeg (sy_i F 71))) → F1 69 = .inl (.int (sy_i F 70)) → hd_W Ls xs d jm_M158 Q (64, sy_dL F1 [some (.inl (.ref 1000)), none, none], sy_dS F1 [.inr (.inl 69), .inl (.ref 1000)], sy_dh F1 X1 X2 (iv_H 4), 0, 0)) :
    hd_W Ls xs d jm_M158 Q (61, sy_dL F [some (.inl (.ref 1000)), some (.inr (.inl 69)), some (.inr (.inl 70))], sy_dS F [.inr (.inl 71), .inr (.inl 69), .inl (.ref 1012)], sy_dh F X1 X2 (iv_H 4), 0, 0) := by
  refine hd_run (s := 4) (nv := 72) (pc := 64) (L := [some (.inl (.ref 1000)), none, none]) (S := [.inr (.inl 69), .inl (.ref 1000)]) (uh := hd_ov (iv_id 0 iv_B4) [(34, .inr (.inr (.inl 72)))]) (ul := [.inl (.inr (.inl 70))]) (f := false) (sp := [64]) (d0 := 4) (O := []) (T := [(40, [.inr (.inl 69), .inr (.inl 71)], [.inr (.inl 34)])]) (P := [(6, .inr (.inl 69), .inl (.ref 14))]) jm_ok158 (by decide +kernel) (by decide +kernel) hd F X1 X2 (fun F' hF hs => ?_)
  have b69 := hd_b (F := F) (F' := F') (k := 69) (hF 69 (by decide))
  have b71 := hd_b (F := F) (F' := F') (k := 71) (hF 71 (by decide))
  have a34 := hd_ba (F := F) (F' := F') (k := 34) (hF 34 (by decide))
  have t72 : sy_da F' (.inr (.inl 72)) = .inl (jm_upd (sy_ai F 34) (sy_i F 69).toNatClampNeg (sy_i F 71)) := hd_up (hs 0 _ rfl) b69 b71 a34
  have b70 := hd_b (F := F) (F' := F') (k := 70) (hF 70 (by decide))
  have hB' : iv_in F' iv_B4 := iv_in_eq hB (fun j hj => hF j (Nat.lt_of_lt_of_le hj (by decide +kernel)))
  refine ⟨List.forall_mem_cons.mpr ⟨hd_pb b69 (by first | exact h0 | exact h0), fun _ h => absurd h List.not_mem_nil⟩, ?_⟩
  refine k _ ?_ ?_ ?_
  · exact fun j hj hn => (hd_keep hB' (Nat.lt_of_lt_of_le hj (by decide +kernel)) (by simp; omega)).trans (hF j (by omega))
  · exact hd_ga (a := .inr (.inl 72)) (by decide +kernel) t72
  · exact hd_gi (x := .inr (.inl 70)) (by decide +kernel) b70
theorem tf_67_p0 {Ls : Nat} {xs : Nat → Int32} {d : Nat} {Q : Option Value → jm_h → Prop} (hd : 5 ≤ d) (F : Nat → sy_d) (X1 X2 : List jm_c) (hB : iv_in F iv_B4)
    (h0 : (sy_i F 6).toInt ≠ 0)
    (k : ∀ F1 : Nat → sy_d, (∀ j, j < 69 → True → F1 j = F j) → Q (none) (sy_dh F1 X1 X2 (iv_H 4))) :
    hd_W Ls xs d jm_M158 Q (67, sy_dL F [some (.inl (.ref 1000)), none, none], sy_dS F [], sy_dh F X1 X2 (iv_H 4), 0, 0) := by
  refine hd_ret (s := 4) (nv := 70) (v := none) (uh := hd_ov (iv_id 0 iv_B4) []) (f := false) (sp := []) (d0 := 4) (O := [true]) (T := []) (P := [(1, .inr (.inl 6), .inl (.int 0))]) jm_ok158 (by decide +kernel) (by decide +kernel) hd F X1 X2 (fun F' hF hs => ?_)
  have b6 := hd_b (F := F) (F' := F') (k := 6) (hF 6 (by decide))
  have hB' : iv_in F' iv_B4 := iv_in_eq hB (fun j hj => hF j (Nat.lt_of_lt_of_le hj (by decide +kernel)))
  refine ⟨List.forall_mem_cons.mpr ⟨hd_p1 b6 rfl (by have hc : ((0) : Int32).toInt = 0 := (by decide); omega), fun _ h => absurd h List.not_mem_nil⟩, ?_⟩
  refine k _ ?_
  · exact fun j hj _ => (hd_keep hB' (Nat.lt_of_lt_of_le hj (by decide +kernel)) (by simp)).trans (hF j (by omega))
theorem tf_67_p1 {Ls : Nat} {xs : Nat → Int32} {d : Nat} {Q : Option Value → jm_h → Prop} (hd : 5 ≤ d) (F : Nat → sy_d) (X1 X2 : List jm_c) (hB : iv_in F iv_B4)
    (h0 : (sy_i F 6).toInt = 0)
    (h1 : 0 ≤ (sy_i F 12).toInt ∧ (sy_i F 12).toInt < 2)
    (h2 : 0 ≤ (sy_i F 12).toInt ∧ (sy_i F 12).toInt < 2)
    (k : ∀ F1 : Nat → sy_d, (∀ j, j < 69 → j ≠ 31 → F1 j = F j) → F1 31 = .inr (.inl (jm_upd (sy_ai F 31) (sy_i F 12).toNatClampNeg (((sy_ai F 31).getD (sy_i F 12).toNatClampNeg 0) + ((1 : Int32))))) → Q (none) (sy_dh F1 X1 X2 (iv_H 4))) :
    hd_W Ls xs d jm_M158 Q (67, sy_dL F [some (.inl (.ref 1000)), none, none], sy_dS F [], sy_dh F X1 X2 (iv_H 4), 0, 0) := by
  refine hd_ret (s := 4) (nv := 70) (v := none) (uh := hd_ov (iv_id 0 iv_B4) [(31, .inr (.inr (.inl 72)))]) (f := false) (sp := []) (d0 := 4) (O := [false]) (T := [(30, [.inr (.inl 12)], [.inr (.inl 31)]), (0, [.inr (.inl 70), .inl (.int 1)], []), (40, [.inr (.inl 12), .inr (.inl 71)], [.inr (.inl 31)])]) (P := [(0, .inr (.inl 6), .inl (.int 0)), (6, .inr (.inl 12), .inl (.ref 2)), (6, .inr (.inl 12), .inl (.ref 2))]) jm_ok158 (by decide +kernel) (by decide +kernel) hd F X1 X2 (fun F' hF hs => ?_)
  have b6 := hd_b (F := F) (F' := F') (k := 6) (hF 6 (by decide))
  have b12 := hd_b (F := F) (F' := F') (k := 12) (hF 12 (by decide))
  have a31 := hd_ba (F := F) (F' := F') (k := 31) (hF 31 (by decide))
  have t70 : sy_dv F' (.inr (.inl 70)) = .int ((sy_ai F 31).getD (sy_i F 12).toNatClampNeg 0) := hd_rd (hs 0 _ rfl) b12 a31
  have t71 : sy_dv F' (.inr (.inl 71)) = .int (((sy_ai F 31).getD (sy_i F 12).toNatClampNeg 0) + ((1 : Int32))) := hd_o (hs 1 _ rfl) t70 rfl rfl
  have t72 : sy_da F' (.inr (.inl 72)) = .inl (jm_upd (sy_ai F 31) (sy_i F 12).toNatClampNeg (((sy_ai F 31).getD (sy_i F 12).toNatClampNeg 0) + ((1 : Int32)))) := hd_up (hs 2 _ rfl) b12 t71 a31
  have hB' : iv_in F' iv_B4 := iv_in_eq hB (fun j hj => hF j (Nat.lt_of_lt_of_le hj (by decide +kernel)))
  refine ⟨List.forall_mem_cons.mpr ⟨hd_p0 b6 rfl (by have hc : ((0) : Int32).toInt = 0 := (by decide); omega), List.forall_mem_cons.mpr ⟨hd_pb b12 (by first | exact h1 | exact h1), List.forall_mem_cons.mpr ⟨hd_pb b12 (by first | exact h2 | exact h2), fun _ h => absurd h List.not_mem_nil⟩⟩⟩, ?_⟩
  refine k _ ?_ ?_
  · exact fun j hj hn => (hd_keep hB' (Nat.lt_of_lt_of_le hj (by decide +kernel)) (by simp; omega)).trans (hF j (by omega))
  · exact hd_ga (a := .inr (.inl 72)) (by decide +kernel) t72
theorem tb_0_p0 {Ls : Nat} {xs : Nat → Int32} {d : Nat} {Q : Option Value → jm_h → Prop} (hd : 5 ≤ d) (F : Nat → sy_d) (X1 X2 : List jm_c) (hB : iv_in F iv_B4)
    (h0 : 0 ≤ (sy_i F 12).toInt ∧ (sy_i F 12).toInt < 2)
    (k : ∀ F1 : Nat → sy_d, (∀ j, j < 69 → True → F1 j = F j) → F1 69 = .inl (.int ((((4 : Int32)) * (sy_i F 12)) + ((sy_ai F 35).getD (sy_i F 12).toNatClampNeg 0))) → hd_W Ls xs d jm_M159 Q (18, sy_dL F1 [some (.inl (.ref 1000)), some (.inr (.inl 69)), none], sy_dS F1 [.inl (.ref 1000)], sy_dh F1 X1 X2 (iv_H 4), 0, 0)) :
    hd_W Ls xs d jm_M159 Q (0, sy_dL F [some (.inl (.ref 1000)), none, none], sy_dS F [], sy_dh F X1 X2 (iv_H 4), 0, 0) := by
  refine hd_run (s := 4) (nv := 69) (pc := 18) (L := [some (.inl (.ref 1000)), some (.inr (.inl 69)), none]) (S := [.inl (.ref 1000)]) (uh := hd_ov (iv_id 0 iv_B4) []) (ul := [.inl (.inr (.inl 71))]) (f := true) (sp := [18]) (d0 := 4) (O := []) (T := [(2, [.inl (.int 4), .inr (.inl 12)], []), (30, [.inr (.inl 12)], [.inr (.inl 35)]), (0, [.inr (.inl 69), .inr (.inl 70)], [])]) (P := [(6, .inr (.inl 12), .inl (.ref 2))]) jm_ok159 (by decide +kernel) (by decide +kernel) hd F X1 X2 (fun F' hF hs => ?_)
  have b12 := hd_b (F := F) (F' := F') (k := 12) (hF 12 (by decide))
  have t69 : sy_dv F' (.inr (.inl 69)) = .int (((4 : Int32)) * (sy_i F 12)) := hd_o (hs 0 _ rfl) rfl b12 rfl
  have a35 := hd_ba (F := F) (F' := F') (k := 35) (hF 35 (by decide))
  have t70 : sy_dv F' (.inr (.inl 70)) = .int ((sy_ai F 35).getD (sy_i F 12).toNatClampNeg 0) := hd_rd (hs 1 _ rfl) b12 a35
  have t71 : sy_dv F' (.inr (.inl 71)) = .int ((((4 : Int32)) * (sy_i F 12)) + ((sy_ai F 35).getD (sy_i F 12).toNatClampNeg 0)) := hd_o (hs 2 _ rfl) t69 t70 rfl
  have hB' : iv_in F' iv_B4 := iv_in_eq hB (fun j hj => hF j (Nat.lt_of_lt_of_le hj (by decide +kernel)))
  refine ⟨List.forall_mem_cons.mpr ⟨hd_pb b12 (by first | exact h0 | exact h0), fun _ h => absurd h List.not_mem_nil⟩, ?_⟩
  refine k _ ?_ ?_
  · exact fun j hj _ => (hd_keep hB' (Nat.lt_of_lt_of_le hj (by decide +kernel)) (by simp)).trans (hF j (by omega))
  · exact hd_gi (x := .inr (.inl 71)) (by decide +kernel) t71
theorem tb_21_p0 {Ls : Nat} {xs : Nat → Int32} {d : Nat} {Q : Option Value → jm_h → Prop} (hd : 5 ≤ d) (F : Nat → sy_d) (X1 X2 : List jm_c) (hB : iv_in F iv_B4)
    (k : ∀ F1 : Nat → sy_d, (∀ j, j < 69 → True → F1 j = F j) → F1 69 = .inl (.int (sy_i F 69)) → F1 70 = .inl (.int (sy_i F 70)) → hd_W Ls xs d jm_M159 Q (31, sy_dL F1 [some (.inl (.ref 1000)), some (.inr (.inl 69)), some (.inr (.inl 70))], sy_dS F1 [.inl (.int 9), .inl (.int 0), .inl (.ref 1000), .inr (.inl 69), .inl (.ref 1014)], sy_dh F1 X1 X2 (iv_H 4), 0, 0)) :
    hd_W Ls xs d jm_M159 Q (21, sy_dL F [some (.inl (.ref 1000)), some (.inr (.inl 69)), none], sy_dS F [.inr (.inl 70)], sy_dh F X1 X2 (iv_H 4), 0, 0) := by
  refine hd_run (s := 4) (nv := 71) (pc := 31) (L := [some (.inl (.ref 1000)), some (.inr (.inl 69)), some (.inr (.inl 70))]) (S := [.inl (.int 9), .inl (.int 0), .inl (.ref 1000), .inr (.inl 69), .inl (.ref 1014)]) (uh := hd_ov (iv_id 0 iv_B4) []) (ul := [.inl (.inr (.inl 69)), .inl (.inr (.inl 70))]) (f := false) (sp := [31]) (d0 := 4) (O := []) (T := []) (P := []) jm_ok159 (by decide +kernel) (by decide +kernel) hd F X1 X2 (fun F' hF hs => ?_)
  have b69 := hd_b (F := F) (F' := F') (k := 69) (hF 69 (by decide))
  have b70 := hd_b (F := F) (F' := F') (k := 70) (hF 70 (by decide))
  have hB' : iv_in F' iv_B4 := iv_in_eq hB (fun j hj => hF j (Nat.lt_of_lt_of_le hj (by decide +kernel)))
  refine ⟨fun _ h => absurd h List.not_mem_nil, ?_⟩
  refine k _ ?_ ?_ ?_
  · exact fun j hj _ => (hd_keep hB' (Nat.lt_of_lt_of_le hj (by decide +kernel)) (by simp)).trans (hF j (by omega))
  · exact hd_gi (x := .inr (.inl 69)) (by decide +kernel) b69
  · exact hd_gi (x := .inr (.inl 70)) (by decide +kernel) b70
theorem tb_34_p0 {Ls : Nat} {xs : Nat → Int32} {d : Nat} {Q : Option Value → jm_h → Prop} (hd : 5 ≤ d) (F : Nat → sy_d) (X1 X2 : List jm_c) (hB : iv_in F iv_B4)
    (h0 : 0 ≤ (sy_i F 69).toInt ∧ (sy_i F 69).toInt < 8)
    (k : ∀ F1 : Nat → sy_d, (∀ j, j < 69 → j ≠ 36 → F1 j = F j) → F1 36 = .inr (.inl (jm_upd (sy_ai F 36) (sy_i F 69).toNatClampNeg (sy_i F 71))) → F1 69 = .inl (.int (sy_i F 69)) → F1 70 = .inl (.int (sy_i F 70)) → hd_W Ls xs d jm_M159 Q (43, sy_dL F1 [some (.inl (.ref 1000)), some (.inr (.inl 69)), some (.inr (.inl 70))], sy_dS F1 [.inl (.int 3), .inl (.int 0), .inl (.ref 1000), .inr (.inl 69), .inl (.ref 1015)], sy_dh F1 X1 X2 (iv_H 4), 0, 0)) :
    hd_W Ls xs d jm_M159 Q (34, sy_dL F [some (.inl (.ref 1000)), some (.inr (.inl 69)), some (.inr (.inl 70))], sy_dS F [.inr (.inl 71), .inr (.inl 69), .inl (.ref 1014)], sy_dh F X1 X2 (iv_H 4), 0, 0) := by
  refine hd_run (s := 4) (nv := 72) (pc := 43) (L := [some (.inl (.ref 1000)), some (.inr (.inl 69)), some (.inr (.inl 70))]) (S := [.inl (.int 3), .inl (.int 0), .inl (.ref 1000), .inr (.inl 69), .inl (.ref 1015)]) (uh := hd_ov (iv_id 0 iv_B4) [(36, .inr (.inr (.inl 72)))]) (ul := [.inl (.inr (.inl 69)), .inl (.inr (.inl 70))]) (f := false) (sp := [43]) (d0 := 4) (O := []) (T := [(40, [.inr (.inl 69), .inr (.inl 71)], [.inr (.inl 36)])]) (P := [(6, .inr (.inl 69), .inl (.ref 8))]) jm_ok159 (by decide +kernel) (by decide +kernel) hd F X1 X2 (fun F' hF hs => ?_)
  have b69 := hd_b (F := F) (F' := F') (k := 69) (hF 69 (by decide))
  have b71 := hd_b (F := F) (F' := F') (k := 71) (hF 71 (by decide))
  have a36 := hd_ba (F := F) (F' := F') (k := 36) (hF 36 (by decide))
  have t72 : sy_da F' (.inr (.inl 72)) = .inl (jm_upd (sy_ai F 36) (sy_i F 69).toNatClampNeg (sy_i F 71)) := hd_up (hs 0 _ rfl) b69 b71 a36
  have b70 := hd_b (F := F) (F' := F') (k := 70) (hF 70 (by decide))
  have hB' : iv_in F' iv_B4 := iv_in_eq hB (fun j hj => hF j (Nat.lt_of_lt_of_le hj (by decide +kernel)))
  refine ⟨List.forall_mem_cons.mpr ⟨hd_pb b69 (by first | exact h0 | exact h0), fun _ h => absurd h List.not_mem_nil⟩, ?_⟩
  refine k _ ?_ ?_ ?_ ?_
  · exact fun j hj hn => (hd_keep hB' (Nat.lt_of_lt_of_le hj (by decide +kernel)) (by simp; omega)).trans (hF j (by omega))
  · exact hd_ga (a := .inr (.inl 72)) (by decide +kernel) t72
  · exact hd_gi (x := .inr (.inl 69)) (by decide +kernel) b69
  · exact hd_gi (x := .inr (.inl 70)) (by decide +kernel) b70
theorem tb_46_p0 {Ls : Nat} {xs : Nat → Int32} {d : Nat} {Q : Option Value → jm_h → Prop} (hd : 5 ≤ d) (F : Nat → sy_d) (X1 X2 : List jm_c) (hB : iv_in F iv_B4)
    (h0 : 0 ≤ (sy_i F 69).toInt ∧ (sy_i F 69).toInt < 8)
    (k : ∀ F1 : Nat → sy_d, (∀ j, j < 69 → j ≠ 37 → F1 j = F j) → F1 37 = .inr (.inl (jm_upd (sy_ai F 37) (sy_i F 69).toNatClampNeg (sy_i F 71))) → F1 69 = .inl (.int (sy_i F 69)) → F1 70 = .inl (.int (sy_i F 70)) → hd_W Ls xs d jm_M159 Q (57, sy_dL F1 [some (.inl (.ref 1000)), some (.inr (.inl 69)), some (.inr (.inl 70))], sy_dS F1 [.inl (.int 999), .inl (.int 0), .inl (.ref 1000), .inr (.inl 69), .inl (.ref 1016)], sy_dh F1 X1 X2 (iv_H 4), 0, 0)) :
    hd_W Ls xs d jm_M159 Q (46, sy_dL F [some (.inl (.ref 1000)), some (.inr (.inl 69)), some (.inr (.inl 70))], sy_dS F [.inr (.inl 71), .inr (.inl 69), .inl (.ref 1015)], sy_dh F X1 X2 (iv_H 4), 0, 0) := by
  refine hd_run (s := 4) (nv := 72) (pc := 57) (L := [some (.inl (.ref 1000)), some (.inr (.inl 69)), some (.inr (.inl 70))]) (S := [.inl (.int 999), .inl (.int 0), .inl (.ref 1000), .inr (.inl 69), .inl (.ref 1016)]) (uh := hd_ov (iv_id 0 iv_B4) [(37, .inr (.inr (.inl 72)))]) (ul := [.inl (.inr (.inl 69)), .inl (.inr (.inl 70))]) (f := false) (sp := [57]) (d0 := 4) (O := []) (T := [(40, [.inr (.inl 69), .inr (.inl 71)], [.inr (.inl 37)])]) (P := [(6, .inr (.inl 69), .inl (.ref 8))]) jm_ok159 (by decide +kernel) (by decide +kernel) hd F X1 X2 (fun F' hF hs => ?_)
  have b69 := hd_b (F := F) (F' := F') (k := 69) (hF 69 (by decide))
  have b71 := hd_b (F := F) (F' := F') (k := 71) (hF 71 (by decide))
  have a37 := hd_ba (F := F) (F' := F') (k := 37) (hF 37 (by decide))
  have t72 : sy_da F' (.inr (.inl 72)) = .inl (jm_upd (sy_ai F 37) (sy_i F 69).toNatClampNeg (sy_i F 71)) := hd_up (hs 0 _ rfl) b69 b71 a37
  have b70 := hd_b (F := F) (F' := F') (k := 70) (hF 70 (by decide))
  have hB' : iv_in F' iv_B4 := iv_in_eq hB (fun j hj => hF j (Nat.lt_of_lt_of_le hj (by decide +kernel)))
  refine ⟨List.forall_mem_cons.mpr ⟨hd_pb b69 (by first | exact h0 | exact h0), fun _ h => absurd h List.not_mem_nil⟩, ?_⟩
  refine k _ ?_ ?_ ?_ ?_
  · exact fun j hj hn => (hd_keep hB' (Nat.lt_of_lt_of_le hj (by decide +kernel)) (by simp; omega)).trans (hF j (by omega))
  · exact hd_ga (a := .inr (.inl 72)) (by decide +kernel) t72
  · exact hd_gi (x := .inr (.inl 69)) (by decide +kernel) b69
  · exact hd_gi (x := .inr (.inl 70)) (by decide +kernel) b70
theorem tb_60_p0 {Ls : Nat} {xs : Nat → Int32} {d : Nat} {Q : Option Value → jm_h → Prop} (hd : 5 ≤ d) (F : Nat → sy_d) (X1 X2 : List jm_c) (hB : iv_in F iv_B4)
    (h0 : 0 ≤ (sy_i F 69).toInt ∧ (sy_i F 69).toInt < 8)
    (k : ∀ F1 : Nat → sy_d, (∀ j, j < 69 → j ≠ 38 → F1 j = F j) → F1 38 = .inr (.inl (jm_upd (sy_ai F 38) (sy_i F 69).toNatClampNeg (sy_i F 71))) → F1 69 = .inl (.int (sy_i F 70)) → hd_W Ls xs d jm_M159 Q (63, sy_dL F1 [some (.inl (.ref 1000)), none, none], sy_dS F1 [.inr (.inl 69), .inl (.ref 1000)], sy_dh F1 X1 X2 (iv_H 4), 0, 0)) :
    hd_W Ls xs d jm_M159 Q (60, sy_dL F [some (.inl (.ref 1000)), some (.inr (.inl 69)), some (.inr (.inl 70))], sy_dS F [.inr (.inl 71), .inr (.inl 69), .inl (.ref 1016)], sy_dh F X1 X2 (iv_H 4), 0, 0) := by
  refine hd_run (s := 4) (nv := 72) (pc := 63) (L := [some (.inl (.ref 1000)), none, none]) (S := [.inr (.inl 69), .inl (.ref 1000)]) (uh := hd_ov (iv_id 0 iv_B4) [(38, .inr (.inr (.inl 72)))]) (ul := [.inl (.inr (.inl 70))]) (f := false) (sp := [63]) (d0 := 4) (O := []) (T := [(40, [.inr (.inl 69), .inr (.inl 71)], [.inr (.inl 38)])]) (P := [(6, .inr (.inl 69), .inl (.ref 8))]) jm_ok159 (by decide +kernel) (by decide +kernel) hd F X1 X2 (fun F' hF hs => ?_)
  have b69 := hd_b (F := F) (F' := F') (k := 69) (hF 69 (by decide))
  have b71 := hd_b (F := F) (F' := F') (k := 71) (hF 71 (by decide))
  have a38 := hd_ba (F := F) (F' := F') (k := 38) (hF 38 (by decide))
  have t72 : sy_da F' (.inr (.inl 72)) = .inl (jm_upd (sy_ai F 38) (sy_i F 69).toNatClampNeg (sy_i F 71)) := hd_up (hs 0 _ rfl) b69 b71 a38
  have b70 := hd_b (F := F) (F' := F') (k := 70) (hF 70 (by decide))
  have hB' : iv_in F' iv_B4 := iv_in_eq hB (fun j hj => hF j (Nat.lt_of_lt_of_le hj (by decide +kernel)))
  refine ⟨List.forall_mem_cons.mpr ⟨hd_pb b69 (by first | exact h0 | exact h0), fun _ h => absurd h List.not_mem_nil⟩, ?_⟩
  refine k _ ?_ ?_ ?_
  · exact fun j hj hn => (hd_keep hB' (Nat.lt_of_lt_of_le hj (by decide +kernel)) (by simp; omega)).trans (hF j (by omega))
  · exact hd_ga (a := .inr (.inl 72)) (by decide +kernel) t72
  · exact hd_gi (x := .inr (.inl 70)) (by decide +kernel) b70
theorem tb_66_p0 {Ls : Nat} {xs : Nat → Int32} {d : Nat} {Q : Option Value → jm_h → Prop} (hd : 5 ≤ d) (F : Nat → sy_d) (X1 X2 : List jm_c) (hB : iv_in F iv_B4)
    (h0 : (sy_i F 6).toInt ≠ 0)
    (k : ∀ F1 : Nat → sy_d, (∀ j, j < 69 → True → F1 j = F j) → Q (none) (sy_dh F1 X1 X2 (iv_H 4))) :
    hd_W Ls xs d jm_M159 Q (66, sy_dL F [some (.inl (.ref 1000)), none, none], sy_dS F [], sy_dh F X1 X2 (iv_H 4), 0, 0) := by
  refine hd_ret (s := 4) (nv := 70) (v := none) (uh := hd_ov (iv_id 0 iv_B4) []) (f := false) (sp := []) (d0 := 4) (O := [true]) (T := []) (P := [(1, .inr (.inl 6), .inl (.int 0))]) jm_ok159 (by decide +kernel) (by decide +kernel) hd F X1 X2 (fun F' hF hs => ?_)
  have b6 := hd_b (F := F) (F' := F') (k := 6) (hF 6 (by decide))
  have hB' : iv_in F' iv_B4 := iv_in_eq hB (fun j hj => hF j (Nat.lt_of_lt_of_le hj (by decide +kernel)))
  refine ⟨List.forall_mem_cons.mpr ⟨hd_p1 b6 rfl (by have hc : ((0) : Int32).toInt = 0 := (by decide); omega), fun _ h => absurd h List.not_mem_nil⟩, ?_⟩
  refine k _ ?_
  · exact fun j hj _ => (hd_keep hB' (Nat.lt_of_lt_of_le hj (by decide +kernel)) (by simp)).trans (hF j (by omega))
theorem tb_66_p1 {Ls : Nat} {xs : Nat → Int32} {d : Nat} {Q : Option Value → jm_h → Prop} (hd : 5 ≤ d) (F : Nat → sy_d) (X1 X2 : List jm_c) (hB : iv_in F iv_B4)
    (h0 : (sy_i F 6).toInt = 0)
    (h1 : 0 ≤ (sy_i F 12).toInt ∧ (sy_i F 12).toInt < 2)
    (h2 : 0 ≤ (sy_i F 12).toInt ∧ (sy_i F 12).toInt < 2)
    (k : ∀ F1 : Nat → sy_d, (∀ j, j < 69 → j ≠ 35 → F1 j = F j) → F1 35 = .inr (.inl (jm_upd (sy_ai F 35) (sy_i F 12).toNatClampNeg (((sy_ai F 35).getD (sy_i F 12).toNatClampNeg 0) + ((1 : Int32))))) → Q (none) (sy_dh F1 X1 X2 (iv_H 4))) :
    hd_W Ls xs d jm_M159 Q (66, sy_dL F [some (.inl (.ref 1000)), none, none], sy_dS F [], sy_dh F X1 X2 (iv_H 4), 0, 0) := by
  refine hd_ret (s := 4) (nv := 70) (v := none) (uh := hd_ov (iv_id 0 iv_B4) [(35, .inr (.inr (.inl 72)))]) (f := false) (sp := []) (d0 := 4) (O := [false]) (T := [(30, [.inr (.inl 12)], [.inr (.inl 35)]), (0, [.inr (.inl 70), .inl (.int 1)], []), (40, [.inr (.inl 12), .inr (.inl 71)], [.inr (.inl 35)])]) (P := [(0, .inr (.inl 6), .inl (.int 0)), (6, .inr (.inl 12), .inl (.ref 2)), (6, .inr (.inl 12), .inl (.ref 2))]) jm_ok159 (by decide +kernel) (by decide +kernel) hd F X1 X2 (fun F' hF hs => ?_)
  have b6 := hd_b (F := F) (F' := F') (k := 6) (hF 6 (by decide))
  have b12 := hd_b (F := F) (F' := F') (k := 12) (hF 12 (by decide))
  have a35 := hd_ba (F := F) (F' := F') (k := 35) (hF 35 (by decide))
  have t70 : sy_dv F' (.inr (.inl 70)) = .int ((sy_ai F 35).getD (sy_i F 12).toNatClampNeg 0) := hd_rd (hs 0 _ rfl) b12 a35
  have t71 : sy_dv F' (.inr (.inl 71)) = .int (((sy_ai F 35).getD (sy_i F 12).toNatClampNeg 0) + ((1 : Int32))) := hd_o (hs 1 _ rfl) t70 rfl rfl
  have t72 : sy_da F' (.inr (.inl 72)) = .inl (jm_upd (sy_ai F 35) (sy_i F 12).toNatClampNeg (((sy_ai F 35).getD (sy_i F 12).toNatClampNeg 0) + ((1 : Int32)))) := hd_up (hs 2 _ rfl) b12 t71 a35
  have hB' : iv_in F' iv_B4 := iv_in_eq hB (fun j hj => hF j (Nat.lt_of_lt_of_le hj (by decide +kernel)))
  refine ⟨List.forall_mem_cons.mpr ⟨hd_p0 b6 rfl (by have hc : ((0) : Int32).toInt = 0 := (by decide); omega), List.forall_mem_cons.mpr ⟨hd_pb b12 (by first | exact h1 | exact h1), List.forall_mem_cons.mpr ⟨hd_pb b12 (by first | exact h2 | exact h2), fun _ h => absurd h List.not_mem_nil⟩⟩⟩, ?_⟩
  refine k _ ?_ ?_
  · exact fun j hj hn => (hd_keep hB' (Nat.lt_of_lt_of_le hj (by decide +kernel)) (by simp; omega)).trans (hF j (by omega))
  · exact hd_ga (a := .inr (.inl 72)) (by decide +kernel) t72
