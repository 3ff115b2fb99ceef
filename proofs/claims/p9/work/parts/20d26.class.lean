/-! ===== the class parses laws, way by way (shape 3) ===== -/
theorem k3pi_0_p0 {Ls : Nat} {xs : Nat → Int32} {d : Nat} {Q : Option Value → jm_h → Prop} (hd : 4 ≤ d) (F : Nat → sy_d) (X1 X2 : List jm_c) (hB : iv_in F iv_B0)
    (k : ∀ F1 : Nat → sy_d, (∀ j, j < 82 → True → F1 j = F j) → F1 82 = .inl (.int (sy_i F 82)) → hd_W Ls xs d jm_M37 Q (3, sy_dL F1 [some (.inl (.ref 30)), some (.inr (.inl 82)), none, none], sy_dS F1 [.inl (.int 11), .inl (.ref 30)], sy_dh F1 X1 X2 (iv_H 3), 0, 0)) :
    hd_W Ls xs d jm_M37 Q (0, sy_dL F [some (.inl (.ref 30)), some (.inr (.inl 82)), none, none], sy_dS F [], sy_dh F X1 X2 (iv_H 3), 0, 0) := by
  refine hd_run (s := 3) (nv := 83) (pc := 3) (L := [some (.inl (.ref 30)), some (.inr (.inl 82)), none, none]) (S := [.inl (.int 11), .inl (.ref 30)]) (uh := hd_ov (iv_id 0 iv_B0) []) (ul := [.inl (.inr (.inl 82))]) (f := true) (sp := [3]) (d0 := 3) (O := []) (T := []) (P := []) jm_ok37 (by decide +kernel) (by decide +kernel) hd F X1 X2 (fun F' hF hs => ?_)
  have b82 := hd_b (F := F) (F' := F') (k := 82) (hF 82 (by decide))
  have hB' : iv_in F' iv_B0 := iv_in_eq hB (fun j hj => hF j (Nat.lt_of_lt_of_le hj (by decide +kernel)))
  refine ⟨fun _ h => absurd h List.not_mem_nil, ?_⟩
  refine k _ ?_ ?_
  · exact fun j hj _ => (hd_keep hB' (Nat.lt_of_lt_of_le hj (by decide +kernel)) (by simp)).trans (hF j (by omega))
  · exact hd_gi (x := .inr (.inl 82)) (by decide +kernel) b82
theorem k3pi_6_p0 {Ls : Nat} {xs : Nat → Int32} {d : Nat} {Q : Option Value → jm_h → Prop} (hd : 4 ≤ d) (F : Nat → sy_d) (X1 X2 : List jm_c) (hB : iv_in F iv_B0)
    (h0 : (sy_i F 83).toInt = 0)
    (k : ∀ F1 : Nat → sy_d, (∀ j, j < 82 → True → F1 j = F j) → Q (some (.int ((0 : Int32)))) (sy_dh F1 X1 X2 (iv_H 3))) :
    hd_W Ls xs d jm_M37 Q (6, sy_dL F [some (.inl (.ref 30)), some (.inr (.inl 82)), none, none], sy_dS F [.inr (.inl 83)], sy_dh F X1 X2 (iv_H 3), 0, 0) := by
  refine hd_ret (s := 3) (nv := 84) (v := some (.inl (.int 0))) (uh := hd_ov (iv_id 0 iv_B0) []) (f := false) (sp := [12]) (d0 := 3) (O := [true]) (T := []) (P := [(0, .inr (.inl 83), .inl (.int 0))]) jm_ok37 (by decide +kernel) (by decide +kernel) hd F X1 X2 (fun F' hF hs => ?_)
  have b83 := hd_b (F := F) (F' := F') (k := 83) (hF 83 (by decide))
  have hB' : iv_in F' iv_B0 := iv_in_eq hB (fun j hj => hF j (Nat.lt_of_lt_of_le hj (by decide +kernel)))
  refine ⟨List.forall_mem_cons.mpr ⟨hd_p0 b83 rfl (by have hc : ((0) : Int32).toInt = 0 := (by decide); omega), fun _ h => absurd h List.not_mem_nil⟩, ?_⟩
  refine k _ ?_
  · exact fun j hj _ => (hd_keep hB' (Nat.lt_of_lt_of_le hj (by decide +kernel)) (by simp)).trans (hF j (by omega))
theorem k3pi_6_p1 {Ls : Nat} {xs : Nat → Int32} {d : Nat} {Q : Option Value → jm_h → Prop} (hd : 4 ≤ d) (F : Nat → sy_d) (X1 X2 : List jm_c) (hB : iv_in F iv_B0)
    (h0 : (sy_i F 83).toInt ≠ 0)
    (k : ∀ F1 : Nat → sy_d, (∀ j, j < 82 → True → F1 j = F j) → F1 82 = .inl (.int (sy_i F 82)) → hd_W Ls xs d jm_M37 Q (12, sy_dL F1 [some (.inl (.ref 30)), some (.inr (.inl 82)), none, none], sy_dS F1 [.inl (.int 0), .inr (.inl 82), .inl (.ref 30)], sy_dh F1 X1 X2 (iv_H 3), 0, 0)) :
    hd_W Ls xs d jm_M37 Q (6, sy_dL F [some (.inl (.ref 30)), some (.inr (.inl 82)), none, none], sy_dS F [.inr (.inl 83)], sy_dh F X1 X2 (iv_H 3), 0, 0) := by
  refine hd_run (s := 3) (nv := 84) (pc := 12) (L := [some (.inl (.ref 30)), some (.inr (.inl 82)), none, none]) (S := [.inl (.int 0), .inr (.inl 82), .inl (.ref 30)]) (uh := hd_ov (iv_id 0 iv_B0) []) (ul := [.inl (.inr (.inl 82))]) (f := false) (sp := [12]) (d0 := 3) (O := [false]) (T := []) (P := [(1, .inr (.inl 83), .inl (.int 0))]) jm_ok37 (by decide +kernel) (by decide +kernel) hd F X1 X2 (fun F' hF hs => ?_)
  have b83 := hd_b (F := F) (F' := F') (k := 83) (hF 83 (by decide))
  have b82 := hd_b (F := F) (F' := F') (k := 82) (hF 82 (by decide))
  have hB' : iv_in F' iv_B0 := iv_in_eq hB (fun j hj => hF j (Nat.lt_of_lt_of_le hj (by decide +kernel)))
  refine ⟨List.forall_mem_cons.mpr ⟨hd_p1 b83 rfl (by have hc : ((0) : Int32).toInt = 0 := (by decide); omega), fun _ h => absurd h List.not_mem_nil⟩, ?_⟩
  refine k _ ?_ ?_
  · exact fun j hj _ => (hd_keep hB' (Nat.lt_of_lt_of_le hj (by decide +kernel)) (by simp)).trans (hF j (by omega))
  · exact hd_gi (x := .inr (.inl 82)) (by decide +kernel) b82
theorem k3pi_15_p0 {Ls : Nat} {xs : Nat → Int32} {d : Nat} {Q : Option Value → jm_h → Prop} (hd : 4 ≤ d) (F : Nat → sy_d) (X1 X2 : List jm_c) (hB : iv_in F iv_B0)
    (h0 : (sy_i F 83).toInt = 0)
    (k : ∀ F1 : Nat → sy_d, (∀ j, j < 82 → True → F1 j = F j) → Q (some (.int ((0 : Int32)))) (sy_dh F1 X1 X2 (iv_H 3))) :
    hd_W Ls xs d jm_M37 Q (15, sy_dL F [some (.inl (.ref 30)), some (.inr (.inl 82)), none, none], sy_dS F [.inr (.inl 83)], sy_dh F X1 X2 (iv_H 3), 0, 0) := by
  refine hd_ret (s := 3) (nv := 84) (v := some (.inl (.int 0))) (uh := hd_ov (iv_id 0 iv_B0) []) (f := false) (sp := [21]) (d0 := 3) (O := [true]) (T := []) (P := [(0, .inr (.inl 83), .inl (.int 0))]) jm_ok37 (by decide +kernel) (by decide +kernel) hd F X1 X2 (fun F' hF hs => ?_)
  have b83 := hd_b (F := F) (F' := F') (k := 83) (hF 83 (by decide))
  have hB' : iv_in F' iv_B0 := iv_in_eq hB (fun j hj => hF j (Nat.lt_of_lt_of_le hj (by decide +kernel)))
  refine ⟨List.forall_mem_cons.mpr ⟨hd_p0 b83 rfl (by have hc : ((0) : Int32).toInt = 0 := (by decide); omega), fun _ h => absurd h List.not_mem_nil⟩, ?_⟩
  refine k _ ?_
  · exact fun j hj _ => (hd_keep hB' (Nat.lt_of_lt_of_le hj (by decide +kernel)) (by simp)).trans (hF j (by omega))
theorem k3pi_15_p1 {Ls : Nat} {xs : Nat → Int32} {d : Nat} {Q : Option Value → jm_h → Prop} (hd : 4 ≤ d) (F : Nat → sy_d) (X1 X2 : List jm_c) (hB : iv_in F iv_B0)
    (h0 : (sy_i F 83).toInt ≠ 0)
    (k : ∀ F1 : Nat → sy_d, (∀ j, j < 82 → True → F1 j = F j) → F1 82 = .inl (.int (sy_i F 82)) → hd_W Ls xs d jm_M37 Q (21, sy_dL F1 [some (.inl (.ref 30)), some (.inr (.inl 82)), none, none], sy_dS F1 [.inl (.int 60), .inl (.ref 30)], sy_dh F1 X1 X2 (iv_H 3), 0, 0)) :
    hd_W Ls xs d jm_M37 Q (15, sy_dL F [some (.inl (.ref 30)), some (.inr (.inl 82)), none, none], sy_dS F [.inr (.inl 83)], sy_dh F X1 X2 (iv_H 3), 0, 0) := by
  refine hd_run (s := 3) (nv := 84) (pc := 21) (L := [some (.inl (.ref 30)), some (.inr (.inl 82)), none, none]) (S := [.inl (.int 60), .inl (.ref 30)]) (uh := hd_ov (iv_id 0 iv_B0) []) (ul := [.inl (.inr (.inl 82))]) (f := false) (sp := [21]) (d0 := 3) (O := [false]) (T := []) (P := [(1, .inr (.inl 83), .inl (.int 0))]) jm_ok37 (by decide +kernel) (by decide +kernel) hd F X1 X2 (fun F' hF hs => ?_)
  have b83 := hd_b (F := F) (F' := F') (k := 83) (hF 83 (by decide))
  have b82 := hd_b (F := F) (F' := F') (k := 82) (hF 82 (by decide))
  have hB' : iv_in F' iv_B0 := iv_in_eq hB (fun j hj => hF j (Nat.lt_of_lt_of_le hj (by decide +kernel)))
  refine ⟨List.forall_mem_cons.mpr ⟨hd_p1 b83 rfl (by have hc : ((0) : Int32).toInt = 0 := (by decide); omega), fun _ h => absurd h List.not_mem_nil⟩, ?_⟩
  refine k _ ?_ ?_
  · exact fun j hj _ => (hd_keep hB' (Nat.lt_of_lt_of_le hj (by decide +kernel)) (by simp)).trans (hF j (by omega))
  · exact hd_gi (x := .inr (.inl 82)) (by decide +kernel) b82
theorem k3pi_24_p0 {Ls : Nat} {xs : Nat → Int32} {d : Nat} {Q : Option Value → jm_h → Prop} (hd : 4 ≤ d) (F : Nat → sy_d) (X1 X2 : List jm_c) (hB : iv_in F iv_B0)
    (h0 : (sy_i F 83).toInt = 0)
    (k : ∀ F1 : Nat → sy_d, (∀ j, j < 82 → True → F1 j = F j) → Q (some (.int ((0 : Int32)))) (sy_dh F1 X1 X2 (iv_H 3))) :
    hd_W Ls xs d jm_M37 Q (24, sy_dL F [some (.inl (.ref 30)), some (.inr (.inl 82)), none, none], sy_dS F [.inr (.inl 83)], sy_dh F X1 X2 (iv_H 3), 0, 0) := by
  refine hd_ret (s := 3) (nv := 84) (v := some (.inl (.int 0))) (uh := hd_ov (iv_id 0 iv_B0) []) (f := false) (sp := [30]) (d0 := 3) (O := [true]) (T := []) (P := [(0, .inr (.inl 83), .inl (.int 0))]) jm_ok37 (by decide +kernel) (by decide +kernel) hd F X1 X2 (fun F' hF hs => ?_)
  have b83 := hd_b (F := F) (F' := F') (k := 83) (hF 83 (by decide))
  have hB' : iv_in F' iv_B0 := iv_in_eq hB (fun j hj => hF j (Nat.lt_of_lt_of_le hj (by decide +kernel)))
  refine ⟨List.forall_mem_cons.mpr ⟨hd_p0 b83 rfl (by have hc : ((0) : Int32).toInt = 0 := (by decide); omega), fun _ h => absurd h List.not_mem_nil⟩, ?_⟩
  refine k _ ?_
  · exact fun j hj _ => (hd_keep hB' (Nat.lt_of_lt_of_le hj (by decide +kernel)) (by simp)).trans (hF j (by omega))
theorem k3pi_24_p1 {Ls : Nat} {xs : Nat → Int32} {d : Nat} {Q : Option Value → jm_h → Prop} (hd : 4 ≤ d) (F : Nat → sy_d) (X1 X2 : List jm_c) (hB : iv_in F iv_B0)
    (h0 : (sy_i F 83).toInt ≠ 0)
    (k : ∀ F1 : Nat → sy_d, (∀ j, j < 82 → True → F1 j = F j) → F1 82 = .inl (.int (sy_i F 82)) → hd_W Ls xs d jm_M37 Q (30, sy_dL F1 [some (.inl (.ref 30)), some (.inr (.inl 82)), none, none], sy_dS F1 [.inl (.int 0), .inr (.inl 82), .inl (.ref 30)], sy_dh F1 X1 X2 (iv_H 3), 0, 0)) :
    hd_W Ls xs d jm_M37 Q (24, sy_dL F [some (.inl (.ref 30)), some (.inr (.inl 82)), none, none], sy_dS F [.inr (.inl 83)], sy_dh F X1 X2 (iv_H 3), 0, 0) := by
  refine hd_run (s := 3) (nv := 84) (pc := 30) (L := [some (.inl (.ref 30)), some (.inr (.inl 82)), none, none]) (S := [.inl (.int 0), .inr (.inl 82), .inl (.ref 30)]) (uh := hd_ov (iv_id 0 iv_B0) []) (ul := [.inl (.inr (.inl 82))]) (f := false) (sp := [30]) (d0 := 3) (O := [false]) (T := []) (P := [(1, .inr (.inl 83), .inl (.int 0))]) jm_ok37 (by decide +kernel) (by decide +kernel) hd F X1 X2 (fun F' hF hs => ?_)
  have b83 := hd_b (F := F) (F' := F') (k := 83) (hF 83 (by decide))
  have b82 := hd_b (F := F) (F' := F') (k := 82) (hF 82 (by decide))
  have hB' : iv_in F' iv_B0 := iv_in_eq hB (fun j hj => hF j (Nat.lt_of_lt_of_le hj (by decide +kernel)))
  refine ⟨List.forall_mem_cons.mpr ⟨hd_p1 b83 rfl (by have hc : ((0) : Int32).toInt = 0 := (by decide); omega), fun _ h => absurd h List.not_mem_nil⟩, ?_⟩
  refine k _ ?_ ?_
  · exact fun j hj _ => (hd_keep hB' (Nat.lt_of_lt_of_le hj (by decide +kernel)) (by simp)).trans (hF j (by omega))
  · exact hd_gi (x := .inr (.inl 82)) (by decide +kernel) b82
theorem k3pi_33_p0 {Ls : Nat} {xs : Nat → Int32} {d : Nat} {Q : Option Value → jm_h → Prop} (hd : 4 ≤ d) (F : Nat → sy_d) (X1 X2 : List jm_c) (hB : iv_in F iv_B0)
    (h0 : (sy_i F 83).toInt = 0)
    (k : ∀ F1 : Nat → sy_d, (∀ j, j < 82 → True → F1 j = F j) → Q (some (.int ((0 : Int32)))) (sy_dh F1 X1 X2 (iv_H 3))) :
    hd_W Ls xs d jm_M37 Q (33, sy_dL F [some (.inl (.ref 30)), some (.inr (.inl 82)), none, none], sy_dS F [.inr (.inl 83)], sy_dh F X1 X2 (iv_H 3), 0, 0) := by
  refine hd_ret (s := 3) (nv := 84) (v := some (.inl (.int 0))) (uh := hd_ov (iv_id 0 iv_B0) []) (f := false) (sp := [39]) (d0 := 3) (O := [true]) (T := []) (P := [(0, .inr (.inl 83), .inl (.int 0))]) jm_ok37 (by decide +kernel) (by decide +kernel) hd F X1 X2 (fun F' hF hs => ?_)
  have b83 := hd_b (F := F) (F' := F') (k := 83) (hF 83 (by decide))
  have hB' : iv_in F' iv_B0 := iv_in_eq hB (fun j hj => hF j (Nat.lt_of_lt_of_le hj (by decide +kernel)))
  refine ⟨List.forall_mem_cons.mpr ⟨hd_p0 b83 rfl (by have hc : ((0) : Int32).toInt = 0 := (by decide); omega), fun _ h => absurd h List.not_mem_nil⟩, ?_⟩
  refine k _ ?_
  · exact fun j hj _ => (hd_keep hB' (Nat.lt_of_lt_of_le hj (by decide +kernel)) (by simp)).trans (hF j (by omega))
theorem k3pi_33_p1 {Ls : Nat} {xs : Nat → Int32} {d : Nat} {Q : Option Value → jm_h → Prop} (hd : 4 ≤ d) (F : Nat → sy_d) (X1 X2 : List jm_c) (hB : iv_in F iv_B0)
    (h0 : (sy_i F 83).toInt ≠ 0)
    (k : ∀ F1 : Nat → sy_d, (∀ j, j < 82 → True → F1 j = F j) → F1 82 = .inl (.int (sy_i F 82)) → hd_W Ls xs d jm_M37 Q (39, sy_dL F1 [some (.inl (.ref 30)), some (.inr (.inl 82)), none, none], sy_dS F1 [.inl (.int 12), .inl (.ref 30)], sy_dh F1 X1 X2 (iv_H 3), 0, 0)) :
    hd_W Ls xs d jm_M37 Q (33, sy_dL F [some (.inl (.ref 30)), some (.inr (.inl 82)), none, none], sy_dS F [.inr (.inl 83)], sy_dh F X1 X2 (iv_H 3), 0, 0) := by
  refine hd_run (s := 3) (nv := 84) (pc := 39) (L := [some (.inl (.ref 30)), some (.inr (.inl 82)), none, none]) (S := [.inl (.int 12), .inl (.ref 30)]) (uh := hd_ov (iv_id 0 iv_B0) []) (ul := [.inl (.inr (.inl 82))]) (f := false) (sp := [39]) (d0 := 3) (O := [false]) (T := []) (P := [(1, .inr (.inl 83), .inl (.int 0))]) jm_ok37 (by decide +kernel) (by decide +kernel) hd F X1 X2 (fun F' hF hs => ?_)
  have b83 := hd_b (F := F) (F' := F') (k := 83) (hF 83 (by decide))
  have b82 := hd_b (F := F) (F' := F') (k := 82) (hF 82 (by decide))
  have hB' : iv_in F' iv_B0 := iv_in_eq hB (fun j hj => hF j (Nat.lt_of_lt_of_le hj (by decide +kernel)))
  refine ⟨List.forall_mem_cons.mpr ⟨hd_p1 b83 rfl (by have hc : ((0) : Int32).toInt = 0 := (by decide); omega), fun _ h => absurd h List.not_mem_nil⟩, ?_⟩
  refine k _ ?_ ?_
  · exact fun j hj _ => (hd_keep hB' (Nat.lt_of_lt_of_le hj (by decide +kernel)) (by simp)).trans (hF j (by omega))
  · exact hd_gi (x := .inr (.inl 82)) (by decide +kernel) b82
theorem k3pi_42_p0 {Ls : Nat} {xs : Nat → Int32} {d : Nat} {Q : Option Value → jm_h → Prop} (hd : 4 ≤ d) (F : Nat → sy_d) (X1 X2 : List jm_c) (hB : iv_in F iv_B0)
    (h0 : (sy_i F 83).toInt = 0)
    (k : ∀ F1 : Nat → sy_d, (∀ j, j < 82 → True → F1 j = F j) → Q (some (.int ((0 : Int32)))) (sy_dh F1 X1 X2 (iv_H 3))) :
    hd_W Ls xs d jm_M37 Q (42, sy_dL F [some (.inl (.ref 30)), some (.inr (.inl 82)), none, none], sy_dS F [.inr (.inl 83)], sy_dh F X1 X2 (iv_H 3), 0, 0) := by
  refine hd_ret (s := 3) (nv := 84) (v := some (.inl (.int 0))) (uh := hd_ov (iv_id 0 iv_B0) []) (f := false) (sp := [85]) (d0 := 3) (O := [true]) (T := []) (P := [(0, .inr (.inl 83), .inl (.int 0))]) jm_ok37 (by decide +kernel) (by decide +kernel) hd F X1 X2 (fun F' hF hs => ?_)
  have b83 := hd_b (F := F) (F' := F') (k := 83) (hF 83 (by decide))
  have hB' : iv_in F' iv_B0 := iv_in_eq hB (fun j hj => hF j (Nat.lt_of_lt_of_le hj (by decide +kernel)))
  refine ⟨List.forall_mem_cons.mpr ⟨hd_p0 b83 rfl (by have hc : ((0) : Int32).toInt = 0 := (by decide); omega), fun _ h => absurd h List.not_mem_nil⟩, ?_⟩
  refine k _ ?_
  · exact fun j hj _ => (hd_keep hB' (Nat.lt_of_lt_of_le hj (by decide +kernel)) (by simp)).trans (hF j (by omega))
theorem k3pi_42_p1 {Ls : Nat} {xs : Nat → Int32} {d : Nat} {Q : Option Value → jm_h → Prop} (hd : 4 ≤ d) (F : Nat → sy_d) (X1 X2 : List jm_c) (hB : iv_in F iv_B0)
    (h0 : (sy_i F 83).toInt ≠ 0)
    (h1 : 512 ≤ (sy_i F 8).toInt)
    (h2 : 512 ≤ (sy_i F 8).toInt)
    (k : ∀ F1 : Nat → sy_d, (∀ j, j < 82 → True → F1 j = F j) → F1 82 = .inl (.int (sy_i F 82)) → F1 83 = .inl (.int (sy_i F 8)) → hd_W Ls xs d jm_M37 Q (85, sy_dL F1 [some (.inl (.ref 30)), some (.inr (.inl 82)), none, some (.inr (.inl 83))], sy_dS F1 [.inl (.int 0), .inr (.inl 82), .inl (.ref 30)], sy_dh F1 X1 X2 (iv_H 3), 0, 0)) :
    hd_W Ls xs d jm_M37 Q (42, sy_dL F [some (.inl (.ref 30)), some (.inr (.inl 82)), none, none], sy_dS F [.inr (.inl 83)], sy_dh F X1 X2 (iv_H 3), 0, 0) := by
  refine hd_run (s := 3) (nv := 84) (pc := 85) (L := [some (.inl (.ref 30)), some (.inr (.inl 82)), none, some (.inr (.inl 83))]) (S := [.inl (.int 0), .inr (.inl 82), .inl (.ref 30)]) (uh := hd_ov (iv_id 0 iv_B0) []) (ul := [.inl (.inr (.inl 82)), .inl (.inr (.inl 8))]) (f := false) (sp := [85]) (d0 := 3) (O := [false, true, true]) (T := []) (P := [(1, .inr (.inl 83), .inl (.int 0)), (4, .inl (.int 512), .inr (.inl 8)), (4, .inl (.int 512), .inr (.inl 8))]) jm_ok37 (by decide +kernel) (by decide +kernel) hd F X1 X2 (fun F' hF hs => ?_)
  have b83 := hd_b (F := F) (F' := F') (k := 83) (hF 83 (by decide))
  have b8 := hd_b (F := F) (F' := F') (k := 8) (hF 8 (by decide))
  have b82 := hd_b (F := F) (F' := F') (k := 82) (hF 82 (by decide))
  have hB' : iv_in F' iv_B0 := iv_in_eq hB (fun j hj => hF j (Nat.lt_of_lt_of_le hj (by decide +kernel)))
  refine ⟨List.forall_mem_cons.mpr ⟨hd_p1 b83 rfl (by have hc : ((0) : Int32).toInt = 0 := (by decide); omega), List.forall_mem_cons.mpr ⟨hd_p4 rfl b8 (by have hc : ((512) : Int32).toInt = 512 := (by decide); omega), List.forall_mem_cons.mpr ⟨hd_p4 rfl b8 (by have hc : ((512) : Int32).toInt = 512 := (by decide); omega), fun _ h => absurd h List.not_mem_nil⟩⟩⟩, ?_⟩
  refine k _ ?_ ?_ ?_
  · exact fun j hj _ => (hd_keep hB' (Nat.lt_of_lt_of_le hj (by decide +kernel)) (by simp)).trans (hF j (by omega))
  · exact hd_gi (x := .inr (.inl 82)) (by decide +kernel) b82
  · exact hd_gi (x := .inr (.inl 8)) (by decide +kernel) b8
theorem k3pi_42_p2 {Ls : Nat} {xs : Nat → Int32} {d : Nat} {Q : Option Value → jm_h → Prop} (hd : 4 ≤ d) (F : Nat → sy_d) (X1 X2 : List jm_c) (hB : iv_in F iv_B0)
    (h0 : (sy_i F 83).toInt ≠ 0)
    (h1 : (sy_i F 8).toInt < 512)
    (h2 : 0 ≤ (sy_i F 8).toInt ∧ (sy_i F 8).toInt < 512)
    (h3 : 512 ≤ ((sy_i F 8) + ((1 : Int32))).toInt)
    (k : ∀ F1 : Nat → sy_d, (∀ j, j < 82 → j ≠ 8 ∧ j ≠ 17 → F1 j = F j) → F1 8 = .inl (.int ((sy_i F 8) + ((1 : Int32)))) → F1 17 = .inr (.inl (jm_upd (sy_ai F 17) (sy_i F 8).toNatClampNeg (((-15) : Int32)))) → F1 82 = .inl (.int (sy_i F 82)) → F1 83 = .inl (.int ((sy_i F 8) + ((1 : Int32)))) → hd_W Ls xs d jm_M37 Q (85, sy_dL F1 [some (.inl (.ref 30)), some (.inr (.inl 82)), none, some (.inr (.inl 83))], sy_dS F1 [.inl (.int 0), .inr (.inl 82), .inl (.ref 30)], sy_dh F1 X1 X2 (iv_H 3), 0, 0)) :
    hd_W Ls xs d jm_M37 Q (42, sy_dL F [some (.inl (.ref 30)), some (.inr (.inl 82)), none, none], sy_dS F [.inr (.inl 83)], sy_dh F X1 X2 (iv_H 3), 0, 0) := by
  refine hd_run (s := 3) (nv := 84) (pc := 85) (L := [some (.inl (.ref 30)), some (.inr (.inl 82)), none, some (.inr (.inl 83))]) (S := [.inl (.int 0), .inr (.inl 82), .inl (.ref 30)]) (uh := hd_ov (iv_id 0 iv_B0) [(8, .inl (.inr (.inl 85))), (17, .inr (.inr (.inl 84)))]) (ul := [.inl (.inr (.inl 82)), .inl (.inr (.inl 85))]) (f := false) (sp := [85]) (d0 := 3) (O := [false, false, true]) (T := [(40, [.inr (.inl 8), .inl (.int (-15))], [.inr (.inl 17)]), (0, [.inr (.inl 8), .inl (.int 1)], [])]) (P := [(1, .inr (.inl 83), .inl (.int 0)), (5, .inl (.int 512), .inr (.inl 8)), (6, .inr (.inl 8), .inl (.ref 512)), (4, .inl (.int 512), .inr (.inl 85))]) jm_ok37 (by decide +kernel) (by decide +kernel) hd F X1 X2 (fun F' hF hs => ?_)
  have b83 := hd_b (F := F) (F' := F') (k := 83) (hF 83 (by decide))
  have b8 := hd_b (F := F) (F' := F') (k := 8) (hF 8 (by decide))
  have t85 : sy_dv F' (.inr (.inl 85)) = .int ((sy_i F 8) + ((1 : Int32))) := hd_o (hs 1 _ rfl) b8 rfl rfl
  have a17 := hd_ba (F := F) (F' := F') (k := 17) (hF 17 (by decide))
  have t84 : sy_da F' (.inr (.inl 84)) = .inl (jm_upd (sy_ai F 17) (sy_i F 8).toNatClampNeg (((-15) : Int32))) := hd_up (hs 0 _ rfl) b8 rfl a17
  have b82 := hd_b (F := F) (F' := F') (k := 82) (hF 82 (by decide))
  have hB' : iv_in F' iv_B0 := iv_in_eq hB (fun j hj => hF j (Nat.lt_of_lt_of_le hj (by decide +kernel)))
  refine ⟨List.forall_mem_cons.mpr ⟨hd_p1 b83 rfl (by have hc : ((0) : Int32).toInt = 0 := (by decide); omega), List.forall_mem_cons.mpr ⟨hd_p5 rfl b8 (by have hc : ((512) : Int32).toInt = 512 := (by decide); omega), List.forall_mem_cons.mpr ⟨hd_pb b8 (by first | exact h2 | exact h2), List.forall_mem_cons.mpr ⟨hd_p4 rfl t85 (by have hc : ((512) : Int32).toInt = 512 := (by decide); omega), fun _ h => absurd h List.not_mem_nil⟩⟩⟩⟩, ?_⟩
  refine k _ ?_ ?_ ?_ ?_ ?_
  · exact fun j hj hn => (hd_keep hB' (Nat.lt_of_lt_of_le hj (by decide +kernel)) (by simp; omega)).trans (hF j (by omega))
  · exact hd_gi (x := .inr (.inl 85)) (by decide +kernel) t85
  · exact hd_ga (a := .inr (.inl 84)) (by decide +kernel) t84
  · exact hd_gi (x := .inr (.inl 82)) (by decide +kernel) b82
  · exact hd_gi (x := .inr (.inl 85)) (by decide +kernel) t85
theorem k3pi_42_p3 {Ls : Nat} {xs : Nat → Int32} {d : Nat} {Q : Option Value → jm_h → Prop} (hd : 4 ≤ d) (F : Nat → sy_d) (X1 X2 : List jm_c) (hB : iv_in F iv_B0)
    (h0 : (sy_i F 83).toInt ≠ 0)
    (h1 : (sy_i F 8).toInt < 512)
    (h2 : 0 ≤ (sy_i F 8).toInt ∧ (sy_i F 8).toInt < 512)
    (h3 : ((sy_i F 8) + ((1 : Int32))).toInt < 512)
    (h4 : 0 ≤ ((sy_i F 8) + ((1 : Int32))).toInt ∧ ((sy_i F 8) + ((1 : Int32))).toInt < 512)
    (k : ∀ F1 : Nat → sy_d, (∀ j, j < 82 → j ≠ 8 ∧ j ≠ 17 → F1 j = F j) → F1 8 = .inl (.int (((sy_i F 8) + ((1 : Int32))) + ((1 : Int32)))) → F1 17 = .inr (.inl (jm_upd (jm_upd (sy_ai F 17) (sy_i F 8).toNatClampNeg (((-15) : Int32))) ((sy_i F 8) + ((1 : Int32))).toNatClampNeg ((0 : Int32)))) → F1 82 = .inl (.int (sy_i F 82)) → F1 83 = .inl (.int ((sy_i F 8) + ((1 : Int32)))) → hd_W Ls xs d jm_M37 Q (85, sy_dL F1 [some (.inl (.ref 30)), some (.inr (.inl 82)), none, some (.inr (.inl 83))], sy_dS F1 [.inl (.int 0), .inr (.inl 82), .inl (.ref 30)], sy_dh F1 X1 X2 (iv_H 3), 0, 0)) :
    hd_W Ls xs d jm_M37 Q (42, sy_dL F [some (.inl (.ref 30)), some (.inr (.inl 82)), none, none], sy_dS F [.inr (.inl 83)], sy_dh F X1 X2 (iv_H 3), 0, 0) := by
  refine hd_run (s := 3) (nv := 84) (pc := 85) (L := [some (.inl (.ref 30)), some (.inr (.inl 82)), none, some (.inr (.inl 83))]) (S := [.inl (.int 0), .inr (.inl 82), .inl (.ref 30)]) (uh := hd_ov (iv_id 0 iv_B0) [(8, .inl (.inr (.inl 87))), (17, .inr (.inr (.inl 86)))]) (ul := [.inl (.inr (.inl 82)), .inl (.inr (.inl 85))]) (f := false) (sp := [85]) (d0 := 3) (O := [false, false, false]) (T := [(40, [.inr (.inl 8), .inl (.int (-15))], [.inr (.inl 17)]), (0, [.inr (.inl 8), .inl (.int 1)], []), (40, [.inr (.inl 85), .inl (.int 0)], [.inr (.inl 84)]), (0, [.inr (.inl 85), .inl (.int 1)], [])]) (P := [(1, .inr (.inl 83), .inl (.int 0)), (5, .inl (.int 512), .inr (.inl 8)), (6, .inr (.inl 8), .inl (.ref 512)), (5, .inl (.int 512), .inr (.inl 85)), (6, .inr (.inl 85), .inl (.ref 512))]) jm_ok37 (by decide +kernel) (by decide +kernel) hd F X1 X2 (fun F' hF hs => ?_)
  have b83 := hd_b (F := F) (F' := F') (k := 83) (hF 83 (by decide))
  have b8 := hd_b (F := F) (F' := F') (k := 8) (hF 8 (by decide))
  have t85 : sy_dv F' (.inr (.inl 85)) = .int ((sy_i F 8) + ((1 : Int32))) := hd_o (hs 1 _ rfl) b8 rfl rfl
  have t87 : sy_dv F' (.inr (.inl 87)) = .int (((sy_i F 8) + ((1 : Int32))) + ((1 : Int32))) := hd_o (hs 3 _ rfl) t85 rfl rfl
  have a17 := hd_ba (F := F) (F' := F') (k := 17) (hF 17 (by decide))
  have t84 : sy_da F' (.inr (.inl 84)) = .inl (jm_upd (sy_ai F 17) (sy_i F 8).toNatClampNeg (((-15) : Int32))) := hd_up (hs 0 _ rfl) b8 rfl a17
  have t86 : sy_da F' (.inr (.inl 86)) = .inl (jm_upd (jm_upd (sy_ai F 17) (sy_i F 8).toNatClampNeg (((-15) : Int32))) ((sy_i F 8) + ((1 : Int32))).toNatClampNeg ((0 : Int32))) := hd_up (hs 2 _ rfl) t85 rfl t84
  have b82 := hd_b (F := F) (F' := F') (k := 82) (hF 82 (by decide))
  have hB' : iv_in F' iv_B0 := iv_in_eq hB (fun j hj => hF j (Nat.lt_of_lt_of_le hj (by decide +kernel)))
  refine ⟨List.forall_mem_cons.mpr ⟨hd_p1 b83 rfl (by have hc : ((0) : Int32).toInt = 0 := (by decide); omega), List.forall_mem_cons.mpr ⟨hd_p5 rfl b8 (by have hc : ((512) : Int32).toInt = 512 := (by decide); omega), List.forall_mem_cons.mpr ⟨hd_pb b8 (by first | exact h2 | exact h2), List.forall_mem_cons.mpr ⟨hd_p5 rfl t85 (by have hc : ((512) : Int32).toInt = 512 := (by decide); omega), List.forall_mem_cons.mpr ⟨hd_pb t85 (by first | exact h4 | exact h4), fun _ h => absurd h List.not_mem_nil⟩⟩⟩⟩⟩, ?_⟩
  refine k _ ?_ ?_ ?_ ?_ ?_
  · exact fun j hj hn => (hd_keep hB' (Nat.lt_of_lt_of_le hj (by decide +kernel)) (by simp; omega)).trans (hF j (by omega))
  · exact hd_gi (x := .inr (.inl 87)) (by decide +kernel) t87
  · exact hd_ga (a := .inr (.inl 86)) (by decide +kernel) t86
  · exact hd_gi (x := .inr (.inl 82)) (by decide +kernel) b82
  · exact hd_gi (x := .inr (.inl 85)) (by decide +kernel) t85
theorem k3pi_88_p0 {Ls : Nat} {xs : Nat → Int32} {d : Nat} {Q : Option Value → jm_h → Prop} (hd : 4 ≤ d) (F : Nat → sy_d) (X1 X2 : List jm_c) (hB : iv_in F iv_B0)
    (h0 : (sy_i F 84).toInt = 0)
    (k : ∀ F1 : Nat → sy_d, (∀ j, j < 82 → True → F1 j = F j) → Q (some (.int ((0 : Int32)))) (sy_dh F1 X1 X2 (iv_H 3))) :
    hd_W Ls xs d jm_M37 Q (88, sy_dL F [some (.inl (.ref 30)), some (.inr (.inl 82)), none, some (.inr (.inl 83))], sy_dS F [.inr (.inl 84)], sy_dh F X1 X2 (iv_H 3), 0, 0) := by
  refine hd_ret (s := 3) (nv := 85) (v := some (.inl (.int 0))) (uh := hd_ov (iv_id 0 iv_B0) []) (f := false) (sp := [94]) (d0 := 3) (O := [true]) (T := []) (P := [(0, .inr (.inl 84), .inl (.int 0))]) jm_ok37 (by decide +kernel) (by decide +kernel) hd F X1 X2 (fun F' hF hs => ?_)
  have b84 := hd_b (F := F) (F' := F') (k := 84) (hF 84 (by decide))
  have hB' : iv_in F' iv_B0 := iv_in_eq hB (fun j hj => hF j (Nat.lt_of_lt_of_le hj (by decide +kernel)))
  refine ⟨List.forall_mem_cons.mpr ⟨hd_p0 b84 rfl (by have hc : ((0) : Int32).toInt = 0 := (by decide); omega), fun _ h => absurd h List.not_mem_nil⟩, ?_⟩
  refine k _ ?_
  · exact fun j hj _ => (hd_keep hB' (Nat.lt_of_lt_of_le hj (by decide +kernel)) (by simp)).trans (hF j (by omega))
theorem k3pi_88_p1 {Ls : Nat} {xs : Nat → Int32} {d : Nat} {Q : Option Value → jm_h → Prop} (hd : 4 ≤ d) (F : Nat → sy_d) (X1 X2 : List jm_c) (hB : iv_in F iv_B0)
    (h0 : (sy_i F 84).toInt ≠ 0)
    (k : ∀ F1 : Nat → sy_d, (∀ j, j < 82 → True → F1 j = F j) → F1 82 = .inl (.int (sy_i F 82)) → F1 83 = .inl (.int (sy_i F 83)) → hd_W Ls xs d jm_M37 Q (94, sy_dL F1 [some (.inl (.ref 30)), some (.inr (.inl 82)), none, some (.inr (.inl 83))], sy_dS F1 [.inl (.int 13), .inl (.ref 30)], sy_dh F1 X1 X2 (iv_H 3), 0, 0)) :
    hd_W Ls xs d jm_M37 Q (88, sy_dL F [some (.inl (.ref 30)), some (.inr (.inl 82)), none, some (.inr (.inl 83))], sy_dS F [.inr (.inl 84)], sy_dh F X1 X2 (iv_H 3), 0, 0) := by
  refine hd_run (s := 3) (nv := 85) (pc := 94) (L := [some (.inl (.ref 30)), some (.inr (.inl 82)), none, some (.inr (.inl 83))]) (S := [.inl (.int 13), .inl (.ref 30)]) (uh := hd_ov (iv_id 0 iv_B0) []) (ul := [.inl (.inr (.inl 82)), .inl (.inr (.inl 83))]) (f := false) (sp := [94]) (d0 := 3) (O := [false]) (T := []) (P := [(1, .inr (.inl 84), .inl (.int 0))]) jm_ok37 (by decide +kernel) (by decide +kernel) hd F X1 X2 (fun F' hF hs => ?_)
  have b84 := hd_b (F := F) (F' := F') (k := 84) (hF 84 (by decide))
  have b82 := hd_b (F := F) (F' := F') (k := 82) (hF 82 (by decide))
  have b83 := hd_b (F := F) (F' := F') (k := 83) (hF 83 (by decide))
  have hB' : iv_in F' iv_B0 := iv_in_eq hB (fun j hj => hF j (Nat.lt_of_lt_of_le hj (by decide +kernel)))
  refine ⟨List.forall_mem_cons.mpr ⟨hd_p1 b84 rfl (by have hc : ((0) : Int32).toInt = 0 := (by decide); omega), fun _ h => absurd h List.not_mem_nil⟩, ?_⟩
  refine k _ ?_ ?_ ?_
  · exact fun j hj _ => (hd_keep hB' (Nat.lt_of_lt_of_le hj (by decide +kernel)) (by simp)).trans (hF j (by omega))
  · exact hd_gi (x := .inr (.inl 82)) (by decide +kernel) b82
  · exact hd_gi (x := .inr (.inl 83)) (by decide +kernel) b83
theorem k3pi_97_p0 {Ls : Nat} {xs : Nat → Int32} {d : Nat} {Q : Option Value → jm_h → Prop} (hd : 4 ≤ d) (F : Nat → sy_d) (X1 X2 : List jm_c) (hB : iv_in F iv_B0)
    (h0 : (sy_i F 84).toInt ≠ 0)
    (h1 : 512 ≤ (sy_i F 8).toInt)
    (h2 : 0 ≤ (sy_i F 83).toInt)
    (h3 : 512 ≤ (sy_i F 83).toInt)
    (k : ∀ F1 : Nat → sy_d, (∀ j, j < 82 → True → F1 j = F j) → Q (some (.int ((1 : Int32)))) (sy_dh F1 X1 X2 (iv_H 3))) :
    hd_W Ls xs d jm_M37 Q (97, sy_dL F [some (.inl (.ref 30)), some (.inr (.inl 82)), none, some (.inr (.inl 83))], sy_dS F [.inr (.inl 84)], sy_dh F X1 X2 (iv_H 3), 0, 0) := by
  refine hd_ret (s := 3) (nv := 85) (v := some (.inl (.int 1))) (uh := hd_ov (iv_id 0 iv_B0) []) (f := false) (sp := []) (d0 := 3) (O := [true, true, false, true]) (T := []) (P := [(1, .inr (.inl 84), .inl (.int 0)), (4, .inl (.int 512), .inr (.inl 8)), (3, .inr (.inl 83), .inl (.int 0)), (4, .inl (.int 512), .inr (.inl 83))]) jm_ok37 (by decide +kernel) (by decide +kernel) hd F X1 X2 (fun F' hF hs => ?_)
  have b84 := hd_b (F := F) (F' := F') (k := 84) (hF 84 (by decide))
  have b8 := hd_b (F := F) (F' := F') (k := 8) (hF 8 (by decide))
  have b83 := hd_b (F := F) (F' := F') (k := 83) (hF 83 (by decide))
  have hB' : iv_in F' iv_B0 := iv_in_eq hB (fun j hj => hF j (Nat.lt_of_lt_of_le hj (by decide +kernel)))
  refine ⟨List.forall_mem_cons.mpr ⟨hd_p1 b84 rfl (by have hc : ((0) : Int32).toInt = 0 := (by decide); omega), List.forall_mem_cons.mpr ⟨hd_p4 rfl b8 (by have hc : ((512) : Int32).toInt = 512 := (by decide); omega), List.forall_mem_cons.mpr ⟨hd_p3 b83 rfl (by have hc : ((0) : Int32).toInt = 0 := (by decide); omega), List.forall_mem_cons.mpr ⟨hd_p4 rfl b83 (by have hc : ((512) : Int32).toInt = 512 := (by decide); omega), fun _ h => absurd h List.not_mem_nil⟩⟩⟩⟩, ?_⟩
  refine k _ ?_
  · exact fun j hj _ => (hd_keep hB' (Nat.lt_of_lt_of_le hj (by decide +kernel)) (by simp)).trans (hF j (by omega))
theorem k3pi_97_p1 {Ls : Nat} {xs : Nat → Int32} {d : Nat} {Q : Option Value → jm_h → Prop} (hd : 4 ≤ d) (F : Nat → sy_d) (X1 X2 : List jm_c) (hB : iv_in F iv_B0)
    (h0 : (sy_i F 84).toInt ≠ 0)
    (h1 : 512 ≤ (sy_i F 8).toInt)
    (h2 : 0 ≤ (sy_i F 83).toInt)
    (h3 : (sy_i F 83).toInt < 512)
    (h4 : 0 ≤ (sy_i F 83).toInt ∧ (sy_i F 83).toInt < 512)
    (k : ∀ F1 : Nat → sy_d, (∀ j, j < 82 → j ≠ 17 → F1 j = F j) → F1 17 = .inr (.inl (jm_upd (sy_ai F 17) (sy_i F 83).toNatClampNeg (sy_i F 8))) → Q (some (.int ((1 : Int32)))) (sy_dh F1 X1 X2 (iv_H 3))) :
    hd_W Ls xs d jm_M37 Q (97, sy_dL F [some (.inl (.ref 30)), some (.inr (.inl 82)), none, some (.inr (.inl 83))], sy_dS F [.inr (.inl 84)], sy_dh F X1 X2 (iv_H 3), 0, 0) := by
  refine hd_ret (s := 3) (nv := 85) (v := some (.inl (.int 1))) (uh := hd_ov (iv_id 0 iv_B0) [(17, .inr (.inr (.inl 85)))]) (f := false) (sp := []) (d0 := 3) (O := [true, true, false, false]) (T := [(40, [.inr (.inl 83), .inr (.inl 8)], [.inr (.inl 17)])]) (P := [(1, .inr (.inl 84), .inl (.int 0)), (4, .inl (.int 512), .inr (.inl 8)), (3, .inr (.inl 83), .inl (.int 0)), (5, .inl (.int 512), .inr (.inl 83)), (6, .inr (.inl 83), .inl (.ref 512))]) jm_ok37 (by decide +kernel) (by decide +kernel) hd F X1 X2 (fun F' hF hs => ?_)
  have b84 := hd_b (F := F) (F' := F') (k := 84) (hF 84 (by decide))
  have b8 := hd_b (F := F) (F' := F') (k := 8) (hF 8 (by decide))
  have b83 := hd_b (F := F) (F' := F') (k := 83) (hF 83 (by decide))
  have a17 := hd_ba (F := F) (F' := F') (k := 17) (hF 17 (by decide))
  have t85 : sy_da F' (.inr (.inl 85)) = .inl (jm_upd (sy_ai F 17) (sy_i F 83).toNatClampNeg (sy_i F 8)) := hd_up (hs 0 _ rfl) b83 b8 a17
  have hB' : iv_in F' iv_B0 := iv_in_eq hB (fun j hj => hF j (Nat.lt_of_lt_of_le hj (by decide +kernel)))
  refine ⟨List.forall_mem_cons.mpr ⟨hd_p1 b84 rfl (by have hc : ((0) : Int32).toInt = 0 := (by decide); omega), List.forall_mem_cons.mpr ⟨hd_p4 rfl b8 (by have hc : ((512) : Int32).toInt = 512 := (by decide); omega), List.forall_mem_cons.mpr ⟨hd_p3 b83 rfl (by have hc : ((0) : Int32).toInt = 0 := (by decide); omega), List.forall_mem_cons.mpr ⟨hd_p5 rfl b83 (by have hc : ((512) : Int32).toInt = 512 := (by decide); omega), List.forall_mem_cons.mpr ⟨hd_pb b83 (by first | exact h4 | exact h4), fun _ h => absurd h List.not_mem_nil⟩⟩⟩⟩⟩, ?_⟩
  refine k _ ?_ ?_
  · exact fun j hj hn => (hd_keep hB' (Nat.lt_of_lt_of_le hj (by decide +kernel)) (by simp; omega)).trans (hF j (by omega))
  · exact hd_ga (a := .inr (.inl 85)) (by decide +kernel) t85
theorem k3pi_97_p2 {Ls : Nat} {xs : Nat → Int32} {d : Nat} {Q : Option Value → jm_h → Prop} (hd : 4 ≤ d) (F : Nat → sy_d) (X1 X2 : List jm_c) (hB : iv_in F iv_B0)
    (h0 : (sy_i F 84).toInt ≠ 0)
    (h1 : (sy_i F 8).toInt < 512)
    (h2 : 0 ≤ (sy_i F 8).toInt ∧ (sy_i F 8).toInt < 512)
    (h3 : 0 ≤ (sy_i F 83).toInt)
    (h4 : 512 ≤ (sy_i F 83).toInt)
    (k : ∀ F1 : Nat → sy_d, (∀ j, j < 82 → j ≠ 8 ∧ j ≠ 17 → F1 j = F j) → F1 8 = .inl (.int ((sy_i F 8) + ((1 : Int32)))) → F1 17 = .inr (.inl (jm_upd (sy_ai F 17) (sy_i F 8).toNatClampNeg (((-14) : Int32)))) → Q (some (.int ((1 : Int32)))) (sy_dh F1 X1 X2 (iv_H 3))) :
    hd_W Ls xs d jm_M37 Q (97, sy_dL F [some (.inl (.ref 30)), some (.inr (.inl 82)), none, some (.inr (.inl 83))], sy_dS F [.inr (.inl 84)], sy_dh F X1 X2 (iv_H 3), 0, 0) := by
  refine hd_ret (s := 3) (nv := 85) (v := some (.inl (.int 1))) (uh := hd_ov (iv_id 0 iv_B0) [(8, .inl (.inr (.inl 86))), (17, .inr (.inr (.inl 85)))]) (f := false) (sp := []) (d0 := 3) (O := [true, false, false, true]) (T := [(40, [.inr (.inl 8), .inl (.int (-14))], [.inr (.inl 17)]), (0, [.inr (.inl 8), .inl (.int 1)], [])]) (P := [(1, .inr (.inl 84), .inl (.int 0)), (5, .inl (.int 512), .inr (.inl 8)), (6, .inr (.inl 8), .inl (.ref 512)), (3, .inr (.inl 83), .inl (.int 0)), (4, .inl (.int 512), .inr (.inl 83))]) jm_ok37 (by decide +kernel) (by decide +kernel) hd F X1 X2 (fun F' hF hs => ?_)
  have b84 := hd_b (F := F) (F' := F') (k := 84) (hF 84 (by decide))
  have b8 := hd_b (F := F) (F' := F') (k := 8) (hF 8 (by decide))
  have b83 := hd_b (F := F) (F' := F') (k := 83) (hF 83 (by decide))
  have t86 : sy_dv F' (.inr (.inl 86)) = .int ((sy_i F 8) + ((1 : Int32))) := hd_o (hs 1 _ rfl) b8 rfl rfl
  have a17 := hd_ba (F := F) (F' := F') (k := 17) (hF 17 (by decide))
  have t85 : sy_da F' (.inr (.inl 85)) = .inl (jm_upd (sy_ai F 17) (sy_i F 8).toNatClampNeg (((-14) : Int32))) := hd_up (hs 0 _ rfl) b8 rfl a17
  have hB' : iv_in F' iv_B0 := iv_in_eq hB (fun j hj => hF j (Nat.lt_of_lt_of_le hj (by decide +kernel)))
  refine ⟨List.forall_mem_cons.mpr ⟨hd_p1 b84 rfl (by have hc : ((0) : Int32).toInt = 0 := (by decide); omega), List.forall_mem_cons.mpr ⟨hd_p5 rfl b8 (by have hc : ((512) : Int32).toInt = 512 := (by decide); omega), List.forall_mem_cons.mpr ⟨hd_pb b8 (by first | exact h2 | exact h2), List.forall_mem_cons.mpr ⟨hd_p3 b83 rfl (by have hc : ((0) : Int32).toInt = 0 := (by decide); omega), List.forall_mem_cons.mpr ⟨hd_p4 rfl b83 (by have hc : ((512) : Int32).toInt = 512 := (by decide); omega), fun _ h => absurd h List.not_mem_nil⟩⟩⟩⟩⟩, ?_⟩
  refine k _ ?_ ?_ ?_
  · exact fun j hj hn => (hd_keep hB' (Nat.lt_of_lt_of_le hj (by decide +kernel)) (by simp; omega)).trans (hF j (by omega))
  · exact hd_gi (x := .inr (.inl 86)) (by decide +kernel) t86
  · exact hd_ga (a := .inr (.inl 85)) (by decide +kernel) t85
theorem k3pi_97_p3 {Ls : Nat} {xs : Nat → Int32} {d : Nat} {Q : Option Value → jm_h → Prop} (hd : 4 ≤ d) (F : Nat → sy_d) (X1 X2 : List jm_c) (hB : iv_in F iv_B0)
    (h0 : (sy_i F 84).toInt ≠ 0)
    (h1 : (sy_i F 8).toInt < 512)
    (h2 : 0 ≤ (sy_i F 8).toInt ∧ (sy_i F 8).toInt < 512)
    (h3 : 0 ≤ (sy_i F 83).toInt)
    (h4 : (sy_i F 83).toInt < 512)
    (h5 : 0 ≤ (sy_i F 83).toInt ∧ (sy_i F 83).toInt < 512)
    (k : ∀ F1 : Nat → sy_d, (∀ j, j < 82 → j ≠ 8 ∧ j ≠ 17 → F1 j = F j) → F1 8 = .inl (.int ((sy_i F 8) + ((1 : Int32)))) → F1 17 = .inr (.inl (jm_upd (jm_upd (sy_ai F 17) (sy_i F 8).toNatClampNeg (((-14) : Int32))) (sy_i F 83).toNatClampNeg ((sy_i F 8) + ((1 : Int32))))) → Q (some (.int ((1 : Int32)))) (sy_dh F1 X1 X2 (iv_H 3))) :
    hd_W Ls xs d jm_M37 Q (97, sy_dL F [some (.inl (.ref 30)), some (.inr (.inl 82)), none, some (.inr (.inl 83))], sy_dS F [.inr (.inl 84)], sy_dh F X1 X2 (iv_H 3), 0, 0) := by
  refine hd_ret (s := 3) (nv := 85) (v := some (.inl (.int 1))) (uh := hd_ov (iv_id 0 iv_B0) [(8, .inl (.inr (.inl 86))), (17, .inr (.inr (.inl 87)))]) (f := false) (sp := []) (d0 := 3) (O := [true, false, false, false]) (T := [(40, [.inr (.inl 8), .inl (.int (-14))], [.inr (.inl 17)]), (0, [.inr (.inl 8), .inl (.int 1)], []), (40, [.inr (.inl 83), .inr (.inl 86)], [.inr (.inl 85)])]) (P := [(1, .inr (.inl 84), .inl (.int 0)), (5, .inl (.int 512), .inr (.inl 8)), (6, .inr (.inl 8), .inl (.ref 512)), (3, .inr (.inl 83), .inl (.int 0)), (5, .inl (.int 512), .inr (.inl 83)), (6, .inr (.inl 83), .inl (.ref 512))]) jm_ok37 (by decide +kernel) (by decide +kernel) hd F X1 X2 (fun F' hF hs => ?_)
  have b84 := hd_b (F := F) (F' := F') (k := 84) (hF 84 (by decide))
  have b8 := hd_b (F := F) (F' := F') (k := 8) (hF 8 (by decide))
  have b83 := hd_b (F := F) (F' := F') (k := 83) (hF 83 (by decide))
  have t86 : sy_dv F' (.inr (.inl 86)) = .int ((sy_i F 8) + ((1 : Int32))) := hd_o (hs 1 _ rfl) b8 rfl rfl
  have a17 := hd_ba (F := F) (F' := F') (k := 17) (hF 17 (by decide))
  have t85 : sy_da F' (.inr (.inl 85)) = .inl (jm_upd (sy_ai F 17) (sy_i F 8).toNatClampNeg (((-14) : Int32))) := hd_up (hs 0 _ rfl) b8 rfl a17
  have t87 : sy_da F' (.inr (.inl 87)) = .inl (jm_upd (jm_upd (sy_ai F 17) (sy_i F 8).toNatClampNeg (((-14) : Int32))) (sy_i F 83).toNatClampNeg ((sy_i F 8) + ((1 : Int32)))) := hd_up (hs 2 _ rfl) b83 t86 t85
  have hB' : iv_in F' iv_B0 := iv_in_eq hB (fun j hj => hF j (Nat.lt_of_lt_of_le hj (by decide +kernel)))
  refine ⟨List.forall_mem_cons.mpr ⟨hd_p1 b84 rfl (by have hc : ((0) : Int32).toInt = 0 := (by decide); omega), List.forall_mem_cons.mpr ⟨hd_p5 rfl b8 (by have hc : ((512) : Int32).toInt = 512 := (by decide); omega), List.forall_mem_cons.mpr ⟨hd_pb b8 (by first | exact h2 | exact h2), List.forall_mem_cons.mpr ⟨hd_p3 b83 rfl (by have hc : ((0) : Int32).toInt = 0 := (by decide); omega), List.forall_mem_cons.mpr ⟨hd_p5 rfl b83 (by have hc : ((512) : Int32).toInt = 512 := (by decide); omega), List.forall_mem_cons.mpr ⟨hd_pb b83 (by first | exact h5 | exact h5), fun _ h => absurd h List.not_mem_nil⟩⟩⟩⟩⟩⟩, ?_⟩
  refine k _ ?_ ?_ ?_
  · exact fun j hj hn => (hd_keep hB' (Nat.lt_of_lt_of_le hj (by decide +kernel)) (by simp; omega)).trans (hF j (by omega))
  · exact hd_gi (x := .inr (.inl 86)) (by decide +kernel) t86
  · exact hd_ga (a := .inr (.inl 87)) (by decide +kernel) t87
theorem k3pi_97_p4 {Ls : Nat} {xs : Nat → Int32} {d : Nat} {Q : Option Value → jm_h → Prop} (hd : 4 ≤ d) (F : Nat → sy_d) (X1 X2 : List jm_c) (hB : iv_in F iv_B0)
    (h0 : (sy_i F 84).toInt = 0)
    (k : ∀ F1 : Nat → sy_d, (∀ j, j < 82 → True → F1 j = F j) → Q (some (.int ((0 : Int32)))) (sy_dh F1 X1 X2 (iv_H 3))) :
    hd_W Ls xs d jm_M37 Q (97, sy_dL F [some (.inl (.ref 30)), some (.inr (.inl 82)), none, some (.inr (.inl 83))], sy_dS F [.inr (.inl 84)], sy_dh F X1 X2 (iv_H 3), 0, 0) := by
  refine hd_ret (s := 3) (nv := 85) (v := some (.inl (.int 0))) (uh := hd_ov (iv_id 0 iv_B0) []) (f := false) (sp := []) (d0 := 3) (O := [false]) (T := []) (P := [(0, .inr (.inl 84), .inl (.int 0))]) jm_ok37 (by decide +kernel) (by decide +kernel) hd F X1 X2 (fun F' hF hs => ?_)
  have b84 := hd_b (F := F) (F' := F') (k := 84) (hF 84 (by decide))
  have hB' : iv_in F' iv_B0 := iv_in_eq hB (fun j hj => hF j (Nat.lt_of_lt_of_le hj (by decide +kernel)))
  refine ⟨List.forall_mem_cons.mpr ⟨hd_p0 b84 rfl (by have hc : ((0) : Int32).toInt = 0 := (by decide); omega), fun _ h => absurd h List.not_mem_nil⟩, ?_⟩
  refine k _ ?_
  · exact fun j hj _ => (hd_keep hB' (Nat.lt_of_lt_of_le hj (by decide +kernel)) (by simp)).trans (hF j (by omega))
theorem k3pl_0_p0 {Ls : Nat} {xs : Nat → Int32} {d : Nat} {Q : Option Value → jm_h → Prop} (hd : 4 ≤ d) (F : Nat → sy_d) (X1 X2 : List jm_c) (hB : iv_in F iv_B0)
    (k : ∀ F1 : Nat → sy_d, (∀ j, j < 82 → True → F1 j = F j) → F1 82 = .inl (.int (sy_i F 82)) → F1 83 = .inl (.int (sy_i F 83)) → hd_W Ls xs d jm_M36 Q (2, sy_dL F1 [some (.inl (.ref 30)), some (.inr (.inl 82)), some (.inr (.inl 83)), none, none], sy_dS F1 [.inr (.inl 82), .inl (.ref 30)], sy_dh F1 X1 X2 (iv_H 3), 0, 0)) :
    hd_W Ls xs d jm_M36 Q (0, sy_dL F [some (.inl (.ref 30)), some (.inr (.inl 82)), some (.inr (.inl 83)), none, none], sy_dS F [], sy_dh F X1 X2 (iv_H 3), 0, 0) := by
  refine hd_run (s := 3) (nv := 84) (pc := 2) (L := [some (.inl (.ref 30)), some (.inr (.inl 82)), some (.inr (.inl 83)), none, none]) (S := [.inr (.inl 82), .inl (.ref 30)]) (uh := hd_ov (iv_id 0 iv_B0) []) (ul := [.inl (.inr (.inl 82)), .inl (.inr (.inl 83))]) (f := true) (sp := [2]) (d0 := 3) (O := []) (T := []) (P := []) jm_ok36 (by decide +kernel) (by decide +kernel) hd F X1 X2 (fun F' hF hs => ?_)
  have b82 := hd_b (F := F) (F' := F') (k := 82) (hF 82 (by decide))
  have b83 := hd_b (F := F) (F' := F') (k := 83) (hF 83 (by decide))
  have hB' : iv_in F' iv_B0 := iv_in_eq hB (fun j hj => hF j (Nat.lt_of_lt_of_le hj (by decide +kernel)))
  refine ⟨fun _ h => absurd h List.not_mem_nil, ?_⟩
  refine k _ ?_ ?_ ?_
  · exact fun j hj _ => (hd_keep hB' (Nat.lt_of_lt_of_le hj (by decide +kernel)) (by simp)).trans (hF j (by omega))
  · exact hd_gi (x := .inr (.inl 82)) (by decide +kernel) b82
  · exact hd_gi (x := .inr (.inl 83)) (by decide +kernel) b83
theorem k3pl_5_p0 {Ls : Nat} {xs : Nat → Int32} {d : Nat} {Q : Option Value → jm_h → Prop} (hd : 4 ≤ d) (F : Nat → sy_d) (X1 X2 : List jm_c) (hB : iv_in F iv_B0)
    (h0 : (sy_i F 84).toInt = 0)
    (k : ∀ F1 : Nat → sy_d, (∀ j, j < 82 → True → F1 j = F j) → Q (some (.int ((0 : Int32)))) (sy_dh F1 X1 X2 (iv_H 3))) :
    hd_W Ls xs d jm_M36 Q (5, sy_dL F [some (.inl (.ref 30)), some (.inr (.inl 82)), some (.inr (.inl 83)), none, none], sy_dS F [.inr (.inl 84)], sy_dh F X1 X2 (iv_H 3), 0, 0) := by
  refine hd_ret (s := 3) (nv := 85) (v := some (.inl (.int 0))) (uh := hd_ov (iv_id 0 iv_B0) []) (f := false) (sp := [11]) (d0 := 3) (O := [true]) (T := []) (P := [(0, .inr (.inl 84), .inl (.int 0))]) jm_ok36 (by decide +kernel) (by decide +kernel) hd F X1 X2 (fun F' hF hs => ?_)
  have b84 := hd_b (F := F) (F' := F') (k := 84) (hF 84 (by decide))
  have hB' : iv_in F' iv_B0 := iv_in_eq hB (fun j hj => hF j (Nat.lt_of_lt_of_le hj (by decide +kernel)))
  refine ⟨List.forall_mem_cons.mpr ⟨hd_p0 b84 rfl (by have hc : ((0) : Int32).toInt = 0 := (by decide); omega), fun _ h => absurd h List.not_mem_nil⟩, ?_⟩
  refine k _ ?_
  · exact fun j hj _ => (hd_keep hB' (Nat.lt_of_lt_of_le hj (by decide +kernel)) (by simp)).trans (hF j (by omega))
theorem k3pl_5_p1 {Ls : Nat} {xs : Nat → Int32} {d : Nat} {Q : Option Value → jm_h → Prop} (hd : 4 ≤ d) (F : Nat → sy_d) (X1 X2 : List jm_c) (hB : iv_in F iv_B0)
    (h0 : (sy_i F 84).toInt ≠ 0)
    (k : ∀ F1 : Nat → sy_d, (∀ j, j < 82 → True → F1 j = F j) → F1 82 = .inl (.int (sy_i F 82)) → F1 83 = .inl (.int (sy_i F 83)) → hd_W Ls xs d jm_M36 Q (11, sy_dL F1 [some (.inl (.ref 30)), some (.inr (.inl 82)), some (.inr (.inl 83)), none, none], sy_dS F1 [.inl (.int 61), .inl (.ref 30)], sy_dh F1 X1 X2 (iv_H 3), 0, 0)) :
    hd_W Ls xs d jm_M36 Q (5, sy_dL F [some (.inl (.ref 30)), some (.inr (.inl 82)), some (.inr (.inl 83)), none, none], sy_dS F [.inr (.inl 84)], sy_dh F X1 X2 (iv_H 3), 0, 0) := by
  refine hd_run (s := 3) (nv := 85) (pc := 11) (L := [some (.inl (.ref 30)), some (.inr (.inl 82)), some (.inr (.inl 83)), none, none]) (S := [.inl (.int 61), .inl (.ref 30)]) (uh := hd_ov (iv_id 0 iv_B0) []) (ul := [.inl (.inr (.inl 82)), .inl (.inr (.inl 83))]) (f := false) (sp := [11]) (d0 := 3) (O := [false]) (T := []) (P := [(1, .inr (.inl 84), .inl (.int 0))]) jm_ok36 (by decide +kernel) (by decide +kernel) hd F X1 X2 (fun F' hF hs => ?_)
  have b84 := hd_b (F := F) (F' := F') (k := 84) (hF 84 (by decide))
  have b82 := hd_b (F := F) (F' := F') (k := 82) (hF 82 (by decide))
  have b83 := hd_b (F := F) (F' := F') (k := 83) (hF 83 (by decide))
  have hB' : iv_in F' iv_B0 := iv_in_eq hB (fun j hj => hF j (Nat.lt_of_lt_of_le hj (by decide +kernel)))
  refine ⟨List.forall_mem_cons.mpr ⟨hd_p1 b84 rfl (by have hc : ((0) : Int32).toInt = 0 := (by decide); omega), fun _ h => absurd h List.not_mem_nil⟩, ?_⟩
  refine k _ ?_ ?_ ?_
  · exact fun j hj _ => (hd_keep hB' (Nat.lt_of_lt_of_le hj (by decide +kernel)) (by simp)).trans (hF j (by omega))
  · exact hd_gi (x := .inr (.inl 82)) (by decide +kernel) b82
  · exact hd_gi (x := .inr (.inl 83)) (by decide +kernel) b83
theorem k3pl_14_p0 {Ls : Nat} {xs : Nat → Int32} {d : Nat} {Q : Option Value → jm_h → Prop} (hd : 4 ≤ d) (F : Nat → sy_d) (X1 X2 : List jm_c) (hB : iv_in F iv_B0)
    (h0 : (sy_i F 84).toInt ≠ 0)
    (k : ∀ F1 : Nat → sy_d, (∀ j, j < 82 → True → F1 j = F j) → F1 82 = .inl (.int (sy_i F 83)) → F1 83 = .inl (.int (sy_i F 8)) → F1 84 = .inl (.int ((0 : Int32))) → hd_W Ls xs d jm_M36 Q (30, sy_dL F1 [some (.inl (.ref 30)), none, some (.inr (.inl 82)), some (.inr (.inl 83)), some (.inr (.inl 84))], sy_dS F1 [], sy_dh F1 X1 X2 (iv_H 3), 0, 0)) :
    hd_W Ls xs d jm_M36 Q (14, sy_dL F [some (.inl (.ref 30)), some (.inr (.inl 82)), some (.inr (.inl 83)), none, none], sy_dS F [.inr (.inl 84)], sy_dh F X1 X2 (iv_H 3), 0, 0) := by
  refine hd_run (s := 3) (nv := 85) (pc := 30) (L := [some (.inl (.ref 30)), none, some (.inr (.inl 82)), some (.inr (.inl 83)), some (.inr (.inl 84))]) (S := []) (uh := hd_ov (iv_id 0 iv_B0) []) (ul := [.inl (.inr (.inl 83)), .inl (.inr (.inl 8)), .inl (.inl (.int 0))]) (f := false) (sp := [30]) (d0 := 3) (O := [true]) (T := []) (P := [(1, .inr (.inl 84), .inl (.int 0))]) jm_ok36 (by decide +kernel) (by decide +kernel) hd F X1 X2 (fun F' hF hs => ?_)
  have b84 := hd_b (F := F) (F' := F') (k := 84) (hF 84 (by decide))
  have b83 := hd_b (F := F) (F' := F') (k := 83) (hF 83 (by decide))
  have b8 := hd_b (F := F) (F' := F') (k := 8) (hF 8 (by decide))
  have hB' : iv_in F' iv_B0 := iv_in_eq hB (fun j hj => hF j (Nat.lt_of_lt_of_le hj (by decide +kernel)))
  refine ⟨List.forall_mem_cons.mpr ⟨hd_p1 b84 rfl (by have hc : ((0) : Int32).toInt = 0 := (by decide); omega), fun _ h => absurd h List.not_mem_nil⟩, ?_⟩
  refine k _ ?_ ?_ ?_ ?_
  · exact fun j hj _ => (hd_keep hB' (Nat.lt_of_lt_of_le hj (by decide +kernel)) (by simp)).trans (hF j (by omega))
  · exact hd_gi (x := .inr (.inl 83)) (by decide +kernel) b83
  · exact hd_gi (x := .inr (.inl 8)) (by decide +kernel) b8
  · exact hd_gi (x := .inl (.int 0)) (by decide +kernel) rfl
theorem k3pl_14_p1 {Ls : Nat} {xs : Nat → Int32} {d : Nat} {Q : Option Value → jm_h → Prop} (hd : 4 ≤ d) (F : Nat → sy_d) (X1 X2 : List jm_c) (hB : iv_in F iv_B0)
    (h0 : (sy_i F 84).toInt = 0)
    (k : ∀ F1 : Nat → sy_d, (∀ j, j < 82 → True → F1 j = F j) → Q (some (.int ((0 : Int32)))) (sy_dh F1 X1 X2 (iv_H 3))) :
    hd_W Ls xs d jm_M36 Q (14, sy_dL F [some (.inl (.ref 30)), some (.inr (.inl 82)), some (.inr (.inl 83)), none, none], sy_dS F [.inr (.inl 84)], sy_dh F X1 X2 (iv_H 3), 0, 0) := by
  refine hd_ret (s := 3) (nv := 85) (v := some (.inl (.int 0))) (uh := hd_ov (iv_id 0 iv_B0) []) (f := false) (sp := [30]) (d0 := 3) (O := [false]) (T := []) (P := [(0, .inr (.inl 84), .inl (.int 0))]) jm_ok36 (by decide +kernel) (by decide +kernel) hd F X1 X2 (fun F' hF hs => ?_)
  have b84 := hd_b (F := F) (F' := F') (k := 84) (hF 84 (by decide))
  have hB' : iv_in F' iv_B0 := iv_in_eq hB (fun j hj => hF j (Nat.lt_of_lt_of_le hj (by decide +kernel)))
  refine ⟨List.forall_mem_cons.mpr ⟨hd_p0 b84 rfl (by have hc : ((0) : Int32).toInt = 0 := (by decide); omega), fun _ h => absurd h List.not_mem_nil⟩, ?_⟩
  refine k _ ?_
  · exact fun j hj _ => (hd_keep hB' (Nat.lt_of_lt_of_le hj (by decide +kernel)) (by simp)).trans (hF j (by omega))
theorem k3pl_30_p0 {Ls : Nat} {xs : Nat → Int32} {d : Nat} {Q : Option Value → jm_h → Prop} (hd : 4 ≤ d) (F : Nat → sy_d) (X1 X2 : List jm_c) (hB : iv_in F iv_B0)
    (h0 : 4 < (sy_i F 84).toInt)
    (k : ∀ F1 : Nat → sy_d, (∀ j, j < 82 → True → F1 j = F j) → F1 82 = .inl (.int (sy_i F 82)) → F1 83 = .inl (.int (sy_i F 83)) → hd_W Ls xs d jm_M36 Q (83, sy_dL F1 [some (.inl (.ref 30)), none, some (.inr (.inl 82)), some (.inr (.inl 83)), none], sy_dS F1 [.inl (.int 0), .inr (.inl 82), .inl (.ref 30)], sy_dh F1 X1 X2 (iv_H 3), 0, 0)) :
    hd_W Ls xs d jm_M36 Q (30, sy_dL F [some (.inl (.ref 30)), none, some (.inr (.inl 82)), some (.inr (.inl 83)), some (.inr (.inl 84))], sy_dS F [], sy_dh F X1 X2 (iv_H 3), 0, 0) := by
  refine hd_run (s := 3) (nv := 85) (pc := 83) (L := [some (.inl (.ref 30)), none, some (.inr (.inl 82)), some (.inr (.inl 83)), none]) (S := [.inl (.int 0), .inr (.inl 82), .inl (.ref 30)]) (uh := hd_ov (iv_id 0 iv_B0) []) (ul := [.inl (.inr (.inl 82)), .inl (.inr (.inl 83))]) (f := true) (sp := [66, 83]) (d0 := 3) (O := [true]) (T := []) (P := [(2, .inl (.int 4), .inr (.inl 84))]) jm_ok36 (by decide +kernel) (by decide +kernel) hd F X1 X2 (fun F' hF hs => ?_)
  have b84 := hd_b (F := F) (F' := F') (k := 84) (hF 84 (by decide))
  have b82 := hd_b (F := F) (F' := F') (k := 82) (hF 82 (by decide))
  have b83 := hd_b (F := F) (F' := F') (k := 83) (hF 83 (by decide))
  have hB' : iv_in F' iv_B0 := iv_in_eq hB (fun j hj => hF j (Nat.lt_of_lt_of_le hj (by decide +kernel)))
  refine ⟨List.forall_mem_cons.mpr ⟨hd_p2 rfl b84 (by have hc : ((4) : Int32).toInt = 4 := (by decide); omega), fun _ h => absurd h List.not_mem_nil⟩, ?_⟩
  refine k _ ?_ ?_ ?_
  · exact fun j hj _ => (hd_keep hB' (Nat.lt_of_lt_of_le hj (by decide +kernel)) (by simp)).trans (hF j (by omega))
  · exact hd_gi (x := .inr (.inl 82)) (by decide +kernel) b82
  · exact hd_gi (x := .inr (.inl 83)) (by decide +kernel) b83
theorem k3pl_30_p1 {Ls : Nat} {xs : Nat → Int32} {d : Nat} {Q : Option Value → jm_h → Prop} (hd : 4 ≤ d) (F : Nat → sy_d) (X1 X2 : List jm_c) (hB : iv_in F iv_B0)
    (h0 : (sy_i F 84).toInt ≤ 4)
    (h1 : 0 ≤ (sy_i F 33).toInt)
    (h2 : (sy_i F 33).toInt ≤ 400)
    (h3 : 0 ≤ (sy_i F 33).toInt ∧ (sy_i F 33).toInt < 401)
    (h4 : ((sy_ai F 39).getD (sy_i F 33).toNatClampNeg 0).toInt ≠ 11)
    (k : ∀ F1 : Nat → sy_d, (∀ j, j < 82 → True → F1 j = F j) → F1 82 = .inl (.int (sy_i F 82)) → F1 83 = .inl (.int (sy_i F 83)) → hd_W Ls xs d jm_M36 Q (83, sy_dL F1 [some (.inl (.ref 30)), none, some (.inr (.inl 82)), some (.inr (.inl 83)), none], sy_dS F1 [.inl (.int 0), .inr (.inl 82), .inl (.ref 30)], sy_dh F1 X1 X2 (iv_H 3), 0, 0)) :
    hd_W Ls xs d jm_M36 Q (30, sy_dL F [some (.inl (.ref 30)), none, some (.inr (.inl 82)), some (.inr (.inl 83)), some (.inr (.inl 84))], sy_dS F [], sy_dh F X1 X2 (iv_H 3), 0, 0) := by
  refine hd_run (s := 3) (nv := 85) (pc := 83) (L := [some (.inl (.ref 30)), none, some (.inr (.inl 82)), some (.inr (.inl 83)), none]) (S := [.inl (.int 0), .inr (.inl 82), .inl (.ref 30)]) (uh := hd_ov (iv_id 0 iv_B0) []) (ul := [.inl (.inr (.inl 82)), .inl (.inr (.inl 83))]) (f := true) (sp := [66, 83]) (d0 := 3) (O := [false, false, false, true]) (T := [(30, [.inr (.inl 33)], [.inr (.inl 39)])]) (P := [(3, .inl (.int 4), .inr (.inl 84)), (3, .inr (.inl 33), .inl (.int 0)), (3, .inl (.int 400), .inr (.inl 33)), (6, .inr (.inl 33), .inl (.ref 401)), (1, .inr (.inl 85), .inl (.int 11))]) jm_ok36 (by decide +kernel) (by decide +kernel) hd F X1 X2 (fun F' hF hs => ?_)
  have b84 := hd_b (F := F) (F' := F') (k := 84) (hF 84 (by decide))
  have b33 := hd_b (F := F) (F' := F') (k := 33) (hF 33 (by decide))
  have a39 := hd_ba (F := F) (F' := F') (k := 39) (hF 39 (by decide))
  have t85 : sy_dv F' (.inr (.inl 85)) = .int ((sy_ai F 39).getD (sy_i F 33).toNatClampNeg 0) := hd_rd (hs 0 _ rfl) b33 a39
  have b82 := hd_b (F := F) (F' := F') (k := 82) (hF 82 (by decide))
  have b83 := hd_b (F := F) (F' := F') (k := 83) (hF 83 (by decide))
  have hB' : iv_in F' iv_B0 := iv_in_eq hB (fun j hj => hF j (Nat.lt_of_lt_of_le hj (by decide +kernel)))
  refine ⟨List.forall_mem_cons.mpr ⟨hd_p3 rfl b84 (by have hc : ((4) : Int32).toInt = 4 := (by decide); omega), List.forall_mem_cons.mpr ⟨hd_p3 b33 rfl (by have hc : ((0) : Int32).toInt = 0 := (by decide); omega), List.forall_mem_cons.mpr ⟨hd_p3 rfl b33 (by have hc : ((400) : Int32).toInt = 400 := (by decide); omega), List.forall_mem_cons.mpr ⟨hd_pb b33 (by first | exact h3 | exact h3), List.forall_mem_cons.mpr ⟨hd_p1 t85 rfl (by have hc : ((11) : Int32).toInt = 11 := (by decide); omega), fun _ h => absurd h List.not_mem_nil⟩⟩⟩⟩⟩, ?_⟩
  refine k _ ?_ ?_ ?_
  · exact fun j hj _ => (hd_keep hB' (Nat.lt_of_lt_of_le hj (by decide +kernel)) (by simp)).trans (hF j (by omega))
  · exact hd_gi (x := .inr (.inl 82)) (by decide +kernel) b82
  · exact hd_gi (x := .inr (.inl 83)) (by decide +kernel) b83
theorem k3pl_30_p2 {Ls : Nat} {xs : Nat → Int32} {d : Nat} {Q : Option Value → jm_h → Prop} (hd : 4 ≤ d) (F : Nat → sy_d) (X1 X2 : List jm_c) (hB : iv_in F iv_B0)
    (h0 : (sy_i F 84).toInt ≤ 4)
    (h1 : 0 ≤ (sy_i F 33).toInt)
    (h2 : (sy_i F 33).toInt ≤ 400)
    (h3 : 0 ≤ (sy_i F 33).toInt ∧ (sy_i F 33).toInt < 401)
    (h4 : ((sy_ai F 39).getD (sy_i F 33).toNatClampNeg 0).toInt = 11)
    (h5 : (sy_i F 84).toInt < 4)
    (k : ∀ F1 : Nat → sy_d, (∀ j, j < 82 → True → F1 j = F j) → F1 82 = .inl (.int (sy_i F 82)) → F1 83 = .inl (.int (sy_i F 83)) → F1 84 = .inl (.int (sy_i F 84)) → hd_W Ls xs d jm_M36 Q (66, sy_dL F1 [some (.inl (.ref 30)), none, some (.inr (.inl 82)), some (.inr (.inl 83)), some (.inr (.inl 84))], sy_dS F1 [.inr (.inl 82), .inl (.ref 30)], sy_dh F1 X1 X2 (iv_H 3), 0, 0)) :
    hd_W Ls xs d jm_M36 Q (30, sy_dL F [some (.inl (.ref 30)), none, some (.inr (.inl 82)), some (.inr (.inl 83)), some (.inr (.inl 84))], sy_dS F [], sy_dh F X1 X2 (iv_H 3), 0, 0) := by
  refine hd_run (s := 3) (nv := 85) (pc := 66) (L := [some (.inl (.ref 30)), none, some (.inr (.inl 82)), some (.inr (.inl 83)), some (.inr (.inl 84))]) (S := [.inr (.inl 82), .inl (.ref 30)]) (uh := hd_ov (iv_id 0 iv_B0) []) (ul := [.inl (.inr (.inl 82)), .inl (.inr (.inl 83)), .inl (.inr (.inl 84))]) (f := true) (sp := [66, 83]) (d0 := 3) (O := [false, false, false, false, true]) (T := [(30, [.inr (.inl 33)], [.inr (.inl 39)])]) (P := [(3, .inl (.int 4), .inr (.inl 84)), (3, .inr (.inl 33), .inl (.int 0)), (3, .inl (.int 400), .inr (.inl 33)), (6, .inr (.inl 33), .inl (.ref 401)), (0, .inr (.inl 85), .inl (.int 11)), (2, .inr (.inl 84), .inl (.int 4))]) jm_ok36 (by decide +kernel) (by decide +kernel) hd F X1 X2 (fun F' hF hs => ?_)
  have b84 := hd_b (F := F) (F' := F') (k := 84) (hF 84 (by decide))
  have b33 := hd_b (F := F) (F' := F') (k := 33) (hF 33 (by decide))
  have a39 := hd_ba (F := F) (F' := F') (k := 39) (hF 39 (by decide))
  have t85 : sy_dv F' (.inr (.inl 85)) = .int ((sy_ai F 39).getD (sy_i F 33).toNatClampNeg 0) := hd_rd (hs 0 _ rfl) b33 a39
  have b82 := hd_b (F := F) (F' := F') (k := 82) (hF 82 (by decide))
  have b83 := hd_b (F := F) (F' := F') (k := 83) (hF 83 (by decide))
  have hB' : iv_in F' iv_B0 := iv_in_eq hB (fun j hj => hF j (Nat.lt_of_lt_of_le hj (by decide +kernel)))
  refine ⟨List.forall_mem_cons.mpr ⟨hd_p3 rfl b84 (by have hc : ((4) : Int32).toInt = 4 := (by decide); omega), List.forall_mem_cons.mpr ⟨hd_p3 b33 rfl (by have hc : ((0) : Int32).toInt = 0 := (by decide); omega), List.forall_mem_cons.mpr ⟨hd_p3 rfl b33 (by have hc : ((400) : Int32).toInt = 400 := (by decide); omega), List.forall_mem_cons.mpr ⟨hd_pb b33 (by first | exact h3 | exact h3), List.forall_mem_cons.mpr ⟨hd_p0 t85 rfl (by have hc : ((11) : Int32).toInt = 11 := (by decide); omega), List.forall_mem_cons.mpr ⟨hd_p2 b84 rfl (by have hc : ((4) : Int32).toInt = 4 := (by decide); omega), fun _ h => absurd h List.not_mem_nil⟩⟩⟩⟩⟩⟩, ?_⟩
  refine k _ ?_ ?_ ?_ ?_
  · exact fun j hj _ => (hd_keep hB' (Nat.lt_of_lt_of_le hj (by decide +kernel)) (by simp)).trans (hF j (by omega))
  · exact hd_gi (x := .inr (.inl 82)) (by decide +kernel) b82
  · exact hd_gi (x := .inr (.inl 83)) (by decide +kernel) b83
  · exact hd_gi (x := .inr (.inl 84)) (by decide +kernel) b84
theorem k3pl_30_p3 {Ls : Nat} {xs : Nat → Int32} {d : Nat} {Q : Option Value → jm_h → Prop} (hd : 4 ≤ d) (F : Nat → sy_d) (X1 X2 : List jm_c) (hB : iv_in F iv_B0)
    (h0 : (sy_i F 84).toInt ≤ 4)
    (h1 : 0 ≤ (sy_i F 33).toInt)
    (h2 : (sy_i F 33).toInt ≤ 400)
    (h3 : 0 ≤ (sy_i F 33).toInt ∧ (sy_i F 33).toInt < 401)
    (h4 : ((sy_ai F 39).getD (sy_i F 33).toNatClampNeg 0).toInt = 11)
    (h5 : 4 ≤ (sy_i F 84).toInt)
    (k : ∀ F1 : Nat → sy_d, (∀ j, j < 82 → j ≠ 34 → F1 j = F j) → F1 34 = .inl (.int ((2 : Int32))) → Q (some (.int ((0 : Int32)))) (sy_dh F1 X1 X2 (iv_H 3))) :
    hd_W Ls xs d jm_M36 Q (30, sy_dL F [some (.inl (.ref 30)), none, some (.inr (.inl 82)), some (.inr (.inl 83)), some (.inr (.inl 84))], sy_dS F [], sy_dh F X1 X2 (iv_H 3), 0, 0) := by
  refine hd_ret (s := 3) (nv := 85) (v := some (.inl (.int 0))) (uh := hd_ov (iv_id 0 iv_B0) [(34, .inl (.inl (.int 2)))]) (f := true) (sp := [66, 83]) (d0 := 3) (O := [false, false, false, false, false]) (T := [(30, [.inr (.inl 33)], [.inr (.inl 39)])]) (P := [(3, .inl (.int 4), .inr (.inl 84)), (3, .inr (.inl 33), .inl (.int 0)), (3, .inl (.int 400), .inr (.inl 33)), (6, .inr (.inl 33), .inl (.ref 401)), (0, .inr (.inl 85), .inl (.int 11)), (3, .inr (.inl 84), .inl (.int 4))]) jm_ok36 (by decide +kernel) (by decide +kernel) hd F X1 X2 (fun F' hF hs => ?_)
  have b84 := hd_b (F := F) (F' := F') (k := 84) (hF 84 (by decide))
  have b33 := hd_b (F := F) (F' := F') (k := 33) (hF 33 (by decide))
  have a39 := hd_ba (F := F) (F' := F') (k := 39) (hF 39 (by decide))
  have t85 : sy_dv F' (.inr (.inl 85)) = .int ((sy_ai F 39).getD (sy_i F 33).toNatClampNeg 0) := hd_rd (hs 0 _ rfl) b33 a39
  have hB' : iv_in F' iv_B0 := iv_in_eq hB (fun j hj => hF j (Nat.lt_of_lt_of_le hj (by decide +kernel)))
  refine ⟨List.forall_mem_cons.mpr ⟨hd_p3 rfl b84 (by have hc : ((4) : Int32).toInt = 4 := (by decide); omega), List.forall_mem_cons.mpr ⟨hd_p3 b33 rfl (by have hc : ((0) : Int32).toInt = 0 := (by decide); omega), List.forall_mem_cons.mpr ⟨hd_p3 rfl b33 (by have hc : ((400) : Int32).toInt = 400 := (by decide); omega), List.forall_mem_cons.mpr ⟨hd_pb b33 (by first | exact h3 | exact h3), List.forall_mem_cons.mpr ⟨hd_p0 t85 rfl (by have hc : ((11) : Int32).toInt = 11 := (by decide); omega), List.forall_mem_cons.mpr ⟨hd_p3 b84 rfl (by have hc : ((4) : Int32).toInt = 4 := (by decide); omega), fun _ h => absurd h List.not_mem_nil⟩⟩⟩⟩⟩⟩, ?_⟩
  refine k _ ?_ ?_
  · exact fun j hj hn => (hd_keep hB' (Nat.lt_of_lt_of_le hj (by decide +kernel)) (by simp; omega)).trans (hF j (by omega))
  · exact hd_gi (x := .inl (.int 2)) (by decide +kernel) rfl
theorem k3pl_69_p0 {Ls : Nat} {xs : Nat → Int32} {d : Nat} {Q : Option Value → jm_h → Prop} (hd : 4 ≤ d) (F : Nat → sy_d) (X1 X2 : List jm_c) (hB : iv_in F iv_B0)
    (h0 : (sy_i F 85).toInt ≠ 0)
    (k : ∀ F1 : Nat → sy_d, (∀ j, j < 82 → True → F1 j = F j) → F1 82 = .inl (.int (sy_i F 82)) → F1 83 = .inl (.int (sy_i F 83)) → F1 84 = .inl (.int ((sy_i F 84) + ((1 : Int32)))) → hd_W Ls xs d jm_M36 Q (30, sy_dL F1 [some (.inl (.ref 30)), none, some (.inr (.inl 82)), some (.inr (.inl 83)), some (.inr (.inl 84))], sy_dS F1 [], sy_dh F1 X1 X2 (iv_H 3), 0, 0)) :
    hd_W Ls xs d jm_M36 Q (69, sy_dL F [some (.inl (.ref 30)), none, some (.inr (.inl 82)), some (.inr (.inl 83)), some (.inr (.inl 84))], sy_dS F [.inr (.inl 85)], sy_dh F X1 X2 (iv_H 3), 0, 0) := by
  refine hd_run (s := 3) (nv := 86) (pc := 30) (L := [some (.inl (.ref 30)), none, some (.inr (.inl 82)), some (.inr (.inl 83)), some (.inr (.inl 84))]) (S := []) (uh := hd_ov (iv_id 0 iv_B0) []) (ul := [.inl (.inr (.inl 82)), .inl (.inr (.inl 83)), .inl (.inr (.inl 86))]) (f := false) (sp := [30]) (d0 := 3) (O := [true]) (T := [(0, [.inr (.inl 84), .inl (.int 1)], [])]) (P := [(1, .inr (.inl 85), .inl (.int 0))]) jm_ok36 (by decide +kernel) (by decide +kernel) hd F X1 X2 (fun F' hF hs => ?_)
  have b85 := hd_b (F := F) (F' := F') (k := 85) (hF 85 (by decide))
  have b82 := hd_b (F := F) (F' := F') (k := 82) (hF 82 (by decide))
  have b83 := hd_b (F := F) (F' := F') (k := 83) (hF 83 (by decide))
  have b84 := hd_b (F := F) (F' := F') (k := 84) (hF 84 (by decide))
  have t86 : sy_dv F' (.inr (.inl 86)) = .int ((sy_i F 84) + ((1 : Int32))) := hd_o (hs 0 _ rfl) b84 rfl rfl
  have hB' : iv_in F' iv_B0 := iv_in_eq hB (fun j hj => hF j (Nat.lt_of_lt_of_le hj (by decide +kernel)))
  refine ⟨List.forall_mem_cons.mpr ⟨hd_p1 b85 rfl (by have hc : ((0) : Int32).toInt = 0 := (by decide); omega), fun _ h => absurd h List.not_mem_nil⟩, ?_⟩
  refine k _ ?_ ?_ ?_ ?_
  · exact fun j hj _ => (hd_keep hB' (Nat.lt_of_lt_of_le hj (by decide +kernel)) (by simp)).trans (hF j (by omega))
  · exact hd_gi (x := .inr (.inl 82)) (by decide +kernel) b82
  · exact hd_gi (x := .inr (.inl 83)) (by decide +kernel) b83
  · exact hd_gi (x := .inr (.inl 86)) (by decide +kernel) t86
theorem k3pl_69_p1 {Ls : Nat} {xs : Nat → Int32} {d : Nat} {Q : Option Value → jm_h → Prop} (hd : 4 ≤ d) (F : Nat → sy_d) (X1 X2 : List jm_c) (hB : iv_in F iv_B0)
    (h0 : (sy_i F 85).toInt = 0)
    (k : ∀ F1 : Nat → sy_d, (∀ j, j < 82 → True → F1 j = F j) → Q (some (.int ((0 : Int32)))) (sy_dh F1 X1 X2 (iv_H 3))) :
    hd_W Ls xs d jm_M36 Q (69, sy_dL F [some (.inl (.ref 30)), none, some (.inr (.inl 82)), some (.inr (.inl 83)), some (.inr (.inl 84))], sy_dS F [.inr (.inl 85)], sy_dh F X1 X2 (iv_H 3), 0, 0) := by
  refine hd_ret (s := 3) (nv := 86) (v := some (.inl (.int 0))) (uh := hd_ov (iv_id 0 iv_B0) []) (f := false) (sp := [30]) (d0 := 3) (O := [false]) (T := []) (P := [(0, .inr (.inl 85), .inl (.int 0))]) jm_ok36 (by decide +kernel) (by decide +kernel) hd F X1 X2 (fun F' hF hs => ?_)
  have b85 := hd_b (F := F) (F' := F') (k := 85) (hF 85 (by decide))
  have hB' : iv_in F' iv_B0 := iv_in_eq hB (fun j hj => hF j (Nat.lt_of_lt_of_le hj (by decide +kernel)))
  refine ⟨List.forall_mem_cons.mpr ⟨hd_p0 b85 rfl (by have hc : ((0) : Int32).toInt = 0 := (by decide); omega), fun _ h => absurd h List.not_mem_nil⟩, ?_⟩
  refine k _ ?_
  · exact fun j hj _ => (hd_keep hB' (Nat.lt_of_lt_of_le hj (by decide +kernel)) (by simp)).trans (hF j (by omega))
theorem k3pl_86_p0 {Ls : Nat} {xs : Nat → Int32} {d : Nat} {Q : Option Value → jm_h → Prop} (hd : 4 ≤ d) (F : Nat → sy_d) (X1 X2 : List jm_c) (hB : iv_in F iv_B0)
    (h0 : (sy_i F 84).toInt = 0)
    (k : ∀ F1 : Nat → sy_d, (∀ j, j < 82 → True → F1 j = F j) → Q (some (.int ((0 : Int32)))) (sy_dh F1 X1 X2 (iv_H 3))) :
    hd_W Ls xs d jm_M36 Q (86, sy_dL F [some (.inl (.ref 30)), none, some (.inr (.inl 82)), some (.inr (.inl 83)), none], sy_dS F [.inr (.inl 84)], sy_dh F X1 X2 (iv_H 3), 0, 0) := by
  refine hd_ret (s := 3) (nv := 85) (v := some (.inl (.int 0))) (uh := hd_ov (iv_id 0 iv_B0) []) (f := false) (sp := [92]) (d0 := 3) (O := [true]) (T := []) (P := [(0, .inr (.inl 84), .inl (.int 0))]) jm_ok36 (by decide +kernel) (by decide +kernel) hd F X1 X2 (fun F' hF hs => ?_)
  have b84 := hd_b (F := F) (F' := F') (k := 84) (hF 84 (by decide))
  have hB' : iv_in F' iv_B0 := iv_in_eq hB (fun j hj => hF j (Nat.lt_of_lt_of_le hj (by decide +kernel)))
  refine ⟨List.forall_mem_cons.mpr ⟨hd_p0 b84 rfl (by have hc : ((0) : Int32).toInt = 0 := (by decide); omega), fun _ h => absurd h List.not_mem_nil⟩, ?_⟩
  refine k _ ?_
  · exact fun j hj _ => (hd_keep hB' (Nat.lt_of_lt_of_le hj (by decide +kernel)) (by simp)).trans (hF j (by omega))
theorem k3pl_86_p1 {Ls : Nat} {xs : Nat → Int32} {d : Nat} {Q : Option Value → jm_h → Prop} (hd : 4 ≤ d) (F : Nat → sy_d) (X1 X2 : List jm_c) (hB : iv_in F iv_B0)
    (h0 : (sy_i F 84).toInt ≠ 0)
    (k : ∀ F1 : Nat → sy_d, (∀ j, j < 82 → True → F1 j = F j) → F1 82 = .inl (.int (sy_i F 82)) → F1 83 = .inl (.int (sy_i F 83)) → hd_W Ls xs d jm_M36 Q (92, sy_dL F1 [some (.inl (.ref 30)), none, some (.inr (.inl 82)), some (.inr (.inl 83)), none], sy_dS F1 [.inl (.int 59), .inl (.ref 30)], sy_dh F1 X1 X2 (iv_H 3), 0, 0)) :
    hd_W Ls xs d jm_M36 Q (86, sy_dL F [some (.inl (.ref 30)), none, some (.inr (.inl 82)), some (.inr (.inl 83)), none], sy_dS F [.inr (.inl 84)], sy_dh F X1 X2 (iv_H 3), 0, 0) := by
  refine hd_run (s := 3) (nv := 85) (pc := 92) (L := [some (.inl (.ref 30)), none, some (.inr (.inl 82)), some (.inr (.inl 83)), none]) (S := [.inl (.int 59), .inl (.ref 30)]) (uh := hd_ov (iv_id 0 iv_B0) []) (ul := [.inl (.inr (.inl 82)), .inl (.inr (.inl 83))]) (f := false) (sp := [92]) (d0 := 3) (O := [false]) (T := []) (P := [(1, .inr (.inl 84), .inl (.int 0))]) jm_ok36 (by decide +kernel) (by decide +kernel) hd F X1 X2 (fun F' hF hs => ?_)
  have b84 := hd_b (F := F) (F' := F') (k := 84) (hF 84 (by decide))
  have b82 := hd_b (F := F) (F' := F') (k := 82) (hF 82 (by decide))
  have b83 := hd_b (F := F) (F' := F') (k := 83) (hF 83 (by decide))
  have hB' : iv_in F' iv_B0 := iv_in_eq hB (fun j hj => hF j (Nat.lt_of_lt_of_le hj (by decide +kernel)))
  refine ⟨List.forall_mem_cons.mpr ⟨hd_p1 b84 rfl (by have hc : ((0) : Int32).toInt = 0 := (by decide); omega), fun _ h => absurd h List.not_mem_nil⟩, ?_⟩
  refine k _ ?_ ?_ ?_
  · exact fun j hj _ => (hd_keep hB' (Nat.lt_of_lt_of_le hj (by decide +kernel)) (by simp)).trans (hF j (by omega))
  · exact hd_gi (x := .inr (.inl 82)) (by decide +kernel) b82
  · exact hd_gi (x := .inr (.inl 83)) (by decide +kernel) b83
theorem k3pl_95_p0 {Ls : Nat} {xs : Nat → Int32} {d : Nat} {Q : Option Value → jm_h → Prop} (hd : 4 ≤ d) (F : Nat → sy_d) (X1 X2 : List jm_c) (hB : iv_in F iv_B0)
    (h0 : (sy_i F 84).toInt ≠ 0)
    (h1 : 512 ≤ (sy_i F 8).toInt)
    (h2 : 0 ≤ (sy_i F 82).toInt ∧ (sy_i F 82).toInt < 6)
    (k : ∀ F1 : Nat → sy_d, (∀ j, j < 82 → j ≠ 16 → F1 j = F j) → F1 16 = .inr (.inl (jm_upd (sy_ai F 16) (sy_i F 82).toNatClampNeg (sy_i F 83))) → Q (some (.int ((1 : Int32)))) (sy_dh F1 X1 X2 (iv_H 3))) :
    hd_W Ls xs d jm_M36 Q (95, sy_dL F [some (.inl (.ref 30)), none, some (.inr (.inl 82)), some (.inr (.inl 83)), none], sy_dS F [.inr (.inl 84)], sy_dh F X1 X2 (iv_H 3), 0, 0) := by
  refine hd_ret (s := 3) (nv := 85) (v := some (.inl (.int 1))) (uh := hd_ov (iv_id 0 iv_B0) [(16, .inr (.inr (.inl 85)))]) (f := false) (sp := []) (d0 := 3) (O := [true, true]) (T := [(40, [.inr (.inl 82), .inr (.inl 83)], [.inr (.inl 16)])]) (P := [(1, .inr (.inl 84), .inl (.int 0)), (4, .inl (.int 512), .inr (.inl 8)), (6, .inr (.inl 82), .inl (.ref 6))]) jm_ok36 (by decide +kernel) (by decide +kernel) hd F X1 X2 (fun F' hF hs => ?_)
  have b84 := hd_b (F := F) (F' := F') (k := 84) (hF 84 (by decide))
  have b8 := hd_b (F := F) (F' := F') (k := 8) (hF 8 (by decide))
  have b82 := hd_b (F := F) (F' := F') (k := 82) (hF 82 (by decide))
  have b83 := hd_b (F := F) (F' := F') (k := 83) (hF 83 (by decide))
  have a16 := hd_ba (F := F) (F' := F') (k := 16) (hF 16 (by decide))
  have t85 : sy_da F' (.inr (.inl 85)) = .inl (jm_upd (sy_ai F 16) (sy_i F 82).toNatClampNeg (sy_i F 83)) := hd_up (hs 0 _ rfl) b82 b83 a16
  have hB' : iv_in F' iv_B0 := iv_in_eq hB (fun j hj => hF j (Nat.lt_of_lt_of_le hj (by decide +kernel)))
  refine ⟨List.forall_mem_cons.mpr ⟨hd_p1 b84 rfl (by have hc : ((0) : Int32).toInt = 0 := (by decide); omega), List.forall_mem_cons.mpr ⟨hd_p4 rfl b8 (by have hc : ((512) : Int32).toInt = 512 := (by decide); omega), List.forall_mem_cons.mpr ⟨hd_pb b82 (by first | exact h2 | exact h2), fun _ h => absurd h List.not_mem_nil⟩⟩⟩, ?_⟩
  refine k _ ?_ ?_
  · exact fun j hj hn => (hd_keep hB' (Nat.lt_of_lt_of_le hj (by decide +kernel)) (by simp; omega)).trans (hF j (by omega))
  · exact hd_ga (a := .inr (.inl 85)) (by decide +kernel) t85
theorem k3pl_95_p1 {Ls : Nat} {xs : Nat → Int32} {d : Nat} {Q : Option Value → jm_h → Prop} (hd : 4 ≤ d) (F : Nat → sy_d) (X1 X2 : List jm_c) (hB : iv_in F iv_B0)
    (h0 : (sy_i F 84).toInt ≠ 0)
    (h1 : (sy_i F 8).toInt < 512)
    (h2 : 0 ≤ (sy_i F 8).toInt ∧ (sy_i F 8).toInt < 512)
    (h3 : 0 ≤ (sy_i F 82).toInt ∧ (sy_i F 82).toInt < 6)
    (k : ∀ F1 : Nat → sy_d, (∀ j, j < 82 → j ≠ 8 ∧ j ≠ 16 ∧ j ≠ 17 → F1 j = F j) → F1 8 = .inl (.int ((sy_i F 8) + ((1 : Int32)))) → F1 16 = .inr (.inl (jm_upd (sy_ai F 16) (sy_i F 82).toNatClampNeg (sy_i F 83))) → F1 17 = .inr (.inl (jm_upd (sy_ai F 17) (sy_i F 8).toNatClampNeg (((-14) : Int32)))) → Q (some (.int ((1 : Int32)))) (sy_dh F1 X1 X2 (iv_H 3))) :
    hd_W Ls xs d jm_M36 Q (95, sy_dL F [some (.inl (.ref 30)), none, some (.inr (.inl 82)), some (.inr (.inl 83)), none], sy_dS F [.inr (.inl 84)], sy_dh F X1 X2 (iv_H 3), 0, 0) := by
  refine hd_ret (s := 3) (nv := 85) (v := some (.inl (.int 1))) (uh := hd_ov (iv_id 0 iv_B0) [(8, .inl (.inr (.inl 86))), (16, .inr (.inr (.inl 87))), (17, .inr (.inr (.inl 85)))]) (f := false) (sp := []) (d0 := 3) (O := [true, false]) (T := [(40, [.inr (.inl 8), .inl (.int (-14))], [.inr (.inl 17)]), (0, [.inr (.inl 8), .inl (.int 1)], []), (40, [.inr (.inl 82), .inr (.inl 83)], [.inr (.inl 16)])]) (P := [(1, .inr (.inl 84), .inl (.int 0)), (5, .inl (.int 512), .inr (.inl 8)), (6, .inr (.inl 8), .inl (.ref 512)), (6, .inr (.inl 82), .inl (.ref 6))]) jm_ok36 (by decide +kernel) (by decide +kernel) hd F X1 X2 (fun F' hF hs => ?_)
  have b84 := hd_b (F := F) (F' := F') (k := 84) (hF 84 (by decide))
  have b8 := hd_b (F := F) (F' := F') (k := 8) (hF 8 (by decide))
  have b82 := hd_b (F := F) (F' := F') (k := 82) (hF 82 (by decide))
  have t86 : sy_dv F' (.inr (.inl 86)) = .int ((sy_i F 8) + ((1 : Int32))) := hd_o (hs 1 _ rfl) b8 rfl rfl
  have b83 := hd_b (F := F) (F' := F') (k := 83) (hF 83 (by decide))
  have a16 := hd_ba (F := F) (F' := F') (k := 16) (hF 16 (by decide))
  have t87 : sy_da F' (.inr (.inl 87)) = .inl (jm_upd (sy_ai F 16) (sy_i F 82).toNatClampNeg (sy_i F 83)) := hd_up (hs 2 _ rfl) b82 b83 a16
  have a17 := hd_ba (F := F) (F' := F') (k := 17) (hF 17 (by decide))
  have t85 : sy_da F' (.inr (.inl 85)) = .inl (jm_upd (sy_ai F 17) (sy_i F 8).toNatClampNeg (((-14) : Int32))) := hd_up (hs 0 _ rfl) b8 rfl a17
  have hB' : iv_in F' iv_B0 := iv_in_eq hB (fun j hj => hF j (Nat.lt_of_lt_of_le hj (by decide +kernel)))
  refine ⟨List.forall_mem_cons.mpr ⟨hd_p1 b84 rfl (by have hc : ((0) : Int32).toInt = 0 := (by decide); omega), List.forall_mem_cons.mpr ⟨hd_p5 rfl b8 (by have hc : ((512) : Int32).toInt = 512 := (by decide); omega), List.forall_mem_cons.mpr ⟨hd_pb b8 (by first | exact h2 | exact h2), List.forall_mem_cons.mpr ⟨hd_pb b82 (by first | exact h3 | exact h3), fun _ h => absurd h List.not_mem_nil⟩⟩⟩⟩, ?_⟩
  refine k _ ?_ ?_ ?_ ?_
  · exact fun j hj hn => (hd_keep hB' (Nat.lt_of_lt_of_le hj (by decide +kernel)) (by simp; omega)).trans (hF j (by omega))
  · exact hd_gi (x := .inr (.inl 86)) (by decide +kernel) t86
  · exact hd_ga (a := .inr (.inl 87)) (by decide +kernel) t87
  · exact hd_ga (a := .inr (.inl 85)) (by decide +kernel) t85
theorem k3pl_95_p2 {Ls : Nat} {xs : Nat → Int32} {d : Nat} {Q : Option Value → jm_h → Prop} (hd : 4 ≤ d) (F : Nat → sy_d) (X1 X2 : List jm_c) (hB : iv_in F iv_B0)
    (h0 : (sy_i F 84).toInt = 0)
    (k : ∀ F1 : Nat → sy_d, (∀ j, j < 82 → True → F1 j = F j) → Q (some (.int ((0 : Int32)))) (sy_dh F1 X1 X2 (iv_H 3))) :
    hd_W Ls xs d jm_M36 Q (95, sy_dL F [some (.inl (.ref 30)), none, some (.inr (.inl 82)), some (.inr (.inl 83)), none], sy_dS F [.inr (.inl 84)], sy_dh F X1 X2 (iv_H 3), 0, 0) := by
  refine hd_ret (s := 3) (nv := 85) (v := some (.inl (.int 0))) (uh := hd_ov (iv_id 0 iv_B0) []) (f := false) (sp := []) (d0 := 3) (O := [false]) (T := []) (P := [(0, .inr (.inl 84), .inl (.int 0))]) jm_ok36 (by decide +kernel) (by decide +kernel) hd F X1 X2 (fun F' hF hs => ?_)
  have b84 := hd_b (F := F) (F' := F') (k := 84) (hF 84 (by decide))
  have hB' : iv_in F' iv_B0 := iv_in_eq hB (fun j hj => hF j (Nat.lt_of_lt_of_le hj (by decide +kernel)))
  refine ⟨List.forall_mem_cons.mpr ⟨hd_p0 b84 rfl (by have hc : ((0) : Int32).toInt = 0 := (by decide); omega), fun _ h => absurd h List.not_mem_nil⟩, ?_⟩
  refine k _ ?_
  · exact fun j hj _ => (hd_keep hB' (Nat.lt_of_lt_of_le hj (by decide +kernel)) (by simp)).trans (hF j (by omega))
