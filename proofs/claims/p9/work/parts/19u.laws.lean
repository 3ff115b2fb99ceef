/-! ===== terms and laws, way by way ===== -/
theorem tr_0_p0 {Ls : Nat} {xs : Nat → Int32} {d : Nat} {Q : Option Value → jm_h → Prop} (hd : 2 ≤ d) (F : Nat → sy_d) (X1 X2 : List jm_c) (hB : iv_in F iv_B4)
    (h0 : 0 ≤ (sy_i F 14).toInt ∧ (sy_i F 14).toInt < 260)
    (h1 : (sy_i F 6).toInt ≠ 0)
    (k : ∀ F1 : Nat → sy_d, (∀ j, j < 69 → j ≠ 47 → F1 j = F j) → F1 47 = .inr (.inl (jm_upd (sy_ai F 47) (sy_i F 14).toNatClampNeg (sy_i F 15))) → hd_W Ls xs d jm_M161 Q (24, sy_dL F1 [some (.inl (.ref 1000))], sy_dS F1 [], sy_dh F1 X1 X2 (iv_H 4), 0, 0)) :
    hd_W Ls xs d jm_M161 Q (0, sy_dL F [some (.inl (.ref 1000))], sy_dS F [], sy_dh F X1 X2 (iv_H 4), 0, 0) := by
  refine hd_run (s := 4) (nv := 69) (pc := 24) (L := [some (.inl (.ref 1000))]) (S := []) (uh := hd_ov (iv_id 0 iv_B4) [(47, .inr (.inr (.inl 69)))]) (ul := []) (f := true) (sp := [21, 24]) (d0 := 1) (O := [true]) (T := [(40, [.inr (.inl 14), .inr (.inl 15)], [.inr (.inl 47)])]) (P := [(6, .inr (.inl 14), .inl (.ref 260)), (1, .inr (.inl 6), .inl (.int 0))]) jm_ok161 (by decide +kernel) (by decide +kernel) hd F X1 X2 (fun F' hF hs => ?_)
  have b14 := hd_b (F := F) (F' := F') (k := 14) (hF 14 (by decide))
  have b6 := hd_b (F := F) (F' := F') (k := 6) (hF 6 (by decide))
  have b15 := hd_b (F := F) (F' := F') (k := 15) (hF 15 (by decide))
  have a47 := hd_ba (F := F) (F' := F') (k := 47) (hF 47 (by decide))
  have t69 : sy_da F' (.inr (.inl 69)) = .inl (jm_upd (sy_ai F 47) (sy_i F 14).toNatClampNeg (sy_i F 15)) := hd_up (hs 0 _ rfl) b14 b15 a47
  have hB' : iv_in F' iv_B4 := iv_in_eq hB (fun j hj => hF j (Nat.lt_of_lt_of_le hj (by decide +kernel)))
  refine ⟨List.forall_mem_cons.mpr ⟨hd_pb b14 (by first | exact h0 | exact h0), List.forall_mem_cons.mpr ⟨hd_p1 b6 rfl (by have hc : ((0) : Int32).toInt = 0 := (by decide); omega), fun _ h => absurd h List.not_mem_nil⟩⟩, ?_⟩
  refine k _ ?_ ?_
  · exact fun j hj hn => (hd_keep hB' (Nat.lt_of_lt_of_le hj (by decide +kernel)) (by simp; omega)).trans (hF j (by omega))
  · exact hd_ga (a := .inr (.inl 69)) (by decide +kernel) t69
theorem tr_0_p1 {Ls : Nat} {xs : Nat → Int32} {d : Nat} {Q : Option Value → jm_h → Prop} (hd : 2 ≤ d) (F : Nat → sy_d) (X1 X2 : List jm_c) (hB : iv_in F iv_B4)
    (h0 : 0 ≤ (sy_i F 14).toInt ∧ (sy_i F 14).toInt < 260)
    (h1 : (sy_i F 6).toInt = 0)
    (k : ∀ F1 : Nat → sy_d, (∀ j, j < 69 → j ≠ 47 → F1 j = F j) → F1 47 = .inr (.inl (jm_upd (sy_ai F 47) (sy_i F 14).toNatClampNeg (sy_i F 15))) → hd_W Ls xs d jm_M161 Q (21, sy_dL F1 [some (.inl (.ref 1000))], sy_dS F1 [.inl (.ref 1000)], sy_dh F1 X1 X2 (iv_H 4), 0, 0)) :
    hd_W Ls xs d jm_M161 Q (0, sy_dL F [some (.inl (.ref 1000))], sy_dS F [], sy_dh F X1 X2 (iv_H 4), 0, 0) := by
  refine hd_run (s := 4) (nv := 69) (pc := 21) (L := [some (.inl (.ref 1000))]) (S := [.inl (.ref 1000)]) (uh := hd_ov (iv_id 0 iv_B4) [(47, .inr (.inr (.inl 69)))]) (ul := []) (f := true) (sp := [21, 24]) (d0 := 1) (O := [false]) (T := [(40, [.inr (.inl 14), .inr (.inl 15)], [.inr (.inl 47)])]) (P := [(6, .inr (.inl 14), .inl (.ref 260)), (0, .inr (.inl 6), .inl (.int 0))]) jm_ok161 (by decide +kernel) (by decide +kernel) hd F X1 X2 (fun F' hF hs => ?_)
  have b14 := hd_b (F := F) (F' := F') (k := 14) (hF 14 (by decide))
  have b6 := hd_b (F := F) (F' := F') (k := 6) (hF 6 (by decide))
  have b15 := hd_b (F := F) (F' := F') (k := 15) (hF 15 (by decide))
  have a47 := hd_ba (F := F) (F' := F') (k := 47) (hF 47 (by decide))
  have t69 : sy_da F' (.inr (.inl 69)) = .inl (jm_upd (sy_ai F 47) (sy_i F 14).toNatClampNeg (sy_i F 15)) := hd_up (hs 0 _ rfl) b14 b15 a47
  have hB' : iv_in F' iv_B4 := iv_in_eq hB (fun j hj => hF j (Nat.lt_of_lt_of_le hj (by decide +kernel)))
  refine ⟨List.forall_mem_cons.mpr ⟨hd_pb b14 (by first | exact h0 | exact h0), List.forall_mem_cons.mpr ⟨hd_p0 b6 rfl (by have hc : ((0) : Int32).toInt = 0 := (by decide); omega), fun _ h => absurd h List.not_mem_nil⟩⟩, ?_⟩
  refine k _ ?_ ?_
  · exact fun j hj hn => (hd_keep hB' (Nat.lt_of_lt_of_le hj (by decide +kernel)) (by simp; omega)).trans (hF j (by omega))
  · exact hd_ga (a := .inr (.inl 69)) (by decide +kernel) t69
theorem tr_24_p0 {Ls : Nat} {xs : Nat → Int32} {d : Nat} {Q : Option Value → jm_h → Prop} (hd : 2 ≤ d) (F : Nat → sy_d) (X1 X2 : List jm_c) (hB : iv_in F iv_B4)
    (h0 : 0 ≤ (sy_i F 14).toInt ∧ (sy_i F 14).toInt < 260)
    (k : ∀ F1 : Nat → sy_d, (∀ j, j < 69 → j ≠ 14 ∧ j ≠ 48 → F1 j = F j) → F1 14 = .inl (.int ((sy_i F 14) + ((1 : Int32)))) → F1 48 = .inr (.inl (jm_upd (sy_ai F 48) (sy_i F 14).toNatClampNeg (sy_i F 15))) → Q (none) (sy_dh F1 X1 X2 (iv_H 4))) :
    hd_W Ls xs d jm_M161 Q (24, sy_dL F [some (.inl (.ref 1000))], sy_dS F [], sy_dh F X1 X2 (iv_H 4), 0, 0) := by
  refine hd_ret (s := 4) (nv := 69) (v := none) (uh := hd_ov (iv_id 0 iv_B4) [(14, .inl (.inr (.inl 70))), (48, .inr (.inr (.inl 69)))]) (f := true) (sp := []) (d0 := 1) (O := []) (T := [(40, [.inr (.inl 14), .inr (.inl 15)], [.inr (.inl 48)]), (0, [.inr (.inl 14), .inl (.int 1)], [])]) (P := [(6, .inr (.inl 14), .inl (.ref 260))]) jm_ok161 (by decide +kernel) (by decide +kernel) hd F X1 X2 (fun F' hF hs => ?_)
  have b14 := hd_b (F := F) (F' := F') (k := 14) (hF 14 (by decide))
  have t70 : sy_dv F' (.inr (.inl 70)) = .int ((sy_i F 14) + ((1 : Int32))) := hd_o (hs 1 _ rfl) b14 rfl rfl
  have b15 := hd_b (F := F) (F' := F') (k := 15) (hF 15 (by decide))
  have a48 := hd_ba (F := F) (F' := F') (k := 48) (hF 48 (by decide))
  have t69 : sy_da F' (.inr (.inl 69)) = .inl (jm_upd (sy_ai F 48) (sy_i F 14).toNatClampNeg (sy_i F 15)) := hd_up (hs 0 _ rfl) b14 b15 a48
  have hB' : iv_in F' iv_B4 := iv_in_eq hB (fun j hj => hF j (Nat.lt_of_lt_of_le hj (by decide +kernel)))
  refine ⟨List.forall_mem_cons.mpr ⟨hd_pb b14 (by first | exact h0 | exact h0), fun _ h => absurd h List.not_mem_nil⟩, ?_⟩
  refine k _ ?_ ?_ ?_
  · exact fun j hj hn => (hd_keep hB' (Nat.lt_of_lt_of_le hj (by decide +kernel)) (by simp; omega)).trans (hF j (by omega))
  · exact hd_gi (x := .inr (.inl 70)) (by decide +kernel) t70
  · exact hd_ga (a := .inr (.inl 69)) (by decide +kernel) t69
theorem tl_0_p0 {Ls : Nat} {xs : Nat → Int32} {d : Nat} {Q : Option Value → jm_h → Prop} (hd : 4 ≤ d) (F : Nat → sy_d) (X1 X2 : List jm_c) (hB : iv_in F iv_B4)
    (h0 : (sy_i F 6).toInt ≠ 0)
    (h1 : 0 < (sy_i F 6).toInt)
    (k : ∀ F1 : Nat → sy_d, (∀ j, j < 69 → True → F1 j = F j) → F1 69 = .inl (.int (sy_i F 69)) → F1 70 = .inl (.int (sy_i F 14)) → F1 71 = .inl (.int ((0 : Int32))) → hd_W Ls xs d jm_M160 Q (12, sy_dL F1 [some (.inl (.ref 1000)), some (.inr (.inl 69)), some (.inr (.inl 70)), some (.inr (.inl 71))], sy_dS F1 [], sy_dh F1 X1 X2 (iv_H 4), 0, 0)) :
    hd_W Ls xs d jm_M160 Q (0, sy_dL F [some (.inl (.ref 1000)), some (.inr (.inl 69)), none, none], sy_dS F [], sy_dh F X1 X2 (iv_H 4), 0, 0) := by
  refine hd_run (s := 4) (nv := 70) (pc := 12) (L := [some (.inl (.ref 1000)), some (.inr (.inl 69)), some (.inr (.inl 70)), some (.inr (.inl 71))]) (S := []) (uh := hd_ov (iv_id 0 iv_B4) []) (ul := [.inl (.inr (.inl 69)), .inl (.inr (.inl 14)), .inl (.inl (.int 0))]) (f := true) (sp := [12]) (d0 := 3) (O := [true, false]) (T := []) (P := [(1, .inr (.inl 6), .inl (.int 0)), (5, .inr (.inl 6), .inl (.int 0))]) jm_ok160 (by decide +kernel) (by decide +kernel) hd F X1 X2 (fun F' hF hs => ?_)
  have b6 := hd_b (F := F) (F' := F') (k := 6) (hF 6 (by decide))
  have b69 := hd_b (F := F) (F' := F') (k := 69) (hF 69 (by decide))
  have b14 := hd_b (F := F) (F' := F') (k := 14) (hF 14 (by decide))
  have hB' : iv_in F' iv_B4 := iv_in_eq hB (fun j hj => hF j (Nat.lt_of_lt_of_le hj (by decide +kernel)))
  refine ⟨List.forall_mem_cons.mpr ⟨hd_p1 b6 rfl (by have hc : ((0) : Int32).toInt = 0 := (by decide); omega), List.forall_mem_cons.mpr ⟨hd_p5 b6 rfl (by have hc : ((0) : Int32).toInt = 0 := (by decide); omega), fun _ h => absurd h List.not_mem_nil⟩⟩, ?_⟩
  refine k _ ?_ ?_ ?_ ?_
  · exact fun j hj _ => (hd_keep hB' (Nat.lt_of_lt_of_le hj (by decide +kernel)) (by simp)).trans (hF j (by omega))
  · exact hd_gi (x := .inr (.inl 69)) (by decide +kernel) b69
  · exact hd_gi (x := .inr (.inl 14)) (by decide +kernel) b14
  · exact hd_gi (x := .inl (.int 0)) (by decide +kernel) rfl
theorem tl_0_p1 {Ls : Nat} {xs : Nat → Int32} {d : Nat} {Q : Option Value → jm_h → Prop} (hd : 4 ≤ d) (F : Nat → sy_d) (X1 X2 : List jm_c) (hB : iv_in F iv_B4)
    (h0 : (sy_i F 6).toInt = 0)
    (h1 : 0 ≤ (sy_i F 4).toInt ∧ (sy_i F 4).toInt < 403)
    (h2 : ((sy_ai F 25).getD (sy_i F 4).toNatClampNeg 0).toInt ≠ 5)
    (h3 : (sy_i F 6).toInt ≤ 0)
    (h4 : 0 ≤ (sy_i F 4).toInt ∧ (sy_i F 4).toInt < 403)
    (k : ∀ F1 : Nat → sy_d, (∀ j, j < 69 → j ≠ 6 ∧ j ≠ 7 → F1 j = F j) → F1 6 = .inl (.int ((1 : Int32))) → F1 7 = .inl (.int ((sy_ai F 26).getD (sy_i F 4).toNatClampNeg 0)) → F1 69 = .inl (.int (sy_i F 69)) → F1 70 = .inl (.int (sy_i F 14)) → F1 71 = .inl (.int ((0 : Int32))) → hd_W Ls xs d jm_M160 Q (12, sy_dL F1 [some (.inl (.ref 1000)), some (.inr (.inl 69)), some (.inr (.inl 70)), some (.inr (.inl 71))], sy_dS F1 [], sy_dh F1 X1 X2 (iv_H 4), 0, 0)) :
    hd_W Ls xs d jm_M160 Q (0, sy_dL F [some (.inl (.ref 1000)), some (.inr (.inl 69)), none, none], sy_dS F [], sy_dh F X1 X2 (iv_H 4), 0, 0) := by
  refine hd_run (s := 4) (nv := 70) (pc := 12) (L := [some (.inl (.ref 1000)), some (.inr (.inl 69)), some (.inr (.inl 70)), some (.inr (.inl 71))]) (S := []) (uh := hd_ov (iv_id 0 iv_B4) [(6, .inl (.inl (.int 1))), (7, .inl (.inr (.inl 71)))]) (ul := [.inl (.inr (.inl 69)), .inl (.inr (.inl 14)), .inl (.inl (.int 0))]) (f := true) (sp := [12]) (d0 := 3) (O := [false, true, true]) (T := [(30, [.inr (.inl 4)], [.inr (.inl 25)]), (30, [.inr (.inl 4)], [.inr (.inl 26)])]) (P := [(0, .inr (.inl 6), .inl (.int 0)), (6, .inr (.inl 4), .inl (.ref 403)), (1, .inr (.inl 70), .inl (.int 5)), (4, .inr (.inl 6), .inl (.int 0)), (6, .inr (.inl 4), .inl (.ref 403))]) jm_ok160 (by decide +kernel) (by decide +kernel) hd F X1 X2 (fun F' hF hs => ?_)
  have b6 := hd_b (F := F) (F' := F') (k := 6) (hF 6 (by decide))
  have b4 := hd_b (F := F) (F' := F') (k := 4) (hF 4 (by decide))
  have a25 := hd_ba (F := F) (F' := F') (k := 25) (hF 25 (by decide))
  have t70 : sy_dv F' (.inr (.inl 70)) = .int ((sy_ai F 25).getD (sy_i F 4).toNatClampNeg 0) := hd_rd (hs 0 _ rfl) b4 a25
  have a26 := hd_ba (F := F) (F' := F') (k := 26) (hF 26 (by decide))
  have t71 : sy_dv F' (.inr (.inl 71)) = .int ((sy_ai F 26).getD (sy_i F 4).toNatClampNeg 0) := hd_rd (hs 1 _ rfl) b4 a26
  have b69 := hd_b (F := F) (F' := F') (k := 69) (hF 69 (by decide))
  have b14 := hd_b (F := F) (F' := F') (k := 14) (hF 14 (by decide))
  have hB' : iv_in F' iv_B4 := iv_in_eq hB (fun j hj => hF j (Nat.lt_of_lt_of_le hj (by decide +kernel)))
  refine ⟨List.forall_mem_cons.mpr ⟨hd_p0 b6 rfl (by have hc : ((0) : Int32).toInt = 0 := (by decide); omega), List.forall_mem_cons.mpr ⟨hd_pb b4 (by first | exact h1 | exact h1), List.forall_mem_cons.mpr ⟨hd_p1 t70 rfl (by have hc : ((5) : Int32).toInt = 5 := (by decide); omega), List.forall_mem_cons.mpr ⟨hd_p4 b6 rfl (by have hc : ((0) : Int32).toInt = 0 := (by decide); omega), List.forall_mem_cons.mpr ⟨hd_pb b4 (by first | exact h4 | exact h4), fun _ h => absurd h List.not_mem_nil⟩⟩⟩⟩⟩, ?_⟩
  refine k _ ?_ ?_ ?_ ?_ ?_ ?_
  · exact fun j hj hn => (hd_keep hB' (Nat.lt_of_lt_of_le hj (by decide +kernel)) (by simp; omega)).trans (hF j (by omega))
  · exact hd_gi (x := .inl (.int 1)) (by decide +kernel) rfl
  · exact hd_gi (x := .inr (.inl 71)) (by decide +kernel) t71
  · exact hd_gi (x := .inr (.inl 69)) (by decide +kernel) b69
  · exact hd_gi (x := .inr (.inl 14)) (by decide +kernel) b14
  · exact hd_gi (x := .inl (.int 0)) (by decide +kernel) rfl
theorem tl_0_p2 {Ls : Nat} {xs : Nat → Int32} {d : Nat} {Q : Option Value → jm_h → Prop} (hd : 4 ≤ d) (F : Nat → sy_d) (X1 X2 : List jm_c) (hB : iv_in F iv_B4)
    (h0 : (sy_i F 6).toInt = 0)
    (h1 : 0 ≤ (sy_i F 4).toInt ∧ (sy_i F 4).toInt < 403)
    (h2 : ((sy_ai F 25).getD (sy_i F 4).toNatClampNeg 0).toInt = 5)
    (h3 : (sy_i F 4).toInt ≠ 400)
    (k : ∀ F1 : Nat → sy_d, (∀ j, j < 69 → j ≠ 4 → F1 j = F j) → F1 4 = .inl (.int ((sy_i F 4) + ((1 : Int32)))) → F1 69 = .inl (.int (sy_i F 69)) → F1 70 = .inl (.int (sy_i F 14)) → F1 71 = .inl (.int ((0 : Int32))) → hd_W Ls xs d jm_M160 Q (12, sy_dL F1 [some (.inl (.ref 1000)), some (.inr (.inl 69)), some (.inr (.inl 70)), some (.inr (.inl 71))], sy_dS F1 [], sy_dh F1 X1 X2 (iv_H 4), 0, 0)) :
    hd_W Ls xs d jm_M160 Q (0, sy_dL F [some (.inl (.ref 1000)), some (.inr (.inl 69)), none, none], sy_dS F [], sy_dh F X1 X2 (iv_H 4), 0, 0) := by
  refine hd_run (s := 4) (nv := 70) (pc := 12) (L := [some (.inl (.ref 1000)), some (.inr (.inl 69)), some (.inr (.inl 70)), some (.inr (.inl 71))]) (S := []) (uh := hd_ov (iv_id 0 iv_B4) [(4, .inl (.inr (.inl 71)))]) (ul := [.inl (.inr (.inl 69)), .inl (.inr (.inl 14)), .inl (.inl (.int 0))]) (f := true) (sp := [12]) (d0 := 3) (O := [false, false, true]) (T := [(30, [.inr (.inl 4)], [.inr (.inl 25)]), (0, [.inr (.inl 4), .inl (.int 1)], [])]) (P := [(0, .inr (.inl 6), .inl (.int 0)), (6, .inr (.inl 4), .inl (.ref 403)), (0, .inr (.inl 70), .inl (.int 5)), (1, .inr (.inl 4), .inl (.int 400))]) jm_ok160 (by decide +kernel) (by decide +kernel) hd F X1 X2 (fun F' hF hs => ?_)
  have b6 := hd_b (F := F) (F' := F') (k := 6) (hF 6 (by decide))
  have b4 := hd_b (F := F) (F' := F') (k := 4) (hF 4 (by decide))
  have a25 := hd_ba (F := F) (F' := F') (k := 25) (hF 25 (by decide))
  have t70 : sy_dv F' (.inr (.inl 70)) = .int ((sy_ai F 25).getD (sy_i F 4).toNatClampNeg 0) := hd_rd (hs 0 _ rfl) b4 a25
  have t71 : sy_dv F' (.inr (.inl 71)) = .int ((sy_i F 4) + ((1 : Int32))) := hd_o (hs 1 _ rfl) b4 rfl rfl
  have b69 := hd_b (F := F) (F' := F') (k := 69) (hF 69 (by decide))
  have b14 := hd_b (F := F) (F' := F') (k := 14) (hF 14 (by decide))
  have hB' : iv_in F' iv_B4 := iv_in_eq hB (fun j hj => hF j (Nat.lt_of_lt_of_le hj (by decide +kernel)))
  refine ⟨List.forall_mem_cons.mpr ⟨hd_p0 b6 rfl (by have hc : ((0) : Int32).toInt = 0 := (by decide); omega), List.forall_mem_cons.mpr ⟨hd_pb b4 (by first | exact h1 | exact h1), List.forall_mem_cons.mpr ⟨hd_p0 t70 rfl (by have hc : ((5) : Int32).toInt = 5 := (by decide); omega), List.forall_mem_cons.mpr ⟨hd_p1 b4 rfl (by have hc : ((400) : Int32).toInt = 400 := (by decide); omega), fun _ h => absurd h List.not_mem_nil⟩⟩⟩⟩, ?_⟩
  refine k _ ?_ ?_ ?_ ?_ ?_
  · exact fun j hj hn => (hd_keep hB' (Nat.lt_of_lt_of_le hj (by decide +kernel)) (by simp; omega)).trans (hF j (by omega))
  · exact hd_gi (x := .inr (.inl 71)) (by decide +kernel) t71
  · exact hd_gi (x := .inr (.inl 69)) (by decide +kernel) b69
  · exact hd_gi (x := .inr (.inl 14)) (by decide +kernel) b14
  · exact hd_gi (x := .inl (.int 0)) (by decide +kernel) rfl
theorem tl_0_p3 {Ls : Nat} {xs : Nat → Int32} {d : Nat} {Q : Option Value → jm_h → Prop} (hd : 4 ≤ d) (F : Nat → sy_d) (X1 X2 : List jm_c) (hB : iv_in F iv_B4)
    (h0 : (sy_i F 6).toInt = 0)
    (h1 : 0 ≤ (sy_i F 4).toInt ∧ (sy_i F 4).toInt < 403)
    (h2 : ((sy_ai F 25).getD (sy_i F 4).toNatClampNeg 0).toInt = 5)
    (h3 : (sy_i F 4).toInt = 400)
    (h4 : (sy_i F 6).toInt ≤ 0)
    (h5 : 0 ≤ (sy_i F 4).toInt ∧ (sy_i F 4).toInt < 403)
    (k : ∀ F1 : Nat → sy_d, (∀ j, j < 69 → j ≠ 6 ∧ j ≠ 7 → F1 j = F j) → F1 6 = .inl (.int ((2 : Int32))) → F1 7 = .inl (.int ((sy_ai F 26).getD (sy_i F 4).toNatClampNeg 0)) → F1 69 = .inl (.int (sy_i F 69)) → F1 70 = .inl (.int (sy_i F 14)) → F1 71 = .inl (.int ((0 : Int32))) → hd_W Ls xs d jm_M160 Q (12, sy_dL F1 [some (.inl (.ref 1000)), some (.inr (.inl 69)), some (.inr (.inl 70)), some (.inr (.inl 71))], sy_dS F1 [], sy_dh F1 X1 X2 (iv_H 4), 0, 0)) :
    hd_W Ls xs d jm_M160 Q (0, sy_dL F [some (.inl (.ref 1000)), some (.inr (.inl 69)), none, none], sy_dS F [], sy_dh F X1 X2 (iv_H 4), 0, 0) := by
  refine hd_run (s := 4) (nv := 70) (pc := 12) (L := [some (.inl (.ref 1000)), some (.inr (.inl 69)), some (.inr (.inl 70)), some (.inr (.inl 71))]) (S := []) (uh := hd_ov (iv_id 0 iv_B4) [(6, .inl (.inl (.int 2))), (7, .inl (.inr (.inl 71)))]) (ul := [.inl (.inr (.inl 69)), .inl (.inr (.inl 14)), .inl (.inl (.int 0))]) (f := true) (sp := [12]) (d0 := 3) (O := [false, false, false, true]) (T := [(30, [.inr (.inl 4)], [.inr (.inl 25)]), (30, [.inr (.inl 4)], [.inr (.inl 26)])]) (P := [(0, .inr (.inl 6), .inl (.int 0)), (6, .inr (.inl 4), .inl (.ref 403)), (0, .inr (.inl 70), .inl (.int 5)), (0, .inr (.inl 4), .inl (.int 400)), (4, .inr (.inl 6), .inl (.int 0)), (6, .inr (.inl 4), .inl (.ref 403))]) jm_ok160 (by decide +kernel) (by decide +kernel) hd F X1 X2 (fun F' hF hs => ?_)
  have b6 := hd_b (F := F) (F' := F') (k := 6) (hF 6 (by decide))
  have b4 := hd_b (F := F) (F' := F') (k := 4) (hF 4 (by decide))
  have a25 := hd_ba (F := F) (F' := F') (k := 25) (hF 25 (by decide))
  have t70 : sy_dv F' (.inr (.inl 70)) = .int ((sy_ai F 25).getD (sy_i F 4).toNatClampNeg 0) := hd_rd (hs 0 _ rfl) b4 a25
  have a26 := hd_ba (F := F) (F' := F') (k := 26) (hF 26 (by decide))
  have t71 : sy_dv F' (.inr (.inl 71)) = .int ((sy_ai F 26).getD (sy_i F 4).toNatClampNeg 0) := hd_rd (hs 1 _ rfl) b4 a26
  have b69 := hd_b (F := F) (F' := F') (k := 69) (hF 69 (by decide))
  have b14 := hd_b (F := F) (F' := F') (k := 14) (hF 14 (by decide))
  have hB' : iv_in F' iv_B4 := iv_in_eq hB (fun j hj => hF j (Nat.lt_of_lt_of_le hj (by decide +kernel)))
  refine ⟨List.forall_mem_cons.mpr ⟨hd_p0 b6 rfl (by have hc : ((0) : Int32).toInt = 0 := (by decide); omega), List.forall_mem_cons.mpr ⟨hd_pb b4 (by first | exact h1 | exact h1), List.forall_mem_cons.mpr ⟨hd_p0 t70 rfl (by have hc : ((5) : Int32).toInt = 5 := (by decide); omega), List.forall_mem_cons.mpr ⟨hd_p0 b4 rfl (by have hc : ((400) : Int32).toInt = 400 := (by decide); omega), List.forall_mem_cons.mpr ⟨hd_p4 b6 rfl (by have hc : ((0) : Int32).toInt = 0 := (by decide); omega), List.forall_mem_cons.mpr ⟨hd_pb b4 (by first | exact h5 | exact h5), fun _ h => absurd h List.not_mem_nil⟩⟩⟩⟩⟩⟩, ?_⟩
  refine k _ ?_ ?_ ?_ ?_ ?_ ?_
  · exact fun j hj hn => (hd_keep hB' (Nat.lt_of_lt_of_le hj (by decide +kernel)) (by simp; omega)).trans (hF j (by omega))
  · exact hd_gi (x := .inl (.int 2)) (by decide +kernel) rfl
  · exact hd_gi (x := .inr (.inl 71)) (by decide +kernel) t71
  · exact hd_gi (x := .inr (.inl 69)) (by decide +kernel) b69
  · exact hd_gi (x := .inr (.inl 14)) (by decide +kernel) b14
  · exact hd_gi (x := .inl (.int 0)) (by decide +kernel) rfl
theorem tl_12_p0 {Ls : Nat} {xs : Nat → Int32} {d : Nat} {Q : Option Value → jm_h → Prop} (hd : 4 ≤ d) (F : Nat → sy_d) (X1 X2 : List jm_c) (hB : iv_in F iv_B4)
    (h0 : (sy_i F 6).toInt ≠ 0)
    (h1 : 0 ≤ (sy_i F 14).toInt ∧ (sy_i F 14).toInt < 260)
    (k : ∀ F1 : Nat → sy_d, (∀ j, j < 69 → j ≠ 44 → F1 j = F j) → F1 44 = .inr (.inl (jm_upd (sy_ai F 44) (sy_i F 14).toNatClampNeg ((0 : Int32)))) → F1 69 = .inl (.int (sy_i F 69)) → F1 70 = .inl (.int (sy_i F 70)) → hd_W Ls xs d jm_M160 Q (140, sy_dL F1 [some (.inl (.ref 1000)), some (.inr (.inl 69)), some (.inr (.inl 70)), none], sy_dS F1 [.inl (.ref 1000)], sy_dh F1 X1 X2 (iv_H 4), 0, 0)) :
    hd_W Ls xs d jm_M160 Q (12, sy_dL F [some (.inl (.ref 1000)), some (.inr (.inl 69)), some (.inr (.inl 70)), some (.inr (.inl 71))], sy_dS F [], sy_dh F X1 X2 (iv_H 4), 0, 0) := by
  refine hd_run (s := 4) (nv := 72) (pc := 140) (L := [some (.inl (.ref 1000)), some (.inr (.inl 69)), some (.inr (.inl 70)), none]) (S := [.inl (.ref 1000)]) (uh := hd_ov (iv_id 0 iv_B4) [(44, .inr (.inr (.inl 72)))]) (ul := [.inl (.inr (.inl 69)), .inl (.inr (.inl 70))]) (f := true) (sp := [77, 140]) (d0 := 3) (O := [true]) (T := [(40, [.inr (.inl 14), .inl (.int 0)], [.inr (.inl 44)])]) (P := [(1, .inr (.inl 6), .inl (.int 0)), (6, .inr (.inl 14), .inl (.ref 260))]) jm_ok160 (by decide +kernel) (by decide +kernel) hd F X1 X2 (fun F' hF hs => ?_)
  have b6 := hd_b (F := F) (F' := F') (k := 6) (hF 6 (by decide))
  have b14 := hd_b (F := F) (F' := F') (k := 14) (hF 14 (by decide))
  have a44 := hd_ba (F := F) (F' := F') (k := 44) (hF 44 (by decide))
  have t72 : sy_da F' (.inr (.inl 72)) = .inl (jm_upd (sy_ai F 44) (sy_i F 14).toNatClampNeg ((0 : Int32))) := hd_up (hs 0 _ rfl) b14 rfl a44
  have b69 := hd_b (F := F) (F' := F') (k := 69) (hF 69 (by decide))
  have b70 := hd_b (F := F) (F' := F') (k := 70) (hF 70 (by decide))
  have hB' : iv_in F' iv_B4 := iv_in_eq hB (fun j hj => hF j (Nat.lt_of_lt_of_le hj (by decide +kernel)))
  refine ⟨List.forall_mem_cons.mpr ⟨hd_p1 b6 rfl (by have hc : ((0) : Int32).toInt = 0 := (by decide); omega), List.forall_mem_cons.mpr ⟨hd_pb b14 (by first | exact h1 | exact h1), fun _ h => absurd h List.not_mem_nil⟩⟩, ?_⟩
  refine k _ ?_ ?_ ?_ ?_
  · exact fun j hj hn => (hd_keep hB' (Nat.lt_of_lt_of_le hj (by decide +kernel)) (by simp; omega)).trans (hF j (by omega))
  · exact hd_ga (a := .inr (.inl 72)) (by decide +kernel) t72
  · exact hd_gi (x := .inr (.inl 69)) (by decide +kernel) b69
  · exact hd_gi (x := .inr (.inl 70)) (by decide +kernel) b70
theorem tl_12_p1 {Ls : Nat} {xs : Nat → Int32} {d : Nat} {Q : Option Value → jm_h → Prop} (hd : 4 ≤ d) (F : Nat → sy_d) (X1 X2 : List jm_c) (hB : iv_in F iv_B4)
    (h0 : (sy_i F 6).toInt = 0)
    (h1 : (sy_i F 6).toInt = 0)
    (h2 : 0 ≤ (sy_i F 4).toInt ∧ (sy_i F 4).toInt < 403)
    (h3 : ((sy_ai F 25).getD (sy_i F 4).toNatClampNeg 0).toInt ≠ 31)
    (h4 : 0 ≤ (sy_i F 14).toInt ∧ (sy_i F 14).toInt < 260)
    (k : ∀ F1 : Nat → sy_d, (∀ j, j < 69 → j ≠ 44 → F1 j = F j) → F1 44 = .inr (.inl (jm_upd (sy_ai F 44) (sy_i F 14).toNatClampNeg ((0 : Int32)))) → F1 69 = .inl (.int (sy_i F 69)) → F1 70 = .inl (.int (sy_i F 70)) → hd_W Ls xs d jm_M160 Q (140, sy_dL F1 [some (.inl (.ref 1000)), some (.inr (.inl 69)), some (.inr (.inl 70)), none], sy_dS F1 [.inl (.ref 1000)], sy_dh F1 X1 X2 (iv_H 4), 0, 0)) :
    hd_W Ls xs d jm_M160 Q (12, sy_dL F [some (.inl (.ref 1000)), some (.inr (.inl 69)), some (.inr (.inl 70)), some (.inr (.inl 71))], sy_dS F [], sy_dh F X1 X2 (iv_H 4), 0, 0) := by
  refine hd_run (s := 4) (nv := 72) (pc := 140) (L := [some (.inl (.ref 1000)), some (.inr (.inl 69)), some (.inr (.inl 70)), none]) (S := [.inl (.ref 1000)]) (uh := hd_ov (iv_id 0 iv_B4) [(44, .inr (.inr (.inl 73)))]) (ul := [.inl (.inr (.inl 69)), .inl (.inr (.inl 70))]) (f := true) (sp := [77, 140]) (d0 := 3) (O := [false, false, true]) (T := [(30, [.inr (.inl 4)], [.inr (.inl 25)]), (40, [.inr (.inl 14), .inl (.int 0)], [.inr (.inl 44)])]) (P := [(0, .inr (.inl 6), .inl (.int 0)), (0, .inr (.inl 6), .inl (.int 0)), (6, .inr (.inl 4), .inl (.ref 403)), (1, .inr (.inl 72), .inl (.int 31)), (6, .inr (.inl 14), .inl (.ref 260))]) jm_ok160 (by decide +kernel) (by decide +kernel) hd F X1 X2 (fun F' hF hs => ?_)
  have b6 := hd_b (F := F) (F' := F') (k := 6) (hF 6 (by decide))
  have b4 := hd_b (F := F) (F' := F') (k := 4) (hF 4 (by decide))
  have a25 := hd_ba (F := F) (F' := F') (k := 25) (hF 25 (by decide))
  have t72 : sy_dv F' (.inr (.inl 72)) = .int ((sy_ai F 25).getD (sy_i F 4).toNatClampNeg 0) := hd_rd (hs 0 _ rfl) b4 a25
  have b14 := hd_b (F := F) (F' := F') (k := 14) (hF 14 (by decide))
  have a44 := hd_ba (F := F) (F' := F') (k := 44) (hF 44 (by decide))
  have t73 : sy_da F' (.inr (.inl 73)) = .inl (jm_upd (sy_ai F 44) (sy_i F 14).toNatClampNeg ((0 : Int32))) := hd_up (hs 1 _ rfl) b14 rfl a44
  have b69 := hd_b (F := F) (F' := F') (k := 69) (hF 69 (by decide))
  have b70 := hd_b (F := F) (F' := F') (k := 70) (hF 70 (by decide))
  have hB' : iv_in F' iv_B4 := iv_in_eq hB (fun j hj => hF j (Nat.lt_of_lt_of_le hj (by decide +kernel)))
  refine ⟨List.forall_mem_cons.mpr ⟨hd_p0 b6 rfl (by have hc : ((0) : Int32).toInt = 0 := (by decide); omega), List.forall_mem_cons.mpr ⟨hd_p0 b6 rfl (by have hc : ((0) : Int32).toInt = 0 := (by decide); omega), List.forall_mem_cons.mpr ⟨hd_pb b4 (by first | exact h2 | exact h2), List.forall_mem_cons.mpr ⟨hd_p1 t72 rfl (by have hc : ((31) : Int32).toInt = 31 := (by decide); omega), List.forall_mem_cons.mpr ⟨hd_pb b14 (by first | exact h4 | exact h4), fun _ h => absurd h List.not_mem_nil⟩⟩⟩⟩⟩, ?_⟩
  refine k _ ?_ ?_ ?_ ?_
  · exact fun j hj hn => (hd_keep hB' (Nat.lt_of_lt_of_le hj (by decide +kernel)) (by simp; omega)).trans (hF j (by omega))
  · exact hd_ga (a := .inr (.inl 73)) (by decide +kernel) t73
  · exact hd_gi (x := .inr (.inl 69)) (by decide +kernel) b69
  · exact hd_gi (x := .inr (.inl 70)) (by decide +kernel) b70
theorem tl_12_p2 {Ls : Nat} {xs : Nat → Int32} {d : Nat} {Q : Option Value → jm_h → Prop} (hd : 4 ≤ d) (F : Nat → sy_d) (X1 X2 : List jm_c) (hB : iv_in F iv_B4)
    (h0 : (sy_i F 6).toInt = 0)
    (h1 : (sy_i F 6).toInt = 0)
    (h2 : 0 ≤ (sy_i F 4).toInt ∧ (sy_i F 4).toInt < 403)
    (h3 : ((sy_ai F 25).getD (sy_i F 4).toNatClampNeg 0).toInt = 31)
    (h4 : (sy_i F 71).toInt ≠ 4)
    (h5 : (sy_i F 6).toInt ≤ 0)
    (h6 : (sy_i F 4).toInt ≠ 400)
    (h7 : 0 ≤ (sy_i F 14).toInt ∧ (sy_i F 14).toInt < 260)
    (h8 : 0 ≤ (sy_i F 14).toInt ∧ (sy_i F 14).toInt < 260)
    (k : ∀ F1 : Nat → sy_d, (∀ j, j < 69 → j ≠ 4 ∧ j ≠ 44 ∧ j ≠ 45 → F1 j = F j) → F1 4 = .inl (.int ((sy_i F 4) + ((1 : Int32)))) → F1 44 = .inr (.inl (jm_upd (sy_ai F 44) (sy_i F 14).toNatClampNeg ((1 : Int32)))) → F1 45 = .inr (.inl (jm_upd (sy_ai F 45) (sy_i F 14).toNatClampNeg (sy_i F 15))) → F1 69 = .inl (.int (sy_i F 69)) → F1 70 = .inl (.int (sy_i F 70)) → F1 71 = .inl (.int ((sy_i F 71) + ((1 : Int32)))) → hd_W Ls xs d jm_M160 Q (77, sy_dL F1 [some (.inl (.ref 1000)), some (.inr (.inl 69)), some (.inr (.inl 70)), some (.inr (.inl 71))], sy_dS F1 [.inl (.ref 1000)], sy_dh F1 X1 X2 (iv_H 4), 0, 0)) :
    hd_W Ls xs d jm_M160 Q (12, sy_dL F [some (.inl (.ref 1000)), some (.inr (.inl 69)), some (.inr (.inl 70)), some (.inr (.inl 71))], sy_dS F [], sy_dh F X1 X2 (iv_H 4), 0, 0) := by
  refine hd_run (s := 4) (nv := 72) (pc := 77) (L := [some (.inl (.ref 1000)), some (.inr (.inl 69)), some (.inr (.inl 70)), some (.inr (.inl 71))]) (S := [.inl (.ref 1000)]) (uh := hd_ov (iv_id 0 iv_B4) [(4, .inl (.inr (.inl 74))), (44, .inr (.inr (.inl 75))), (45, .inr (.inr (.inl 76)))]) (ul := [.inl (.inr (.inl 69)), .inl (.inr (.inl 70)), .inl (.inr (.inl 73))]) (f := true) (sp := [77, 140]) (d0 := 3) (O := [false, false, false, true, true, true]) (T := [(30, [.inr (.inl 4)], [.inr (.inl 25)]), (0, [.inr (.inl 71), .inl (.int 1)], []), (0, [.inr (.inl 4), .inl (.int 1)], []), (40, [.inr (.inl 14), .inl (.int 1)], [.inr (.inl 44)]), (40, [.inr (.inl 14), .inr (.inl 15)], [.inr (.inl 45)])]) (P := [(0, .inr (.inl 6), .inl (.int 0)), (0, .inr (.inl 6), .inl (.int 0)), (6, .inr (.inl 4), .inl (.ref 403)), (0, .inr (.inl 72), .inl (.int 31)), (1, .inr (.inl 71), .inl (.int 4)), (4, .inr (.inl 6), .inl (.int 0)), (1, .inr (.inl 4), .inl (.int 400)), (6, .inr (.inl 14), .inl (.ref 260)), (6, .inr (.inl 14), .inl (.ref 260))]) jm_ok160 (by decide +kernel) (by decide +kernel) hd F X1 X2 (fun F' hF hs => ?_)
  have b6 := hd_b (F := F) (F' := F') (k := 6) (hF 6 (by decide))
  have b4 := hd_b (F := F) (F' := F') (k := 4) (hF 4 (by decide))
  have a25 := hd_ba (F := F) (F' := F') (k := 25) (hF 25 (by decide))
  have t72 : sy_dv F' (.inr (.inl 72)) = .int ((sy_ai F 25).getD (sy_i F 4).toNatClampNeg 0) := hd_rd (hs 0 _ rfl) b4 a25
  have b71 := hd_b (F := F) (F' := F') (k := 71) (hF 71 (by decide))
  have b14 := hd_b (F := F) (F' := F') (k := 14) (hF 14 (by decide))
  have t74 : sy_dv F' (.inr (.inl 74)) = .int ((sy_i F 4) + ((1 : Int32))) := hd_o (hs 2 _ rfl) b4 rfl rfl
  have a44 := hd_ba (F := F) (F' := F') (k := 44) (hF 44 (by decide))
  have t75 : sy_da F' (.inr (.inl 75)) = .inl (jm_upd (sy_ai F 44) (sy_i F 14).toNatClampNeg ((1 : Int32))) := hd_up (hs 3 _ rfl) b14 rfl a44
  have b15 := hd_b (F := F) (F' := F') (k := 15) (hF 15 (by decide))
  have a45 := hd_ba (F := F) (F' := F') (k := 45) (hF 45 (by decide))
  have t76 : sy_da F' (.inr (.inl 76)) = .inl (jm_upd (sy_ai F 45) (sy_i F 14).toNatClampNeg (sy_i F 15)) := hd_up (hs 4 _ rfl) b14 b15 a45
  have b69 := hd_b (F := F) (F' := F') (k := 69) (hF 69 (by decide))
  have b70 := hd_b (F := F) (F' := F') (k := 70) (hF 70 (by decide))
  have t73 : sy_dv F' (.inr (.inl 73)) = .int ((sy_i F 71) + ((1 : Int32))) := hd_o (hs 1 _ rfl) b71 rfl rfl
  have hB' : iv_in F' iv_B4 := iv_in_eq hB (fun j hj => hF j (Nat.lt_of_lt_of_le hj (by decide +kernel)))
  refine ⟨List.forall_mem_cons.mpr ⟨hd_p0 b6 rfl (by have hc : ((0) : Int32).toInt = 0 := (by decide); omega), List.forall_mem_cons.mpr ⟨hd_p0 b6 rfl (by have hc : ((0) : Int32).toInt = 0 := (by decide); omega), List.forall_mem_cons.mpr ⟨hd_pb b4 (by first | exact h2 | exact h2), List.forall_mem_cons.mpr ⟨hd_p0 t72 rfl (by have hc : ((31) : Int32).toInt = 31 := (by decide); omega), List.forall_mem_cons.mpr ⟨hd_p1 b71 rfl (by have hc : ((4) : Int32).toInt = 4 := (by decide); omega), List.forall_mem_cons.mpr ⟨hd_p4 b6 rfl (by have hc : ((0) : Int32).toInt = 0 := (by decide); omega), List.forall_mem_cons.mpr ⟨hd_p1 b4 rfl (by have hc : ((400) : Int32).toInt = 400 := (by decide); omega), List.forall_mem_cons.mpr ⟨hd_pb b14 (by first | exact h7 | exact h7), List.forall_mem_cons.mpr ⟨hd_pb b14 (by first | exact h8 | exact h8), fun _ h => absurd h List.not_mem_nil⟩⟩⟩⟩⟩⟩⟩⟩⟩, ?_⟩
  refine k _ ?_ ?_ ?_ ?_ ?_ ?_ ?_
  · exact fun j hj hn => (hd_keep hB' (Nat.lt_of_lt_of_le hj (by decide +kernel)) (by simp; omega)).trans (hF j (by omega))
  · exact hd_gi (x := .inr (.inl 74)) (by decide +kernel) t74
  · exact hd_ga (a := .inr (.inl 75)) (by decide +kernel) t75
  · exact hd_ga (a := .inr (.inl 76)) (by decide +kernel) t76
  · exact hd_gi (x := .inr (.inl 69)) (by decide +kernel) b69
  · exact hd_gi (x := .inr (.inl 70)) (by decide +kernel) b70
  · exact hd_gi (x := .inr (.inl 73)) (by decide +kernel) t73
theorem tl_12_p3 {Ls : Nat} {xs : Nat → Int32} {d : Nat} {Q : Option Value → jm_h → Prop} (hd : 4 ≤ d) (F : Nat → sy_d) (X1 X2 : List jm_c) (hB : iv_in F iv_B4)
    (h0 : (sy_i F 6).toInt = 0)
    (h1 : (sy_i F 6).toInt = 0)
    (h2 : 0 ≤ (sy_i F 4).toInt ∧ (sy_i F 4).toInt < 403)
    (h3 : ((sy_ai F 25).getD (sy_i F 4).toNatClampNeg 0).toInt = 31)
    (h4 : (sy_i F 71).toInt ≠ 4)
    (h5 : (sy_i F 6).toInt ≤ 0)
    (h6 : (sy_i F 4).toInt = 400)
    (h7 : (sy_i F 6).toInt ≤ 0)
    (h8 : 0 ≤ (sy_i F 4).toInt ∧ (sy_i F 4).toInt < 403)
    (h9 : 0 ≤ (sy_i F 14).toInt ∧ (sy_i F 14).toInt < 260)
    (h10 : 0 ≤ (sy_i F 14).toInt ∧ (sy_i F 14).toInt < 260)
    (k : ∀ F1 : Nat → sy_d, (∀ j, j < 69 → j ≠ 6 ∧ j ≠ 7 ∧ j ≠ 44 ∧ j ≠ 45 → F1 j = F j) → F1 6 = .inl (.int ((2 : Int32))) → F1 7 = .inl (.int ((sy_ai F 26).getD (sy_i F 4).toNatClampNeg 0)) → F1 44 = .inr (.inl (jm_upd (sy_ai F 44) (sy_i F 14).toNatClampNeg ((1 : Int32)))) → F1 45 = .inr (.inl (jm_upd (sy_ai F 45) (sy_i F 14).toNatClampNeg (sy_i F 15))) → F1 69 = .inl (.int (sy_i F 69)) → F1 70 = .inl (.int (sy_i F 70)) → F1 71 = .inl (.int ((sy_i F 71) + ((1 : Int32)))) → hd_W Ls xs d jm_M160 Q (77, sy_dL F1 [some (.inl (.ref 1000)), some (.inr (.inl 69)), some (.inr (.inl 70)), some (.inr (.inl 71))], sy_dS F1 [.inl (.ref 1000)], sy_dh F1 X1 X2 (iv_H 4), 0, 0)) :
    hd_W Ls xs d jm_M160 Q (12, sy_dL F [some (.inl (.ref 1000)), some (.inr (.inl 69)), some (.inr (.inl 70)), some (.inr (.inl 71))], sy_dS F [], sy_dh F X1 X2 (iv_H 4), 0, 0) := by
  refine hd_run (s := 4) (nv := 72) (pc := 77) (L := [some (.inl (.ref 1000)), some (.inr (.inl 69)), some (.inr (.inl 70)), some (.inr (.inl 71))]) (S := [.inl (.ref 1000)]) (uh := hd_ov (iv_id 0 iv_B4) [(6, .inl (.inl (.int 2))), (7, .inl (.inr (.inl 74))), (44, .inr (.inr (.inl 75))), (45, .inr (.inr (.inl 76)))]) (ul := [.inl (.inr (.inl 69)), .inl (.inr (.inl 70)), .inl (.inr (.inl 73))]) (f := true) (sp := [77, 140]) (d0 := 3) (O := [false, false, false, true, true, false, true]) (T := [(30, [.inr (.inl 4)], [.inr (.inl 25)]), (0, [.inr (.inl 71), .inl (.int 1)], []), (30, [.inr (.inl 4)], [.inr (.inl 26)]), (40, [.inr (.inl 14), .inl (.int 1)], [.inr (.inl 44)]), (40, [.inr (.inl 14), .inr (.inl 15)], [.inr (.inl 45)])]) (P := [(0, .inr (.inl 6), .inl (.int 0)), (0, .inr (.inl 6), .inl (.int 0)), (6, .inr (.inl 4), .inl (.ref 403)), (0, .inr (.inl 72), .inl (.int 31)), (1, .inr (.inl 71), .inl (.int 4)), (4, .inr (.inl 6), .inl (.int 0)), (0, .inr (.inl 4), .inl (.int 400)), (4, .inr (.inl 6), .inl (.int 0)), (6, .inr (.inl 4), .inl (.ref 403)), (6, .inr (.inl 14), .inl (.ref 260)), (6, .inr (.inl 14), .inl (.ref 260))]) jm_ok160 (by decide +kernel) (by decide +kernel) hd F X1 X2 (fun F' hF hs => ?_)
  have b6 := hd_b (F := F) (F' := F') (k := 6) (hF 6 (by decide))
  have b4 := hd_b (F := F) (F' := F') (k := 4) (hF 4 (by decide))
  have a25 := hd_ba (F := F) (F' := F') (k := 25) (hF 25 (by decide))
  have t72 : sy_dv F' (.inr (.inl 72)) = .int ((sy_ai F 25).getD (sy_i F 4).toNatClampNeg 0) := hd_rd (hs 0 _ rfl) b4 a25
  have b71 := hd_b (F := F) (F' := F') (k := 71) (hF 71 (by decide))
  have b14 := hd_b (F := F) (F' := F') (k := 14) (hF 14 (by decide))
  have a26 := hd_ba (F := F) (F' := F') (k := 26) (hF 26 (by decide))
  have t74 : sy_dv F' (.inr (.inl 74)) = .int ((sy_ai F 26).getD (sy_i F 4).toNatClampNeg 0) := hd_rd (hs 2 _ rfl) b4 a26
  have a44 := hd_ba (F := F) (F' := F') (k := 44) (hF 44 (by decide))
  have t75 : sy_da F' (.inr (.inl 75)) = .inl (jm_upd (sy_ai F 44) (sy_i F 14).toNatClampNeg ((1 : Int32))) := hd_up (hs 3 _ rfl) b14 rfl a44
  have b15 := hd_b (F := F) (F' := F') (k := 15) (hF 15 (by decide))
  have a45 := hd_ba (F := F) (F' := F') (k := 45) (hF 45 (by decide))
  have t76 : sy_da F' (.inr (.inl 76)) = .inl (jm_upd (sy_ai F 45) (sy_i F 14).toNatClampNeg (sy_i F 15)) := hd_up (hs 4 _ rfl) b14 b15 a45
  have b69 := hd_b (F := F) (F' := F') (k := 69) (hF 69 (by decide))
  have b70 := hd_b (F := F) (F' := F') (k := 70) (hF 70 (by decide))
  have t73 : sy_dv F' (.inr (.inl 73)) = .int ((sy_i F 71) + ((1 : Int32))) := hd_o (hs 1 _ rfl) b71 rfl rfl
  have hB' : iv_in F' iv_B4 := iv_in_eq hB (fun j hj => hF j (Nat.lt_of_lt_of_le hj (by decide +kernel)))
  refine ⟨List.forall_mem_cons.mpr ⟨hd_p0 b6 rfl (by have hc : ((0) : Int32).toInt = 0 := (by decide); omega), List.forall_mem_cons.mpr ⟨hd_p0 b6 rfl (by have hc : ((0) : Int32).toInt = 0 := (by decide); omega), List.forall_mem_cons.mpr ⟨hd_pb b4 (by first | exact h2 | exact h2), List.forall_mem_cons.mpr ⟨hd_p0 t72 rfl (by have hc : ((31) : Int32).toInt = 31 := (by decide); omega), List.forall_mem_cons.mpr ⟨hd_p1 b71 rfl (by have hc : ((4) : Int32).toInt = 4 := (by decide); omega), List.forall_mem_cons.mpr ⟨hd_p4 b6 rfl (by have hc : ((0) : Int32).toInt = 0 := (by decide); omega), List.forall_mem_cons.mpr ⟨hd_p0 b4 rfl (by have hc : ((400) : Int32).toInt = 400 := (by decide); omega), List.forall_mem_cons.mpr ⟨hd_p4 b6 rfl (by have hc : ((0) : Int32).toInt = 0 := (by decide); omega), List.forall_mem_cons.mpr ⟨hd_pb b4 (by first | exact h8 | exact h8), List.forall_mem_cons.mpr ⟨hd_pb b14 (by first | exact h9 | exact h9), List.forall_mem_cons.mpr ⟨hd_pb b14 (by first | exact h10 | exact h10), fun _ h => absurd h List.not_mem_nil⟩⟩⟩⟩⟩⟩⟩⟩⟩⟩⟩, ?_⟩
  refine k _ ?_ ?_ ?_ ?_ ?_ ?_ ?_ ?_
  · exact fun j hj hn => (hd_keep hB' (Nat.lt_of_lt_of_le hj (by decide +kernel)) (by simp; omega)).trans (hF j (by omega))
  · exact hd_gi (x := .inl (.int 2)) (by decide +kernel) rfl
  · exact hd_gi (x := .inr (.inl 74)) (by decide +kernel) t74
  · exact hd_ga (a := .inr (.inl 75)) (by decide +kernel) t75
  · exact hd_ga (a := .inr (.inl 76)) (by decide +kernel) t76
  · exact hd_gi (x := .inr (.inl 69)) (by decide +kernel) b69
  · exact hd_gi (x := .inr (.inl 70)) (by decide +kernel) b70
  · exact hd_gi (x := .inr (.inl 73)) (by decide +kernel) t73
theorem tl_12_p4 {Ls : Nat} {xs : Nat → Int32} {d : Nat} {Q : Option Value → jm_h → Prop} (hd : 4 ≤ d) (F : Nat → sy_d) (X1 X2 : List jm_c) (hB : iv_in F iv_B4)
    (h0 : (sy_i F 6).toInt = 0)
    (h1 : (sy_i F 6).toInt = 0)
    (h2 : 0 ≤ (sy_i F 4).toInt ∧ (sy_i F 4).toInt < 403)
    (h3 : ((sy_ai F 25).getD (sy_i F 4).toNatClampNeg 0).toInt = 31)
    (h4 : (sy_i F 71).toInt = 4)
    (h5 : (sy_i F 6).toInt ≤ 0)
    (h6 : 0 ≤ (sy_i F 4).toInt ∧ (sy_i F 4).toInt < 403)
    (k : ∀ F1 : Nat → sy_d, (∀ j, j < 69 → j ≠ 6 ∧ j ≠ 7 → F1 j = F j) → F1 6 = .inl (.int ((2 : Int32))) → F1 7 = .inl (.int ((sy_ai F 26).getD (sy_i F 4).toNatClampNeg 0)) → Q (none) (sy_dh F1 X1 X2 (iv_H 4))) :
    hd_W Ls xs d jm_M160 Q (12, sy_dL F [some (.inl (.ref 1000)), some (.inr (.inl 69)), some (.inr (.inl 70)), some (.inr (.inl 71))], sy_dS F [], sy_dh F X1 X2 (iv_H 4), 0, 0) := by
  refine hd_ret (s := 4) (nv := 72) (v := none) (uh := hd_ov (iv_id 0 iv_B4) [(6, .inl (.inl (.int 2))), (7, .inl (.inr (.inl 73)))]) (f := true) (sp := [77, 140]) (d0 := 3) (O := [false, false, false, false, true]) (T := [(30, [.inr (.inl 4)], [.inr (.inl 25)]), (30, [.inr (.inl 4)], [.inr (.inl 26)])]) (P := [(0, .inr (.inl 6), .inl (.int 0)), (0, .inr (.inl 6), .inl (.int 0)), (6, .inr (.inl 4), .inl (.ref 403)), (0, .inr (.inl 72), .inl (.int 31)), (0, .inr (.inl 71), .inl (.int 4)), (4, .inr (.inl 6), .inl (.int 0)), (6, .inr (.inl 4), .inl (.ref 403))]) jm_ok160 (by decide +kernel) (by decide +kernel) hd F X1 X2 (fun F' hF hs => ?_)
  have b6 := hd_b (F := F) (F' := F') (k := 6) (hF 6 (by decide))
  have b4 := hd_b (F := F) (F' := F') (k := 4) (hF 4 (by decide))
  have a25 := hd_ba (F := F) (F' := F') (k := 25) (hF 25 (by decide))
  have t72 : sy_dv F' (.inr (.inl 72)) = .int ((sy_ai F 25).getD (sy_i F 4).toNatClampNeg 0) := hd_rd (hs 0 _ rfl) b4 a25
  have b71 := hd_b (F := F) (F' := F') (k := 71) (hF 71 (by decide))
  have a26 := hd_ba (F := F) (F' := F') (k := 26) (hF 26 (by decide))
  have t73 : sy_dv F' (.inr (.inl 73)) = .int ((sy_ai F 26).getD (sy_i F 4).toNatClampNeg 0) := hd_rd (hs 1 _ rfl) b4 a26
  have hB' : iv_in F' iv_B4 := iv_in_eq hB (fun j hj => hF j (Nat.lt_of_lt_of_le hj (by decide +kernel)))
  refine ⟨List.forall_mem_cons.mpr ⟨hd_p0 b6 rfl (by have hc : ((0) : Int32).toInt = 0 := (by decide); omega), List.forall_mem_cons.mpr ⟨hd_p0 b6 rfl (by have hc : ((0) : Int32).toInt = 0 := (by decide); omega), List.forall_mem_cons.mpr ⟨hd_pb b4 (by first | exact h2 | exact h2), List.forall_mem_cons.mpr ⟨hd_p0 t72 rfl (by have hc : ((31) : Int32).toInt = 31 := (by decide); omega), List.forall_mem_cons.mpr ⟨hd_p0 b71 rfl (by have hc : ((4) : Int32).toInt = 4 := (by decide); omega), List.forall_mem_cons.mpr ⟨hd_p4 b6 rfl (by have hc : ((0) : Int32).toInt = 0 := (by decide); omega), List.forall_mem_cons.mpr ⟨hd_pb b4 (by first | exact h6 | exact h6), fun _ h => absurd h List.not_mem_nil⟩⟩⟩⟩⟩⟩⟩, ?_⟩
  refine k _ ?_ ?_ ?_
  · exact fun j hj hn => (hd_keep hB' (Nat.lt_of_lt_of_le hj (by decide +kernel)) (by simp; omega)).trans (hF j (by omega))
  · exact hd_gi (x := .inl (.int 2)) (by decide +kernel) rfl
  · exact hd_gi (x := .inr (.inl 73)) (by decide +kernel) t73
theorem tl_80_p0 {Ls : Nat} {xs : Nat → Int32} {d : Nat} {Q : Option Value → jm_h → Prop} (hd : 4 ≤ d) (F : Nat → sy_d) (X1 X2 : List jm_c) (hB : iv_in F iv_B4)
    (h0 : (sy_i F 6).toInt ≠ 0)
    (h1 : 0 < (sy_i F 6).toInt)
    (h2 : 0 ≤ (sy_i F 14).toInt ∧ (sy_i F 14).toInt < 260)
    (h3 : (sy_i F 6).toInt ≠ 0)
    (k : ∀ F1 : Nat → sy_d, (∀ j, j < 69 → j ≠ 46 → F1 j = F j) → F1 46 = .inr (.inl (jm_upd (sy_ai F 46) (sy_i F 14).toNatClampNeg (sy_i F 15))) → F1 69 = .inl (.int (sy_i F 69)) → F1 70 = .inl (.int (sy_i F 70)) → F1 71 = .inl (.int (sy_i F 71)) → hd_W Ls xs d jm_M160 Q (110, sy_dL F1 [some (.inl (.ref 1000)), some (.inr (.inl 69)), some (.inr (.inl 70)), some (.inr (.inl 71))], sy_dS F1 [], sy_dh F1 X1 X2 (iv_H 4), 0, 0)) :
    hd_W Ls xs d jm_M160 Q (80, sy_dL F [some (.inl (.ref 1000)), some (.inr (.inl 69)), some (.inr (.inl 70)), some (.inr (.inl 71))], sy_dS F [], sy_dh F X1 X2 (iv_H 4), 0, 0) := by
  refine hd_run (s := 4) (nv := 72) (pc := 110) (L := [some (.inl (.ref 1000)), some (.inr (.inl 69)), some (.inr (.inl 70)), some (.inr (.inl 71))]) (S := []) (uh := hd_ov (iv_id 0 iv_B4) [(46, .inr (.inr (.inl 72)))]) (ul := [.inl (.inr (.inl 69)), .inl (.inr (.inl 70)), .inl (.inr (.inl 71))]) (f := false) (sp := [107, 110]) (d0 := 3) (O := [true, false, true]) (T := [(40, [.inr (.inl 14), .inr (.inl 15)], [.inr (.inl 46)])]) (P := [(1, .inr (.inl 6), .inl (.int 0)), (5, .inr (.inl 6), .inl (.int 0)), (6, .inr (.inl 14), .inl (.ref 260)), (1, .inr (.inl 6), .inl (.int 0))]) jm_ok160 (by decide +kernel) (by decide +kernel) hd F X1 X2 (fun F' hF hs => ?_)
  have b6 := hd_b (F := F) (F' := F') (k := 6) (hF 6 (by decide))
  have b14 := hd_b (F := F) (F' := F') (k := 14) (hF 14 (by decide))
  have b15 := hd_b (F := F) (F' := F') (k := 15) (hF 15 (by decide))
  have a46 := hd_ba (F := F) (F' := F') (k := 46) (hF 46 (by decide))
  have t72 : sy_da F' (.inr (.inl 72)) = .inl (jm_upd (sy_ai F 46) (sy_i F 14).toNatClampNeg (sy_i F 15)) := hd_up (hs 0 _ rfl) b14 b15 a46
  have b69 := hd_b (F := F) (F' := F') (k := 69) (hF 69 (by decide))
  have b70 := hd_b (F := F) (F' := F') (k := 70) (hF 70 (by decide))
  have b71 := hd_b (F := F) (F' := F') (k := 71) (hF 71 (by decide))
  have hB' : iv_in F' iv_B4 := iv_in_eq hB (fun j hj => hF j (Nat.lt_of_lt_of_le hj (by decide +kernel)))
  refine ⟨List.forall_mem_cons.mpr ⟨hd_p1 b6 rfl (by have hc : ((0) : Int32).toInt = 0 := (by decide); omega), List.forall_mem_cons.mpr ⟨hd_p5 b6 rfl (by have hc : ((0) : Int32).toInt = 0 := (by decide); omega), List.forall_mem_cons.mpr ⟨hd_pb b14 (by first | exact h2 | exact h2), List.forall_mem_cons.mpr ⟨hd_p1 b6 rfl (by have hc : ((0) : Int32).toInt = 0 := (by decide); omega), fun _ h => absurd h List.not_mem_nil⟩⟩⟩⟩, ?_⟩
  refine k _ ?_ ?_ ?_ ?_ ?_
  · exact fun j hj hn => (hd_keep hB' (Nat.lt_of_lt_of_le hj (by decide +kernel)) (by simp; omega)).trans (hF j (by omega))
  · exact hd_ga (a := .inr (.inl 72)) (by decide +kernel) t72
  · exact hd_gi (x := .inr (.inl 69)) (by decide +kernel) b69
  · exact hd_gi (x := .inr (.inl 70)) (by decide +kernel) b70
  · exact hd_gi (x := .inr (.inl 71)) (by decide +kernel) b71
theorem tl_80_p1 {Ls : Nat} {xs : Nat → Int32} {d : Nat} {Q : Option Value → jm_h → Prop} (hd : 4 ≤ d) (F : Nat → sy_d) (X1 X2 : List jm_c) (hB : iv_in F iv_B4)
    (h0 : (sy_i F 6).toInt = 0)
    (h1 : 0 ≤ (sy_i F 4).toInt ∧ (sy_i F 4).toInt < 403)
    (h2 : ((sy_ai F 25).getD (sy_i F 4).toNatClampNeg 0).toInt ≠ 13)
    (h3 : (sy_i F 6).toInt ≤ 0)
    (h4 : 0 ≤ (sy_i F 4).toInt ∧ (sy_i F 4).toInt < 403)
    (h5 : 0 ≤ (sy_i F 14).toInt ∧ (sy_i F 14).toInt < 260)
    (k : ∀ F1 : Nat → sy_d, (∀ j, j < 69 → j ≠ 6 ∧ j ≠ 7 ∧ j ≠ 46 → F1 j = F j) → F1 6 = .inl (.int ((1 : Int32))) → F1 7 = .inl (.int ((sy_ai F 26).getD (sy_i F 4).toNatClampNeg 0)) → F1 46 = .inr (.inl (jm_upd (sy_ai F 46) (sy_i F 14).toNatClampNeg (sy_i F 15))) → F1 69 = .inl (.int (sy_i F 69)) → F1 70 = .inl (.int (sy_i F 70)) → F1 71 = .inl (.int (sy_i F 71)) → hd_W Ls xs d jm_M160 Q (110, sy_dL F1 [some (.inl (.ref 1000)), some (.inr (.inl 69)), some (.inr (.inl 70)), some (.inr (.inl 71))], sy_dS F1 [], sy_dh F1 X1 X2 (iv_H 4), 0, 0)) :
    hd_W Ls xs d jm_M160 Q (80, sy_dL F [some (.inl (.ref 1000)), some (.inr (.inl 69)), some (.inr (.inl 70)), some (.inr (.inl 71))], sy_dS F [], sy_dh F X1 X2 (iv_H 4), 0, 0) := by
  refine hd_run (s := 4) (nv := 72) (pc := 110) (L := [some (.inl (.ref 1000)), some (.inr (.inl 69)), some (.inr (.inl 70)), some (.inr (.inl 71))]) (S := []) (uh := hd_ov (iv_id 0 iv_B4) [(6, .inl (.inl (.int 1))), (7, .inl (.inr (.inl 73))), (46, .inr (.inr (.inl 74)))]) (ul := [.inl (.inr (.inl 69)), .inl (.inr (.inl 70)), .inl (.inr (.inl 71))]) (f := false) (sp := [107, 110]) (d0 := 3) (O := [false, true, true]) (T := [(30, [.inr (.inl 4)], [.inr (.inl 25)]), (30, [.inr (.inl 4)], [.inr (.inl 26)]), (40, [.inr (.inl 14), .inr (.inl 15)], [.inr (.inl 46)])]) (P := [(0, .inr (.inl 6), .inl (.int 0)), (6, .inr (.inl 4), .inl (.ref 403)), (1, .inr (.inl 72), .inl (.int 13)), (4, .inr (.inl 6), .inl (.int 0)), (6, .inr (.inl 4), .inl (.ref 403)), (6, .inr (.inl 14), .inl (.ref 260))]) jm_ok160 (by decide +kernel) (by decide +kernel) hd F X1 X2 (fun F' hF hs => ?_)
  have b6 := hd_b (F := F) (F' := F') (k := 6) (hF 6 (by decide))
  have b4 := hd_b (F := F) (F' := F') (k := 4) (hF 4 (by decide))
  have a25 := hd_ba (F := F) (F' := F') (k := 25) (hF 25 (by decide))
  have t72 : sy_dv F' (.inr (.inl 72)) = .int ((sy_ai F 25).getD (sy_i F 4).toNatClampNeg 0) := hd_rd (hs 0 _ rfl) b4 a25
  have b14 := hd_b (F := F) (F' := F') (k := 14) (hF 14 (by decide))
  have a26 := hd_ba (F := F) (F' := F') (k := 26) (hF 26 (by decide))
  have t73 : sy_dv F' (.inr (.inl 73)) = .int ((sy_ai F 26).getD (sy_i F 4).toNatClampNeg 0) := hd_rd (hs 1 _ rfl) b4 a26
  have b15 := hd_b (F := F) (F' := F') (k := 15) (hF 15 (by decide))
  have a46 := hd_ba (F := F) (F' := F') (k := 46) (hF 46 (by decide))
  have t74 : sy_da F' (.inr (.inl 74)) = .inl (jm_upd (sy_ai F 46) (sy_i F 14).toNatClampNeg (sy_i F 15)) := hd_up (hs 2 _ rfl) b14 b15 a46
  have b69 := hd_b (F := F) (F' := F') (k := 69) (hF 69 (by decide))
  have b70 := hd_b (F := F) (F' := F') (k := 70) (hF 70 (by decide))
  have b71 := hd_b (F := F) (F' := F') (k := 71) (hF 71 (by decide))
  have hB' : iv_in F' iv_B4 := iv_in_eq hB (fun j hj => hF j (Nat.lt_of_lt_of_le hj (by decide +kernel)))
  refine ⟨List.forall_mem_cons.mpr ⟨hd_p0 b6 rfl (by have hc : ((0) : Int32).toInt = 0 := (by decide); omega), List.forall_mem_cons.mpr ⟨hd_pb b4 (by first | exact h1 | exact h1), List.forall_mem_cons.mpr ⟨hd_p1 t72 rfl (by have hc : ((13) : Int32).toInt = 13 := (by decide); omega), List.forall_mem_cons.mpr ⟨hd_p4 b6 rfl (by have hc : ((0) : Int32).toInt = 0 := (by decide); omega), List.forall_mem_cons.mpr ⟨hd_pb b4 (by first | exact h4 | exact h4), List.forall_mem_cons.mpr ⟨hd_pb b14 (by first | exact h5 | exact h5), fun _ h => absurd h List.not_mem_nil⟩⟩⟩⟩⟩⟩, ?_⟩
  refine k _ ?_ ?_ ?_ ?_ ?_ ?_ ?_
  · exact fun j hj hn => (hd_keep hB' (Nat.lt_of_lt_of_le hj (by decide +kernel)) (by simp; omega)).trans (hF j (by omega))
  · exact hd_gi (x := .inl (.int 1)) (by decide +kernel) rfl
  · exact hd_gi (x := .inr (.inl 73)) (by decide +kernel) t73
  · exact hd_ga (a := .inr (.inl 74)) (by decide +kernel) t74
  · exact hd_gi (x := .inr (.inl 69)) (by decide +kernel) b69
  · exact hd_gi (x := .inr (.inl 70)) (by decide +kernel) b70
  · exact hd_gi (x := .inr (.inl 71)) (by decide +kernel) b71
theorem tl_80_p2 {Ls : Nat} {xs : Nat → Int32} {d : Nat} {Q : Option Value → jm_h → Prop} (hd : 4 ≤ d) (F : Nat → sy_d) (X1 X2 : List jm_c) (hB : iv_in F iv_B4)
    (h0 : (sy_i F 6).toInt = 0)
    (h1 : 0 ≤ (sy_i F 4).toInt ∧ (sy_i F 4).toInt < 403)
    (h2 : ((sy_ai F 25).getD (sy_i F 4).toNatClampNeg 0).toInt = 13)
    (h3 : (sy_i F 4).toInt ≠ 400)
    (h4 : 0 ≤ (sy_i F 14).toInt ∧ (sy_i F 14).toInt < 260)
    (h5 : (sy_i F 6).toInt = 0)
    (k : ∀ F1 : Nat → sy_d, (∀ j, j < 69 → j ≠ 4 ∧ j ≠ 46 → F1 j = F j) → F1 4 = .inl (.int ((sy_i F 4) + ((1 : Int32)))) → F1 46 = .inr (.inl (jm_upd (sy_ai F 46) (sy_i F 14).toNatClampNeg (sy_i F 15))) → F1 69 = .inl (.int (sy_i F 69)) → F1 70 = .inl (.int (sy_i F 70)) → F1 71 = .inl (.int (sy_i F 71)) → hd_W Ls xs d jm_M160 Q (107, sy_dL F1 [some (.inl (.ref 1000)), some (.inr (.inl 69)), some (.inr (.inl 70)), some (.inr (.inl 71))], sy_dS F1 [.inl (.ref 1000)], sy_dh F1 X1 X2 (iv_H 4), 0, 0)) :
    hd_W Ls xs d jm_M160 Q (80, sy_dL F [some (.inl (.ref 1000)), some (.inr (.inl 69)), some (.inr (.inl 70)), some (.inr (.inl 71))], sy_dS F [], sy_dh F X1 X2 (iv_H 4), 0, 0) := by
  refine hd_run (s := 4) (nv := 72) (pc := 107) (L := [some (.inl (.ref 1000)), some (.inr (.inl 69)), some (.inr (.inl 70)), some (.inr (.inl 71))]) (S := [.inl (.ref 1000)]) (uh := hd_ov (iv_id 0 iv_B4) [(4, .inl (.inr (.inl 73))), (46, .inr (.inr (.inl 74)))]) (ul := [.inl (.inr (.inl 69)), .inl (.inr (.inl 70)), .inl (.inr (.inl 71))]) (f := false) (sp := [107, 110]) (d0 := 3) (O := [false, false, true, false]) (T := [(30, [.inr (.inl 4)], [.inr (.inl 25)]), (0, [.inr (.inl 4), .inl (.int 1)], []), (40, [.inr (.inl 14), .inr (.inl 15)], [.inr (.inl 46)])]) (P := [(0, .inr (.inl 6), .inl (.int 0)), (6, .inr (.inl 4), .inl (.ref 403)), (0, .inr (.inl 72), .inl (.int 13)), (1, .inr (.inl 4), .inl (.int 400)), (6, .inr (.inl 14), .inl (.ref 260)), (0, .inr (.inl 6), .inl (.int 0))]) jm_ok160 (by decide +kernel) (by decide +kernel) hd F X1 X2 (fun F' hF hs => ?_)
  have b6 := hd_b (F := F) (F' := F') (k := 6) (hF 6 (by decide))
  have b4 := hd_b (F := F) (F' := F') (k := 4) (hF 4 (by decide))
  have a25 := hd_ba (F := F) (F' := F') (k := 25) (hF 25 (by decide))
  have t72 : sy_dv F' (.inr (.inl 72)) = .int ((sy_ai F 25).getD (sy_i F 4).toNatClampNeg 0) := hd_rd (hs 0 _ rfl) b4 a25
  have b14 := hd_b (F := F) (F' := F') (k := 14) (hF 14 (by decide))
  have t73 : sy_dv F' (.inr (.inl 73)) = .int ((sy_i F 4) + ((1 : Int32))) := hd_o (hs 1 _ rfl) b4 rfl rfl
  have b15 := hd_b (F := F) (F' := F') (k := 15) (hF 15 (by decide))
  have a46 := hd_ba (F := F) (F' := F') (k := 46) (hF 46 (by decide))
  have t74 : sy_da F' (.inr (.inl 74)) = .inl (jm_upd (sy_ai F 46) (sy_i F 14).toNatClampNeg (sy_i F 15)) := hd_up (hs 2 _ rfl) b14 b15 a46
  have b69 := hd_b (F := F) (F' := F') (k := 69) (hF 69 (by decide))
  have b70 := hd_b (F := F) (F' := F') (k := 70) (hF 70 (by decide))
  have b71 := hd_b (F := F) (F' := F') (k := 71) (hF 71 (by decide))
  have hB' : iv_in F' iv_B4 := iv_in_eq hB (fun j hj => hF j (Nat.lt_of_lt_of_le hj (by decide +kernel)))
  refine ⟨List.forall_mem_cons.mpr ⟨hd_p0 b6 rfl (by have hc : ((0) : Int32).toInt = 0 := (by decide); omega), List.forall_mem_cons.mpr ⟨hd_pb b4 (by first | exact h1 | exact h1), List.forall_mem_cons.mpr ⟨hd_p0 t72 rfl (by have hc : ((13) : Int32).toInt = 13 := (by decide); omega), List.forall_mem_cons.mpr ⟨hd_p1 b4 rfl (by have hc : ((400) : Int32).toInt = 400 := (by decide); omega), List.forall_mem_cons.mpr ⟨hd_pb b14 (by first | exact h4 | exact h4), List.forall_mem_cons.mpr ⟨hd_p0 b6 rfl (by have hc : ((0) : Int32).toInt = 0 := (by decide); omega), fun _ h => absurd h List.not_mem_nil⟩⟩⟩⟩⟩⟩, ?_⟩
  refine k _ ?_ ?_ ?_ ?_ ?_ ?_
  · exact fun j hj hn => (hd_keep hB' (Nat.lt_of_lt_of_le hj (by decide +kernel)) (by simp; omega)).trans (hF j (by omega))
  · exact hd_gi (x := .inr (.inl 73)) (by decide +kernel) t73
  · exact hd_ga (a := .inr (.inl 74)) (by decide +kernel) t74
  · exact hd_gi (x := .inr (.inl 69)) (by decide +kernel) b69
  · exact hd_gi (x := .inr (.inl 70)) (by decide +kernel) b70
  · exact hd_gi (x := .inr (.inl 71)) (by decide +kernel) b71
theorem tl_80_p3 {Ls : Nat} {xs : Nat → Int32} {d : Nat} {Q : Option Value → jm_h → Prop} (hd : 4 ≤ d) (F : Nat → sy_d) (X1 X2 : List jm_c) (hB : iv_in F iv_B4)
    (h0 : (sy_i F 6).toInt = 0)
    (h1 : 0 ≤ (sy_i F 4).toInt ∧ (sy_i F 4).toInt < 403)
    (h2 : ((sy_ai F 25).getD (sy_i F 4).toNatClampNeg 0).toInt = 13)
    (h3 : (sy_i F 4).toInt = 400)
    (h4 : (sy_i F 6).toInt ≤ 0)
    (h5 : 0 ≤ (sy_i F 4).toInt ∧ (sy_i F 4).toInt < 403)
    (h6 : 0 ≤ (sy_i F 14).toInt ∧ (sy_i F 14).toInt < 260)
    (k : ∀ F1 : Nat → sy_d, (∀ j, j < 69 → j ≠ 6 ∧ j ≠ 7 ∧ j ≠ 46 → F1 j = F j) → F1 6 = .inl (.int ((2 : Int32))) → F1 7 = .inl (.int ((sy_ai F 26).getD (sy_i F 4).toNatClampNeg 0)) → F1 46 = .inr (.inl (jm_upd (sy_ai F 46) (sy_i F 14).toNatClampNeg (sy_i F 15))) → F1 69 = .inl (.int (sy_i F 69)) → F1 70 = .inl (.int (sy_i F 70)) → F1 71 = .inl (.int (sy_i F 71)) → hd_W Ls xs d jm_M160 Q (110, sy_dL F1 [some (.inl (.ref 1000)), some (.inr (.inl 69)), some (.inr (.inl 70)), some (.inr (.inl 71))], sy_dS F1 [], sy_dh F1 X1 X2 (iv_H 4), 0, 0)) :
    hd_W Ls xs d jm_M160 Q (80, sy_dL F [some (.inl (.ref 1000)), some (.inr (.inl 69)), some (.inr (.inl 70)), some (.inr (.inl 71))], sy_dS F [], sy_dh F X1 X2 (iv_H 4), 0, 0) := by
  refine hd_run (s := 4) (nv := 72) (pc := 110) (L := [some (.inl (.ref 1000)), some (.inr (.inl 69)), some (.inr (.inl 70)), some (.inr (.inl 71))]) (S := []) (uh := hd_ov (iv_id 0 iv_B4) [(6, .inl (.inl (.int 2))), (7, .inl (.inr (.inl 73))), (46, .inr (.inr (.inl 74)))]) (ul := [.inl (.inr (.inl 69)), .inl (.inr (.inl 70)), .inl (.inr (.inl 71))]) (f := false) (sp := [107, 110]) (d0 := 3) (O := [false, false, false, true]) (T := [(30, [.inr (.inl 4)], [.inr (.inl 25)]), (30, [.inr (.inl 4)], [.inr (.inl 26)]), (40, [.inr (.inl 14), .inr (.inl 15)], [.inr (.inl 46)])]) (P := [(0, .inr (.inl 6), .inl (.int 0)), (6, .inr (.inl 4), .inl (.ref 403)), (0, .inr (.inl 72), .inl (.int 13)), (0, .inr (.inl 4), .inl (.int 400)), (4, .inr (.inl 6), .inl (.int 0)), (6, .inr (.inl 4), .inl (.ref 403)), (6, .inr (.inl 14), .inl (.ref 260))]) jm_ok160 (by decide +kernel) (by decide +kernel) hd F X1 X2 (fun F' hF hs => ?_)
  have b6 := hd_b (F := F) (F' := F') (k := 6) (hF 6 (by decide))
  have b4 := hd_b (F := F) (F' := F') (k := 4) (hF 4 (by decide))
  have a25 := hd_ba (F := F) (F' := F') (k := 25) (hF 25 (by decide))
  have t72 : sy_dv F' (.inr (.inl 72)) = .int ((sy_ai F 25).getD (sy_i F 4).toNatClampNeg 0) := hd_rd (hs 0 _ rfl) b4 a25
  have b14 := hd_b (F := F) (F' := F') (k := 14) (hF 14 (by decide))
  have a26 := hd_ba (F := F) (F' := F') (k := 26) (hF 26 (by decide))
  have t73 : sy_dv F' (.inr (.inl 73)) = .int ((sy_ai F 26).getD (sy_i F 4).toNatClampNeg 0) := hd_rd (hs 1 _ rfl) b4 a26
  have b15 := hd_b (F := F) (F' := F') (k := 15) (hF 15 (by decide))
  have a46 := hd_ba (F := F) (F' := F') (k := 46) (hF 46 (by decide))
  have t74 : sy_da F' (.inr (.inl 74)) = .inl (jm_upd (sy_ai F 46) (sy_i F 14).toNatClampNeg (sy_i F 15)) := hd_up (hs 2 _ rfl) b14 b15 a46
  have b69 := hd_b (F := F) (F' := F') (k := 69) (hF 69 (by decide))
  have b70 := hd_b (F := F) (F' := F') (k := 70) (hF 70 (by decide))
  have b71 := hd_b (F := F) (F' := F') (k := 71) (hF 71 (by decide))
  have hB' : iv_in F' iv_B4 := iv_in_eq hB (fun j hj => hF j (Nat.lt_of_lt_of_le hj (by decide +kernel)))
  refine ⟨List.forall_mem_cons.mpr ⟨hd_p0 b6 rfl (by have hc : ((0) : Int32).toInt = 0 := (by decide); omega), List.forall_mem_cons.mpr ⟨hd_pb b4 (by first | exact h1 | exact h1), List.forall_mem_cons.mpr ⟨hd_p0 t72 rfl (by have hc : ((13) : Int32).toInt = 13 := (by decide); omega), List.forall_mem_cons.mpr ⟨hd_p0 b4 rfl (by have hc : ((400) : Int32).toInt = 400 := (by decide); omega), List.forall_mem_cons.mpr ⟨hd_p4 b6 rfl (by have hc : ((0) : Int32).toInt = 0 := (by decide); omega), List.forall_mem_cons.mpr ⟨hd_pb b4 (by first | exact h5 | exact h5), List.forall_mem_cons.mpr ⟨hd_pb b14 (by first | exact h6 | exact h6), fun _ h => absurd h List.not_mem_nil⟩⟩⟩⟩⟩⟩⟩, ?_⟩
  refine k _ ?_ ?_ ?_ ?_ ?_ ?_ ?_
  · exact fun j hj hn => (hd_keep hB' (Nat.lt_of_lt_of_le hj (by decide +kernel)) (by simp; omega)).trans (hF j (by omega))
  · exact hd_gi (x := .inl (.int 2)) (by decide +kernel) rfl
  · exact hd_gi (x := .inr (.inl 73)) (by decide +kernel) t73
  · exact hd_ga (a := .inr (.inl 74)) (by decide +kernel) t74
  · exact hd_gi (x := .inr (.inl 69)) (by decide +kernel) b69
  · exact hd_gi (x := .inr (.inl 70)) (by decide +kernel) b70
  · exact hd_gi (x := .inr (.inl 71)) (by decide +kernel) b71
theorem tl_110_p0 {Ls : Nat} {xs : Nat → Int32} {d : Nat} {Q : Option Value → jm_h → Prop} (hd : 4 ≤ d) (F : Nat → sy_d) (X1 X2 : List jm_c) (hB : iv_in F iv_B4)
    (h0 : (sy_i F 6).toInt ≠ 0)
    (h1 : 0 < (sy_i F 6).toInt)
    (k : ∀ F1 : Nat → sy_d, (∀ j, j < 69 → True → F1 j = F j) → F1 69 = .inl (.int (sy_i F 69)) → F1 70 = .inl (.int (sy_i F 70)) → F1 71 = .inl (.int (sy_i F 71)) → hd_W Ls xs d jm_M160 Q (117, sy_dL F1 [some (.inl (.ref 1000)), some (.inr (.inl 69)), some (.inr (.inl 70)), some (.inr (.inl 71))], sy_dS F1 [.inl (.ref 1000)], sy_dh F1 X1 X2 (iv_H 4), 0, 0)) :
    hd_W Ls xs d jm_M160 Q (110, sy_dL F [some (.inl (.ref 1000)), some (.inr (.inl 69)), some (.inr (.inl 70)), some (.inr (.inl 71))], sy_dS F [], sy_dh F X1 X2 (iv_H 4), 0, 0) := by
  refine hd_run (s := 4) (nv := 72) (pc := 117) (L := [some (.inl (.ref 1000)), some (.inr (.inl 69)), some (.inr (.inl 70)), some (.inr (.inl 71))]) (S := [.inl (.ref 1000)]) (uh := hd_ov (iv_id 0 iv_B4) []) (ul := [.inl (.inr (.inl 69)), .inl (.inr (.inl 70)), .inl (.inr (.inl 71))]) (f := true) (sp := [117]) (d0 := 3) (O := [true, false]) (T := []) (P := [(1, .inr (.inl 6), .inl (.int 0)), (5, .inr (.inl 6), .inl (.int 0))]) jm_ok160 (by decide +kernel) (by decide +kernel) hd F X1 X2 (fun F' hF hs => ?_)
  have b6 := hd_b (F := F) (F' := F') (k := 6) (hF 6 (by decide))
  have b69 := hd_b (F := F) (F' := F') (k := 69) (hF 69 (by decide))
  have b70 := hd_b (F := F) (F' := F') (k := 70) (hF 70 (by decide))
  have b71 := hd_b (F := F) (F' := F') (k := 71) (hF 71 (by decide))
  have hB' : iv_in F' iv_B4 := iv_in_eq hB (fun j hj => hF j (Nat.lt_of_lt_of_le hj (by decide +kernel)))
  refine ⟨List.forall_mem_cons.mpr ⟨hd_p1 b6 rfl (by have hc : ((0) : Int32).toInt = 0 := (by decide); omega), List.forall_mem_cons.mpr ⟨hd_p5 b6 rfl (by have hc : ((0) : Int32).toInt = 0 := (by decide); omega), fun _ h => absurd h List.not_mem_nil⟩⟩, ?_⟩
  refine k _ ?_ ?_ ?_ ?_
  · exact fun j hj _ => (hd_keep hB' (Nat.lt_of_lt_of_le hj (by decide +kernel)) (by simp)).trans (hF j (by omega))
  · exact hd_gi (x := .inr (.inl 69)) (by decide +kernel) b69
  · exact hd_gi (x := .inr (.inl 70)) (by decide +kernel) b70
  · exact hd_gi (x := .inr (.inl 71)) (by decide +kernel) b71
theorem tl_110_p1 {Ls : Nat} {xs : Nat → Int32} {d : Nat} {Q : Option Value → jm_h → Prop} (hd : 4 ≤ d) (F : Nat → sy_d) (X1 X2 : List jm_c) (hB : iv_in F iv_B4)
    (h0 : (sy_i F 6).toInt = 0)
    (h1 : 0 ≤ (sy_i F 4).toInt ∧ (sy_i F 4).toInt < 403)
    (h2 : ((sy_ai F 25).getD (sy_i F 4).toNatClampNeg 0).toInt ≠ 32)
    (h3 : (sy_i F 6).toInt ≤ 0)
    (h4 : 0 ≤ (sy_i F 4).toInt ∧ (sy_i F 4).toInt < 403)
    (k : ∀ F1 : Nat → sy_d, (∀ j, j < 69 → j ≠ 6 ∧ j ≠ 7 → F1 j = F j) → F1 6 = .inl (.int ((1 : Int32))) → F1 7 = .inl (.int ((sy_ai F 26).getD (sy_i F 4).toNatClampNeg 0)) → F1 69 = .inl (.int (sy_i F 69)) → F1 70 = .inl (.int (sy_i F 70)) → F1 71 = .inl (.int (sy_i F 71)) → hd_W Ls xs d jm_M160 Q (117, sy_dL F1 [some (.inl (.ref 1000)), some (.inr (.inl 69)), some (.inr (.inl 70)), some (.inr (.inl 71))], sy_dS F1 [.inl (.ref 1000)], sy_dh F1 X1 X2 (iv_H 4), 0, 0)) :
    hd_W Ls xs d jm_M160 Q (110, sy_dL F [some (.inl (.ref 1000)), some (.inr (.inl 69)), some (.inr (.inl 70)), some (.inr (.inl 71))], sy_dS F [], sy_dh F X1 X2 (iv_H 4), 0, 0) := by
  refine hd_run (s := 4) (nv := 72) (pc := 117) (L := [some (.inl (.ref 1000)), some (.inr (.inl 69)), some (.inr (.inl 70)), some (.inr (.inl 71))]) (S := [.inl (.ref 1000)]) (uh := hd_ov (iv_id 0 iv_B4) [(6, .inl (.inl (.int 1))), (7, .inl (.inr (.inl 73)))]) (ul := [.inl (.inr (.inl 69)), .inl (.inr (.inl 70)), .inl (.inr (.inl 71))]) (f := true) (sp := [117]) (d0 := 3) (O := [false, true, true]) (T := [(30, [.inr (.inl 4)], [.inr (.inl 25)]), (30, [.inr (.inl 4)], [.inr (.inl 26)])]) (P := [(0, .inr (.inl 6), .inl (.int 0)), (6, .inr (.inl 4), .inl (.ref 403)), (1, .inr (.inl 72), .inl (.int 32)), (4, .inr (.inl 6), .inl (.int 0)), (6, .inr (.inl 4), .inl (.ref 403))]) jm_ok160 (by decide +kernel) (by decide +kernel) hd F X1 X2 (fun F' hF hs => ?_)
  have b6 := hd_b (F := F) (F' := F') (k := 6) (hF 6 (by decide))
  have b4 := hd_b (F := F) (F' := F') (k := 4) (hF 4 (by decide))
  have a25 := hd_ba (F := F) (F' := F') (k := 25) (hF 25 (by decide))
  have t72 : sy_dv F' (.inr (.inl 72)) = .int ((sy_ai F 25).getD (sy_i F 4).toNatClampNeg 0) := hd_rd (hs 0 _ rfl) b4 a25
  have a26 := hd_ba (F := F) (F' := F') (k := 26) (hF 26 (by decide))
  have t73 : sy_dv F' (.inr (.inl 73)) = .int ((sy_ai F 26).getD (sy_i F 4).toNatClampNeg 0) := hd_rd (hs 1 _ rfl) b4 a26
  have b69 := hd_b (F := F) (F' := F') (k := 69) (hF 69 (by decide))
  have b70 := hd_b (F := F) (F' := F') (k := 70) (hF 70 (by decide))
  have b71 := hd_b (F := F) (F' := F') (k := 71) (hF 71 (by decide))
  have hB' : iv_in F' iv_B4 := iv_in_eq hB (fun j hj => hF j (Nat.lt_of_lt_of_le hj (by decide +kernel)))
  refine ⟨List.forall_mem_cons.mpr ⟨hd_p0 b6 rfl (by have hc : ((0) : Int32).toInt = 0 := (by decide); omega), List.forall_mem_cons.mpr ⟨hd_pb b4 (by first | exact h1 | exact h1), List.forall_mem_cons.mpr ⟨hd_p1 t72 rfl (by have hc : ((32) : Int32).toInt = 32 := (by decide); omega), List.forall_mem_cons.mpr ⟨hd_p4 b6 rfl (by have hc : ((0) : Int32).toInt = 0 := (by decide); omega), List.forall_mem_cons.mpr ⟨hd_pb b4 (by first | exact h4 | exact h4), fun _ h => absurd h List.not_mem_nil⟩⟩⟩⟩⟩, ?_⟩
  refine k _ ?_ ?_ ?_ ?_ ?_ ?_
  · exact fun j hj hn => (hd_keep hB' (Nat.lt_of_lt_of_le hj (by decide +kernel)) (by simp; omega)).trans (hF j (by omega))
  · exact hd_gi (x := .inl (.int 1)) (by decide +kernel) rfl
  · exact hd_gi (x := .inr (.inl 73)) (by decide +kernel) t73
  · exact hd_gi (x := .inr (.inl 69)) (by decide +kernel) b69
  · exact hd_gi (x := .inr (.inl 70)) (by decide +kernel) b70
  · exact hd_gi (x := .inr (.inl 71)) (by decide +kernel) b71
theorem tl_110_p2 {Ls : Nat} {xs : Nat → Int32} {d : Nat} {Q : Option Value → jm_h → Prop} (hd : 4 ≤ d) (F : Nat → sy_d) (X1 X2 : List jm_c) (hB : iv_in F iv_B4)
    (h0 : (sy_i F 6).toInt = 0)
    (h1 : 0 ≤ (sy_i F 4).toInt ∧ (sy_i F 4).toInt < 403)
    (h2 : ((sy_ai F 25).getD (sy_i F 4).toNatClampNeg 0).toInt = 32)
    (h3 : (sy_i F 4).toInt ≠ 400)
    (k : ∀ F1 : Nat → sy_d, (∀ j, j < 69 → j ≠ 4 → F1 j = F j) → F1 4 = .inl (.int ((sy_i F 4) + ((1 : Int32)))) → F1 69 = .inl (.int (sy_i F 69)) → F1 70 = .inl (.int (sy_i F 70)) → F1 71 = .inl (.int (sy_i F 71)) → hd_W Ls xs d jm_M160 Q (117, sy_dL F1 [some (.inl (.ref 1000)), some (.inr (.inl 69)), some (.inr (.inl 70)), some (.inr (.inl 71))], sy_dS F1 [.inl (.ref 1000)], sy_dh F1 X1 X2 (iv_H 4), 0, 0)) :
    hd_W Ls xs d jm_M160 Q (110, sy_dL F [some (.inl (.ref 1000)), some (.inr (.inl 69)), some (.inr (.inl 70)), some (.inr (.inl 71))], sy_dS F [], sy_dh F X1 X2 (iv_H 4), 0, 0) := by
  refine hd_run (s := 4) (nv := 72) (pc := 117) (L := [some (.inl (.ref 1000)), some (.inr (.inl 69)), some (.inr (.inl 70)), some (.inr (.inl 71))]) (S := [.inl (.ref 1000)]) (uh := hd_ov (iv_id 0 iv_B4) [(4, .inl (.inr (.inl 73)))]) (ul := [.inl (.inr (.inl 69)), .inl (.inr (.inl 70)), .inl (.inr (.inl 71))]) (f := true) (sp := [117]) (d0 := 3) (O := [false, false, true]) (T := [(30, [.inr (.inl 4)], [.inr (.inl 25)]), (0, [.inr (.inl 4), .inl (.int 1)], [])]) (P := [(0, .inr (.inl 6), .inl (.int 0)), (6, .inr (.inl 4), .inl (.ref 403)), (0, .inr (.inl 72), .inl (.int 32)), (1, .inr (.inl 4), .inl (.int 400))]) jm_ok160 (by decide +kernel) (by decide +kernel) hd F X1 X2 (fun F' hF hs => ?_)
  have b6 := hd_b (F := F) (F' := F') (k := 6) (hF 6 (by decide))
  have b4 := hd_b (F := F) (F' := F') (k := 4) (hF 4 (by decide))
  have a25 := hd_ba (F := F) (F' := F') (k := 25) (hF 25 (by decide))
  have t72 : sy_dv F' (.inr (.inl 72)) = .int ((sy_ai F 25).getD (sy_i F 4).toNatClampNeg 0) := hd_rd (hs 0 _ rfl) b4 a25
  have t73 : sy_dv F' (.inr (.inl 73)) = .int ((sy_i F 4) + ((1 : Int32))) := hd_o (hs 1 _ rfl) b4 rfl rfl
  have b69 := hd_b (F := F) (F' := F') (k := 69) (hF 69 (by decide))
  have b70 := hd_b (F := F) (F' := F') (k := 70) (hF 70 (by decide))
  have b71 := hd_b (F := F) (F' := F') (k := 71) (hF 71 (by decide))
  have hB' : iv_in F' iv_B4 := iv_in_eq hB (fun j hj => hF j (Nat.lt_of_lt_of_le hj (by decide +kernel)))
  refine ⟨List.forall_mem_cons.mpr ⟨hd_p0 b6 rfl (by have hc : ((0) : Int32).toInt = 0 := (by decide); omega), List.forall_mem_cons.mpr ⟨hd_pb b4 (by first | exact h1 | exact h1), List.forall_mem_cons.mpr ⟨hd_p0 t72 rfl (by have hc : ((32) : Int32).toInt = 32 := (by decide); omega), List.forall_mem_cons.mpr ⟨hd_p1 b4 rfl (by have hc : ((400) : Int32).toInt = 400 := (by decide); omega), fun _ h => absurd h List.not_mem_nil⟩⟩⟩⟩, ?_⟩
  refine k _ ?_ ?_ ?_ ?_ ?_
  · exact fun j hj hn => (hd_keep hB' (Nat.lt_of_lt_of_le hj (by decide +kernel)) (by simp; omega)).trans (hF j (by omega))
  · exact hd_gi (x := .inr (.inl 73)) (by decide +kernel) t73
  · exact hd_gi (x := .inr (.inl 69)) (by decide +kernel) b69
  · exact hd_gi (x := .inr (.inl 70)) (by decide +kernel) b70
  · exact hd_gi (x := .inr (.inl 71)) (by decide +kernel) b71
theorem tl_110_p3 {Ls : Nat} {xs : Nat → Int32} {d : Nat} {Q : Option Value → jm_h → Prop} (hd : 4 ≤ d) (F : Nat → sy_d) (X1 X2 : List jm_c) (hB : iv_in F iv_B4)
    (h0 : (sy_i F 6).toInt = 0)
    (h1 : 0 ≤ (sy_i F 4).toInt ∧ (sy_i F 4).toInt < 403)
    (h2 : ((sy_ai F 25).getD (sy_i F 4).toNatClampNeg 0).toInt = 32)
    (h3 : (sy_i F 4).toInt = 400)
    (h4 : (sy_i F 6).toInt ≤ 0)
    (h5 : 0 ≤ (sy_i F 4).toInt ∧ (sy_i F 4).toInt < 403)
    (k : ∀ F1 : Nat → sy_d, (∀ j, j < 69 → j ≠ 6 ∧ j ≠ 7 → F1 j = F j) → F1 6 = .inl (.int ((2 : Int32))) → F1 7 = .inl (.int ((sy_ai F 26).getD (sy_i F 4).toNatClampNeg 0)) → F1 69 = .inl (.int (sy_i F 69)) → F1 70 = .inl (.int (sy_i F 70)) → F1 71 = .inl (.int (sy_i F 71)) → hd_W Ls xs d jm_M160 Q (117, sy_dL F1 [some (.inl (.ref 1000)), some (.inr (.inl 69)), some (.inr (.inl 70)), some (.inr (.inl 71))], sy_dS F1 [.inl (.ref 1000)], sy_dh F1 X1 X2 (iv_H 4), 0, 0)) :
    hd_W Ls xs d jm_M160 Q (110, sy_dL F [some (.inl (.ref 1000)), some (.inr (.inl 69)), some (.inr (.inl 70)), some (.inr (.inl 71))], sy_dS F [], sy_dh F X1 X2 (iv_H 4), 0, 0) := by
  refine hd_run (s := 4) (nv := 72) (pc := 117) (L := [some (.inl (.ref 1000)), some (.inr (.inl 69)), some (.inr (.inl 70)), some (.inr (.inl 71))]) (S := [.inl (.ref 1000)]) (uh := hd_ov (iv_id 0 iv_B4) [(6, .inl (.inl (.int 2))), (7, .inl (.inr (.inl 73)))]) (ul := [.inl (.inr (.inl 69)), .inl (.inr (.inl 70)), .inl (.inr (.inl 71))]) (f := true) (sp := [117]) (d0 := 3) (O := [false, false, false, true]) (T := [(30, [.inr (.inl 4)], [.inr (.inl 25)]), (30, [.inr (.inl 4)], [.inr (.inl 26)])]) (P := [(0, .inr (.inl 6), .inl (.int 0)), (6, .inr (.inl 4), .inl (.ref 403)), (0, .inr (.inl 72), .inl (.int 32)), (0, .inr (.inl 4), .inl (.int 400)), (4, .inr (.inl 6), .inl (.int 0)), (6, .inr (.inl 4), .inl (.ref 403))]) jm_ok160 (by decide +kernel) (by decide +kernel) hd F X1 X2 (fun F' hF hs => ?_)
  have b6 := hd_b (F := F) (F' := F') (k := 6) (hF 6 (by decide))
  have b4 := hd_b (F := F) (F' := F') (k := 4) (hF 4 (by decide))
  have a25 := hd_ba (F := F) (F' := F') (k := 25) (hF 25 (by decide))
  have t72 : sy_dv F' (.inr (.inl 72)) = .int ((sy_ai F 25).getD (sy_i F 4).toNatClampNeg 0) := hd_rd (hs 0 _ rfl) b4 a25
  have a26 := hd_ba (F := F) (F' := F') (k := 26) (hF 26 (by decide))
  have t73 : sy_dv F' (.inr (.inl 73)) = .int ((sy_ai F 26).getD (sy_i F 4).toNatClampNeg 0) := hd_rd (hs 1 _ rfl) b4 a26
  have b69 := hd_b (F := F) (F' := F') (k := 69) (hF 69 (by decide))
  have b70 := hd_b (F := F) (F' := F') (k := 70) (hF 70 (by decide))
  have b71 := hd_b (F := F) (F' := F') (k := 71) (hF 71 (by decide))
  have hB' : iv_in F' iv_B4 := iv_in_eq hB (fun j hj => hF j (Nat.lt_of_lt_of_le hj (by decide +kernel)))
  refine ⟨List.forall_mem_cons.mpr ⟨hd_p0 b6 rfl (by have hc : ((0) : Int32).toInt = 0 := (by decide); omega), List.forall_mem_cons.mpr ⟨hd_pb b4 (by first | exact h1 | exact h1), List.forall_mem_cons.mpr ⟨hd_p0 t72 rfl (by have hc : ((32) : Int32).toInt = 32 := (by decide); omega), List.forall_mem_cons.mpr ⟨hd_p0 b4 rfl (by have hc : ((400) : Int32).toInt = 400 := (by decide); omega), List.forall_mem_cons.mpr ⟨hd_p4 b6 rfl (by have hc : ((0) : Int32).toInt = 0 := (by decide); omega), List.forall_mem_cons.mpr ⟨hd_pb b4 (by first | exact h5 | exact h5), fun _ h => absurd h List.not_mem_nil⟩⟩⟩⟩⟩⟩, ?_⟩
  refine k _ ?_ ?_ ?_ ?_ ?_ ?_
  · exact fun j hj hn => (hd_keep hB' (Nat.lt_of_lt_of_le hj (by decide +kernel)) (by simp; omega)).trans (hF j (by omega))
  · exact hd_gi (x := .inl (.int 2)) (by decide +kernel) rfl
  · exact hd_gi (x := .inr (.inl 73)) (by decide +kernel) t73
  · exact hd_gi (x := .inr (.inl 69)) (by decide +kernel) b69
  · exact hd_gi (x := .inr (.inl 70)) (by decide +kernel) b70
  · exact hd_gi (x := .inr (.inl 71)) (by decide +kernel) b71
theorem tl_120_p0 {Ls : Nat} {xs : Nat → Int32} {d : Nat} {Q : Option Value → jm_h → Prop} (hd : 4 ≤ d) (F : Nat → sy_d) (X1 X2 : List jm_c) (hB : iv_in F iv_B4)
    (h0 : (sy_i F 6).toInt ≠ 0)
    (h1 : 0 < (sy_i F 6).toInt)
    (k : ∀ F1 : Nat → sy_d, (∀ j, j < 69 → True → F1 j = F j) → F1 69 = .inl (.int (sy_i F 69)) → F1 70 = .inl (.int (sy_i F 70)) → F1 71 = .inl (.int (sy_i F 71)) → hd_W Ls xs d jm_M160 Q (12, sy_dL F1 [some (.inl (.ref 1000)), some (.inr (.inl 69)), some (.inr (.inl 70)), some (.inr (.inl 71))], sy_dS F1 [], sy_dh F1 X1 X2 (iv_H 4), 0, 0)) :
    hd_W Ls xs d jm_M160 Q (120, sy_dL F [some (.inl (.ref 1000)), some (.inr (.inl 69)), some (.inr (.inl 70)), some (.inr (.inl 71))], sy_dS F [], sy_dh F X1 X2 (iv_H 4), 0, 0) := by
  refine hd_run (s := 4) (nv := 72) (pc := 12) (L := [some (.inl (.ref 1000)), some (.inr (.inl 69)), some (.inr (.inl 70)), some (.inr (.inl 71))]) (S := []) (uh := hd_ov (iv_id 0 iv_B4) []) (ul := [.inl (.inr (.inl 69)), .inl (.inr (.inl 70)), .inl (.inr (.inl 71))]) (f := false) (sp := [12]) (d0 := 3) (O := [true, false]) (T := []) (P := [(1, .inr (.inl 6), .inl (.int 0)), (5, .inr (.inl 6), .inl (.int 0))]) jm_ok160 (by decide +kernel) (by decide +kernel) hd F X1 X2 (fun F' hF hs => ?_)
  have b6 := hd_b (F := F) (F' := F') (k := 6) (hF 6 (by decide))
  have b69 := hd_b (F := F) (F' := F') (k := 69) (hF 69 (by decide))
  have b70 := hd_b (F := F) (F' := F') (k := 70) (hF 70 (by decide))
  have b71 := hd_b (F := F) (F' := F') (k := 71) (hF 71 (by decide))
  have hB' : iv_in F' iv_B4 := iv_in_eq hB (fun j hj => hF j (Nat.lt_of_lt_of_le hj (by decide +kernel)))
  refine ⟨List.forall_mem_cons.mpr ⟨hd_p1 b6 rfl (by have hc : ((0) : Int32).toInt = 0 := (by decide); omega), List.forall_mem_cons.mpr ⟨hd_p5 b6 rfl (by have hc : ((0) : Int32).toInt = 0 := (by decide); omega), fun _ h => absurd h List.not_mem_nil⟩⟩, ?_⟩
  refine k _ ?_ ?_ ?_ ?_
  · exact fun j hj _ => (hd_keep hB' (Nat.lt_of_lt_of_le hj (by decide +kernel)) (by simp)).trans (hF j (by omega))
  · exact hd_gi (x := .inr (.inl 69)) (by decide +kernel) b69
  · exact hd_gi (x := .inr (.inl 70)) (by decide +kernel) b70
  · exact hd_gi (x := .inr (.inl 71)) (by decide +kernel) b71
theorem tl_120_p1 {Ls : Nat} {xs : Nat → Int32} {d : Nat} {Q : Option Value → jm_h → Prop} (hd : 4 ≤ d) (F : Nat → sy_d) (X1 X2 : List jm_c) (hB : iv_in F iv_B4)
    (h0 : (sy_i F 6).toInt = 0)
    (h1 : 0 ≤ (sy_i F 4).toInt ∧ (sy_i F 4).toInt < 403)
    (h2 : ((sy_ai F 25).getD (sy_i F 4).toNatClampNeg 0).toInt ≠ 33)
    (h3 : (sy_i F 6).toInt ≤ 0)
    (h4 : 0 ≤ (sy_i F 4).toInt ∧ (sy_i F 4).toInt < 403)
    (k : ∀ F1 : Nat → sy_d, (∀ j, j < 69 → j ≠ 6 ∧ j ≠ 7 → F1 j = F j) → F1 6 = .inl (.int ((1 : Int32))) → F1 7 = .inl (.int ((sy_ai F 26).getD (sy_i F 4).toNatClampNeg 0)) → F1 69 = .inl (.int (sy_i F 69)) → F1 70 = .inl (.int (sy_i F 70)) → F1 71 = .inl (.int (sy_i F 71)) → hd_W Ls xs d jm_M160 Q (12, sy_dL F1 [some (.inl (.ref 1000)), some (.inr (.inl 69)), some (.inr (.inl 70)), some (.inr (.inl 71))], sy_dS F1 [], sy_dh F1 X1 X2 (iv_H 4), 0, 0)) :
    hd_W Ls xs d jm_M160 Q (120, sy_dL F [some (.inl (.ref 1000)), some (.inr (.inl 69)), some (.inr (.inl 70)), some (.inr (.inl 71))], sy_dS F [], sy_dh F X1 X2 (iv_H 4), 0, 0) := by
  refine hd_run (s := 4) (nv := 72) (pc := 12) (L := [some (.inl (.ref 1000)), some (.inr (.inl 69)), some (.inr (.inl 70)), some (.inr (.inl 71))]) (S := []) (uh := hd_ov (iv_id 0 iv_B4) [(6, .inl (.inl (.int 1))), (7, .inl (.inr (.inl 73)))]) (ul := [.inl (.inr (.inl 69)), .inl (.inr (.inl 70)), .inl (.inr (.inl 71))]) (f := false) (sp := [12]) (d0 := 3) (O := [false, true, true]) (T := [(30, [.inr (.inl 4)], [.inr (.inl 25)]), (30, [.inr (.inl 4)], [.inr (.inl 26)])]) (P := [(0, .inr (.inl 6), .inl (.int 0)), (6, .inr (.inl 4), .inl (.ref 403)), (1, .inr (.inl 72), .inl (.int 33)), (4, .inr (.inl 6), .inl (.int 0)), (6, .inr (.inl 4), .inl (.ref 403))]) jm_ok160 (by decide +kernel) (by decide +kernel) hd F X1 X2 (fun F' hF hs => ?_)
  have b6 := hd_b (F := F) (F' := F') (k := 6) (hF 6 (by decide))
  have b4 := hd_b (F := F) (F' := F') (k := 4) (hF 4 (by decide))
  have a25 := hd_ba (F := F) (F' := F') (k := 25) (hF 25 (by decide))
  have t72 : sy_dv F' (.inr (.inl 72)) = .int ((sy_ai F 25).getD (sy_i F 4).toNatClampNeg 0) := hd_rd (hs 0 _ rfl) b4 a25
  have a26 := hd_ba (F := F) (F' := F') (k := 26) (hF 26 (by decide))
  have t73 : sy_dv F' (.inr (.inl 73)) = .int ((sy_ai F 26).getD (sy_i F 4).toNatClampNeg 0) := hd_rd (hs 1 _ rfl) b4 a26
  have b69 := hd_b (F := F) (F' := F') (k := 69) (hF 69 (by decide))
  have b70 := hd_b (F := F) (F' := F') (k := 70) (hF 70 (by decide))
  have b71 := hd_b (F := F) (F' := F') (k := 71) (hF 71 (by decide))
  have hB' : iv_in F' iv_B4 := iv_in_eq hB (fun j hj => hF j (Nat.lt_of_lt_of_le hj (by decide +kernel)))
  refine ⟨List.forall_mem_cons.mpr ⟨hd_p0 b6 rfl (by have hc : ((0) : Int32).toInt = 0 := (by decide); omega), List.forall_mem_cons.mpr ⟨hd_pb b4 (by first | exact h1 | exact h1), List.forall_mem_cons.mpr ⟨hd_p1 t72 rfl (by have hc : ((33) : Int32).toInt = 33 := (by decide); omega), List.forall_mem_cons.mpr ⟨hd_p4 b6 rfl (by have hc : ((0) : Int32).toInt = 0 := (by decide); omega), List.forall_mem_cons.mpr ⟨hd_pb b4 (by first | exact h4 | exact h4), fun _ h => absurd h List.not_mem_nil⟩⟩⟩⟩⟩, ?_⟩
  refine k _ ?_ ?_ ?_ ?_ ?_ ?_
  · exact fun j hj hn => (hd_keep hB' (Nat.lt_of_lt_of_le hj (by decide +kernel)) (by simp; omega)).trans (hF j (by omega))
  · exact hd_gi (x := .inl (.int 1)) (by decide +kernel) rfl
  · exact hd_gi (x := .inr (.inl 73)) (by decide +kernel) t73
  · exact hd_gi (x := .inr (.inl 69)) (by decide +kernel) b69
  · exact hd_gi (x := .inr (.inl 70)) (by decide +kernel) b70
  · exact hd_gi (x := .inr (.inl 71)) (by decide +kernel) b71
theorem tl_120_p2 {Ls : Nat} {xs : Nat → Int32} {d : Nat} {Q : Option Value → jm_h → Prop} (hd : 4 ≤ d) (F : Nat → sy_d) (X1 X2 : List jm_c) (hB : iv_in F iv_B4)
    (h0 : (sy_i F 6).toInt = 0)
    (h1 : 0 ≤ (sy_i F 4).toInt ∧ (sy_i F 4).toInt < 403)
    (h2 : ((sy_ai F 25).getD (sy_i F 4).toNatClampNeg 0).toInt = 33)
    (h3 : (sy_i F 4).toInt ≠ 400)
    (k : ∀ F1 : Nat → sy_d, (∀ j, j < 69 → j ≠ 4 → F1 j = F j) → F1 4 = .inl (.int ((sy_i F 4) + ((1 : Int32)))) → F1 69 = .inl (.int (sy_i F 69)) → F1 70 = .inl (.int (sy_i F 70)) → F1 71 = .inl (.int (sy_i F 71)) → hd_W Ls xs d jm_M160 Q (12, sy_dL F1 [some (.inl (.ref 1000)), some (.inr (.inl 69)), some (.inr (.inl 70)), some (.inr (.inl 71))], sy_dS F1 [], sy_dh F1 X1 X2 (iv_H 4), 0, 0)) :
    hd_W Ls xs d jm_M160 Q (120, sy_dL F [some (.inl (.ref 1000)), some (.inr (.inl 69)), some (.inr (.inl 70)), some (.inr (.inl 71))], sy_dS F [], sy_dh F X1 X2 (iv_H 4), 0, 0) := by
  refine hd_run (s := 4) (nv := 72) (pc := 12) (L := [some (.inl (.ref 1000)), some (.inr (.inl 69)), some (.inr (.inl 70)), some (.inr (.inl 71))]) (S := []) (uh := hd_ov (iv_id 0 iv_B4) [(4, .inl (.inr (.inl 73)))]) (ul := [.inl (.inr (.inl 69)), .inl (.inr (.inl 70)), .inl (.inr (.inl 71))]) (f := false) (sp := [12]) (d0 := 3) (O := [false, false, true]) (T := [(30, [.inr (.inl 4)], [.inr (.inl 25)]), (0, [.inr (.inl 4), .inl (.int 1)], [])]) (P := [(0, .inr (.inl 6), .inl (.int 0)), (6, .inr (.inl 4), .inl (.ref 403)), (0, .inr (.inl 72), .inl (.int 33)), (1, .inr (.inl 4), .inl (.int 400))]) jm_ok160 (by decide +kernel) (by decide +kernel) hd F X1 X2 (fun F' hF hs => ?_)
  have b6 := hd_b (F := F) (F' := F') (k := 6) (hF 6 (by decide))
  have b4 := hd_b (F := F) (F' := F') (k := 4) (hF 4 (by decide))
  have a25 := hd_ba (F := F) (F' := F') (k := 25) (hF 25 (by decide))
  have t72 : sy_dv F' (.inr (.inl 72)) = .int ((sy_ai F 25).getD (sy_i F 4).toNatClampNeg 0) := hd_rd (hs 0 _ rfl) b4 a25
  have t73 : sy_dv F' (.inr (.inl 73)) = .int ((sy_i F 4) + ((1 : Int32))) := hd_o (hs 1 _ rfl) b4 rfl rfl
  have b69 := hd_b (F := F) (F' := F') (k := 69) (hF 69 (by decide))
  have b70 := hd_b (F := F) (F' := F') (k := 70) (hF 70 (by decide))
  have b71 := hd_b (F := F) (F' := F') (k := 71) (hF 71 (by decide))
  have hB' : iv_in F' iv_B4 := iv_in_eq hB (fun j hj => hF j (Nat.lt_of_lt_of_le hj (by decide +kernel)))
  refine ⟨List.forall_mem_cons.mpr ⟨hd_p0 b6 rfl (by have hc : ((0) : Int32).toInt = 0 := (by decide); omega), List.forall_mem_cons.mpr ⟨hd_pb b4 (by first | exact h1 | exact h1), List.forall_mem_cons.mpr ⟨hd_p0 t72 rfl (by have hc : ((33) : Int32).toInt = 33 := (by decide); omega), List.forall_mem_cons.mpr ⟨hd_p1 b4 rfl (by have hc : ((400) : Int32).toInt = 400 := (by decide); omega), fun _ h => absurd h List.not_mem_nil⟩⟩⟩⟩, ?_⟩
  refine k _ ?_ ?_ ?_ ?_ ?_
  · exact fun j hj hn => (hd_keep hB' (Nat.lt_of_lt_of_le hj (by decide +kernel)) (by simp; omega)).trans (hF j (by omega))
  · exact hd_gi (x := .inr (.inl 73)) (by decide +kernel) t73
  · exact hd_gi (x := .inr (.inl 69)) (by decide +kernel) b69
  · exact hd_gi (x := .inr (.inl 70)) (by decide +kernel) b70
  · exact hd_gi (x := .inr (.inl 71)) (by decide +kernel) b71
theorem tl_120_p3 {Ls : Nat} {xs : Nat → Int32} {d : Nat} {Q : Option Value → jm_h → Prop} (hd : 4 ≤ d) (F : Nat → sy_d) (X1 X2 : List jm_c) (hB : iv_in F iv_B4)
    (h0 : (sy_i F 6).toInt = 0)
    (h1 : 0 ≤ (sy_i F 4).toInt ∧ (sy_i F 4).toInt < 403)
    (h2 : ((sy_ai F 25).getD (sy_i F 4).toNatClampNeg 0).toInt = 33)
    (h3 : (sy_i F 4).toInt = 400)
    (h4 : (sy_i F 6).toInt ≤ 0)
    (h5 : 0 ≤ (sy_i F 4).toInt ∧ (sy_i F 4).toInt < 403)
    (k : ∀ F1 : Nat → sy_d, (∀ j, j < 69 → j ≠ 6 ∧ j ≠ 7 → F1 j = F j) → F1 6 = .inl (.int ((2 : Int32))) → F1 7 = .inl (.int ((sy_ai F 26).getD (sy_i F 4).toNatClampNeg 0)) → F1 69 = .inl (.int (sy_i F 69)) → F1 70 = .inl (.int (sy_i F 70)) → F1 71 = .inl (.int (sy_i F 71)) → hd_W Ls xs d jm_M160 Q (12, sy_dL F1 [some (.inl (.ref 1000)), some (.inr (.inl 69)), some (.inr (.inl 70)), some (.inr (.inl 71))], sy_dS F1 [], sy_dh F1 X1 X2 (iv_H 4), 0, 0)) :
    hd_W Ls xs d jm_M160 Q (120, sy_dL F [some (.inl (.ref 1000)), some (.inr (.inl 69)), some (.inr (.inl 70)), some (.inr (.inl 71))], sy_dS F [], sy_dh F X1 X2 (iv_H 4), 0, 0) := by
  refine hd_run (s := 4) (nv := 72) (pc := 12) (L := [some (.inl (.ref 1000)), some (.inr (.inl 69)), some (.inr (.inl 70)), some (.inr (.inl 71))]) (S := []) (uh := hd_ov (iv_id 0 iv_B4) [(6, .inl (.inl (.int 2))), (7, .inl (.inr (.inl 73)))]) (ul := [.inl (.inr (.inl 69)), .inl (.inr (.inl 70)), .inl (.inr (.inl 71))]) (f := false) (sp := [12]) (d0 := 3) (O := [false, false, false, true]) (T := [(30, [.inr (.inl 4)], [.inr (.inl 25)]), (30, [.inr (.inl 4)], [.inr (.inl 26)])]) (P := [(0, .inr (.inl 6), .inl (.int 0)), (6, .inr (.inl 4), .inl (.ref 403)), (0, .inr (.inl 72), .inl (.int 33)), (0, .inr (.inl 4), .inl (.int 400)), (4, .inr (.inl 6), .inl (.int 0)), (6, .inr (.inl 4), .inl (.ref 403))]) jm_ok160 (by decide +kernel) (by decide +kernel) hd F X1 X2 (fun F' hF hs => ?_)
  have b6 := hd_b (F := F) (F' := F') (k := 6) (hF 6 (by decide))
  have b4 := hd_b (F := F) (F' := F') (k := 4) (hF 4 (by decide))
  have a25 := hd_ba (F := F) (F' := F') (k := 25) (hF 25 (by decide))
  have t72 : sy_dv F' (.inr (.inl 72)) = .int ((sy_ai F 25).getD (sy_i F 4).toNatClampNeg 0) := hd_rd (hs 0 _ rfl) b4 a25
  have a26 := hd_ba (F := F) (F' := F') (k := 26) (hF 26 (by decide))
  have t73 : sy_dv F' (.inr (.inl 73)) = .int ((sy_ai F 26).getD (sy_i F 4).toNatClampNeg 0) := hd_rd (hs 1 _ rfl) b4 a26
  have b69 := hd_b (F := F) (F' := F') (k := 69) (hF 69 (by decide))
  have b70 := hd_b (F := F) (F' := F') (k := 70) (hF 70 (by decide))
  have b71 := hd_b (F := F) (F' := F') (k := 71) (hF 71 (by decide))
  have hB' : iv_in F' iv_B4 := iv_in_eq hB (fun j hj => hF j (Nat.lt_of_lt_of_le hj (by decide +kernel)))
  refine ⟨List.forall_mem_cons.mpr ⟨hd_p0 b6 rfl (by have hc : ((0) : Int32).toInt = 0 := (by decide); omega), List.forall_mem_cons.mpr ⟨hd_pb b4 (by first | exact h1 | exact h1), List.forall_mem_cons.mpr ⟨hd_p0 t72 rfl (by have hc : ((33) : Int32).toInt = 33 := (by decide); omega), List.forall_mem_cons.mpr ⟨hd_p0 b4 rfl (by have hc : ((400) : Int32).toInt = 400 := (by decide); omega), List.forall_mem_cons.mpr ⟨hd_p4 b6 rfl (by have hc : ((0) : Int32).toInt = 0 := (by decide); omega), List.forall_mem_cons.mpr ⟨hd_pb b4 (by first | exact h5 | exact h5), fun _ h => absurd h List.not_mem_nil⟩⟩⟩⟩⟩⟩, ?_⟩
  refine k _ ?_ ?_ ?_ ?_ ?_ ?_
  · exact fun j hj hn => (hd_keep hB' (Nat.lt_of_lt_of_le hj (by decide +kernel)) (by simp; omega)).trans (hF j (by omega))
  · exact hd_gi (x := .inl (.int 2)) (by decide +kernel) rfl
  · exact hd_gi (x := .inr (.inl 73)) (by decide +kernel) t73
  · exact hd_gi (x := .inr (.inl 69)) (by decide +kernel) b69
  · exact hd_gi (x := .inr (.inl 70)) (by decide +kernel) b70
  · exact hd_gi (x := .inr (.inl 71)) (by decide +kernel) b71
theorem tl_143_p0 {Ls : Nat} {xs : Nat → Int32} {d : Nat} {Q : Option Value → jm_h → Prop} (hd : 4 ≤ d) (F : Nat → sy_d) (X1 X2 : List jm_c) (hB : iv_in F iv_B4)
    (h0 : (sy_i F 6).toInt ≠ 0)
    (h1 : 0 < (sy_i F 6).toInt)
    (h2 : 0 < (sy_i F 6).toInt)
    (k : ∀ F1 : Nat → sy_d, (∀ j, j < 69 → True → F1 j = F j) → Q (none) (sy_dh F1 X1 X2 (iv_H 4))) :
    hd_W Ls xs d jm_M160 Q (143, sy_dL F [some (.inl (.ref 1000)), some (.inr (.inl 69)), some (.inr (.inl 70)), none], sy_dS F [], sy_dh F X1 X2 (iv_H 4), 0, 0) := by
  refine hd_ret (s := 4) (nv := 71) (v := none) (uh := hd_ov (iv_id 0 iv_B4) []) (f := false) (sp := []) (d0 := 3) (O := [true, false, false]) (T := []) (P := [(1, .inr (.inl 6), .inl (.int 0)), (5, .inr (.inl 6), .inl (.int 0)), (5, .inr (.inl 6), .inl (.int 0))]) jm_ok160 (by decide +kernel) (by decide +kernel) hd F X1 X2 (fun F' hF hs => ?_)
  have b6 := hd_b (F := F) (F' := F') (k := 6) (hF 6 (by decide))
  have hB' : iv_in F' iv_B4 := iv_in_eq hB (fun j hj => hF j (Nat.lt_of_lt_of_le hj (by decide +kernel)))
  refine ⟨List.forall_mem_cons.mpr ⟨hd_p1 b6 rfl (by have hc : ((0) : Int32).toInt = 0 := (by decide); omega), List.forall_mem_cons.mpr ⟨hd_p5 b6 rfl (by have hc : ((0) : Int32).toInt = 0 := (by decide); omega), List.forall_mem_cons.mpr ⟨hd_p5 b6 rfl (by have hc : ((0) : Int32).toInt = 0 := (by decide); omega), fun _ h => absurd h List.not_mem_nil⟩⟩⟩, ?_⟩
  refine k _ ?_
  · exact fun j hj _ => (hd_keep hB' (Nat.lt_of_lt_of_le hj (by decide +kernel)) (by simp)).trans (hF j (by omega))
theorem tl_143_p1 {Ls : Nat} {xs : Nat → Int32} {d : Nat} {Q : Option Value → jm_h → Prop} (hd : 4 ≤ d) (F : Nat → sy_d) (X1 X2 : List jm_c) (hB : iv_in F iv_B4)
    (h0 : (sy_i F 6).toInt = 0)
    (h1 : 0 ≤ (sy_i F 4).toInt ∧ (sy_i F 4).toInt < 403)
    (h2 : ((sy_ai F 25).getD (sy_i F 4).toNatClampNeg 0).toInt ≠ 4)
    (h3 : (sy_i F 6).toInt ≤ 0)
    (h4 : 0 ≤ (sy_i F 4).toInt ∧ (sy_i F 4).toInt < 403)
    (k : ∀ F1 : Nat → sy_d, (∀ j, j < 69 → j ≠ 6 ∧ j ≠ 7 → F1 j = F j) → F1 6 = .inl (.int ((1 : Int32))) → F1 7 = .inl (.int ((sy_ai F 26).getD (sy_i F 4).toNatClampNeg 0)) → Q (none) (sy_dh F1 X1 X2 (iv_H 4))) :
    hd_W Ls xs d jm_M160 Q (143, sy_dL F [some (.inl (.ref 1000)), some (.inr (.inl 69)), some (.inr (.inl 70)), none], sy_dS F [], sy_dh F X1 X2 (iv_H 4), 0, 0) := by
  refine hd_ret (s := 4) (nv := 71) (v := none) (uh := hd_ov (iv_id 0 iv_B4) [(6, .inl (.inl (.int 1))), (7, .inl (.inr (.inl 72)))]) (f := false) (sp := []) (d0 := 3) (O := [false, true, true]) (T := [(30, [.inr (.inl 4)], [.inr (.inl 25)]), (30, [.inr (.inl 4)], [.inr (.inl 26)])]) (P := [(0, .inr (.inl 6), .inl (.int 0)), (6, .inr (.inl 4), .inl (.ref 403)), (1, .inr (.inl 71), .inl (.int 4)), (4, .inr (.inl 6), .inl (.int 0)), (6, .inr (.inl 4), .inl (.ref 403))]) jm_ok160 (by decide +kernel) (by decide +kernel) hd F X1 X2 (fun F' hF hs => ?_)
  have b6 := hd_b (F := F) (F' := F') (k := 6) (hF 6 (by decide))
  have b4 := hd_b (F := F) (F' := F') (k := 4) (hF 4 (by decide))
  have a25 := hd_ba (F := F) (F' := F') (k := 25) (hF 25 (by decide))
  have t71 : sy_dv F' (.inr (.inl 71)) = .int ((sy_ai F 25).getD (sy_i F 4).toNatClampNeg 0) := hd_rd (hs 0 _ rfl) b4 a25
  have a26 := hd_ba (F := F) (F' := F') (k := 26) (hF 26 (by decide))
  have t72 : sy_dv F' (.inr (.inl 72)) = .int ((sy_ai F 26).getD (sy_i F 4).toNatClampNeg 0) := hd_rd (hs 1 _ rfl) b4 a26
  have hB' : iv_in F' iv_B4 := iv_in_eq hB (fun j hj => hF j (Nat.lt_of_lt_of_le hj (by decide +kernel)))
  refine ⟨List.forall_mem_cons.mpr ⟨hd_p0 b6 rfl (by have hc : ((0) : Int32).toInt = 0 := (by decide); omega), List.forall_mem_cons.mpr ⟨hd_pb b4 (by first | exact h1 | exact h1), List.forall_mem_cons.mpr ⟨hd_p1 t71 rfl (by have hc : ((4) : Int32).toInt = 4 := (by decide); omega), List.forall_mem_cons.mpr ⟨hd_p4 b6 rfl (by have hc : ((0) : Int32).toInt = 0 := (by decide); omega), List.forall_mem_cons.mpr ⟨hd_pb b4 (by first | exact h4 | exact h4), fun _ h => absurd h List.not_mem_nil⟩⟩⟩⟩⟩, ?_⟩
  refine k _ ?_ ?_ ?_
  · exact fun j hj hn => (hd_keep hB' (Nat.lt_of_lt_of_le hj (by decide +kernel)) (by simp; omega)).trans (hF j (by omega))
  · exact hd_gi (x := .inl (.int 1)) (by decide +kernel) rfl
  · exact hd_gi (x := .inr (.inl 72)) (by decide +kernel) t72
theorem tl_143_p2 {Ls : Nat} {xs : Nat → Int32} {d : Nat} {Q : Option Value → jm_h → Prop} (hd : 4 ≤ d) (F : Nat → sy_d) (X1 X2 : List jm_c) (hB : iv_in F iv_B4)
    (h0 : (sy_i F 6).toInt = 0)
    (h1 : 0 ≤ (sy_i F 4).toInt ∧ (sy_i F 4).toInt < 403)
    (h2 : ((sy_ai F 25).getD (sy_i F 4).toNatClampNeg 0).toInt = 4)
    (h3 : (sy_i F 4).toInt ≠ 400)
    (h4 : (sy_i F 6).toInt ≤ 0)
    (h5 : 0 ≤ ((((6 : Int32)) * (sy_i F 12)) + (sy_i F 69)).toInt ∧ ((((6 : Int32)) * (sy_i F 12)) + (sy_i F 69)).toInt < 12)
    (h6 : 0 ≤ ((((6 : Int32)) * (sy_i F 12)) + (sy_i F 69)).toInt ∧ ((((6 : Int32)) * (sy_i F 12)) + (sy_i F 69)).toInt < 12)
    (k : ∀ F1 : Nat → sy_d, (∀ j, j < 69 → j ≠ 4 ∧ j ≠ 42 ∧ j ≠ 43 → F1 j = F j) → F1 4 = .inl (.int ((sy_i F 4) + ((1 : Int32)))) → F1 42 = .inr (.inl (jm_upd (sy_ai F 42) ((((6 : Int32)) * (sy_i F 12)) + (sy_i F 69)).toNatClampNeg (sy_i F 70))) → F1 43 = .inr (.inl (jm_upd (sy_ai F 43) ((((6 : Int32)) * (sy_i F 12)) + (sy_i F 69)).toNatClampNeg (sy_i F 14))) → Q (none) (sy_dh F1 X1 X2 (iv_H 4))) :
    hd_W Ls xs d jm_M160 Q (143, sy_dL F [some (.inl (.ref 1000)), some (.inr (.inl 69)), some (.inr (.inl 70)), none], sy_dS F [], sy_dh F X1 X2 (iv_H 4), 0, 0) := by
  refine hd_ret (s := 4) (nv := 71) (v := none) (uh := hd_ov (iv_id 0 iv_B4) [(4, .inl (.inr (.inl 72))), (42, .inr (.inr (.inl 75))), (43, .inr (.inr (.inl 78)))]) (f := false) (sp := []) (d0 := 3) (O := [false, false, true, true]) (T := [(30, [.inr (.inl 4)], [.inr (.inl 25)]), (0, [.inr (.inl 4), .inl (.int 1)], []), (2, [.inl (.int 6), .inr (.inl 12)], []), (0, [.inr (.inl 73), .inr (.inl 69)], []), (40, [.inr (.inl 74), .inr (.inl 70)], [.inr (.inl 42)]), (2, [.inl (.int 6), .inr (.inl 12)], []), (0, [.inr (.inl 76), .inr (.inl 69)], []), (40, [.inr (.inl 77), .inr (.inl 14)], [.inr (.inl 43)])]) (P := [(0, .inr (.inl 6), .inl (.int 0)), (6, .inr (.inl 4), .inl (.ref 403)), (0, .inr (.inl 71), .inl (.int 4)), (1, .inr (.inl 4), .inl (.int 400)), (4, .inr (.inl 6), .inl (.int 0)), (6, .inr (.inl 74), .inl (.ref 12)), (6, .inr (.inl 77), .inl (.ref 12))]) jm_ok160 (by decide +kernel) (by decide +kernel) hd F X1 X2 (fun F' hF hs => ?_)
  have b6 := hd_b (F := F) (F' := F') (k := 6) (hF 6 (by decide))
  have b4 := hd_b (F := F) (F' := F') (k := 4) (hF 4 (by decide))
  have a25 := hd_ba (F := F) (F' := F') (k := 25) (hF 25 (by decide))
  have t71 : sy_dv F' (.inr (.inl 71)) = .int ((sy_ai F 25).getD (sy_i F 4).toNatClampNeg 0) := hd_rd (hs 0 _ rfl) b4 a25
  have b12 := hd_b (F := F) (F' := F') (k := 12) (hF 12 (by decide))
  have t73 : sy_dv F' (.inr (.inl 73)) = .int (((6 : Int32)) * (sy_i F 12)) := hd_o (hs 2 _ rfl) rfl b12 rfl
  have b69 := hd_b (F := F) (F' := F') (k := 69) (hF 69 (by decide))
  have t74 : sy_dv F' (.inr (.inl 74)) = .int ((((6 : Int32)) * (sy_i F 12)) + (sy_i F 69)) := hd_o (hs 3 _ rfl) t73 b69 rfl
  have t76 : sy_dv F' (.inr (.inl 76)) = .int (((6 : Int32)) * (sy_i F 12)) := hd_o (hs 5 _ rfl) rfl b12 rfl
  have t77 : sy_dv F' (.inr (.inl 77)) = .int ((((6 : Int32)) * (sy_i F 12)) + (sy_i F 69)) := hd_o (hs 6 _ rfl) t76 b69 rfl
  have t72 : sy_dv F' (.inr (.inl 72)) = .int ((sy_i F 4) + ((1 : Int32))) := hd_o (hs 1 _ rfl) b4 rfl rfl
  have b70 := hd_b (F := F) (F' := F') (k := 70) (hF 70 (by decide))
  have a42 := hd_ba (F := F) (F' := F') (k := 42) (hF 42 (by decide))
  have t75 : sy_da F' (.inr (.inl 75)) = .inl (jm_upd (sy_ai F 42) ((((6 : Int32)) * (sy_i F 12)) + (sy_i F 69)).toNatClampNeg (sy_i F 70)) := hd_up (hs 4 _ rfl) t74 b70 a42
  have b14 := hd_b (F := F) (F' := F') (k := 14) (hF 14 (by decide))
  have a43 := hd_ba (F := F) (F' := F') (k := 43) (hF 43 (by decide))
  have t78 : sy_da F' (.inr (.inl 78)) = .inl (jm_upd (sy_ai F 43) ((((6 : Int32)) * (sy_i F 12)) + (sy_i F 69)).toNatClampNeg (sy_i F 14)) := hd_up (hs 7 _ rfl) t77 b14 a43
  have hB' : iv_in F' iv_B4 := iv_in_eq hB (fun j hj => hF j (Nat.lt_of_lt_of_le hj (by decide +kernel)))
  refine ⟨List.forall_mem_cons.mpr ⟨hd_p0 b6 rfl (by have hc : ((0) : Int32).toInt = 0 := (by decide); omega), List.forall_mem_cons.mpr ⟨hd_pb b4 (by first | exact h1 | exact h1), List.forall_mem_cons.mpr ⟨hd_p0 t71 rfl (by have hc : ((4) : Int32).toInt = 4 := (by decide); omega), List.forall_mem_cons.mpr ⟨hd_p1 b4 rfl (by have hc : ((400) : Int32).toInt = 400 := (by decide); omega), List.forall_mem_cons.mpr ⟨hd_p4 b6 rfl (by have hc : ((0) : Int32).toInt = 0 := (by decide); omega), List.forall_mem_cons.mpr ⟨hd_pb t74 (by first | exact h5 | exact h5), List.forall_mem_cons.mpr ⟨hd_pb t77 (by first | exact h6 | exact h6), fun _ h => absurd h List.not_mem_nil⟩⟩⟩⟩⟩⟩⟩, ?_⟩
  refine k _ ?_ ?_ ?_ ?_
  · exact fun j hj hn => (hd_keep hB' (Nat.lt_of_lt_of_le hj (by decide +kernel)) (by simp; omega)).trans (hF j (by omega))
  · exact hd_gi (x := .inr (.inl 72)) (by decide +kernel) t72
  · exact hd_ga (a := .inr (.inl 75)) (by decide +kernel) t75
  · exact hd_ga (a := .inr (.inl 78)) (by decide +kernel) t78
theorem tl_143_p3 {Ls : Nat} {xs : Nat → Int32} {d : Nat} {Q : Option Value → jm_h → Prop} (hd : 4 ≤ d) (F : Nat → sy_d) (X1 X2 : List jm_c) (hB : iv_in F iv_B4)
    (h0 : (sy_i F 6).toInt = 0)
    (h1 : 0 ≤ (sy_i F 4).toInt ∧ (sy_i F 4).toInt < 403)
    (h2 : ((sy_ai F 25).getD (sy_i F 4).toNatClampNeg 0).toInt = 4)
    (h3 : (sy_i F 4).toInt = 400)
    (h4 : (sy_i F 6).toInt ≤ 0)
    (h5 : 0 ≤ (sy_i F 4).toInt ∧ (sy_i F 4).toInt < 403)
    (k : ∀ F1 : Nat → sy_d, (∀ j, j < 69 → j ≠ 6 ∧ j ≠ 7 → F1 j = F j) → F1 6 = .inl (.int ((2 : Int32))) → F1 7 = .inl (.int ((sy_ai F 26).getD (sy_i F 4).toNatClampNeg 0)) → Q (none) (sy_dh F1 X1 X2 (iv_H 4))) :
    hd_W Ls xs d jm_M160 Q (143, sy_dL F [some (.inl (.ref 1000)), some (.inr (.inl 69)), some (.inr (.inl 70)), none], sy_dS F [], sy_dh F X1 X2 (iv_H 4), 0, 0) := by
  refine hd_ret (s := 4) (nv := 71) (v := none) (uh := hd_ov (iv_id 0 iv_B4) [(6, .inl (.inl (.int 2))), (7, .inl (.inr (.inl 72)))]) (f := false) (sp := []) (d0 := 3) (O := [false, false, false, true]) (T := [(30, [.inr (.inl 4)], [.inr (.inl 25)]), (30, [.inr (.inl 4)], [.inr (.inl 26)])]) (P := [(0, .inr (.inl 6), .inl (.int 0)), (6, .inr (.inl 4), .inl (.ref 403)), (0, .inr (.inl 71), .inl (.int 4)), (0, .inr (.inl 4), .inl (.int 400)), (4, .inr (.inl 6), .inl (.int 0)), (6, .inr (.inl 4), .inl (.ref 403))]) jm_ok160 (by decide +kernel) (by decide +kernel) hd F X1 X2 (fun F' hF hs => ?_)
  have b6 := hd_b (F := F) (F' := F') (k := 6) (hF 6 (by decide))
  have b4 := hd_b (F := F) (F' := F') (k := 4) (hF 4 (by decide))
  have a25 := hd_ba (F := F) (F' := F') (k := 25) (hF 25 (by decide))
  have t71 : sy_dv F' (.inr (.inl 71)) = .int ((sy_ai F 25).getD (sy_i F 4).toNatClampNeg 0) := hd_rd (hs 0 _ rfl) b4 a25
  have a26 := hd_ba (F := F) (F' := F') (k := 26) (hF 26 (by decide))
  have t72 : sy_dv F' (.inr (.inl 72)) = .int ((sy_ai F 26).getD (sy_i F 4).toNatClampNeg 0) := hd_rd (hs 1 _ rfl) b4 a26
  have hB' : iv_in F' iv_B4 := iv_in_eq hB (fun j hj => hF j (Nat.lt_of_lt_of_le hj (by decide +kernel)))
  refine ⟨List.forall_mem_cons.mpr ⟨hd_p0 b6 rfl (by have hc : ((0) : Int32).toInt = 0 := (by decide); omega), List.forall_mem_cons.mpr ⟨hd_pb b4 (by first | exact h1 | exact h1), List.forall_mem_cons.mpr ⟨hd_p0 t71 rfl (by have hc : ((4) : Int32).toInt = 4 := (by decide); omega), List.forall_mem_cons.mpr ⟨hd_p0 b4 rfl (by have hc : ((400) : Int32).toInt = 400 := (by decide); omega), List.forall_mem_cons.mpr ⟨hd_p4 b6 rfl (by have hc : ((0) : Int32).toInt = 0 := (by decide); omega), List.forall_mem_cons.mpr ⟨hd_pb b4 (by first | exact h5 | exact h5), fun _ h => absurd h List.not_mem_nil⟩⟩⟩⟩⟩⟩, ?_⟩
  refine k _ ?_ ?_ ?_
  · exact fun j hj hn => (hd_keep hB' (Nat.lt_of_lt_of_le hj (by decide +kernel)) (by simp; omega)).trans (hF j (by omega))
  · exact hd_gi (x := .inl (.int 2)) (by decide +kernel) rfl
  · exact hd_gi (x := .inr (.inl 72)) (by decide +kernel) t72
