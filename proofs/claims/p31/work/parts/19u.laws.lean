section
/-! ===== terms and laws, way by way ===== -/
theorem tr_0_p0 {Ls : Nat} {xs : Nat → Int32} {d : Nat} {Q : Option Value → jm_h → Prop} (hd : 2 ≤ d) (F : Nat → sy_d) (X1 X2 : List jm_c) (hB : iv_in F iv_B4)
    (h0 : 0 ≤ (sy_i F 14).toInt ∧ (sy_i F 14).toInt < 260)
    (h1 : (sy_i F 6).toInt ≠ 0)
    (k : ∀ F1 : Nat → sy_d, (∀ j, j < 69 → j ≠ 47 → F1 j = F j) → F1 47 = .inr (.inl (jm_upd (sy_ai F 47) (sy_i F 14).toNatClampNeg (sy_i F 15))) → hd_W Ls xs d jm_M161 Q (24, sy_dL F1 [some (.inl (.ref 1000))], sy_dS F1 [], sy_dh F1 X1 X2 (iv_H 4), 0, 0)) :
    hd_W Ls xs d jm_M161 Q (0, sy_dL F [some (.inl (.ref 1000))], sy_dS F [], sy_dh F X1 X2 (iv_H 4), 0, 0) := by
  refine hd_run (s := 4) (nv := 69) (pc := 24) (L := [some (.inl (.ref 1000))]) (S := []) (uh := hd_ov (iv_id 0 iv_B4) [(47, .inr (.inr (.inl 69)))]) (ul := []) (f := true) (sp := [21, 24]) (d0 := 1) (O := [true]) (T := [(40, [.inr (.inl 14), .inr (.inl 15)], [.inr (.inl 47)])]) (P := [(6, .inr (.inl 14), .inl (.ref 260)), (1, .inr (.inl 6), .inl (.int 0))]) jm_ok161 (by decide +kernel) (by decide +kernel) hd F X1 X2 (fun F' hF hs => ?_)
  have b14 := hd_b (F := F) (F' := F') (k := 14) (hF 14 (by decide))
  have b6 := hd_b (F := F) (F' := F') (k := 6) (hF 6 (by decide))
  have b15 := hd_b (F := F) (F' := F') (k := 15) (hF 15 (by decide))
  have a47 := hd_ba (F := F) (F' := F') (k := 47) (hF 47 (by decide))
  have t69 : sy_da F' (.inr (.inl 69)) = .inl (jm_upd (sy_ai F 47) (sy_i F 14).toNatClampNeg (sy_i F 15)) := hd_up (hs 0 _ rfl) b14 b15 a47
  have hB' : iv_in F' iv_B4 := iv_in_eq hB (fun j hj => hF j (Nat.lt_of_lt_of_le hj (by decide +kernel)))
  refine ⟨List.forall_mem_cons.mpr ⟨hd_pb b14 (by first | exact h0 | exact h0), List.forall_mem_cons.mpr ⟨hd_p1 b6 rfl (by have hc : ((0) : Int32).toInt = 0 := (by decide); omega), fun _ h => absurd h List.not_mem_nil⟩⟩, ?_⟩
  refine k _ ?_ ?_
  · exact fun j hj hn => (hd_keep hB' (Nat.lt_of_lt_of_le hj (by decide +kernel)) (by simp; omega)).trans (hF j (Nat.lt_of_lt_of_le hj (by decide)))
  · exact hd_ga (a := .inr (.inl 69)) (by decide +kernel) t69
theorem tr_0_p1 {Ls : Nat} {xs : Nat → Int32} {d : Nat} {Q : Option Value → jm_h → Prop} (hd : 2 ≤ d) (F : Nat → sy_d) (X1 X2 : List jm_c) (hB : iv_in F iv_B4)
    (h0 : 0 ≤ (sy_i F 14).toInt ∧ (sy_i F 14).toInt < 260)
    (h1 : (sy_i F 6).toInt = 0)
    (k : ∀ F1 : Nat → sy_d, (∀ j, j < 69 → j ≠ 47 → F1 j = F j) → F1 47 = .inr (.inl (jm_upd (sy_ai F 47) (sy_i F 14).toNatClampNeg (sy_i F 15))) → hd_W Ls xs d jm_M161 Q (21, sy_dL F1 [some (.inl (.ref 1000))], sy_dS F1 [.inl (.ref 1000)], sy_dh F1 X1 X2 (iv_H 4), 0, 0)) :
    hd_W Ls xs d jm_M161 Q (0, sy_dL F [some (.inl (.ref 1000))], sy_dS F [], sy_dh F X1 X2 (iv_H 4), 0, 0) := by
  refine hd_run (s := 4) (nv := 69) (pc := 21) (L := [some (.inl (.ref 1000))]) (S := [.inl (.ref 1000)]) (uh := hd_ov (iv_id 0 iv_B4) [(47, .inr (.inr (.inl 69)))]) (ul := []) (f := true) (sp := [21, 24]) (d0 := 1) (O := [false]) (T := [(40, [.inr (.inl 14), .inr (.inl 15)], [.inr (.inl 47)])]) (P := [(6, .inr (.inl 14), .inl (.ref 260)), (0, .inr (.inl 6), .inl (.int 0))]) jm_ok161 (by decide +kernel) (by decide +kernel) hd F X1 X2 (fun F' hF hs => ?_)
  have b14 := hd_b (F := F) (F' := F') (k := 14) (hF 14 (by decide))
  have b6 := hd_b (F := F) (F' := F') (k := 6) (hF 6 (by decide))
  have b15 := hd_b (F := F) (F' := F') (k := 15) (hF 15 (by decide))
  have a47 := hd_ba (F := F) (F' := F') (k := 47) (hF 47 (by decide))
  have t69 : sy_da F' (.inr (.inl 69)) = .inl (jm_upd (sy_ai F 47) (sy_i F 14).toNatClampNeg (sy_i F 15)) := hd_up (hs 0 _ rfl) b14 b15 a47
  have hB' : iv_in F' iv_B4 := iv_in_eq hB (fun j hj => hF j (Nat.lt_of_lt_of_le hj (by decide +kernel)))
  refine ⟨List.forall_mem_cons.mpr ⟨hd_pb b14 (by first | exact h0 | exact h0), List.forall_mem_cons.mpr ⟨hd_p0 b6 rfl (by have hc : ((0) : Int32).toInt = 0 := (by decide); omega), fun _ h => absurd h List.not_mem_nil⟩⟩, ?_⟩
  refine k _ ?_ ?_
  · exact fun j hj hn => (hd_keep hB' (Nat.lt_of_lt_of_le hj (by decide +kernel)) (by simp; omega)).trans (hF j (Nat.lt_of_lt_of_le hj (by decide)))
  · exact hd_ga (a := .inr (.inl 69)) (by decide +kernel) t69
theorem tr_24_p0 {Ls : Nat} {xs : Nat → Int32} {d : Nat} {Q : Option Value → jm_h → Prop} (hd : 2 ≤ d) (F : Nat → sy_d) (X1 X2 : List jm_c) (hB : iv_in F iv_B4)
    (h0 : 0 ≤ (sy_i F 14).toInt ∧ (sy_i F 14).toInt < 260)
    (k : ∀ F1 : Nat → sy_d, (∀ j, j < 69 → j ≠ 14 ∧ j ≠ 48 → F1 j = F j) → F1 14 = .inl (.int ((sy_i F 14) + ((1 : Int32)))) → F1 48 = .inr (.inl (jm_upd (sy_ai F 48) (sy_i F 14).toNatClampNeg (sy_i F 15))) → Q (none) (sy_dh F1 X1 X2 (iv_H 4))) :
    hd_W Ls xs d jm_M161 Q (24, sy_dL F [some (.inl (.ref 1000))], sy_dS F [], sy_dh F X1 X2 (iv_H 4), 0, 0) := by
  refine hd_ret (s := 4) (nv := 69) (v := none) (uh := hd_ov (iv_id 0 iv_B4) [(14, .inl (.inr (.inl 70))), (48, .inr (.inr (.inl 69)))]) (f := true) (sp := []) (d0 := 1) (O := []) (T := [(40, [.inr (.inl 14), .inr (.inl 15)], [.inr (.inl 48)]), (0, [.inr (.inl 14), .inl (.int 1)], [])]) (P := [(6, .inr (.inl 14), .inl (.ref 260))]) jm_ok161 (by decide +kernel) (by decide +kernel) hd F X1 X2 (fun F' hF hs => ?_)
  have b14 := hd_b (F := F) (F' := F') (k := 14) (hF 14 (by decide))
  have t70 : sy_dv F' (.inr (.inl 70)) = .int ((sy_i F 14) + ((1 : Int32))) := hd_o (hs 1 _ rfl) b14 rfl rfl
  have b15 := hd_b (F := F) (F' := F') (k := 15) (hF 15 (by decide))
  have a48 := hd_ba (F := F) (F' := F') (k := 48) (hF 48 (by decide))
  have t69 : sy_da F' (.inr (.inl 69)) = .inl (jm_upd (sy_ai F 48) (sy_i F 14).toNatClampNeg (sy_i F 15)) := hd_up (hs 0 _ rfl) b14 b15 a48
  have hB' : iv_in F' iv_B4 := iv_in_eq hB (fun j hj => hF j (Nat.lt_of_lt_of_le hj (by decide +kernel)))
  refine ⟨List.forall_mem_cons.mpr ⟨hd_pb b14 (by first | exact h0 | exact h0), fun _ h => absurd h List.not_mem_nil⟩, ?_⟩
  refine k _ ?_ ?_ ?_
  · exact fun j hj hn => (hd_keep hB' (Nat.lt_of_lt_of_le hj (by decide +kernel)) (by simp; omega)).trans (hF j (Nat.lt_of_lt_of_le hj (by decide)))
  · exact hd_gi (x := .inr (.inl 70)) (by decide +kernel) t70
  · exact hd_ga (a := .inr (.inl 69)) (by decide +kernel) t69
theorem tl_0_p0 {Ls : Nat} {xs : Nat → Int32} {d : Nat} {Q : Option Value → jm_h → Prop} (hd : 4 ≤ d) (F : Nat → sy_d) (X1 X2 : List jm_c) (hB : iv_in F iv_B4)
    (h0 : (sy_i F 6).toInt ≠ 0)
    (h1 : 0 < (sy_i F 6).toInt)
    (k : ∀ F1 : Nat → sy_d, (∀ j, j < 69 → True → F1 j = F j) → F1 69 = .inl (.int (sy_i F 69)) → F1 70 = .inl (.int (sy_i F 14)) → F1 71 = .inl (.int ((0 : Int32))) → hd_W Ls xs d jm_M160 Q (12, sy_dL F1 [some (.inl (.ref 1000)), some (.inr (.inl 69)), some (.inr (.inl 70)), some (.inr (.inl 71))], sy_dS F1 [], sy_dh F1 X1 X2 (iv_H 4), 0, 0)) :
    hd_W Ls xs d jm_M160 Q (0, sy_dL F [some (.inl (.ref 1000)), some (.inr (.inl 69)), none, none], sy_dS F [], sy_dh F X1 X2 (iv_H 4), 0, 0) := by
  refine hd_run (s := 4) (nv := 70) (pc := 12) (L := [some (.inl (.ref 1000)), some (.inr (.inl 69)), some (.inr (.inl 70)), some (.inr (.inl 71))]) (S := []) (uh := hd_ov (iv_id 0 iv_B4) []) (ul := [.inl (.inr (.inl 69)), .inl (.inr (.inl 14)), .inl (.inl (.int 0))]) (f := true) (sp := [12]) (d0 := 3) (O := [true, false]) (T := []) (P := [(1, .inr (.inl 6), .inl (.int 0)), (5, .inr (.inl 6), .inl (.int 0))]) jm_ok160 (by decide +kernel) (by decide +kernel) hd F X1 X2 (fun F' hF hs => ?_)
  have b6 := hd_b (F := F) (F' := F') (k := 6) (hF 6 (by decide))
  have b69 := hd_b (F := F) (F' := F') (k := 69) (hF 69 (by decide))
  have b14 := hd_b (F := F) (F' := F') (k := 14) (hF 14 (by decide))
  have hB' : iv_in F' iv_B4 := iv_in_eq hB (fun j hj => hF j (Nat.lt_of_lt_of_le hj (by decide +kernel)))
  refine ⟨List.forall_mem_cons.mpr ⟨hd_p1 b6 rfl (by have hc : ((0) : Int32).toInt = 0 := (by decide); omega), List.forall_mem_cons.mpr ⟨hd_p5 b6 rfl (by have hc : ((0) : Int32).toInt = 0 := (by decide); omega), fun _ h => absurd h List.not_mem_nil⟩⟩, ?_⟩
  refine k _ ?_ ?_ ?_ ?_
  · exact fun j hj _ => (hd_keep hB' (Nat.lt_of_lt_of_le hj (by decide +kernel)) (by simp)).trans (hF j (Nat.lt_of_lt_of_le hj (by decide)))
  · exact hd_gi (x := .inr (.inl 69)) (by decide +kernel) b69
  · exact hd_gi (x := .inr (.inl 14)) (by decide +kernel) b14
  · exact hd_gi (x := .inl (.int 0)) (by decide +kernel) rfl
theorem tl_0_p1 {Ls : Nat} {xs : Nat → Int32} {d : Nat} {Q : Option Value → jm_h → Prop} (hd : 4 ≤ d) (F : Nat → sy_d) (X1 X2 : List jm_c) (hB : iv_in F iv_B4)
    (h0 : (sy_i F 6).toInt = 0)
    (h1 : 0 ≤ (sy_i F 4).toInt ∧ (sy_i F 4).toInt < 403)
    (h2 : ((sy_ai F 25).getD (sy_i F 4).toNatClampNeg 0).toInt ≠ 5)
    (h3 : (sy_i F 6).toInt ≤ 0)
    (h4 : 0 ≤ (sy_i F 4).toInt ∧ (sy_i F 4).toInt < 403)
    (k : ∀ F1 : Nat → sy_d, (∀ j, j < 69 → j ≠ 6 ∧ j ≠ 7 → F1 j = F j) → F1 6 = .inl (.int ((1 : Int32))) → F1 7 = .inl (.int ((sy_ai F 26).getD (sy_i F 4).toNatClampNeg 0)) → F1 69 = .inl (.int (sy_i F 69)) → F1 70 = .inl (.int (sy_i F 14)) → F1 71 = .inl (.int ((0 : Int32))) → hd_W Ls xs d jm_M160 Q (12, sy_dL F1 [some (.inl (.ref 1000)), some (.inr (.inl 69)), some (.inr (.inl 70)), some (.inr (.inl 71))], sy_dS F1 [], sy_dh F1 X1 X2 (iv_H 4), 0, 0)) :
    hd_W Ls xs d jm_M160 Q (0, sy_dL F [some (.inl (.ref 1000)), some (.inr (.inl 69)), none, none], sy_dS F [], sy_dh F X1 X2 (iv_H 4), 0, 0) := by
  refine hd_run (s := 4) (nv := 70) (pc := 12) (L := [some (.inl (.ref 1000)), some (.inr (.inl 69)), some (.inr (.inl 70)), some (.inr (.inl 71))]) (S := []) (uh := hd_ov (iv_id 0 iv_B4) [(6, .inl (.inl (.int 1))), (7, .inl (.inr (.inl 71)))]) (ul := [.inl (.inr (.inl 69)), .inl (.inr (.inl 14)), .inl (.inl (.int 0))]) (f := true) (sp := [12]) (d0 := 3) (O := [false, true, true]) (T := [(30, [.inr (.inl 4)], [.inr (.inl 25)]), (30, [.inr (.inl 4)], [.inr (.inl 26)])]) (P := [(0, .inr (.inl 6), .inl (.int 0)), (6, .inr (.inl 4), .inl (.ref 403)), (1, .inr (.inl 70), .inl (.int 5)), (4, .inr (.inl 6), .inl (.int 0)), (6, .inr (.inl 4), .inl (.ref 403))]) jm_ok160 (by decide +kernel) (by decide +kernel) hd F X1 X2 (fun F' hF hs => ?_)
  have b6 := hd_b (F := F) (F' := F') (k := 6) (hF 6 (by decide))
  have b4 := hd_b (F := F) (F' := F') (k := 4) (hF 4 (by decide))
  have a25 := hd_ba (F := F) (F' := F') (k := 25) (hF 25 (by decide))
  have t70 : sy_dv F' (.inr (.inl 70)) = .int ((sy_ai F 25).getD (sy_i F 4).toNatClampNeg 0) := hd_rd (hs 0 _ rfl) b4 a25
  have a26 := hd_ba (F := F) (F' := F') (k := 26) (hF 26 (by decide))
  have t71 : sy_dv F' (.inr (.inl 71)) = .int ((sy_ai F 26).getD (sy_i F 4).toNatClampNeg 0) := hd_rd (hs 1 _ rfl) b4 a26
  have b69 := hd_b (F := F) (F' := F') (k := 69) (hF 69 (by decide))
  have b14 := hd_b (F := F) (F' := F') (k := 14) (hF 14 (by decide))
  have hB' : iv_in F' iv_B4 := iv_in_eq hB (fun j hj => hF j (Nat.lt_of_lt_of_le hj (by decide +kernel)))
  refine ⟨List.forall_mem_cons.mpr ⟨hd_p0 b6 rfl (by have hc : ((0) : Int32).toInt = 0 := (by decide); omega), List.forall_mem_cons.mpr ⟨hd_pb b4 (by first | exact h1 | exact h1), List.forall_mem_cons.mpr ⟨hd_p1 t70 rfl (by have hc : ((5) : Int32).toInt = 5 := (by decide); omega), List.forall_mem_cons.mpr ⟨hd_p4 b6 rfl (by have hc : ((0) : Int32).toInt = 0 := (by decide); omega), List.forall_mem_cons.mpr ⟨hd_pb b4 (by first | exact h4 | exact h4), fun _ h => absurd h List.not_mem_nil⟩⟩⟩⟩⟩, ?_⟩
  refine k _ ?_ ?_ ?_ ?_ ?_ ?_
  · exact fun j hj hn => (hd_keep hB' (Nat.lt_of_lt_of_le hj (by decide +kernel)) (by simp; omega)).trans (hF j (Nat.lt_of_lt_of_le hj (by decide)))
  · exact hd_gi (x := .inl (.int 1)) (by decide +kernel) rfl
  · exact hd_gi (x := .inr (.inl 71)) (by decide +kernel) t71
  · exact hd_gi (x := .inr (.inl 69)) (by decide +kernel) b69
  · exact hd_gi (x := .inr (.inl 14)) (by decide +kernel) b14
  · exact hd_gi (x := .inl (.int 0)) (by decide +kernel) rfl
theorem tl_0_p2 {Ls : Nat} {xs : Nat → Int32} {d : Nat} {Q : Option Value → jm_h → Prop} (hd : 4 ≤ d) (F : Nat → sy_d) (X1 X2 : List jm_c) (hB : iv_in F iv_B4)
    (h0 : (sy_i F 6).toInt = 0)
    (h1 : 0 ≤ (sy_i F 4).toInt ∧ (sy_i F 4).toInt < 403)
    (h2 : ((sy_ai F 25).getD (sy_i F 4).toNatClampNeg 0).toInt = 5)
    (h3 : (sy_i F 4).toInt ≠ 400)
    (k : ∀ F1 : Nat → sy_d, (∀ j, j < 69 → j ≠ 4 → F1 j = F j) → F1 4 = .inl (.int ((sy_i F 4) + ((1 : Int32)))) → F1 69 = .inl (.int (sy_i F 69)) → F1 70 = .inl (.int (sy_i F 14)) → F1 71 = .inl (.int ((0 : Int32))) → hd_W Ls xs d jm_M160 Q (12, sy_dL F1 [some (.inl (.ref 1000)), some (.inr (.inl 69)), some (.inr (.inl 70)), some (.inr (.inl 71))], sy_dS F1 [], sy_dh F1 X1 X2 (iv_H 4), 0, 0)) :
    hd_W Ls xs d jm_M160 Q (0, sy_dL F [some (.inl (.ref 1000)), some (.inr (.inl 69)), none, none], sy_dS F [], sy_dh F X1 X2 (iv_H 4), 0, 0) := by
  refine hd_run (s := 4) (nv := 70) (pc := 12) (L := [some (.inl (.ref 1000)), some (.inr (.inl 69)), some (.inr (.inl 70)), some (.inr (.inl 71))]) (S := []) (uh := hd_ov (iv_id 0 iv_B4) [(4, .inl (.inr (.inl 71)))]) (ul := [.inl (.inr (.inl 69)), .inl (.inr (.inl 14)), .inl (.inl (.int 0))]) (f := true) (sp := [12]) (d0 := 3) (O := [false, false, true]) (T := [(30, [.inr (.inl 4)], [.inr (.inl 25)]), (0, [.inr (.inl 4), .inl (.int 1)], [])]) (P := [(0, .inr (.inl 6), .inl (.int 0)), (6, .inr (.inl 4), .inl (.ref 403)), (0, .inr (.inl 70), .inl (.int 5)), (1, .inr (.inl 4), .inl (.int 400))]) jm_ok160 (by decide +kernel) (by decide +kernel) hd F X1 X2 (fun F' hF hs => ?_)
  have b6 := hd_b (F := F) (F' := F') (k := 6) (hF 6 (by decide))
  have b4 := hd_b (F := F) (F' := F') (k := 4) (hF 4 (by decide))
  have a25 := hd_ba (F := F) (F' := F') (k := 25) (hF 25 (by decide))
  have t70 : sy_dv F' (.inr (.inl 70)) = .int ((sy_ai F 25).getD (sy_i F 4).toNatClampNeg 0) := hd_rd (hs 0 _ rfl) b4 a25
  have t71 : sy_dv F' (.inr (.inl 71)) = .int ((sy_i F 4) + ((1 : Int32))) := hd_o (hs 1 _ rfl) b4 rfl rfl
  have b69 := hd_b (F := F) (F' := F') (k := 69) (hF 69 (by decide))
  have b14 := hd_b (F := F) (F' := F') (k := 14) (hF 14 (by decide))
  have hB' : iv_in F' iv_B4 := iv_in_eq hB (fun j hj => hF j (Nat.lt_of_lt_of_le hj (by decide +kernel)))
  refine ⟨List.forall_mem_cons.mpr ⟨hd_p0 b6 rfl (by have hc : ((0) : Int32).toInt = 0 := (by decide); omega), List.forall_mem_cons.mpr ⟨hd_pb b4 (by first | exact h1 | exact h1), List.forall_mem_cons.mpr ⟨hd_p0 t70 rfl (by have hc : ((5) : Int32).toInt = 5 := (by decide); omega), List.forall_mem_cons.mpr ⟨hd_p1 b4 rfl (by have hc : ((400) : Int32).toInt = 400 := (by decide); omega), fun _ h => absurd h List.not_mem_nil⟩⟩⟩⟩, ?_⟩
  refine k _ ?_ ?_ ?_ ?_ ?_
  · exact fun j hj hn => (hd_keep hB' (Nat.lt_of_lt_of_le hj (by decide +kernel)) (by simp; omega)).trans (hF j (Nat.lt_of_lt_of_le hj (by decide)))
  · exact hd_gi (x := .inr (.inl 71)) (by decide +kernel) t71
  · exact hd_gi (x := .inr (.inl 69)) (by decide +kernel) b69
  · exact hd_gi (x := .inr (.inl 14)) (by decide +kernel) b14
  · exact hd_gi (x := .inl (.int 0)) (by decide +kernel) rfl
theorem tl_0_p3 {Ls : Nat} {xs : Nat → Int32} {d : Nat} {Q : Option Value → jm_h → Prop} (hd : 4 ≤ d) (F : Nat → sy_d) (X1 X2 : List jm_c) (hB : iv_in F iv_B4)
    (h0 : (sy_i F 6).toInt = 0)
    (h1 : 0 ≤ (sy_i F 4).toInt ∧ (sy_i F 4).toInt < 403)
    (h2 : ((sy_ai F 25).getD (sy_i F 4).toNatClampNeg 0).toInt = 5)
    (h3 : (sy_i F 4).toInt = 400)
    (h4 : (sy_i F 6).toInt ≤ 0)
    (h5 : 0 ≤ (sy_i F 4).toInt ∧ (sy_i F 4).toInt < 403)
    (k : ∀ F1 : Nat → sy_d, (∀ j, j < 69 → j ≠ 6 ∧ j ≠ 7 → F1 j = F j) → F1 6 = .inl (.int ((2 : Int32))) → F1 7 = .inl (.int ((sy_ai F 26).getD (sy_i F 4).toNatClampNeg 0)) → F1 69 = .inl (.int (sy_i F 69)) → F1 70 = .inl (.int (sy_i F 14)) → F1 71 = .inl (.int ((0 : Int32))) → hd_W Ls xs d jm_M160 Q (12, sy_dL F1 [some (.inl (.ref 1000)), some (.inr (.inl 69)), some (.inr (.inl 70)), some (.inr (.inl 71))], sy_dS F1 [], sy_dh F1 X1 X2 (iv_H 4), 0, 0)) :
    hd_W Ls xs d jm_M160 Q (0, sy_dL F [some (.inl (.ref 1000)), some (.inr (.inl 69)), none, none], sy_dS F [], sy_dh F X1 X2 (iv_H 4), 0, 0) := by
  refine hd_run (s := 4) (nv := 70) (pc := 12) (L := [some (.inl (.ref 1000)), some (.inr (.inl 69)), some (.inr (.inl 70)), some (.inr (.inl 71))]) (S := []) (uh := hd_ov (iv_id 0 iv_B4) [(6, .inl (.inl (.int 2))), (7, .inl (.inr (.inl 71)))]) (ul := [.inl (.inr (.inl 69)), .inl (.inr (.inl 14)), .inl (.inl (.int 0))]) (f := true) (sp := [12]) (d0 := 3) (O := [false, false, false, true]) (T := [(30, [.inr (.inl 4)], [.inr (.inl 25)]), (30, [.inr (.inl 4)], [.inr (.inl 26)])]) (P := [(0, .inr (.inl 6), .inl (.int 0)), (6, .inr (.inl 4), .inl (.ref 403)), (0, .inr (.inl 70), .inl (.int 5)), (0, .inr (.inl 4), .inl (.int 400)), (4, .inr (.inl 6), .inl (.int 0)), (6, .inr (.inl 4), .inl (.ref 403))]) jm_ok160 (by decide +kernel) (by decide +kernel) hd F X1 X2 (fun F' hF hs => ?_)
  have b6 := hd_b (F := F) (F' := F') (k := 6) (hF 6 (by decide))
  have b4 := hd_b (F := F) (F' := F') (k := 4) (hF 4 (by decide))
  have a25 := hd_ba (F := F) (F' := F') (k := 25) (hF 25 (by decide))
  have t70 : sy_dv F' (.inr (.inl 70)) = .int ((sy_ai F 25).getD (sy_i F 4).toNatClampNeg 0) := hd_rd (hs 0 _ rfl) b4 a25
  have a26 := hd_ba (F := F) (F' := F') (k := 26) (hF 26 (by decide))
  have t71 : sy_dv F' (.inr (.inl 71)) = .int ((sy_ai F 26).getD (sy_i F 4).toNatClampNeg 0) := hd_rd (hs 1 _ rfl) b4 a26
  have b69 := hd_b (F := F) (F' := F') (k := 69) (hF 69 (by decide))
  have b14 := hd_b (F := F) (F' := F') (k := 14) (hF 14 (by decide))
  have hB' : iv_in F' iv_B4 := iv_in_eq hB (fun j hj => hF j (Nat.lt_of_lt_of_le hj (by decide +kernel)))
  refine ⟨List.forall_mem_cons.mpr ⟨hd_p0 b6 rfl (by have hc : ((0) : Int32).toInt = 0 := (by decide); omega), List.forall_mem_cons.mpr ⟨hd_pb b4 (by first | exact h1 | exact h1), List.forall_mem_cons.mpr ⟨hd_p0 t70 rfl (by have hc : ((5) : Int32).toInt = 5 := (by decide); omega), List.forall_mem_cons.mpr ⟨hd_p0 b4 rfl (by have hc : ((400) : Int32).toInt = 400 := (by decide); omega), List.forall_mem_cons.mpr ⟨hd_p4 b6 rfl (by have hc : ((0) : Int32).toInt = 0 := (by decide); omega), List.forall_mem_cons.mpr ⟨hd_pb b4 (by first | exact h5 | exact h5), fun _ h => absurd h List.not_mem_nil⟩⟩⟩⟩⟩⟩, ?_⟩
  refine k _ ?_ ?_ ?_ ?_ ?_ ?_
  · exact fun j hj hn => (hd_keep hB' (Nat.lt_of_lt_of_le hj (by decide +kernel)) (by simp; omega)).trans (hF j (Nat.lt_of_lt_of_le hj (by decide)))
  · exact hd_gi (x := .inl (.int 2)) (by decide +kernel) rfl
  · exact hd_gi (x := .inr (.inl 71)) (by decide +kernel) t71
  · exact hd_gi (x := .inr (.inl 69)) (by decide +kernel) b69
  · exact hd_gi (x := .inr (.inl 14)) (by decide +kernel) b14
  · exact hd_gi (x := .inl (.int 0)) (by decide +kernel) rfl
theorem tl_12_p0 {Ls : Nat} {xs : Nat → Int32} {d : Nat} {Q : Option Value → jm_h → Prop} (hd : 4 ≤ d) (F : Nat → sy_d) (X1 X2 : List jm_c) (hB : iv_in F iv_B4)
    (h0 : (sy_i F 6).toInt ≠ 0)
    (h1 : 0 ≤ (sy_i F 14).toInt ∧ (sy_i F 14).toInt < 260)
    (k : ∀ F1 : Nat → sy_d, (∀ j, j < 69 → j ≠ 44 → F1 j = F j) → F1 44 = .inr (.inl (jm_upd (sy_ai F 44) (sy_i F 14).toNatClampNeg ((0 : Int32)))) → F1 69 = .inl (.int (sy_i F 69)) → F1 70 = .inl (.int (sy_i F 70)) → hd_W Ls xs d jm_M160 Q (140, sy_dL F1 [some (.inl (.ref 1000)), some (.inr (.inl 69)), some (.inr (.inl 70)), none], sy_dS F1 [.inl (.ref 1000)], sy_dh F1 X1 X2 (iv_H 4), 0, 0)) :
    hd_W Ls xs d jm_M160 Q (12, sy_dL F [some (.inl (.ref 1000)), some (.inr (.inl 69)), some (.inr (.inl 70)), some (.inr (.inl 71))], sy_dS F [], sy_dh F X1 X2 (iv_H 4), 0, 0) := by
  refine hd_run (s := 4) (nv := 72) (pc := 140) (L := [some (.inl (.ref 1000)), some (.inr (.inl 69)), some (.inr (.inl 70)), none]) (S := [.inl (.ref 1000)]) (uh := hd_ov (iv_id 0 iv_B4) [(44, .inr (.inr (.inl 72)))]) (ul := [.inl (.inr (.inl 69)), .inl (.inr (.inl 70))]) (f := true) (sp := [77, 140]) (d0 := 3) (O := [true]) (T := [(40, [.inr (.inl 14), .inl (.int 0)], [.inr (.inl 44)])]) (P := [(1, .inr (.inl 6), .inl (.int 0)), (6, .inr (.inl 14), .inl (.ref 260))]) jm_ok160 (by decide +kernel) (by decide +kernel) hd F X1 X2 (fun F' hF hs => ?_)
  have b6 := hd_b (F := F) (F' := F') (k := 6) (hF 6 (by decide))
  have b14 := hd_b (F := F) (F' := F') (k := 14) (hF 14 (by decide))
  have a44 := hd_ba (F := F) (F' := F') (k := 44) (hF 44 (by decide))
  have t72 : sy_da F' (.inr (.inl 72)) = .inl (jm_upd (sy_ai F 44) (sy_i F 14).toNatClampNeg ((0 : Int32))) := hd_up (hs 0 _ rfl) b14 rfl a44
  have b69 := hd_b (F := F) (F' := F') (k := 69) (hF 69 (by decide))
  have b70 := hd_b (F := F) (F' := F') (k := 70) (hF 70 (by decide))
  have hB' : iv_in F' iv_B4 := iv_in_eq hB (fun j hj => hF j (Nat.lt_of_lt_of_le hj (by decide +kernel)))
  refine ⟨List.forall_mem_cons.mpr ⟨hd_p1 b6 rfl (by have hc : ((0) : Int32).toInt = 0 := (by decide); omega), List.forall_mem_cons.mpr ⟨hd_pb b14 (by first | exact h1 | exact h1), fun _ h => absurd h List.not_mem_nil⟩⟩, ?_⟩
  refine k _ ?_ ?_ ?_ ?_
  · exact fun j hj hn => (hd_keep hB' (Nat.lt_of_lt_of_le hj (by decide +kernel)) (by simp; omega)).trans (hF j (Nat.lt_of_lt_of_le hj (by decide)))
  · exact hd_ga (a := .inr (.inl 72)) (by decide +kernel) t72
  · exact hd_gi (x := .inr (.inl 69)) (by decide +kernel) b69
  · exact hd_gi (x := .inr (.inl 70)) (by decide +kernel) b70
theorem tl_12_p1 {Ls : Nat} {xs : Nat → Int32} {d : Nat} {Q : Option Value → jm_h → Prop} (hd : 4 ≤ d) (F : Nat → sy_d) (X1 X2 : List jm_c) (hB : iv_in F iv_B4)
    (h0 : (sy_i F 6).toInt = 0)
    (h1 : (sy_i F 6).toInt = 0)
    (h2 : 0 ≤ (sy_i F 4).toInt ∧ (sy_i F 4).toInt < 403)
    (h3 : ((sy_ai F 25).getD (sy_i F 4).toNatClampNeg 0).toInt ≠ 31)
    (h4 : 0 ≤ (sy_i F 14).toInt ∧ (sy_i F 14).toInt < 260)
    (k : ∀ F1 : Nat → sy_d, (∀ j, j < 69 → j ≠ 44 → F1 j = F j) → F1 44 = .inr (.inl (jm_upd (sy_ai F 44) (sy_i F 14).toNatClampNeg ((0 : Int32)))) → F1 69 = .inl (.int (sy_i F 69)) → F1 70 = .inl (.int (sy_i F 70)) → hd_W Ls xs d jm_M160 Q (140, sy_dL F1 [some (.inl (.ref 1000)), some (.inr (.inl 69)), some (.inr (.inl 70)), none], sy_dS F1 [.inl (.ref 1000)], sy_dh F1 X1 X2 (iv_H 4), 0, 0)) :
    hd_W Ls xs d jm_M160 Q (12, sy_dL F [some (.inl (.ref 1000)), some (.inr (.inl 69)), some (.inr (.inl 70)), some (.inr (.inl 71))], sy_dS F [], sy_dh F X1 X2 (iv_H 4), 0, 0) := by
  refine hd_run (s := 4) (nv := 72) (pc := 140) (L := [some (.inl (.ref 1000)), some (.inr (.inl 69)), some (.inr (.inl 70)), none]) (S := [.inl (.ref 1000)]) (uh := hd_ov (iv_id 0 iv_B4) [(44, .inr (.inr (.inl 73)))]) (ul := [.inl (.inr (.inl 69)), .inl (.inr (.inl 70))]) (f := true) (sp := [77, 140]) (d0 := 3) (O := [false, false, true]) (T := [(30, [.inr (.inl 4)], [.inr (.inl 25)]), (40, [.inr (.inl 14), .inl (.int 0)], [.inr (.inl 44)])]) (P := [(0, .inr (.inl 6), .inl (.int 0)), (0, .inr (.inl 6), .inl (.int 0)), (6, .inr (.inl 4), .inl (.ref 403)), (1, .inr (.inl 72), .inl (.int 31)), (6, .inr (.inl 14), .inl (.ref 260))]) jm_ok160 (by decide +kernel) (by decide +kernel) hd F X1 X2 (fun F' hF hs => ?_)
  have b6 := hd_b (F := F) (F' := F') (k := 6) (hF 6 (by decide))
  have b4 := hd_b (F := F) (F' := F') (k := 4) (hF 4 (by decide))
  have a25 := hd_ba (F := F) (F' := F') (k := 25) (hF 25 (by decide))
  have t72 : sy_dv F' (.inr (.inl 72)) = .int ((sy_ai F 25).getD (sy_i F 4).toNatClampNeg 0) := hd_rd (hs 0 _ rfl) b4 a25
  have b14 := hd_b (F := F) (F' := F') (k := 14) (hF 14 (by decide))
  have a44 := hd_ba (F := F) (F' := F') (k := 44) (hF 44 (by decide))
  have t73 : sy_da F' (.inr (.inl 73)) = .inl (jm_upd (sy_ai F 44) (sy_i F 14).toNatClampNeg ((0 : Int32))) := hd_up (hs 1 _ rfl) b14 rfl a44
  have b69 := hd_b (F := F) (F' := F') (k := 69) (hF 69 (by decide))
  have b70 := hd_b (F := F) (F' := F') (k := 70) (hF 70 (by decide))
  have hB' : iv_in F' iv_B4 := iv_in_eq hB (fun j hj => hF j (Nat.lt_of_lt_of_le hj (by decide +kernel)))
  refine ⟨List.forall_mem_cons.mpr ⟨hd_p0 b6 rfl (by have hc : ((0) : Int32).toInt = 0 := (by decide); omega), List.forall_mem_cons.mpr ⟨hd_p0 b6 rfl (by have hc : ((0) : Int32).toInt = 0 := (by decide); omega), List.forall_mem_cons.mpr ⟨hd_pb b4 (by first | exact h2 | exact h2), List.forall_mem_cons.mpr ⟨hd_p1 t72 rfl (by have hc : ((31) : Int32).toInt = 31 := (by decide); omega), List.forall_mem_cons.mpr ⟨hd_pb b14 (by first | exact h4 | exact h4), fun _ h => absurd h List.not_mem_nil⟩⟩⟩⟩⟩, ?_⟩
  refine k _ ?_ ?_ ?_ ?_
  · exact fun j hj hn => (hd_keep hB' (Nat.lt_of_lt_of_le hj (by decide +kernel)) (by simp; omega)).trans (hF j (Nat.lt_of_lt_of_le hj (by decide)))
  · exact hd_ga (a := .inr (.inl 73)) (by decide +kernel) t73
  · exact hd_gi (x := .inr (.inl 69)) (by decide +kernel) b69
  · exact hd_gi (x := .inr (.inl 70)) (by decide +kernel) b70
theorem tl_12_p2 {Ls : Nat} {xs : Nat → Int32} {d : Nat} {Q : Option Value → jm_h → Prop} (hd : 4 ≤ d) (F : Nat → sy_d) (X1 X2 : List jm_c) (hB : iv_in F iv_B4)
    (h0 : (sy_i F 6).toInt = 0)
    (h1 : (sy_i F 6).toInt = 0)
    (h2 : 0 ≤ (sy_i F 4).toInt ∧ (sy_i F 4).toInt < 403)
    (h3 : ((sy_ai F 25).getD (sy_i F 4).toNatClampNeg 0).toInt = 31)
    (h4 : (sy_i F 71).toInt ≠ 4)
    (h5 : (sy_i F 6).toInt ≤ 0)
    (h6 : (sy_i F 4).toInt ≠ 400)
    (h7 : 0 ≤ (sy_i F 14).toInt ∧ (sy_i F 14).toInt < 260)
    (h8 : 0 ≤ (sy_i F 14).toInt ∧ (sy_i F 14).toInt < 260)
    (k : ∀ F1 : Nat → sy_d, (∀ j, j < 69 → j ≠ 4 ∧ j ≠ 44 ∧ j ≠ 45 → F1 j = F j) → F1 4 = .inl (.int ((sy_i F 4) + ((1 : Int32)))) → F1 44 = .inr (.inl (jm_upd (sy_ai F 44) (sy_i F 14).toNatClampNeg ((1 : Int32)))) → F1 45 = .inr (.inl (jm_upd (sy_ai F 45) (sy_i F 14).toNatClampNeg (sy_i F 15))) → F1 69 = .inl (.int (sy_i F 69)) → F1 70 = .inl (.int (sy_i F 70)) → F1 71 = .inl (.int ((sy_i F 71) + ((1 : Int32)))) → hd_W Ls xs d jm_M160 Q (77, sy_dL F1 [some (.inl (.ref 1000)), some (.inr (.inl 69)), some (.inr (.inl 70)), some (.inr (.inl 71))], sy_dS F1 [.inl (.ref 1000)], sy_dh F1 X1 X2 (iv_H 4), 0, 0)) :
    hd_W Ls xs d jm_M160 Q (12, sy_dL F [some (.inl (.ref 1000)), some (.inr (.inl 69)), some (.inr (.inl 70)), some (.inr (.inl 71))], sy_dS F [], sy_dh F X1 X2 (iv_H 4), 0, 0) := by
  refine hd_run (s := 4) (nv := 72) (pc := 77) (L := [some (.inl (.ref 1000)), some (.inr (.inl 69)), some (.inr (.inl 70)), some (.inr (.inl 71))]) (S := [.inl (.ref 1000)]) (uh := hd_ov (iv_id 0 iv_B4) [(4, .inl (.inr (.inl 74))), (44, .inr (.inr (.inl 75))), (45, .inr (.inr (.inl 76)))]) (ul := [.inl (.inr (.inl 69)), .inl (.inr (.inl 70)), .inl (.inr (.inl 73))]) (f := true) (sp := [77, 140]) (d0 := 3) (O := [false, false, false, true, true, true]) (T := [(30, [.inr (.inl 4)], [.inr (.inl 25)]), (0, [.inr (.inl 71), .inl (.int 1)], []), (0, [.inr (.inl 4), .inl (.int 1)], []), (40, [.inr (.inl 14), .inl (.int 1)], [.inr (.inl 44)]), (40, [.inr (.inl 14), .inr (.inl 15)], [.inr (.inl 45)])]) (P := [(0, .inr (.inl 6), .inl (.int 0)), (0, .inr (.inl 6), .inl (.int 0)), (6, .inr (.inl 4), .inl (.ref 403)), (0, .inr (.inl 72), .inl (.int 31)), (1, .inr (.inl 71), .inl (.int 4)), (4, .inr (.inl 6), .inl (.int 0)), (1, .inr (.inl 4), .inl (.int 400)), (6, .inr (.inl 14), .inl (.ref 260)), (6, .inr (.inl 14), .inl (.ref 260))]) jm_ok160 (by decide +kernel) (by decide +kernel) hd F X1 X2 (fun F' hF hs => ?_)
  have b6 := hd_b (F := F) (F' := F') (k := 6) (hF 6 (by decide))
  have b4 := hd_b (F := F) (F' := F') (k := 4) (hF 4 (by decide))
  have a25 := hd_ba (F := F) (F' := F') (k := 25) (hF 25 (by decide))
  have t72 : sy_dv F' (.inr (.inl 72)) = .int ((sy_ai F 25).getD (sy_i F 4).toNatClampNeg 0) := hd_rd (hs 0 _ rfl) b4 a25
  have b71 := hd_b (F := F) (F' := F') (k := 71) (hF 71 (by decide))
  have b14 := hd_b (F := F) (F' := F') (k := 14) (hF 14 (by decide))
  have t74 : sy_dv F' (.inr (.inl 74)) = .int ((sy_i F 4) + ((1 : Int32))) := hd_o (hs 2 _ rfl) b4 rfl rfl
  have a44 := hd_ba (F := F) (F' := F') (k := 44) (hF 44 (by decide))
  have t75 : sy_da F' (.inr (.inl 75)) = .inl (jm_upd (sy_ai F 44) (sy_i F 14).toNatClampNeg ((1 : Int32))) := hd_up (hs 3 _ rfl) b14 rfl a44
  have b15 := hd_b (F := F) (F' := F') (k := 15) (hF 15 (by decide))
  have a45 := hd_ba (F := F) (F' := F') (k := 45) (hF 45 (by decide))
  have t76 : sy_da F' (.inr (.inl 76)) = .inl (jm_upd (sy_ai F 45) (sy_i F 14).toNatClampNeg (sy_i F 15)) := hd_up (hs 4 _ rfl) b14 b15 a45
  have b69 := hd_b (F := F) (F' := F') (k := 69) (hF 69 (by decide))
  have b70 := hd_b (F := F) (F' := F') (k := 70) (hF 70 (by decide))
  have t73 : sy_dv F' (.inr (.inl 73)) = .int ((sy_i F 71) + ((1 : Int32))) := hd_o (hs 1 _ rfl) b71 rfl rfl
  have hB' : iv_in F' iv_B4 := iv_in_eq hB (fun j hj => hF j (Nat.lt_of_lt_of_le hj (by decide +kernel)))
  refine ⟨List.forall_mem_cons.mpr ⟨hd_p0 b6 rfl (by have hc : ((0) : Int32).toInt = 0 := (by decide); omega), List.forall_mem_cons.mpr ⟨hd_p0 b6 rfl (by have hc : ((0) : Int32).toInt = 0 := (by decide); omega), List.forall_mem_cons.mpr ⟨hd_pb b4 (by first | exact h2 | exact h2), List.forall_mem_cons.mpr ⟨hd_p0 t72 rfl (by have hc : ((31) : Int32).toInt = 31 := (by decide); omega), List.forall_mem_cons.mpr ⟨hd_p1 b71 rfl (by have hc : ((4) : Int32).toInt = 4 := (by decide); omega), List.forall_mem_cons.mpr ⟨hd_p4 b6 rfl (by have hc : ((0) : Int32).toInt = 0 := (by decide); omega), List.forall_mem_cons.mpr ⟨hd_p1 b4 rfl (by have hc : ((400) : Int32).toInt = 400 := (by decide); omega), List.forall_mem_cons.mpr ⟨hd_pb b14 (by first | exact h7 | exact h7), List.forall_mem_cons.mpr ⟨hd_pb b14 (by first | exact h8 | exact h8), fun _ h => absurd h List.not_mem_nil⟩⟩⟩⟩⟩⟩⟩⟩⟩, ?_⟩
  refine k _ ?_ ?_ ?_ ?_ ?_ ?_ ?_
  · exact fun j hj hn => (hd_keep hB' (Nat.lt_of_lt_of_le hj (by decide +kernel)) (by simp; omega)).trans (hF j (Nat.lt_of_lt_of_le hj (by decide)))
  · exact hd_gi (x := .inr (.inl 74)) (by decide +kernel) t74
  · exact hd_ga (a := .inr (.inl 75)) (by decide +kernel) t75
  · exact hd_ga (a := .inr (.inl 76)) (by decide +kernel) t76
  · exact hd_gi (x := .inr (.inl 69)) (by decide +kernel) b69
  · exact hd_gi (x := .inr (.inl 70)) (by decide +kernel) b70
  · exact hd_gi (x := .inr (.inl 73)) (by decide +kernel) t73
theorem tl_12_p3 {Ls : Nat} {xs : Nat → Int32} {d : Nat} {Q : Option Value → jm_h → Prop} (hd : 4 ≤ d) (F : Nat → sy_d) (X1 X2 : List jm_c) (hB : iv_in F iv_B4)
    (h0 : (sy_i F 6).toInt = 0)
    (h1 : (sy_i F 6).toInt = 0)
    (h2 : 0 ≤ (sy_i F 4).toInt ∧ (sy_i F 4).toInt < 403)
    (h3 : ((sy_ai F 25).getD (sy_i F 4).toNatClampNeg 0).toInt = 31)
    (h4 : (sy_i F 71).toInt ≠ 4)
    (h5 : (sy_i F 6).toInt ≤ 0)
    (h6 : (sy_i F 4).toInt = 400)
    (h7 : (sy_i F 6).toInt ≤ 0)
    (h8 : 0 ≤ (sy_i F 4).toInt ∧ (sy_i F 4).toInt < 403)
    (h9 : 0 ≤ (sy_i F 14).toInt ∧ (sy_i F 14).toInt < 260)
    (h10 : 0 ≤ (sy_i F 14).toInt ∧ (sy_i F 14).toInt < 260)
    (k : ∀ F1 : Nat → sy_d, (∀ j, j < 69 → j ≠ 6 ∧ j ≠ 7 ∧ j ≠ 44 ∧ j ≠ 45 → F1 j = F j) → F1 6 = .inl (.int ((2 : Int32))) → F1 7 = .inl (.int ((sy_ai F 26).getD (sy_i F 4).toNatClampNeg 0)) → F1 44 = .inr (.inl (jm_upd (sy_ai F 44) (sy_i F 14).toNatClampNeg ((1 : Int32)))) → F1 45 = .inr (.inl (jm_upd (sy_ai F 45) (sy_i F 14).toNatClampNeg (sy_i F 15))) → F1 69 = .inl (.int (sy_i F 69)) → F1 70 = .inl (.int (sy_i F 70)) → F1 71 = .inl (.int ((sy_i F 71) + ((1 : Int32)))) → hd_W Ls xs d jm_M160 Q (77, sy_dL F1 [some (.inl (.ref 1000)), some (.inr (.inl 69)), some (.inr (.inl 70)), some (.inr (.inl 71))], sy_dS F1 [.inl (.ref 1000)], sy_dh F1 X1 X2 (iv_H 4), 0, 0)) :
    hd_W Ls xs d jm_M160 Q (12, sy_dL F [some (.inl (.ref 1000)), some (.inr (.inl 69)), some (.inr (.inl 70)), some (.inr (.inl 71))], sy_dS F [], sy_dh F X1 X2 (iv_H 4), 0, 0) := by
  refine hd_run (s := 4) (nv := 72) (pc := 77) (L := [some (.inl (.ref 1000)), some (.inr (.inl 69)), some (.inr (.inl 70)), some (.inr (.inl 71))]) (S := [.inl (.ref 1000)]) (uh := hd_ov (iv_id 0 iv_B4) [(6, .inl (.inl (.int 2))), (7, .inl (.inr (.inl 74))), (44, .inr (.inr (.inl 75))), (45, .inr (.inr (.inl 76)))]) (ul := [.inl (.inr (.inl 69)), .inl (.inr (.inl 70)), .inl (.inr (.inl 73))]) (f := true) (sp := [77, 140]) (d0 := 3) (O := [false, false, false, true, true, false, true]) (T := [(30, [.inr (.inl 4)], [.inr (.inl 25)]), (0, [.inr (.inl 71), .inl (.int 1)], []), (30, [.inr (.inl 4)], [.inr (.inl 26)]), (40, [.inr (.inl 14), .inl (.int 1)], [.inr (.inl 44)]), (40, [.inr (.inl 14), .inr (.inl 15)], [.inr (.inl 45)])]) (P := [(0, .inr (.inl 6), .inl (.int 0)), (0, .inr (.inl 6), .inl (.int 0)), (6, .inr (.inl 4), .inl (.ref 403)), (0, .inr (.inl 72), .inl (.int 31)), (1, .inr (.inl 71), .inl (.int 4)), (4, .inr (.inl 6), .inl (.int 0)), (0, .inr (.inl 4), .inl (.int 400)), (4, .inr (.inl 6), .inl (.int 0)), (6, .inr (.inl 4), .inl (.ref 403)), (6, .inr (.inl 14), .inl (.ref 260)), (6, .inr (.inl 14), .inl (.ref 260))]) jm_ok160 (by decide +kernel) (by decide +kernel) hd F X1 X2 (fun F' hF hs => ?_)
  have b6 := hd_b (F := F) (F' := F') (k := 6) (hF 6 (by decide))
  have b4 := hd_b (F := F) (F' := F') (k := 4) (hF 4 (by decide))
  have a25 := hd_ba (F := F) (F' := F') (k := 25) (hF 25 (by decide))
  have t72 : sy_dv F' (.inr (.inl 72)) = .int ((sy_ai F 25).getD (sy_i F 4).toNatClampNeg 0) := hd_rd (hs 0 _ rfl) b4 a25
  have b71 := hd_b (F := F) (F' := F') (k := 71) (hF 71 (by decide))
  have b14 := hd_b (F := F) (F' := F') (k := 14) (hF 14 (by decide))
  have a26 := hd_ba (F := F) (F' := F') (k := 26) (hF 26 (by decide))
  have t74 : sy_dv F' (.inr (.inl 74)) = .int ((sy_ai F 26).getD (sy_i F 4).toNatClampNeg 0) := hd_rd (hs 2 _ rfl) b4 a26
  have a44 := hd_ba (F := F) (F' := F') (k := 44) (hF 44 (by decide))
  have t75 : sy_da F' (.inr (.inl 75)) = .inl (jm_upd (sy_ai F 44) (sy_i F 14).toNatClampNeg ((1 : Int32))) := hd_up (hs 3 _ rfl) b14 rfl a44
  have b15 := hd_b (F := F) (F' := F') (k := 15) (hF 15 (by decide))
  have a45 := hd_ba (F := F) (F' := F') (k := 45) (hF 45 (by decide))
  have t76 : sy_da F' (.inr (.inl 76)) = .inl (jm_upd (sy_ai F 45) (sy_i F 14).toNatClampNeg (sy_i F 15)) := hd_up (hs 4 _ rfl) b14 b15 a45
  have b69 := hd_b (F := F) (F' := F') (k := 69) (hF 69 (by decide))
  have b70 := hd_b (F := F) (F' := F') (k := 70) (hF 70 (by decide))
  have t73 : sy_dv F' (.inr (.inl 73)) = .int ((sy_i F 71) + ((1 : Int32))) := hd_o (hs 1 _ rfl) b71 rfl rfl
  have hB' : iv_in F' iv_B4 := iv_in_eq hB (fun j hj => hF j (Nat.lt_of_lt_of_le hj (by decide +kernel)))
  refine ⟨List.forall_mem_cons.mpr ⟨hd_p0 b6 rfl (by have hc : ((0) : Int32).toInt = 0 := (by decide); omega), List.forall_mem_cons.mpr ⟨hd_p0 b6 rfl (by have hc : ((0) : Int32).toInt = 0 := (by decide); omega), List.forall_mem_cons.mpr ⟨hd_pb b4 (by first | exact h2 | exact h2), List.forall_mem_cons.mpr ⟨hd_p0 t72 rfl (by have hc : ((31) : Int32).toInt = 31 := (by decide); omega), List.forall_mem_cons.mpr ⟨hd_p1 b71 rfl (by have hc : ((4) : Int32).toInt = 4 := (by decide); omega), List.forall_mem_cons.mpr ⟨hd_p4 b6 rfl (by have hc : ((0) : Int32).toInt = 0 := (by decide); omega), List.forall_mem_cons.mpr ⟨hd_p0 b4 rfl (by have hc : ((400) : Int32).toInt = 400 := (by decide); omega), List.forall_mem_cons.mpr ⟨hd_p4 b6 rfl (by have hc : ((0) : Int32).toInt = 0 := (by decide); omega), List.forall_mem_cons.mpr ⟨hd_pb b4 (by first | exact h8 | exact h8), List.forall_mem_cons.mpr ⟨hd_pb b14 (by first | exact h9 | exact h9), List.forall_mem_cons.mpr ⟨hd_pb b14 (by first | exact h10 | exact h10), fun _ h => absurd h List.not_mem_nil⟩⟩⟩⟩⟩⟩⟩⟩⟩⟩⟩, ?_⟩
  refine k _ ?_ ?_ ?_ ?_ ?_ ?_ ?_ ?_
  · exact fun j hj hn => (hd_keep hB' (Nat.lt_of_lt_of_le hj (by decide +kernel)) (by simp; omega)).trans (hF j (Nat.lt_of_lt_of_le hj (by decide)))
  · exact hd_gi (x := .inl (.int 2)) (by decide +kernel) rfl
  · exact hd_gi (x := .inr (.inl 74)) (by decide +kernel) t74
  · exact hd_ga (a := .inr (.inl 75)) (by decide +kernel) t75
  · exact hd_ga (a := .inr (.inl 76)) (by decide +kernel) t76
  · exact hd_gi (x := .inr (.inl 69)) (by decide +kernel) b69
  · exact hd_gi (x := .inr (.inl 70)) (by decide +kernel) b70
  · exact hd_gi (x := .inr (.inl 73)) (by decide +kernel) t73
theorem tl_12_p4 {Ls : Nat} {xs : Nat → Int32} {d : Nat} {Q : Option Value → jm_h → Prop} (hd : 4 ≤ d) (F : Nat → sy_d) (X1 X2 : List jm_c) (hB : iv_in F iv_B4)
    (h0 : (sy_i F 6).toInt = 0)
    (h1 : (sy_i F 6).toInt = 0)
    (h2 : 0 ≤ (sy_i F 4).toInt ∧ (sy_i F 4).toInt < 403)
    (h3 : ((sy_ai F 25).getD (sy_i F 4).toNatClampNeg 0).toInt = 31)
    (h4 : (sy_i F 71).toInt = 4)
    (h5 : (sy_i F 6).toInt ≤ 0)
    (h6 : 0 ≤ (sy_i F 4).toInt ∧ (sy_i F 4).toInt < 403)
    (k : ∀ F1 : Nat → sy_d, (∀ j, j < 69 → j ≠ 6 ∧ j ≠ 7 → F1 j = F j) → F1 6 = .inl (.int ((2 : Int32))) → F1 7 = .inl (.int ((sy_ai F 26).getD (sy_i F 4).toNatClampNeg 0)) → Q (none) (sy_dh F1 X1 X2 (iv_H 4))) :
    hd_W Ls xs d jm_M160 Q (12, sy_dL F [some (.inl (.ref 1000)), some (.inr (.inl 69)), some (.inr (.inl 70)), some (.inr (.inl 71))], sy_dS F [], sy_dh F X1 X2 (iv_H 4), 0, 0) := by
  refine hd_ret (s := 4) (nv := 72) (v := none) (uh := hd_ov (iv_id 0 iv_B4) [(6, .inl (.inl (.int 2))), (7, .inl (.inr (.inl 73)))]) (f := true) (sp := [77, 140]) (d0 := 3) (O := [false, false, false, false, true]) (T := [(30, [.inr (.inl 4)], [.inr (.inl 25)]), (30, [.inr (.inl 4)], [.inr (.inl 26)])]) (P := [(0, .inr (.inl 6), .inl (.int 0)), (0, .inr (.inl 6), .inl (.int 0)), (6, .inr (.inl 4), .inl (.ref 403)), (0, .inr (.inl 72), .inl (.int 31)), (0, .inr (.inl 71), .inl (.int 4)), (4, .inr (.inl 6), .inl (.int 0)), (6, .inr (.inl 4), .inl (.ref 403))]) jm_ok160 (by decide +kernel) (by decide +kernel) hd F X1 X2 (fun F' hF hs => ?_)
  have b6 := hd_b (F := F) (F' := F') (k := 6) (hF 6 (by decide))
  have b4 := hd_b (F := F) (F' := F') (k := 4) (hF 4 (by decide))
  have a25 := hd_ba (F := F) (F' := F') (k := 25) (hF 25 (by decide))
  have t72 : sy_dv F' (.inr (.inl 72)) = .int ((sy_ai F 25).getD (sy_i F 4).toNatClampNeg 0) := hd_rd (hs 0 _ rfl) b4 a25
  have b71 := hd_b (F := F) (F' := F') (k := 71) (hF 71 (by decide))
  have a26 := hd_ba (F := F) (F' := F') (k := 26) (hF 26 (by decide))
  have t73 : sy_dv F' (.inr (.inl 73)) = .int ((sy_ai F 26).getD (sy_i F 4).toNatClampNeg 0) := hd_rd (hs 1 _ rfl) b4 a26
  have hB' : iv_in F' iv_B4 := iv_in_eq hB (fun j hj => hF j (Nat.lt_of_lt_of_le hj (by decide +kernel)))
  refine ⟨List.forall_mem_cons.mpr ⟨hd_p0 b6 rfl (by have hc : ((0) : Int32).toInt = 0 := (by decide); omega), List.forall_mem_cons.mpr ⟨hd_p0 b6 rfl (by have hc : ((0) : Int32).toInt = 0 := (by decide); omega), List.forall_mem_cons.mpr ⟨hd_pb b4 (by first | exact h2 | exact h2), List.forall_mem_cons.mpr ⟨hd_p0 t72 rfl (by have hc : ((31) : Int32).toInt = 31 := (by decide); omega), List.forall_mem_cons.mpr ⟨hd_p0 b71 rfl (by have hc : ((4) : Int32).toInt = 4 := (by decide); omega), List.forall_mem_cons.mpr ⟨hd_p4 b6 rfl (by have hc : ((0) : Int32).toInt = 0 := (by decide); omega), List.forall_mem_cons.mpr ⟨hd_pb b4 (by first | exact h6 | exact h6), fun _ h => absurd h List.not_mem_nil⟩⟩⟩⟩⟩⟩⟩, ?_⟩
  refine k _ ?_ ?_ ?_
  · exact fun j hj hn => (hd_keep hB' (Nat.lt_of_lt_of_le hj (by decide +kernel)) (by simp; omega)).trans (hF j (Nat.lt_of_lt_of_le hj (by decide)))
  · exact hd_gi (x := .inl (.int 2)) (by decide +kernel) rfl
  · exact hd_gi (x := .inr (.inl 73)) (by decide +kernel) t73
theorem tl_80_p0 {Ls : Nat} {xs : Nat → Int32} {d : Nat} {Q : Option Value → jm_h → Prop} (hd : 4 ≤ d) (F : Nat → sy_d) (X1 X2 : List jm_c) (hB : iv_in F iv_B4)
    (h0 : (sy_i F 6).toInt ≠ 0)
    (h1 : 0 < (sy_i F 6).toInt)
    (h2 : 0 ≤ (sy_i F 14).toInt ∧ (sy_i F 14).toInt < 260)
    (h3 : (sy_i F 6).toInt ≠ 0)
    (k : ∀ F1 : Nat → sy_d, (∀ j, j < 69 → j ≠ 46 → F1 j = F j) → F1 46 = .inr (.inl (jm_upd (sy_ai F 46) (sy_i F 14).toNatClampNeg (sy_i F 15))) → F1 69 = .inl (.int (sy_i F 69)) → F1 70 = .inl (.int (sy_i F 70)) → F1 71 = .inl (.int (sy_i F 71)) → hd_W Ls xs d jm_M160 Q (110, sy_dL F1 [some (.inl (.ref 1000)), some (.inr (.inl 69)), some (.inr (.inl 70)), some (.inr (.inl 71))], sy_dS F1 [], sy_dh F1 X1 X2 (iv_H 4), 0, 0)) :
    hd_W Ls xs d jm_M160 Q (80, sy_dL F [some (.inl (.ref 1000)), some (.inr (.inl 69)), some (.inr (.inl 70)), some (.inr (.inl 71))], sy_dS F [], sy_dh F X1 X2 (iv_H 4), 0, 0) := by
  refine hd_run (s := 4) (nv := 72) (pc := 110) (L := [some (.inl (.ref 1000)), some (.inr (.inl 69)), some (.inr (.inl 70)), some (.inr (.inl 71))]) (S := []) (uh := hd_ov (iv_id 0 iv_B4) [(46, .inr (.inr (.inl 72)))]) (ul := [.inl (.inr (.inl 69)), .inl (.inr (.inl 70)), .inl (.inr (.inl 71))]) (f := false) (sp := [107, 110]) (d0 := 3) (O := [true, false, true]) (T := [(40, [.inr (.inl 14), .inr (.inl 15)], [.inr (.inl 46)])]) (P := [(1, .inr (.inl 6), .inl (.int 0)), (5, .inr (.inl 6), .inl (.int 0)), (6, .inr (.inl 14), .inl (.ref 260)), (1, .inr (.inl 6), .inl (.int 0))]) jm_ok160 (by decide +kernel) (by decide +kernel) hd F X1 X2 (fun F' hF hs => ?_)
  have b6 := hd_b (F := F) (F' := F') (k := 6) (hF 6 (by decide))
  have b14 := hd_b (F := F) (F' := F') (k := 14) (hF 14 (by decide))
  have b15 := hd_b (F := F) (F' := F') (k := 15) (hF 15 (by decide))
  have a46 := hd_ba (F := F) (F' := F') (k := 46) (hF 46 (by decide))
  have t72 : sy_da F' (.inr (.inl 72)) = .inl (jm_upd (sy_ai F 46) (sy_i F 14).toNatClampNeg (sy_i F 15)) := hd_up (hs 0 _ rfl) b14 b15 a46
  have b69 := hd_b (F := F) (F' := F') (k := 69) (hF 69 (by decide))
  have b70 := hd_b (F := F) (F' := F') (k := 70) (hF 70 (by decide))
  have b71 := hd_b (F := F) (F' := F') (k := 71) (hF 71 (by decide))
  have hB' : iv_in F' iv_B4 := iv_in_eq hB (fun j hj => hF j (Nat.lt_of_lt_of_le hj (by decide +kernel)))
  refine ⟨List.forall_mem_cons.mpr ⟨hd_p1 b6 rfl (by have hc : ((0) : Int32).toInt = 0 := (by decide); omega), List.forall_mem_cons.mpr ⟨hd_p5 b6 rfl (by have hc : ((0) : Int32).toInt = 0 := (by decide); omega), List.forall_mem_cons.mpr ⟨hd_pb b14 (by first | exact h2 | exact h2), List.forall_mem_cons.mpr ⟨hd_p1 b6 rfl (by have hc : ((0) : Int32).toInt = 0 := (by decide); omega), fun _ h => absurd h List.not_mem_nil⟩⟩⟩⟩, ?_⟩
  refine k _ ?_ ?_ ?_ ?_ ?_
  · exact fun j hj hn => (hd_keep hB' (Nat.lt_of_lt_of_le hj (by decide +kernel)) (by simp; omega)).trans (hF j (Nat.lt_of_lt_of_le hj (by decide)))
  · exact hd_ga (a := .inr (.inl 72)) (by decide +kernel) t72
  · exact hd_gi (x := .inr (.inl 69)) (by decide +kernel) b69
  · exact hd_gi (x := .inr (.inl 70)) (by decide +kernel) b70
  · exact hd_gi (x := .inr (.inl 71)) (by decide +kernel) b71
theorem tl_80_p1 {Ls : Nat} {xs : Nat → Int32} {d : Nat} {Q : Option Value → jm_h → Prop} (hd : 4 ≤ d) (F : Nat → sy_d) (X1 X2 : List jm_c) (hB : iv_in F iv_B4)
    (h0 : (sy_i F 6).toInt = 0)
    (h1 : 0 ≤ (sy_i F 4).toInt ∧ (sy_i F 4).toInt < 403)
    (h2 : ((sy_ai F 25).getD (sy_i F 4).toNatClampNeg 0).toInt ≠ 13)
    (h3 : (sy_i F 6).toInt ≤ 0)
    (h4 : 0 ≤ (sy_i F 4).toInt ∧ (sy_i F 4).toInt < 403)
    (h5 : 0 ≤ (sy_i F 14).toInt ∧ (sy_i F 14).toInt < 260)
    (k : ∀ F1 : Nat → sy_d, (∀ j, j < 69 → j ≠ 6 ∧ j ≠ 7 ∧ j ≠ 46 → F1 j = F j) → F1 6 = .inl (.int ((1 : Int32))) → F1 7 = .inl (.int ((sy_ai F 26).getD (sy_i F 4).toNatClampNeg 0)) → F1 46 = .inr (.inl (jm_upd (sy_ai F 46) (sy_i F 14).toNatClampNeg (sy_i F 15))) → F1 69 = .inl (.int (sy_i F 69)) → F1 70 = .inl (.int (sy_i F 70)) → F1 71 = .inl (.int (sy_i F 71)) → hd_W Ls xs d jm_M160 Q (110, sy_dL F1 [some (.inl (.ref 1000)), some (.inr (.inl 69)), some (.inr (.inl 70)), some (.inr (.inl 71))], sy_dS F1 [], sy_dh F1 X1 X2 (iv_H 4), 0, 0)) :
    hd_W Ls xs d jm_M160 Q (80, sy_dL F [some (.inl (.ref 1000)), some (.inr (.inl 69)), some (.inr (.inl 70)), some (.inr (.inl 71))], sy_dS F [], sy_dh F X1 X2 (iv_H 4), 0, 0) := by
  refine hd_run (s := 4) (nv := 72) (pc := 110) (L := [some (.inl (.ref 1000)), some (.inr (.inl 69)), some (.inr (.inl 70)), some (.inr (.inl 71))]) (S := []) (uh := hd_ov (iv_id 0 iv_B4) [(6, .inl (.inl (.int 1))), (7, .inl (.inr (.inl 73))), (46, .inr (.inr (.inl 74)))]) (ul := [.inl (.inr (.inl 69)), .inl (.inr (.inl 70)), .inl (.inr (.inl 71))]) (f := false) (sp := [107, 110]) (d0 := 3) (O := [false, true, true]) (T := [(30, [.inr (.inl 4)], [.inr (.inl 25)]), (30, [.inr (.inl 4)], [.inr (.inl 26)]), (40, [.inr (.inl 14), .inr (.inl 15)], [.inr (.inl 46)])]) (P := [(0, .inr (.inl 6), .inl (.int 0)), (6, .inr (.inl 4), .inl (.ref 403)), (1, .inr (.inl 72), .inl (.int 13)), (4, .inr (.inl 6), .inl (.int 0)), (6, .inr (.inl 4), .inl (.ref 403)), (6, .inr (.inl 14), .inl (.ref 260))]) jm_ok160 (by decide +kernel) (by decide +kernel) hd F X1 X2 (fun F' hF hs => ?_)
  have b6 := hd_b (F := F) (F' := F') (k := 6) (hF 6 (by decide))
  have b4 := hd_b (F := F) (F' := F') (k := 4) (hF 4 (by decide))
  have a25 := hd_ba (F := F) (F' := F') (k := 25) (hF 25 (by decide))
  have t72 : sy_dv F' (.inr (.inl 72)) = .int ((sy_ai F 25).getD (sy_i F 4).toNatClampNeg 0) := hd_rd (hs 0 _ rfl) b4 a25
  have b14 := hd_b (F := F) (F' := F') (k := 14) (hF 14 (by decide))
  have a26 := hd_ba (F := F) (F' := F') (k := 26) (hF 26 (by decide))
  have t73 : sy_dv F' (.inr (.inl 73)) = .int ((sy_ai F 26).getD (sy_i F 4).toNatClampNeg 0) := hd_rd (hs 1 _ rfl) b4 a26
  have b15 := hd_b (F := F) (F' := F') (k := 15) (hF 15 (by decide))
  have a46 := hd_ba (F := F) (F' := F') (k := 46) (hF 46 (by decide))
  have t74 : sy_da F' (.inr (.inl 74)) = .inl (jm_upd (sy_ai F 46) (sy_i F 14).toNatClampNeg (sy_i F 15)) := hd_up (hs 2 _ rfl) b14 b15 a46
  have b69 := hd_b (F := F) (F' := F') (k := 69) (hF 69 (by decide))
  have b70 := hd_b (F := F) (F' := F') (k := 70) (hF 70 (by decide))
  have b71 := hd_b (F := F) (F' := F') (k := 71) (hF 71 (by decide))
  have hB' : iv_in F' iv_B4 := iv_in_eq hB (fun j hj => hF j (Nat.lt_of_lt_of_le hj (by decide +kernel)))
  refine ⟨List.forall_mem_cons.mpr ⟨hd_p0 b6 rfl (by have hc : ((0) : Int32).toInt = 0 := (by decide); omega), List.forall_mem_cons.mpr ⟨hd_pb b4 (by first | exact h1 | exact h1), List.forall_mem_cons.mpr ⟨hd_p1 t72 rfl (by have hc : ((13) : Int32).toInt = 13 := (by decide); omega), List.forall_mem_cons.mpr ⟨hd_p4 b6 rfl (by have hc : ((0) : Int32).toInt = 0 := (by decide); omega), List.forall_mem_cons.mpr ⟨hd_pb b4 (by first | exact h4 | exact h4), List.forall_mem_cons.mpr ⟨hd_pb b14 (by first | exact h5 | exact h5), fun _ h => absurd h List.not_mem_nil⟩⟩⟩⟩⟩⟩, ?_⟩
  refine k _ ?_ ?_ ?_ ?_ ?_ ?_ ?_
  · exact fun j hj hn => (hd_keep hB' (Nat.lt_of_lt_of_le hj (by decide +kernel)) (by simp; omega)).trans (hF j (Nat.lt_of_lt_of_le hj (by decide)))
  · exact hd_gi (x := .inl (.int 1)) (by decide +kernel) rfl
  · exact hd_gi (x := .inr (.inl 73)) (by decide +kernel) t73
  · exact hd_ga (a := .inr (.inl 74)) (by decide +kernel) t74
  · exact hd_gi (x := .inr (.inl 69)) (by decide +kernel) b69
  · exact hd_gi (x := .inr (.inl 70)) (by decide +kernel) b70
  · exact hd_gi (x := .inr (.inl 71)) (by decide +kernel) b71
theorem tl_80_p2 {Ls : Nat} {xs : Nat → Int32} {d : Nat} {Q : Option Value → jm_h → Prop} (hd : 4 ≤ d) (F : Nat → sy_d) (X1 X2 : List jm_c) (hB : iv_in F iv_B4)
    (h0 : (sy_i F 6).toInt = 0)
    (h1 : 0 ≤ (sy_i F 4).toInt ∧ (sy_i F 4).toInt < 403)
    (h2 : ((sy_ai F 25).getD (sy_i F 4).toNatClampNeg 0).toInt = 13)
    (h3 : (sy_i F 4).toInt ≠ 400)
    (h4 : 0 ≤ (sy_i F 14).toInt ∧ (sy_i F 14).toInt < 260)
    (h5 : (sy_i F 6).toInt = 0)
    (k : ∀ F1 : Nat → sy_d, (∀ j, j < 69 → j ≠ 4 ∧ j ≠ 46 → F1 j = F j) → F1 4 = .inl (.int ((sy_i F 4) + ((1 : Int32)))) → F1 46 = .inr (.inl (jm_upd (sy_ai F 46) (sy_i F 14).toNatClampNeg (sy_i F 15))) → F1 69 = .inl (.int (sy_i F 69)) → F1 70 = .inl (.int (sy_i F 70)) → F1 71 = .inl (.int (sy_i F 71)) → hd_W Ls xs d jm_M160 Q (107, sy_dL F1 [some (.inl (.ref 1000)), some (.inr (.inl 69)), some (.inr (.inl 70)), some (.inr (.inl 71))], sy_dS F1 [.inl (.ref 1000)], sy_dh F1 X1 X2 (iv_H 4), 0, 0)) :
    hd_W Ls xs d jm_M160 Q (80, sy_dL F [some (.inl (.ref 1000)), some (.inr (.inl 69)), some (.inr (.inl 70)), some (.inr (.inl 71))], sy_dS F [], sy_dh F X1 X2 (iv_H 4), 0, 0) := by
  refine hd_run (s := 4) (nv := 72) (pc := 107) (L := [some (.inl (.ref 1000)), some (.inr (.inl 69)), some (.inr (.inl 70)), some (.inr (.inl 71))]) (S := [.inl (.ref 1000)]) (uh := hd_ov (iv_id 0 iv_B4) [(4, .inl (.inr (.inl 73))), (46, .inr (.inr (.inl 74)))]) (ul := [.inl (.inr (.inl 69)), .inl (.inr (.inl 70)), .inl (.inr (.inl 71))]) (f := false) (sp := [107, 110]) (d0 := 3) (O := [false, false, true, false]) (T := [(30, [.inr (.inl 4)], [.inr (.inl 25)]), (0, [.inr (.inl 4), .inl (.int 1)], []), (40, [.inr (.inl 14), .inr (.inl 15)], [.inr (.inl 46)])]) (P := [(0, .inr (.inl 6), .inl (.int 0)), (6, .inr (.inl 4), .inl (.ref 403)), (0, .inr (.inl 72), .inl (.int 13)), (1, .inr (.inl 4), .inl (.int 400)), (6, .inr (.inl 14), .inl (.ref 260)), (0, .inr (.inl 6), .inl (.int 0))]) jm_ok160 (by decide +kernel) (by decide +kernel) hd F X1 X2 (fun F' hF hs => ?_)
  have b6 := hd_b (F := F) (F' := F') (k := 6) (hF 6 (by decide))
  have b4 := hd_b (F := F) (F' := F') (k := 4) (hF 4 (by decide))
  have a25 := hd_ba (F := F) (F' := F') (k := 25) (hF 25 (by decide))
  have t72 : sy_dv F' (.inr (.inl 72)) = .int ((sy_ai F 25).getD (sy_i F 4).toNatClampNeg 0) := hd_rd (hs 0 _ rfl) b4 a25
  have b14 := hd_b (F := F) (F' := F') (k := 14) (hF 14 (by decide))
  have t73 : sy_dv F' (.inr (.inl 73)) = .int ((sy_i F 4) + ((1 : Int32))) := hd_o (hs 1 _ rfl) b4 rfl rfl
  have b15 := hd_b (F := F) (F' := F') (k := 15) (hF 15 (by decide))
  have a46 := hd_ba (F := F) (F' := F') (k := 46) (hF 46 (by decide))
  have t74 : sy_da F' (.inr (.inl 74)) = .inl (jm_upd (sy_ai F 46) (sy_i F 14).toNatClampNeg (sy_i F 15)) := hd_up (hs 2 _ rfl) b14 b15 a46
  have b69 := hd_b (F := F) (F' := F') (k := 69) (hF 69 (by decide))
  have b70 := hd_b (F := F) (F' := F') (k := 70) (hF 70 (by decide))
  have b71 := hd_b (F := F) (F' := F') (k := 71) (hF 71 (by decide))
  have hB' : iv_in F' iv_B4 := iv_in_eq hB (fun j hj => hF j (Nat.lt_of_lt_of_le hj (by decide +kernel)))
  refine ⟨List.forall_mem_cons.mpr ⟨hd_p0 b6 rfl (by have hc : ((0) : Int32).toInt = 0 := (by decide); omega), List.forall_mem_cons.mpr ⟨hd_pb b4 (by first | exact h1 | exact h1), List.forall_mem_cons.mpr ⟨hd_p0 t72 rfl (by have hc : ((13) : Int32).toInt = 13 := (by decide); omega), List.forall_mem_cons.mpr ⟨hd_p1 b4 rfl (by have hc : ((400) : Int32).toInt = 400 := (by decide); omega), List.forall_mem_cons.mpr ⟨hd_pb b14 (by first | exact h4 | exact h4), List.forall_mem_cons.mpr ⟨hd_p0 b6 rfl (by have hc : ((0) : Int32).toInt = 0 := (by decide); omega), fun _ h => absurd h List.not_mem_nil⟩⟩⟩⟩⟩⟩, ?_⟩
  refine k _ ?_ ?_ ?_ ?_ ?_ ?_
  · exact fun j hj hn => (hd_keep hB' (Nat.lt_of_lt_of_le hj (by decide +kernel)) (by simp; omega)).trans (hF j (Nat.lt_of_lt_of_le hj (by decide)))
  · exact hd_gi (x := .inr (.inl 73)) (by decide +kernel) t73
  · exact hd_ga (a := .inr (.inl 74)) (by decide +kernel) t74
  · exact hd_gi (x := .inr (.inl 69)) (by decide +kernel) b69
  · exact hd_gi (x := .inr (.inl 70)) (by decide +kernel) b70
  · exact hd_gi (x := .inr (.inl 71)) (by decide +kernel) b71
theorem tl_80_p3 {Ls : Nat} {xs : Nat → Int32} {d : Nat} {Q : Option Value → jm_h → Prop} (hd : 4 ≤ d) (F : Nat → sy_d) (X1 X2 : List jm_c) (hB : iv_in F iv_B4)
    (h0 : (sy_i F 6).toInt = 0)
    (h1 : 0 ≤ (sy_i F 4).toInt ∧ (sy_i F 4).toInt < 403)
    (h2 : ((sy_ai F 25).getD (sy_i F 4).toNatClampNeg 0).toInt = 13)
    (h3 : (sy_i F 4).toInt = 400)
    (h4 : (sy_i F 6).toInt ≤ 0)
    (h5 : 0 ≤ (sy_i F 4).toInt ∧ (sy_i F 4).toInt < 403)
    (h6 : 0 ≤ (sy_i F 14).toInt ∧ (sy_i F 14).toInt < 260)
    (k : ∀ F1 : Nat → sy_d, (∀ j, j < 69 → j ≠ 6 ∧ j ≠ 7 ∧ j ≠ 46 → F1 j = F j) → F1 6 = .inl (.int ((2 : Int32))) → F1 7 = .inl (.int ((sy_ai F 26).getD (sy_i F 4).toNatClampNeg 0)) → F1 46 = .inr (.inl (jm_upd (sy_ai F 46) (sy_i F 14).toNatClampNeg (sy_i F 15))) → F1 69 = .inl (.int (sy_i F 69)) → F1 70 = .inl (.int (sy_i F 70)) → F1 71 = .inl (.int (sy_i F 71)) → hd_W Ls xs d jm_M160 Q (110, sy_dL F1 [some (.inl (.ref 1000)), some (.inr (.inl 69)), some (.inr (.inl 70)), some (.inr (.inl 71))], sy_dS F1 [], sy_dh F1 X1 X2 (iv_H 4), 0, 0)) :
    hd_W Ls xs d jm_M160 Q (80, sy_dL F [some (.inl (.ref 1000)), some (.inr (.inl 69)), some (.inr (.inl 70)), some (.inr (.inl 71))], sy_dS F [], sy_dh F X1 X2 (iv_H 4), 0, 0) := by
  refine hd_run (s := 4) (nv := 72) (pc := 110) (L := [some (.inl (.ref 1000)), some (.inr (.inl 69)), some (.inr (.inl 70)), some (.inr (.inl 71))]) (S := []) (uh := hd_ov (iv_id 0 iv_B4) [(6, .inl (.inl (.int 2))), (7, .inl (.inr (.inl 73))), (46, .inr (.inr (.inl 74)))]) (ul := [.inl (.inr (.inl 69)), .inl (.inr (.inl 70)), .inl (.inr (.inl 71))]) (f := false) (sp := [107, 110]) (d0 := 3) (O := [false, false, false, true]) (T := [(30, [.inr (.inl 4)], [.inr (.inl 25)]), (30, [.inr (.inl 4)], [.inr (.inl 26)]), (40, [.inr (.inl 14), .inr (.inl 15)], [.inr (.inl 46)])]) (P := [(0, .inr (.inl 6), .inl (.int 0)), (6, .inr (.inl 4), .inl (.ref 403)), (0, .inr (.inl 72), .inl (.int 13)), (0, .inr (.inl 4), .inl (.int 400)), (4, .inr (.inl 6), .inl (.int 0)), (6, .inr (.inl 4), .inl (.ref 403)), (6, .inr (.inl 14), .inl (.ref 260))]) jm_ok160 (by decide +kernel) (by decide +kernel) hd F X1 X2 (fun F' hF hs => ?_)
  have b6 := hd_b (F := F) (F' := F') (k := 6) (hF 6 (by decide))
  have b4 := hd_b (F := F) (F' := F') (k := 4) (hF 4 (by decide))
  have a25 := hd_ba (F := F) (F' := F') (k := 25) (hF 25 (by decide))
  have t72 : sy_dv F' (.inr (.inl 72)) = .int ((sy_ai F 25).getD (sy_i F 4).toNatClampNeg 0) := hd_rd (hs 0 _ rfl) b4 a25
  have b14 := hd_b (F := F) (F' := F') (k := 14) (hF 14 (by decide))
  have a26 := hd_ba (F := F) (F' := F') (k := 26) (hF 26 (by decide))
  have t73 : sy_dv F' (.inr (.inl 73)) = .int ((sy_ai F 26).getD (sy_i F 4).toNatClampNeg 0) := hd_rd (hs 1 _ rfl) b4 a26
  have b15 := hd_b (F := F) (F' := F') (k := 15) (hF 15 (by decide))
  have a46 := hd_ba (F := F) (F' := F') (k := 46) (hF 46 (by decide))
  have t74 : sy_da F' (.inr (.inl 74)) = .inl (jm_upd (sy_ai F 46) (sy_i F 14).toNatClampNeg (sy_i F 15)) := hd_up (hs 2 _ rfl) b14 b15 a46
  have b69 := hd_b (F := F) (F' := F') (k := 69) (hF 69 (by decide))
  have b70 := hd_b (F := F) (F' := F') (k := 70) (hF 70 (by decide))
  have b71 := hd_b (F := F) (F' := F') (k := 71) (hF 71 (by decide))
  have hB' : iv_in F' iv_B4 := iv_in_eq hB (fun j hj => hF j (Nat.lt_of_lt_of_le hj (by decide +kernel)))
  refine ⟨List.forall_mem_cons.mpr ⟨hd_p0 b6 rfl (by have hc : ((0) : Int32).toInt = 0 := (by decide); omega), List.forall_mem_cons.mpr ⟨hd_pb b4 (by first | exact h1 | exact h1), List.forall_mem_cons.mpr ⟨hd_p0 t72 rfl (by have hc : ((13) : Int32).toInt = 13 := (by decide); omega), List.forall_mem_cons.mpr ⟨hd_p0 b4 rfl (by have hc : ((400) : Int32).toInt = 400 := (by decide); omega), List.forall_mem_cons.mpr ⟨hd_p4 b6 rfl (by have hc : ((0) : Int32).toInt = 0 := (by decide); omega), List.forall_mem_cons.mpr ⟨hd_pb b4 (by first | exact h5 | exact h5), List.forall_mem_cons.mpr ⟨hd_pb b14 (by first | exact h6 | exact h6), fun _ h => absurd h List.not_mem_nil⟩⟩⟩⟩⟩⟩⟩, ?_⟩
  refine k _ ?_ ?_ ?_ ?_ ?_ ?_ ?_
  · exact fun j hj hn => (hd_keep hB' (Nat.lt_of_lt_of_le hj (by decide +kernel)) (by simp; omega)).trans (hF j (Nat.lt_of_lt_of_le hj (by decide)))
  · exact hd_gi (x := .inl (.int 2)) (by decide +kernel) rfl
  · exact hd_gi (x := .inr (.inl 73)) (by decide +kernel) t73
  · exact hd_ga (a := .inr (.inl 74)) (by decide +kernel) t74
  · exact hd_gi (x := .inr (.inl 69)) (by decide +kernel) b69
  · exact hd_gi (x := .inr (.inl 70)) (by decide +kernel) b70
  · exact hd_gi (x := .inr (.inl 71)) (by decide +kernel) b71
theorem tl_110_p0 {Ls : Nat} {xs : Nat → Int32} {d : Nat} {Q : Option Value → jm_h → Prop} (hd : 4 ≤ d) (F : Nat → sy_d) (X1 X2 : List jm_c) (hB : iv_in F iv_B4)
    (h0 : (sy_i F 6).toInt ≠ 0)
    (h1 : 0 < (sy_i F 6).toInt)
    (k : ∀ F1 : Nat → sy_d, (∀ j, j < 69 → True → F1 j = F j) → F1 69 = .inl (.int (sy_i F 69)) → F1 70 = .inl (.int (sy_i F 70)) → F1 71 = .inl (.int (sy_i F 71)) → hd_W Ls xs d jm_M160 Q (117, sy_dL F1 [some (.inl (.ref 1000)), some (.inr (.inl 69)), some (.inr (.inl 70)), some (.inr (.inl 71))], sy_dS F1 [.inl (.ref 1000)], sy_dh F1 X1 X2 (iv_H 4), 0, 0)) :
    hd_W Ls xs d jm_M160 Q (110, sy_dL F [some (.inl (.ref 1000)), some (.inr (.inl 69)), some (.inr (.inl 70)), some (.inr (.inl 71))], sy_dS F [], sy_dh F X1 X2 (iv_H 4), 0, 0) := by
  refine hd_run (s := 4) (nv := 72) (pc := 117) (L := [some (.inl (.ref 1000)), some (.inr (.inl 69)), some (.inr (.inl 70)), some (.inr (.inl 71))]) (S := [.inl (.ref 1000)]) (uh := hd_ov (iv_id 0 iv_B4) []) (ul := [.inl (.inr (.inl 69)), .inl (.inr (.inl 70)), .inl (.inr (.inl 71))]) (f := true) (sp := [117]) (d0 := 3) (O := [true, false]) (T := []) (P := [(1, .inr (.inl 6), .inl (.int 0)), (5, .inr (.inl 6), .inl (.int 0))]) jm_ok160 (by decide +kernel) (by decide +kernel) hd F X1 X2 (fun F' hF hs => ?_)
  have b6 := hd_b (F := F) (F' := F') (k := 6) (hF 6 (by decide))
  have b69 := hd_b (F := F) (F' := F') (k := 69) (hF 69 (by decide))
  have b70 := hd_b (F := F) (F' := F') (k := 70) (hF 70 (by decide))
  have b71 := hd_b (F := F) (F' := F') (k := 71) (hF 71 (by decide))
  have hB' : iv_in F' iv_B4 := iv_in_eq hB (fun j hj => hF j (Nat.lt_of_lt_of_le hj (by decide +kernel)))
  refine ⟨List.forall_mem_cons.mpr ⟨hd_p1 b6 rfl (by have hc : ((0) : Int32).toInt = 0 := (by decide); omega), List.forall_mem_cons.mpr ⟨hd_p5 b6 rfl (by have hc : ((0) : Int32).toInt = 0 := (by decide); omega), fun _ h => absurd h List.not_mem_nil⟩⟩, ?_⟩
  refine k _ ?_ ?_ ?_ ?_
  · exact fun j hj _ => (hd_keep hB' (Nat.lt_of_lt_of_le hj (by decide +kernel)) (by simp)).trans (hF j (Nat.lt_of_lt_of_le hj (by decide)))
  · exact hd_gi (x := .inr (.inl 69)) (by decide +kernel) b69
  · exact hd_gi (x := .inr (.inl 70)) (by decide +kernel) b70
  · exact hd_gi (x := .inr (.inl 71)) (by decide +kernel) b71
theorem tl_110_p1 {Ls : Nat} {xs : Nat → Int32} {d : Nat} {Q : Option Value → jm_h → Prop} (hd : 4 ≤ d) (F : Nat → sy_d) (X1 X2 : List jm_c) (hB : iv_in F iv_B4)
    (h0 : (sy_i F 6).toInt = 0)
    (h1 : 0 ≤ (sy_i F 4).toInt ∧ (sy_i F 4).toInt < 403)
    (h2 : ((sy_ai F 25).getD (sy_i F 4).toNatClampNeg 0).toInt ≠ 32)
    (h3 : (sy_i F 6).toInt ≤ 0)
    (h4 : 0 ≤ (sy_i F 4).toInt ∧ (sy_i F 4).toInt < 403)
    (k : ∀ F1 : Nat → sy_d, (∀ j, j < 69 → j ≠ 6 ∧ j ≠ 7 → F1 j = F j) → F1 6 = .inl (.int ((1 : Int32))) → F1 7 = .inl (.int ((sy_ai F 26).getD (sy_i F 4).toNatClampNeg 0)) → F1 69 = .inl (.int (sy_i F 69)) → F1 70 = .inl (.int (sy_i F 70)) → F1 71 = .inl (.int (sy_i F 71)) → hd_W Ls xs d jm_M160 Q (117, sy_dL F1 [some (.inl (.ref 1000)), some (.inr (.inl 69)), some (.inr (.inl 70)), some (.inr (.inl 71))], sy_dS F1 [.inl (.ref 1000)], sy_dh F1 X1 X2 (iv_H 4), 0, 0)) :
    hd_W Ls xs d jm_M160 Q (110, sy_dL F [some (.inl (.ref 1000)), some (.inr (.inl 69)), some (.inr (.inl 70)), some (.inr (.inl 71))], sy_dS F [], sy_dh F X1 X2 (iv_H 4), 0, 0) := by
  refine hd_run (s := 4) (nv := 72) (pc := 117) (L := [some (.inl (.ref 1000)), some (.inr (.inl 69)), some (.inr (.inl 70)), some (.inr (.inl 71))]) (S := [.inl (.ref 1000)]) (uh := hd_ov (iv_id 0 iv_B4) [(6, .inl (.inl (.int 1))), (7, .inl (.inr (.inl 73)))]) (ul := [.inl (.inr (.inl 69)), .inl (.inr (.inl 70)), .inl (.inr (.inl 71))]) (f := true) (sp := [117]) (d0 := 3) (O := [false, true, true]) (T := [(30, [.inr (.inl 4)], [.inr (.inl 25)]), (30, [.inr (.inl 4)], [.inr (.inl 26)])]) (P := [(0, .inr (.inl 6), .inl (.int 0)), (6, .inr (.inl 4), .inl (.ref 403)), (1, .inr (.inl 72), .inl (.int 32)), (4, .inr (.inl 6), .inl (.int 0)), (6, .inr (.inl 4), .inl (.ref 403))]) jm_ok160 (by decide +kernel) (by decide +kernel) hd F X1 X2 (fun F' hF hs => ?_)
  have b6 := hd_b (F := F) (F' := F') (k := 6) (hF 6 (by decide))
  have b4 := hd_b (F := F) (F' := F') (k := 4) (hF 4 (by decide))
  have a25 := hd_ba (F := F) (F' := F') (k := 25) (hF 25 (by decide))
  have t72 : sy_dv F' (.inr (.inl 72)) = .int ((sy_ai F 25).getD (sy_i F 4).toNatClampNeg 0) := hd_rd (hs 0 _ rfl) b4 a25
  have a26 := hd_ba (F := F) (F' := F') (k := 26) (hF 26 (by decide))
  have t73 : sy_dv F' (.inr (.inl 73)) = .int ((sy_ai F 26).getD (sy_i F 4).toNatClampNeg 0) := hd_rd (hs 1 _ rfl) b4 a26
  have b69 := hd_b (F := F) (F' := F') (k := 69) (hF 69 (by decide))
  have b70 := hd_b (F := F) (F' := F') (k := 70) (hF 70 (by decide))
  have b71 := hd_b (F := F) (F' := F') (k := 71) (hF 71 (by decide))
  have hB' : iv_in F' iv_B4 := iv_in_eq hB (fun j hj => hF j (Nat.lt_of_lt_of_le hj (by decide +kernel)))
  refine ⟨List.forall_mem_cons.mpr ⟨hd_p0 b6 rfl (by have hc : ((0) : Int32).toInt = 0 := (by decide); omega), List.forall_mem_cons.mpr ⟨hd_pb b4 (by first | exact h1 | exact h1), List.forall_mem_cons.mpr ⟨hd_p1 t72 rfl (by have hc : ((32) : Int32).toInt = 32 := (by decide); omega), List.forall_mem_cons.mpr ⟨hd_p4 b6 rfl (by have hc : ((0) : Int32).toInt = 0 := (by decide); omega), List.forall_mem_cons.mpr ⟨hd_pb b4 (by first | exact h4 | exact h4), fun _ h => absurd h List.not_mem_nil⟩⟩⟩⟩⟩, ?_⟩
  refine k _ ?_ ?_ ?_ ?_ ?_ ?_
  · exact fun j hj hn => (hd_keep hB' (Nat.lt_of_lt_of_le hj (by decide +kernel)) (by simp; omega)).trans (hF j (Nat.lt_of_lt_of_le hj (by decide)))
  · exact hd_gi (x := .inl (.int 1)) (by decide +kernel) rfl
  · exact hd_gi (x := .inr (.inl 73)) (by decide +kernel) t73
  · exact hd_gi (x := .inr (.inl 69)) (by decide +kernel) b69
  · exact hd_gi (x := .inr (.inl 70)) (by decide +kernel) b70
  · exact hd_gi (x := .inr (.inl 71)) (by decide +kernel) b71
theorem tl_110_p2 {Ls : Nat} {xs : Nat → Int32} {d : Nat} {Q : Option Value → jm_h → Prop} (hd : 4 ≤ d) (F : Nat → sy_d) (X1 X2 : List jm_c) (hB : iv_in F iv_B4)
    (h0 : (sy_i F 6).toInt = 0)
    (h1 : 0 ≤ (sy_i F 4).toInt ∧ (sy_i F 4).toInt < 403)
    (h2 : ((sy_ai F 25).getD (sy_i F 4).toNatClampNeg 0).toInt = 32)
    (h3 : (sy_i F 4).toInt ≠ 400)
    (k : ∀ F1 : Nat → sy_d, (∀ j, j < 69 → j ≠ 4 → F1 j = F j) → F1 4 = .inl (.int ((sy_i F 4) + ((1 : Int32)))) → F1 69 = .inl (.int (sy_i F 69)) → F1 70 = .inl (.int (sy_i F 70)) → F1 71 = .inl (.int (sy_i F 71)) → hd_W Ls xs d jm_M160 Q (117, sy_dL F1 [some (.inl (.ref 1000)), some (.inr (.inl 69)), some (.inr (.inl 70)), some (.inr (.inl 71))], sy_dS F1 [.inl (.ref 1000)], sy_dh F1 X1 X2 (iv_H 4), 0, 0)) :
    hd_W Ls xs d jm_M160 Q (110, sy_dL F [some (.inl (.ref 1000)), some (.inr (.inl 69)), some (.inr (.inl 70)), some (.inr (.inl 71))], sy_dS F [], sy_dh F X1 X2 (iv_H 4), 0, 0) := by
  refine hd_run (s := 4) (nv := 72) (pc := 117) (L := [some (.inl (.ref 1000)), some (.inr (.inl 69)), some (.inr (.inl 70)), some (.inr (.inl 71))]) (S := [.inl (.ref 1000)]) (uh := hd_ov (iv_id 0 iv_B4) [(4, .inl (.inr (.inl 73)))]) (ul := [.inl (.inr (.inl 69)), .inl (.inr (.inl 70)), .inl (.inr (.inl 71))]) (f := true) (sp := [117]) (d0 := 3) (O := [false, false, true]) (T := [(30, [.inr (.inl 4)], [.inr (.inl 25)]), (0, [.inr (.inl 4), .inl (.int 1)], [])]) (P := [(0, .inr (.inl 6), .inl (.int 0)), (6, .inr (.inl 4), .inl (.ref 403)), (0, .inr (.inl 72), .inl (.int 32)), (1, .inr (.inl 4), .inl (.int 400))]) jm_ok160 (by decide +kernel) (by decide +kernel) hd F X1 X2 (fun F' hF hs => ?_)
  have b6 := hd_b (F := F) (F' := F') (k := 6) (hF 6 (by decide))
  have b4 := hd_b (F := F) (F' := F') (k := 4) (hF 4 (by decide))
  have a25 := hd_ba (F := F) (F' := F') (k := 25) (hF 25 (by decide))
  have t72 : sy_dv F' (.inr (.inl 72)) = .int ((sy_ai F 25).getD (sy_i F 4).toNatClampNeg 0) := hd_rd (hs 0 _ rfl) b4 a25
  have t73 : sy_dv F' (.inr (.inl 73)) = .int ((sy_i F 4) + ((1 : Int32))) := hd_o (hs 1 _ rfl) b4 rfl rfl
  have b69 := hd_b (F := F) (F' := F') (k := 69) (hF 69 (by decide))
  have b70 := hd_b (F := F) (F' := F') (k := 70) (hF 70 (by decide))
  have b71 := hd_b (F := F) (F' := F') (k := 71) (hF 71 (by decide))
  have hB' : iv_in F' iv_B4 := iv_in_eq hB (fun j hj => hF j (Nat.lt_of_lt_of_le hj (by decide +kernel)))
  refine ⟨List.forall_mem_cons.mpr ⟨hd_p0 b6 rfl (by have hc : ((0) : Int32).toInt = 0 := (by decide); omega), List.forall_mem_cons.mpr ⟨hd_pb b4 (by first | exact h1 | exact h1), List.forall_mem_cons.mpr ⟨hd_p0 t72 rfl (by have hc : ((32) : Int32).toInt = 32 := (by decide); omega), List.forall_mem_cons.mpr ⟨hd_p1 b4 rfl (by have hc : ((400) : Int32).toInt = 400 := (by decide); omega), fun _ h => absurd h List.not_mem_nil⟩⟩⟩⟩, ?_⟩
  refine k _ ?_ ?_ ?_ ?_ ?_
  · exact fun j hj hn => (hd_keep hB' (Nat.lt_of_lt_of_le hj (by decide +kernel)) (by simp; omega)).trans (hF j (Nat.lt_of_lt_of_le hj (by decide)))
  · exact hd_gi (x := .inr (.inl 73)) (by decide +kernel) t73
  · exact hd_gi (x := .inr (.inl 69)) (by decide +kernel) b69
  · exact hd_gi (x := .inr (.inl 70)) (by decide +kernel) b70
  · exact hd_gi (x := .inr (.inl 71)) (by decide +kernel) b71
theorem tl_110_p3 {Ls : Nat} {xs : Nat → Int32} {d : Nat} {Q : Option Value → jm_h → Prop} (hd : 4 ≤ d) (F : Nat → sy_d) (X1 X2 : List jm_c) (hB : iv_in F iv_B4)
    (h0 : (sy_i F 6).toInt = 0)
    (h1 : 0 ≤ (sy_i F 4).toInt ∧ (sy_i F 4).toInt < 403)
    (h2 : ((sy_ai F 25).getD (sy_i F 4).toNatClampNeg 0).toInt = 32)
    (h3 : (sy_i F 4).toInt = 400)
    (h4 : (sy_i F 6).toInt ≤ 0)
    (h5 : 0 ≤ (sy_i F 4).toInt ∧ (sy_i F 4).toInt < 403)
    (k : ∀ F1 : Nat → sy_d, (∀ j, j < 69 → j ≠ 6 ∧ j ≠ 7 → F1 j = F j) → F1 6 = .inl (.int ((2 : Int32))) → F1 7 = .inl (.int ((sy_ai F 26).getD (sy_i F 4).toNatClampNeg 0)) → F1 69 = .inl (.int (sy_i F 69)) → F1 70 = .inl (.int (sy_i F 70)) → F1 71 = .inl (.int (sy_i F 71)) → hd_W Ls xs d jm_M160 Q (117, sy_dL F1 [some (.inl (.ref 1000)), some (.inr (.inl 69)), some (.inr (.inl 70)), some (.inr (.inl 71))], sy_dS F1 [.inl (.ref 1000)], sy_dh F1 X1 X2 (iv_H 4), 0, 0)) :
    hd_W Ls xs d jm_M160 Q (110, sy_dL F [some (.inl (.ref 1000)), some (.inr (.inl 69)), some (.inr (.inl 70)), some (.inr (.inl 71))], sy_dS F [], sy_dh F X1 X2 (iv_H 4), 0, 0) := by
  refine hd_run (s := 4) (nv := 72) (pc := 117) (L := [some (.inl (.ref 1000)), some (.inr (.inl 69)), some (.inr (.inl 70)), some (.inr (.inl 71))]) (S := [.inl (.ref 1000)]) (uh := hd_ov (iv_id 0 iv_B4) [(6, .inl (.inl (.int 2))), (7, .inl (.inr (.inl 73)))]) (ul := [.inl (.inr (.inl 69)), .inl (.inr (.inl 70)), .inl (.inr (.inl 71))]) (f := true) (sp := [117]) (d0 := 3) (O := [false, false, false, true]) (T := [(30, [.inr (.inl 4)], [.inr (.inl 25)]), (30, [.inr (.inl 4)], [.inr (.inl 26)])]) (P := [(0, .inr (.inl 6), .inl (.int 0)), (6, .inr (.inl 4), .inl (.ref 403)), (0, .inr (.inl 72), .inl (.int 32)), (0, .inr (.inl 4), .inl (.int 400)), (4, .inr (.inl 6), .inl (.int 0)), (6, .inr (.inl 4), .inl (.ref 403))]) jm_ok160 (by decide +kernel) (by decide +kernel) hd F X1 X2 (fun F' hF hs => ?_)
  have b6 := hd_b (F := F) (F' := F') (k := 6) (hF 6 (by decide))
  have b4 := hd_b (F := F) (F' := F') (k := 4) (hF 4 (by decide))
  have a25 := hd_ba (F := F) (F' := F') (k := 25) (hF 25 (by decide))
  have t72 : sy_dv F' (.inr (.inl 72)) = .int ((sy_ai F 25).getD (sy_i F 4).toNatClampNeg 0) := hd_rd (hs 0 _ rfl) b4 a25
  have a26 := hd_ba (F := F) (F' := F') (k := 26) (hF 26 (by decide))
  have t73 : sy_dv F' (.inr (.inl 73)) = .int ((sy_ai F 26).getD (sy_i F 4).toNatClampNeg 0) := hd_rd (hs 1 _ rfl) b4 a26
  have b69 := hd_b (F := F) (F' := F') (k := 69) (hF 69 (by decide))
  have b70 := hd_b (F := F) (F' := F') (k := 70) (hF 70 (by decide))
  have b71 := hd_b (F := F) (F' := F') (k := 71) (hF 71 (by decide))
  have hB' : iv_in F' iv_B4 := iv_in_eq hB (fun j hj => hF j (Nat.lt_of_lt_of_le hj (by decide +kernel)))
  refine ⟨List.forall_mem_cons.mpr ⟨hd_p0 b6 rfl (by have hc : ((0) : Int32).toInt = 0 := (by decide); omega), List.forall_mem_cons.mpr ⟨hd_pb b4 (by first | exact h1 | exact h1), List.forall_mem_cons.mpr ⟨hd_p0 t72 rfl (by have hc : ((32) : Int32).toInt = 32 := (by decide); omega), List.forall_mem_cons.mpr ⟨hd_p0 b4 rfl (by have hc : ((400) : Int32).toInt = 400 := (by decide); omega), List.forall_mem_cons.mpr ⟨hd_p4 b6 rfl (by have hc : ((0) : Int32).toInt = 0 := (by decide); omega), List.forall_mem_cons.mpr ⟨hd_pb b4 (by first | exact h5 | exact h5), fun _ h => absurd h List.not_mem_nil⟩⟩⟩⟩⟩⟩, ?_⟩
  refine k _ ?_ ?_ ?_ ?_ ?_ ?_
  · exact fun j hj hn => (hd_keep hB' (Nat.lt_of_lt_of_le hj (by decide +kernel)) (by simp; omega)).trans (hF j (Nat.lt_of_lt_of_le hj (by decide)))
  · exact hd_gi (x := .inl (.int 2)) (by decide +kernel) rfl
  · exact hd_gi (x := .inr (.inl 73)) (by decide +kernel) t73
  · exact hd_gi (x := .inr (.inl 69)) (by decide +kernel) b69
  · exact hd_gi (x := .inr (.inl 70)) (by decide +kernel) b70
  · exact hd_gi (x := .inr (.inl 71)) (by decide +kernel) b71
theorem tl_120_p0 {Ls : Nat} {xs : Nat → Int32} {d : Nat} {Q : Option Value → jm_h → Prop} (hd : 4 ≤ d) (F : Nat → sy_d) (X1 X2 : List jm_c) (hB : iv_in F iv_B4)
    (h0 : (sy_i F 6).toInt ≠ 0)
    (h1 : 0 < (sy_i F 6).toInt)
    (k : ∀ F1 : Nat → sy_d, (∀ j, j < 69 → True → F1 j = F j) → F1 69 = .inl (.int (sy_i F 69)) → F1 70 = .inl (.int (sy_i F 70)) → F1 71 = .inl (.int (sy_i F 71)) → hd_W Ls xs d jm_M160 Q (12, sy_dL F1 [some (.inl (.ref 1000)), some (.inr (.inl 69)), some (.inr (.inl 70)), some (.inr (.inl 71))], sy_dS F1 [], sy_dh F1 X1 X2 (iv_H 4), 0, 0)) :
    hd_W Ls xs d jm_M160 Q (120, sy_dL F [some (.inl (.ref 1000)), some (.inr (.inl 69)), some (.inr (.inl 70)), some (.inr (.inl 71))], sy_dS F [], sy_dh F X1 X2 (iv_H 4), 0, 0) := by
  refine hd_run (s := 4) (nv := 72) (pc := 12) (L := [some (.inl (.ref 1000)), some (.inr (.inl 69)), some (.inr (.inl 70)), some (.inr (.inl 71))]) (S := []) (uh := hd_ov (iv_id 0 iv_B4) []) (ul := [.inl (.inr (.inl 69)), .inl (.inr (.inl 70)), .inl (.inr (.inl 71))]) (f := false) (sp := [12]) (d0 := 3) (O := [true, false]) (T := []) (P := [(1, .inr (.inl 6), .inl (.int 0)), (5, .inr (.inl 6), .inl (.int 0))]) jm_ok160 (by decide +kernel) (by decide +kernel) hd F X1 X2 (fun F' hF hs => ?_)
  have b6 := hd_b (F := F) (F' := F') (k := 6) (hF 6 (by decide))
  have b69 := hd_b (F := F) (F' := F') (k := 69) (hF 69 (by decide))
  have b70 := hd_b (F := F) (F' := F') (k := 70) (hF 70 (by decide))
  have b71 := hd_b (F := F) (F' := F') (k := 71) (hF 71 (by decide))
  have hB' : iv_in F' iv_B4 := iv_in_eq hB (fun j hj => hF j (Nat.lt_of_lt_of_le hj (by decide +kernel)))
  refine ⟨List.forall_mem_cons.mpr ⟨hd_p1 b6 rfl (by have hc : ((0) : Int32).toInt = 0 := (by decide); omega), List.forall_mem_cons.mpr ⟨hd_p5 b6 rfl (by have hc : ((0) : Int32).toInt = 0 := (by decide); omega), fun _ h => absurd h List.not_mem_nil⟩⟩, ?_⟩
  refine k _ ?_ ?_ ?_ ?_
  · exact fun j hj _ => (hd_keep hB' (Nat.lt_of_lt_of_le hj (by decide +kernel)) (by simp)).trans (hF j (Nat.lt_of_lt_of_le hj (by decide)))
  · exact hd_gi (x := .inr (.inl 69)) (by decide +kernel) b69
  · exact hd_gi (x := .inr (.inl 70)) (by decide +kernel) b70
  · exact hd_gi (x := .inr (.inl 71)) (by decide +kernel) b71
theorem tl_120_p1 {Ls : Nat} {xs : Nat → Int32} {d : Nat} {Q : Option Value → jm_h → Prop} (hd : 4 ≤ d) (F : Nat → sy_d) (X1 X2 : List jm_c) (hB : iv_in F iv_B4)
    (h0 : (sy_i F 6).toInt = 0)
    (h1 : 0 ≤ (sy_i F 4).toInt ∧ (sy_i F 4).toInt < 403)
    (h2 : ((sy_ai F 25).getD (sy_i F 4).toNatClampNeg 0).toInt ≠ 33)
    (h3 : (sy_i F 6).toInt ≤ 0)
    (h4 : 0 ≤ (sy_i F 4).toInt ∧ (sy_i F 4).toInt < 403)
    (k : ∀ F1 : Nat → sy_d, (∀ j, j < 69 → j ≠ 6 ∧ j ≠ 7 → F1 j = F j) → F1 6 = .inl (.int ((1 : Int32))) → F1 7 = .inl (.int ((sy_ai F 26).getD (sy_i F 4).toNatClampNeg 0)) → F1 69 = .inl (.int (sy_i F 69)) → F1 70 = .inl (.int (sy_i F 70)) → F1 71 = .inl (.int (sy_i F 71)) → hd_W Ls xs d jm_M160 Q (12, sy_dL F1 [some (.inl (.ref 1000)), some (.inr (.inl 69)), some (.inr (.inl 70)), some (.inr (.inl 71))], sy_dS F1 [], sy_dh F1 X1 X2 (iv_H 4), 0, 0)) :
    hd_W Ls xs d jm_M160 Q (120, sy_dL F [some (.inl (.ref 1000)), some (.inr (.inl 69)), some (.inr (.inl 70)), some (.inr (.inl 71))], sy_dS F [], sy_dh F X1 X2 (iv_H 4), 0, 0) := by
  refine hd_run (s := 4) (nv := 72) (pc := 12) (L := [some (.inl (.ref 1000)), some (.inr (.inl 69)), some (.inr (.inl 70)), some (.inr (.inl 71))]) (S := []) (uh := hd_ov (iv_id 0 iv_B4) [(6, .inl (.inl (.int 1))), (7, .inl (.inr (.inl 73)))]) (ul := [.inl (.inr (.inl 69)), .inl (.inr (.inl 70)), .inl (.inr (.inl 71))]) (f := false) (sp := [12]) (d0 := 3) (O := [false, true, true]) (T := [(30, [.inr (.inl 4)], [.inr (.inl 25)]), (30, [.inr (.inl 4)], [.inr (.inl 26)])]) (P := [(0, .inr (.inl 6), .inl (.int 0)), (6, .inr (.inl 4), .inl (.ref 403)), (1, .inr (.inl 72), .inl (.int 33)), (4, .inr (.inl 6), .inl (.int 0)), (6, .inr (.inl 4), .inl (.ref 403))]) jm_ok160 (by decide +kernel) (by decide +kernel) hd F X1 X2 (fun F' hF hs => ?_)
  have b6 := hd_b (F := F) (F' := F') (k := 6) (hF 6 (by decide))
  have b4 := hd_b (F := F) (F' := F') (k := 4) (hF 4 (by decide))
  have a25 := hd_ba (F := F) (F' := F') (k := 25) (hF 25 (by decide))
  have t72 : sy_dv F' (.inr (.inl 72)) = .int ((sy_ai F 25).getD (sy_i F 4).toNatClampNeg 0) := hd_rd (hs 0 _ rfl) b4 a25
  have a26 := hd_ba (F := F) (F' := F') (k := 26) (hF 26 (by decide))
  have t73 : sy_dv F' (.inr (.inl 73)) = .int ((sy_ai F 26).getD (sy_i F 4).toNatClampNeg 0) := hd_rd (hs 1 _ rfl) b4 a26
  have b69 := hd_b (F := F) (F' := F') (k := 69) (hF 69 (by decide))
  have b70 := hd_b (F := F) (F' := F') (k := 70) (hF 70 (by decide))
  have b71 := hd_b (F := F) (F' := F') (k := 71) (hF 71 (by decide))
  have hB' : iv_in F' iv_B4 := iv_in_eq hB (fun j hj => hF j (Nat.lt_of_lt_of_le hj (by decide +kernel)))
  refine ⟨List.forall_mem_cons.mpr ⟨hd_p0 b6 rfl (by have hc : ((0) : Int32).toInt = 0 := (by decide); omega), List.forall_mem_cons.mpr ⟨hd_pb b4 (by first | exact h1 | exact h1), List.forall_mem_cons.mpr ⟨hd_p1 t72 rfl (by have hc : ((33) : Int32).toInt = 33 := (by decide); omega), List.forall_mem_cons.mpr ⟨hd_p4 b6 rfl (by have hc : ((0) : Int32).toInt = 0 := (by decide); omega), List.forall_mem_cons.mpr ⟨hd_pb b4 (by first | exact h4 | exact h4), fun _ h => absurd h List.not_mem_nil⟩⟩⟩⟩⟩, ?_⟩
  refine k _ ?_ ?_ ?_ ?_ ?_ ?_
  · exact fun j hj hn => (hd_keep hB' (Nat.lt_of_lt_of_le hj (by decide +kernel)) (by simp; omega)).trans (hF j (Nat.lt_of_lt_of_le hj (by decide)))
  · exact hd_gi (x := .inl (.int 1)) (by decide +kernel) rfl
  · exact hd_gi (x := .inr (.inl 73)) (by decide +kernel) t73
  · exact hd_gi (x := .inr (.inl 69)) (by decide +kernel) b69
  · exact hd_gi (x := .inr (.inl 70)) (by decide +kernel) b70
  · exact hd_gi (x := .inr (.inl 71)) (by decide +kernel) b71
theorem tl_120_p2 {Ls : Nat} {xs : Nat → Int32} {d : Nat} {Q : Option Value → jm_h → Prop} (hd : 4 ≤ d) (F : Nat → sy_d) (X1 X2 : List jm_c) (hB : iv_in F iv_B4)
    (h0 : (sy_i F 6).toInt = 0)
    (h1 : 0 ≤ (sy_i F 4).toInt ∧ (sy_i F 4).toInt < 403)
    (h2 : ((sy_ai F 25).getD (sy_i F 4).toNatClampNeg 0).toInt = 33)
    (h3 : (sy_i F 4).toInt ≠ 400)
    (k : ∀ F1 : Nat → sy_d, (∀ j, j < 69 → j ≠ 4 → F1 j = F j) → F1 4 = .inl (.int ((sy_i F 4) + ((1 : Int32)))) → F1 69 = .inl (.int (sy_i F 69)) → F1 70 = .inl (.int (sy_i F 70)) → F1 71 = .inl (.int (sy_i F 71)) → hd_W Ls xs d jm_M160 Q (12, sy_dL F1 [some (.inl (.ref 1000)), some (.inr (.inl 69)), some (.inr (.inl 70)), some (.inr (.inl 71))], sy_dS F1 [], sy_dh F1 X1 X2 (iv_H 4), 0, 0)) :
    hd_W Ls xs d jm_M160 Q (120, sy_dL F [some (.inl (.ref 1000)), some (.inr (.inl 69)), some (.inr (.inl 70)), some (.inr (.inl 71))], sy_dS F [], sy_dh F X1 X2 (iv_H 4), 0, 0) := by
  refine hd_run (s := 4) (nv := 72) (pc := 12) (L := [some (.inl (.ref 1000)), some (.inr (.inl 69)), some (.inr (.inl 70)), some (.inr (.inl 71))]) (S := []) (uh := hd_ov (iv_id 0 iv_B4) [(4, .inl (.inr (.inl 73)))]) (ul := [.inl (.inr (.inl 69)), .inl (.inr (.inl 70)), .inl (.inr (.inl 71))]) (f := false) (sp := [12]) (d0 := 3) (O := [false, false, true]) (T := [(30, [.inr (.inl 4)], [.inr (.inl 25)]), (0, [.inr (.inl 4), .inl (.int 1)], [])]) (P := [(0, .inr (.inl 6), .inl (.int 0)), (6, .inr (.inl 4), .inl (.ref 403)), (0, .inr (.inl 72), .inl (.int 33)), (1, .inr (.inl 4), .inl (.int 400))]) jm_ok160 (by decide +kernel) (by decide +kernel) hd F X1 X2 (fun F' hF hs => ?_)
  have b6 := hd_b (F := F) (F' := F') (k := 6) (hF 6 (by decide))
  have b4 := hd_b (F := F) (F' := F') (k := 4) (hF 4 (by decide))
  have a25 := hd_ba (F := F) (F' := F') (k := 25) (hF 25 (by decide))
  have t72 : sy_dv F' (.inr (.inl 72)) = .int ((sy_ai F 25).getD (sy_i F 4).toNatClampNeg 0) := hd_rd (hs 0 _ rfl) b4 a25
  have t73 : sy_dv F' (.inr (.inl 73)) = .int ((sy_i F 4) + ((1 : Int32))) := hd_o (hs 1 _ rfl) b4 rfl rfl
  have b69 := hd_b (F := F) (F' := F') (k := 69) (hF 69 (by decide))
  have b70 := hd_b (F := F) (F' := F') (k := 70) (hF 70 (by decide))
  have b71 := hd_b (F := F) (F' := F') (k := 71) (hF 71 (by decide))
  have hB' : iv_in F' iv_B4 := iv_in_eq hB (fun j hj => hF j (Nat.lt_of_lt_of_le hj (by decide +kernel)))
  refine ⟨List.forall_mem_cons.mpr ⟨hd_p0 b6 rfl (by have hc : ((0) : Int32).toInt = 0 := (by decide); omega), List.forall_mem_cons.mpr ⟨hd_pb b4 (by first | exact h1 | exact h1), List.forall_mem_cons.mpr ⟨hd_p0 t72 rfl (by have hc : ((33) : Int32).toInt = 33 := (by decide); omega), List.forall_mem_cons.mpr ⟨hd_p1 b4 rfl (by have hc : ((400) : Int32).toInt = 400 := (by decide); omega), fun _ h => absurd h List.not_mem_nil⟩⟩⟩⟩, ?_⟩
  refine k _ ?_ ?_ ?_ ?_ ?_
  · exact fun j hj hn => (hd_keep hB' (Nat.lt_of_lt_of_le hj (by decide +kernel)) (by simp; omega)).trans (hF j (Nat.lt_of_lt_of_le hj (by decide)))
  · exact hd_gi (x := .inr (.inl 73)) (by decide +kernel) t73
  · exact hd_gi (x := .inr (.inl 69)) (by decide +kernel) b69
  · exact hd_gi (x := .inr (.inl 70)) (by decide +kernel) b70
  · exact hd_gi (x := .inr (.inl 71)) (by decide +kernel) b71
theorem tl_120_p3 {Ls : Nat} {xs : Nat → Int32} {d : Nat} {Q : Option Value → jm_h → Prop} (hd : 4 ≤ d) (F : Nat → sy_d) (X1 X2 : List jm_c) (hB : iv_in F iv_B4)
    (h0 : (sy_i F 6).toInt = 0)
    (h1 : 0 ≤ (sy_i F 4).toInt ∧ (sy_i F 4).toInt < 403)
    (h2 : ((sy_ai F 25).getD (sy_i F 4).toNatClampNeg 0).toInt = 33)
    (h3 : (sy_i F 4).toInt = 400)
    (h4 : (sy_i F 6).toInt ≤ 0)
    (h5 : 0 ≤ (sy_i F 4).toInt ∧ (sy_i F 4).toInt < 403)
    (k : ∀ F1 : Nat → sy_d, (∀ j, j < 69 → j ≠ 6 ∧ j ≠ 7 → F1 j = F j) → F1 6 = .inl (.int ((2 : Int32))) → F1 7 = .inl (.int ((sy_ai F 26).getD (sy_i F 4).toNatClampNeg 0)) → F1 69 = .inl (.int (sy_i F 69)) → F1 70 = .inl (.int (sy_i F 70)) → F1 71 = .inl (.int (sy_i F 71)) → hd_W Ls xs d jm_M160 Q (12, sy_dL F1 [some (.inl (.ref 1000)), some (.inr (.inl 69)), some (.inr (.inl 70)), some (.inr (.inl 71))], sy_dS F1 [], sy_dh F1 X1 X2 (iv_H 4), 0, 0)) :
    hd_W Ls xs d jm_M160 Q (120, sy_dL F [some (.inl (.ref 1000)), some (.inr (.inl 69)), some (.inr (.inl 70)), some (.inr (.inl 71))], sy_dS F [], sy_dh F X1 X2 (iv_H 4), 0, 0) := by
  refine hd_run (s := 4) (nv := 72) (pc := 12) (L := [some (.inl (.ref 1000)), some (.inr (.inl 69)), some (.inr (.inl 70)), some (.inr (.inl 71))]) (S := []) (uh := hd_ov (iv_id 0 iv_B4) [(6, .inl (.inl (.int 2))), (7, .inl (.inr (.inl 73)))]) (ul := [.inl (.inr (.inl 69)), .inl (.inr (.inl 70)), .inl (.inr (.inl 71))]) (f := false) (sp := [12]) (d0 := 3) (O := [false, false, false, true]) (T := [(30, [.inr (.inl 4)], [.inr (.inl 25)]), (30, [.inr (.inl 4)], [.inr (.inl 26)])]) (P := [(0, .inr (.inl 6), .inl (.int 0)), (6, .inr (.inl 4), .inl (.ref 403)), (0, .inr (.inl 72), .inl (.int 33)), (0, .inr (.inl 4), .inl (.int 400)), (4, .inr (.inl 6), .inl (.int 0)), (6, .inr (.inl 4), .inl (.ref 403))]) jm_ok160 (by decide +kernel) (by decide +kernel) hd F X1 X2 (fun F' hF hs => ?_)
  have b6 := hd_b (F := F) (F' := F') (k := 6) (hF 6 (by decide))
  have b4 := hd_b (F := F) (F' := F') (k := 4) (hF 4 (by decide))
  have a25 := hd_ba (F := F) (F' := F') (k := 25) (hF 25 (by decide))
  have t72 : sy_dv F' (.inr (.inl 72)) = .int ((sy_ai F 25).getD (sy_i F 4).toNatClampNeg 0) := hd_rd (hs 0 _ rfl) b4 a25
  have a26 := hd_ba (F := F) (F' := F') (k := 26) (hF 26 (by decide))
  have t73 : sy_dv F' (.inr (.inl 73)) = .int ((sy_ai F 26).getD (sy_i F 4).toNatClampNeg 0) := hd_rd (hs 1 _ rfl) b4 a26
  have b69 := hd_b (F := F) (F' := F') (k := 69) (hF 69 (by decide))
  have b70 := hd_b (F := F) (F' := F') (k := 70) (hF 70 (by decide))
  have b71 := hd_b (F := F) (F' := F') (k := 71) (hF 71 (by decide))
  have hB' : iv_in F' iv_B4 := iv_in_eq hB (fun j hj => hF j (Nat.lt_of_lt_of_le hj (by decide +kernel)))
  refine ⟨List.forall_mem_cons.mpr ⟨hd_p0 b6 rfl (by have hc : ((0) : Int32).toInt = 0 := (by decide); omega), List.forall_mem_cons.mpr ⟨hd_pb b4 (by first | exact h1 | exact h1), List.forall_mem_cons.mpr ⟨hd_p0 t72 rfl (by have hc : ((33) : Int32).toInt = 33 := (by decide); omega), List.forall_mem_cons.mpr ⟨hd_p0 b4 rfl (by have hc : ((400) : Int32).toInt = 400 := (by decide); omega), List.forall_mem_cons.mpr ⟨hd_p4 b6 rfl (by have hc : ((0) : Int32).toInt = 0 := (by decide); omega), List.forall_mem_cons.mpr ⟨hd_pb b4 (by first | exact h5 | exact h5), fun _ h => absurd h List.not_mem_nil⟩⟩⟩⟩⟩⟩, ?_⟩
  refine k _ ?_ ?_ ?_ ?_ ?_ ?_
  · exact fun j hj hn => (hd_keep hB' (Nat.lt_of_lt_of_le hj (by decide +kernel)) (by simp; omega)).trans (hF j (Nat.lt_of_lt_of_le hj (by decide)))
  · exact hd_gi (x := .inl (.int 2)) (by decide +kernel) rfl
  · exact hd_gi (x := .inr (.inl 73)) (by decide +kernel) t73
  · exact hd_gi (x := .inr (.inl 69)) (by decide +kernel) b69
  · exact hd_gi (x := .inr (.inl 70)) (by decide +kernel) b70
  · exact hd_gi (x := .inr (.inl 71)) (by decide +kernel) b71
theorem tl_143_p0 {Ls : Nat} {xs : Nat → Int32} {d : Nat} {Q : Option Value → jm_h → Prop} (hd : 4 ≤ d) (F : Nat → sy_d) (X1 X2 : List jm_c) (hB : iv_in F iv_B4)
    (h0 : (sy_i F 6).toInt ≠ 0)
    (h1 : 0 < (sy_i F 6).toInt)
    (h2 : 0 < (sy_i F 6).toInt)
    (k : ∀ F1 : Nat → sy_d, (∀ j, j < 69 → True → F1 j = F j) → Q (none) (sy_dh F1 X1 X2 (iv_H 4))) :
    hd_W Ls xs d jm_M160 Q (143, sy_dL F [some (.inl (.ref 1000)), some (.inr (.inl 69)), some (.inr (.inl 70)), none], sy_dS F [], sy_dh F X1 X2 (iv_H 4), 0, 0) := by
  refine hd_ret (s := 4) (nv := 71) (v := none) (uh := hd_ov (iv_id 0 iv_B4) []) (f := false) (sp := []) (d0 := 3) (O := [true, false, false]) (T := []) (P := [(1, .inr (.inl 6), .inl (.int 0)), (5, .inr (.inl 6), .inl (.int 0)), (5, .inr (.inl 6), .inl (.int 0))]) jm_ok160 (by decide +kernel) (by decide +kernel) hd F X1 X2 (fun F' hF hs => ?_)
  have b6 := hd_b (F := F) (F' := F') (k := 6) (hF 6 (by decide))
  have hB' : iv_in F' iv_B4 := iv_in_eq hB (fun j hj => hF j (Nat.lt_of_lt_of_le hj (by decide +kernel)))
  refine ⟨List.forall_mem_cons.mpr ⟨hd_p1 b6 rfl (by have hc : ((0) : Int32).toInt = 0 := (by decide); omega), List.forall_mem_cons.mpr ⟨hd_p5 b6 rfl (by have hc : ((0) : Int32).toInt = 0 := (by decide); omega), List.forall_mem_cons.mpr ⟨hd_p5 b6 rfl (by have hc : ((0) : Int32).toInt = 0 := (by decide); omega), fun _ h => absurd h List.not_mem_nil⟩⟩⟩, ?_⟩
  refine k _ ?_
  · exact fun j hj _ => (hd_keep hB' (Nat.lt_of_lt_of_le hj (by decide +kernel)) (by simp)).trans (hF j (Nat.lt_of_lt_of_le hj (by decide)))
theorem tl_143_p1 {Ls : Nat} {xs : Nat → Int32} {d : Nat} {Q : Option Value → jm_h → Prop} (hd : 4 ≤ d) (F : Nat → sy_d) (X1 X2 : List jm_c) (hB : iv_in F iv_B4)
    (h0 : (sy_i F 6).toInt = 0)
    (h1 : 0 ≤ (sy_i F 4).toInt ∧ (sy_i F 4).toInt < 403)
    (h2 : ((sy_ai F 25).getD (sy_i F 4).toNatClampNeg 0).toInt ≠ 4)
    (h3 : (sy_i F 6).toInt ≤ 0)
    (h4 : 0 ≤ (sy_i F 4).toInt ∧ (sy_i F 4).toInt < 403)
    (k : ∀ F1 : Nat → sy_d, (∀ j, j < 69 → j ≠ 6 ∧ j ≠ 7 → F1 j = F j) → F1 6 = .inl (.int ((1 : Int32))) → F1 7 = .inl (.int ((sy_ai F 26).getD (sy_i F 4).toNatClampNeg 0)) → Q (none) (sy_dh F1 X1 X2 (iv_H 4))) :
    hd_W Ls xs d jm_M160 Q (143, sy_dL F [some (.inl (.ref 1000)), some (.inr (.inl 69)), some (.inr (.inl 70)), none], sy_dS F [], sy_dh F X1 X2 (iv_H 4), 0, 0) := by
  refine hd_ret (s := 4) (nv := 71) (v := none) (uh := hd_ov (iv_id 0 iv_B4) [(6, .inl (.inl (.int 1))), (7, .inl (.inr (.inl 72)))]) (f := false) (sp := []) (d0 := 3) (O := [false, true, true]) (T := [(30, [.inr (.inl 4)], [.inr (.inl 25)]), (30, [.inr (.inl 4)], [.inr (.inl 26)])]) (P := [(0, .inr (.inl 6), .inl (.int 0)), (6, .inr (.inl 4), .inl (.ref 403)), (1, .inr (.inl 71), .inl (.int 4)), (4, .inr (.inl 6), .inl (.int 0)), (6, .inr (.inl 4), .inl (.ref 403))]) jm_ok160 (by decide +kernel) (by decide +kernel) hd F X1 X2 (fun F' hF hs => ?_)
  have b6 := hd_b (F := F) (F' := F') (k := 6) (hF 6 (by decide))
  have b4 := hd_b (F := F) (F' := F') (k := 4) (hF 4 (by decide))
  have a25 := hd_ba (F := F) (F' := F') (k := 25) (hF 25 (by decide))
  have t71 : sy_dv F' (.inr (.inl 71)) = .int ((sy_ai F 25).getD (sy_i F 4).toNatClampNeg 0) := hd_rd (hs 0 _ rfl) b4 a25
  have a26 := hd_ba (F := F) (F' := F') (k := 26) (hF 26 (by decide))
  have t72 : sy_dv F' (.inr (.inl 72)) = .int ((sy_ai F 26).getD (sy_i F 4).toNatClampNeg 0) := hd_rd (hs 1 _ rfl) b4 a26
  have hB' : iv_in F' iv_B4 := iv_in_eq hB (fun j hj => hF j (Nat.lt_of_lt_of_le hj (by decide +kernel)))
  refine ⟨List.forall_mem_cons.mpr ⟨hd_p0 b6 rfl (by have hc : ((0) : Int32).toInt = 0 := (by decide); omega), List.forall_mem_cons.mpr ⟨hd_pb b4 (by first | exact h1 | exact h1), List.forall_mem_cons.mpr ⟨hd_p1 t71 rfl (by have hc : ((4) : Int32).toInt = 4 := (by decide); omega), List.forall_mem_cons.mpr ⟨hd_p4 b6 rfl (by have hc : ((0) : Int32).toInt = 0 := (by decide); omega), List.forall_mem_cons.mpr ⟨hd_pb b4 (by first | exact h4 | exact h4), fun _ h => absurd h List.not_mem_nil⟩⟩⟩⟩⟩, ?_⟩
  refine k _ ?_ ?_ ?_
  · exact fun j hj hn => (hd_keep hB' (Nat.lt_of_lt_of_le hj (by decide +kernel)) (by simp; omega)).trans (hF j (Nat.lt_of_lt_of_le hj (by decide)))
  · exact hd_gi (x := .inl (.int 1)) (by decide +kernel) rfl
  · exact hd_gi (x := .inr (.inl 72)) (by decide +kernel) t72
theorem tl_143_p2 {Ls : Nat} {xs : Nat → Int32} {d : Nat} {Q : Option Value → jm_h → Prop} (hd : 4 ≤ d) (F : Nat → sy_d) (X1 X2 : List jm_c) (hB : iv_in F iv_B4)
    (h0 : (sy_i F 6).toInt = 0)
    (h1 : 0 ≤ (sy_i F 4).toInt ∧ (sy_i F 4).toInt < 403)
    (h2 : ((sy_ai F 25).getD (sy_i F 4).toNatClampNeg 0).toInt = 4)
    (h3 : (sy_i F 4).toInt ≠ 400)
    (h4 : (sy_i F 6).toInt ≤ 0)
    (h5 : 0 ≤ ((((6 : Int32)) * (sy_i F 12)) + (sy_i F 69)).toInt ∧ ((((6 : Int32)) * (sy_i F 12)) + (sy_i F 69)).toInt < 12)
    (h6 : 0 ≤ ((((6 : Int32)) * (sy_i F 12)) + (sy_i F 69)).toInt ∧ ((((6 : Int32)) * (sy_i F 12)) + (sy_i F 69)).toInt < 12)
    (k : ∀ F1 : Nat → sy_d, (∀ j, j < 69 → j ≠ 4 ∧ j ≠ 42 ∧ j ≠ 43 → F1 j = F j) → F1 4 = .inl (.int ((sy_i F 4) + ((1 : Int32)))) → F1 42 = .inr (.inl (jm_upd (sy_ai F 42) ((((6 : Int32)) * (sy_i F 12)) + (sy_i F 69)).toNatClampNeg (sy_i F 70))) → F1 43 = .inr (.inl (jm_upd (sy_ai F 43) ((((6 : Int32)) * (sy_i F 12)) + (sy_i F 69)).toNatClampNeg (sy_i F 14))) → Q (none) (sy_dh F1 X1 X2 (iv_H 4))) :
    hd_W Ls xs d jm_M160 Q (143, sy_dL F [some (.inl (.ref 1000)), some (.inr (.inl 69)), some (.inr (.inl 70)), none], sy_dS F [], sy_dh F X1 X2 (iv_H 4), 0, 0) := by
  refine hd_ret (s := 4) (nv := 71) (v := none) (uh := hd_ov (iv_id 0 iv_B4) [(4, .inl (.inr (.inl 72))), (42, .inr (.inr (.inl 75))), (43, .inr (.inr (.inl 78)))]) (f := false) (sp := []) (d0 := 3) (O := [false, false, true, true]) (T := [(30, [.inr (.inl 4)], [.inr (.inl 25)]), (0, [.inr (.inl 4), .inl (.int 1)], []), (2, [.inl (.int 6), .inr (.inl 12)], []), (0, [.inr (.inl 73), .inr (.inl 69)], []), (40, [.inr (.inl 74), .inr (.inl 70)], [.inr (.inl 42)]), (2, [.inl (.int 6), .inr (.inl 12)], []), (0, [.inr (.inl 76), .inr (.inl 69)], []), (40, [.inr (.inl 77), .inr (.inl 14)], [.inr (.inl 43)])]) (P := [(0, .inr (.inl 6), .inl (.int 0)), (6, .inr (.inl 4), .inl (.ref 403)), (0, .inr (.inl 71), .inl (.int 4)), (1, .inr (.inl 4), .inl (.int 400)), (4, .inr (.inl 6), .inl (.int 0)), (6, .inr (.inl 74), .inl (.ref 12)), (6, .inr (.inl 77), .inl (.ref 12))]) jm_ok160 (by decide +kernel) (by decide +kernel) hd F X1 X2 (fun F' hF hs => ?_)
  have b6 := hd_b (F := F) (F' := F') (k := 6) (hF 6 (by decide))
  have b4 := hd_b (F := F) (F' := F') (k := 4) (hF 4 (by decide))
  have a25 := hd_ba (F := F) (F' := F') (k := 25) (hF 25 (by decide))
  have t71 : sy_dv F' (.inr (.inl 71)) = .int ((sy_ai F 25).getD (sy_i F 4).toNatClampNeg 0) := hd_rd (hs 0 _ rfl) b4 a25
  have b12 := hd_b (F := F) (F' := F') (k := 12) (hF 12 (by decide))
  have t73 : sy_dv F' (.inr (.inl 73)) = .int (((6 : Int32)) * (sy_i F 12)) := hd_o (hs 2 _ rfl) rfl b12 rfl
  have b69 := hd_b (F := F) (F' := F') (k := 69) (hF 69 (by decide))
  have t74 : sy_dv F' (.inr (.inl 74)) = .int ((((6 : Int32)) * (sy_i F 12)) + (sy_i F 69)) := hd_o (hs 3 _ rfl) t73 b69 rfl
  have t76 : sy_dv F' (.inr (.inl 76)) = .int (((6 : Int32)) * (sy_i F 12)) := hd_o (hs 5 _ rfl) rfl b12 rfl
  have t77 : sy_dv F' (.inr (.inl 77)) = .int ((((6 : Int32)) * (sy_i F 12)) + (sy_i F 69)) := hd_o (hs 6 _ rfl) t76 b69 rfl
  have t72 : sy_dv F' (.inr (.inl 72)) = .int ((sy_i F 4) + ((1 : Int32))) := hd_o (hs 1 _ rfl) b4 rfl rfl
  have b70 := hd_b (F := F) (F' := F') (k := 70) (hF 70 (by decide))
  have a42 := hd_ba (F := F) (F' := F') (k := 42) (hF 42 (by decide))
  have t75 : sy_da F' (.inr (.inl 75)) = .inl (jm_upd (sy_ai F 42) ((((6 : Int32)) * (sy_i F 12)) + (sy_i F 69)).toNatClampNeg (sy_i F 70)) := hd_up (hs 4 _ rfl) t74 b70 a42
  have b14 := hd_b (F := F) (F' := F') (k := 14) (hF 14 (by decide))
  have a43 := hd_ba (F := F) (F' := F') (k := 43) (hF 43 (by decide))
  have t78 : sy_da F' (.inr (.inl 78)) = .inl (jm_upd (sy_ai F 43) ((((6 : Int32)) * (sy_i F 12)) + (sy_i F 69)).toNatClampNeg (sy_i F 14)) := hd_up (hs 7 _ rfl) t77 b14 a43
  have hB' : iv_in F' iv_B4 := iv_in_eq hB (fun j hj => hF j (Nat.lt_of_lt_of_le hj (by decide +kernel)))
  refine ⟨List.forall_mem_cons.mpr ⟨hd_p0 b6 rfl (by have hc : ((0) : Int32).toInt = 0 := (by decide); omega), List.forall_mem_cons.mpr ⟨hd_pb b4 (by first | exact h1 | exact h1), List.forall_mem_cons.mpr ⟨hd_p0 t71 rfl (by have hc : ((4) : Int32).toInt = 4 := (by decide); omega), List.forall_mem_cons.mpr ⟨hd_p1 b4 rfl (by have hc : ((400) : Int32).toInt = 400 := (by decide); omega), List.forall_mem_cons.mpr ⟨hd_p4 b6 rfl (by have hc : ((0) : Int32).toInt = 0 := (by decide); omega), List.forall_mem_cons.mpr ⟨hd_pb t74 (by first | exact h5 | exact h5), List.forall_mem_cons.mpr ⟨hd_pb t77 (by first | exact h6 | exact h6), fun _ h => absurd h List.not_mem_nil⟩⟩⟩⟩⟩⟩⟩, ?_⟩
  refine k _ ?_ ?_ ?_ ?_
  · exact fun j hj hn => (hd_keep hB' (Nat.lt_of_lt_of_le hj (by decide +kernel)) (by simp; omega)).trans (hF j (Nat.lt_of_lt_of_le hj (by decide)))
  · exact hd_gi (x := .inr (.inl 72)) (by decide +kernel) t72
  · exact hd_ga (a := .inr (.inl 75)) (by decide +kernel) t75
  · exact hd_ga (a := .inr (.inl 78)) (by decide +kernel) t78
theorem tl_143_p3 {Ls : Nat} {xs : Nat → Int32} {d : Nat} {Q : Option Value → jm_h → Prop} (hd : 4 ≤ d) (F : Nat → sy_d) (X1 X2 : List jm_c) (hB : iv_in F iv_B4)
    (h0 : (sy_i F 6).toInt = 0)
    (h1 : 0 ≤ (sy_i F 4).toInt ∧ (sy_i F 4).toInt < 403)
    (h2 : ((sy_ai F 25).getD (sy_i F 4).toNatClampNeg 0).toInt = 4)
    (h3 : (sy_i F 4).toInt = 400)
    (h4 : (sy_i F 6).toInt ≤ 0)
    (h5 : 0 ≤ (sy_i F 4).toInt ∧ (sy_i F 4).toInt < 403)
    (k : ∀ F1 : Nat → sy_d, (∀ j, j < 69 → j ≠ 6 ∧ j ≠ 7 → F1 j = F j) → F1 6 = .inl (.int ((2 : Int32))) → F1 7 = .inl (.int ((sy_ai F 26).getD (sy_i F 4).toNatClampNeg 0)) → Q (none) (sy_dh F1 X1 X2 (iv_H 4))) :
    hd_W Ls xs d jm_M160 Q (143, sy_dL F [some (.inl (.ref 1000)), some (.inr (.inl 69)), some (.inr (.inl 70)), none], sy_dS F [], sy_dh F X1 X2 (iv_H 4), 0, 0) := by
  refine hd_ret (s := 4) (nv := 71) (v := none) (uh := hd_ov (iv_id 0 iv_B4) [(6, .inl (.inl (.int 2))), (7, .inl (.inr (.inl 72)))]) (f := false) (sp := []) (d0 := 3) (O := [false, false, false, true]) (T := [(30, [.inr (.inl 4)], [.inr (.inl 25)]), (30, [.inr (.inl 4)], [.inr (.inl 26)])]) (P := [(0, .inr (.inl 6), .inl (.int 0)), (6, .inr (.inl 4), .inl (.ref 403)), (0, .inr (.inl 71), .inl (.int 4)), (0, .inr (.inl 4), .inl (.int 400)), (4, .inr (.inl 6), .inl (.int 0)), (6, .inr (.inl 4), .inl (.ref 403))]) jm_ok160 (by decide +kernel) (by decide +kernel) hd F X1 X2 (fun F' hF hs => ?_)
  have b6 := hd_b (F := F) (F' := F') (k := 6) (hF 6 (by decide))
  have b4 := hd_b (F := F) (F' := F') (k := 4) (hF 4 (by decide))
  have a25 := hd_ba (F := F) (F' := F') (k := 25) (hF 25 (by decide))
  have t71 : sy_dv F' (.inr (.inl 71)) = .int ((sy_ai F 25).getD (sy_i F 4).toNatClampNeg 0) := hd_rd (hs 0 _ rfl) b4 a25
  have a26 := hd_ba (F := F) (F' := F') (k := 26) (hF 26 (by decide))
  have t72 : sy_dv F' (.inr (.inl 72)) = .int ((sy_ai F 26).getD (sy_i F 4).toNatClampNeg 0) := hd_rd (hs 1 _ rfl) b4 a26
  have hB' : iv_in F' iv_B4 := iv_in_eq hB (fun j hj => hF j (Nat.lt_of_lt_of_le hj (by decide +kernel)))
  refine ⟨List.forall_mem_cons.mpr ⟨hd_p0 b6 rfl (by have hc : ((0) : Int32).toInt = 0 := (by decide); omega), List.forall_mem_cons.mpr ⟨hd_pb b4 (by first | exact h1 | exact h1), List.forall_mem_cons.mpr ⟨hd_p0 t71 rfl (by have hc : ((4) : Int32).toInt = 4 := (by decide); omega), List.forall_mem_cons.mpr ⟨hd_p0 b4 rfl (by have hc : ((400) : Int32).toInt = 400 := (by decide); omega), List.forall_mem_cons.mpr ⟨hd_p4 b6 rfl (by have hc : ((0) : Int32).toInt = 0 := (by decide); omega), List.forall_mem_cons.mpr ⟨hd_pb b4 (by first | exact h5 | exact h5), fun _ h => absurd h List.not_mem_nil⟩⟩⟩⟩⟩⟩, ?_⟩
  refine k _ ?_ ?_ ?_
  · exact fun j hj hn => (hd_keep hB' (Nat.lt_of_lt_of_le hj (by decide +kernel)) (by simp; omega)).trans (hF j (Nat.lt_of_lt_of_le hj (by decide)))
  · exact hd_gi (x := .inl (.int 2)) (by decide +kernel) rfl
  · exact hd_gi (x := .inr (.inl 72)) (by decide +kernel) t72
end
section
/-! ===== terms and laws are read ===== -/
theorem rp_go_eq {code cint code' cint' : List Int32} : ∀ (n c d : Nat), (∀ i, c ≤ i → i < c + n → code'.getD i 0 = code.getD i 0 ∧ cint'.getD i 0 = cint.getD i 0) → rp_go code cint n c d → rp_go code' cint' n c d
  | 0, _, _, _, _ => trivial
  | n + 1, c, d, e, h => by
    obtain ⟨e1, e2⟩ := e c (Nat.le_refl _) (by omega)
    unfold rp_go at h ⊢
    rw [e1, e2]
    exact ⟨fun q => ⟨(h.1 q).1, rp_go_eq n (c + 1) (d + 1) (fun i h1 h2 => e i (by omega) (by omega)) (h.1 q).2⟩, fun q => ⟨(h.2 q).1, rp_go_eq n (c + 1) (d - 1) (fun i h1 h2 => e i (by omega) (by omega)) (h.2 q).2⟩⟩
noncomputable def rs (sd : Nat) (nc : Int) (code cint : List Int32) (x y : Int) : Prop := (420 * sd : Int) ≤ x ∧ y ≤ nc ∧ y ≤ x + 400 ∧ rp_go code cint (y - x).toNat x.toNat 0
theorem rs_keep {sd : Nat} {nc nc' : Int} {code cint code' cint' : List Int32} {x y : Int} (h : rs sd nc code cint x y) (e : ∀ i : Nat, (420 * sd : Int) ≤ i → (i : Int) < nc → code'.getD i 0 = code.getD i 0 ∧ cint'.getD i 0 = cint.getD i 0) (l : nc ≤ nc') : rs sd nc' code' cint' x y := by
  obtain ⟨h1, h2, h3, h4⟩ := h
  refine ⟨h1, by omega, h3, rp_go_eq _ _ _ (fun i a b => e i (by omega) (by omega)) h4⟩
theorem rp_sg_rs {sd : Nat} {nc : Int} {code cint : List Int32} {x y : Int32} : rp_sg sd nc code cint x y ↔ rs sd nc code cint x.toInt y.toInt := Iff.rfl
/-- the five rows of a branch are the same -/
noncomputable def s5 (F F' : Nat → sy_d) (b : Nat) : Prop := (sy_ai F' 44).getD b 0 = (sy_ai F 44).getD b 0 ∧ (sy_ai F' 45).getD b 0 = (sy_ai F 45).getD b 0 ∧ (sy_ai F' 46).getD b 0 = (sy_ai F 46).getD b 0 ∧ (sy_ai F' 47).getD b 0 = (sy_ai F 47).getD b 0 ∧ (sy_ai F' 48).getD b 0 = (sy_ai F 48).getD b 0
theorem s5_trans {F F1 F2 : Nat → sy_d} {b : Nat} (h : s5 F F1 b) (h2 : s5 F1 F2 b) : s5 F F2 b := ⟨h2.1.trans h.1, h2.2.1.trans h.2.1, h2.2.2.1.trans h.2.2.1, h2.2.2.2.1.trans h.2.2.2.1, h2.2.2.2.2.trans h.2.2.2.2⟩
theorem s5_same {F F1 : Nat → sy_d} (a44 : sy_ai F1 44 = sy_ai F 44) (a45 : sy_ai F1 45 = sy_ai F 45) (a46 : sy_ai F1 46 = sy_ai F 46) (a47 : sy_ai F1 47 = sy_ai F 47) (a48 : sy_ai F1 48 = sy_ai F 48) (b : Nat) : s5 F F1 b := by
  unfold s5
  rw [a44, a45, a46, a47, a48]
  exact ⟨rfl, rfl, rfl, rfl, rfl⟩
theorem rp_br_keep {F F' : Nat → sy_d} {sd b : Nat} {nc nc' : Int} (h : rp_br F sd nc b) (e5 : s5 F F' b) (e : ∀ i : Nat, (420 * sd : Int) ≤ i → (i : Int) < nc → (sy_ai F' 49).getD i 0 = (sy_ai F 49).getD i 0 ∧ (sy_ai F' 50).getD i 0 = (sy_ai F 50).getD i 0) (l : nc ≤ nc') : rp_br F' sd nc' b := by
  obtain ⟨e44, e45, e46, e47, e48⟩ := e5
  unfold rp_br
  rw [e44, e45, e46, e47, e48]
  exact ⟨fun q => ⟨rs_keep (h.1 q).1 e l, rs_keep (h.1 q).2 e l⟩, rs_keep h.2 e l⟩
theorem rp_S_keep {F F' : Nat → sy_d} {sd : Nat} {nb nc nb' nc' : Int} (h : rp_S F sd nb nc) (el : ∀ k, k < 6 → (sy_ai F' 42).getD (6 * sd + k) 0 = (sy_ai F 42).getD (6 * sd + k) 0 ∧ (sy_ai F' 43).getD (6 * sd + k) 0 = (sy_ai F 43).getD (6 * sd + k) 0) (e5 : ∀ b : Nat, (130 * sd : Int) ≤ b → (b : Int) < nb → s5 F F' b) (e : ∀ i : Nat, (420 * sd : Int) ≤ i → (i : Int) < nc → (sy_ai F' 49).getD i 0 = (sy_ai F 49).getD i 0 ∧ (sy_ai F' 50).getD i 0 = (sy_ai F 50).getD i 0) (l1 : nb ≤ nb') (l2 : nc ≤ nc') : rp_S F' sd nb' nc' := by
  intro k b hk h1 h2
  rw [(el k hk).1] at h1
  rw [(el k hk).2] at h2
  obtain ⟨a, c⟩ := h k b hk h1 h2
  exact ⟨⟨a.1, by omega⟩, rp_br_keep c (e5 b a.1 a.2) e l2⟩
/-- the branches that lay there before, and those behind, stay -/
noncomputable def kb (F F' : Nat → sy_d) : Prop := ∀ b : Nat, ((b : Int) < (sy_i F 14).toInt ∨ (sy_i F' 14).toInt < b) → s5 F F' b
theorem kb_step {F0 F F1 : Nat → sy_d} (h : kb F0 F) (hs : ∀ b : Nat, (b : Int) ≠ (sy_i F 14).toInt → s5 F F1 b) (l0 : (sy_i F0 14).toInt ≤ (sy_i F 14).toInt) (l : (sy_i F 14).toInt ≤ (sy_i F1 14).toInt) : kb F0 F1 := fun b q => s5_trans (h b (by omega)) (hs b (by omega))
noncomputable def WT : List Nat := [4, 5, 6, 7, 14, 15, 16, 47, 48, 49, 50, 51]
noncomputable def tr_R (F F' : Nat → sy_d) : Prop := gr WT F F' ∧ kp F F' ∧ (∀ b : Nat, (b : Int) ≠ (sy_i F 14).toInt → s5 F F' b) ∧ (sy_i F' 14).toInt = (sy_i F 14).toInt + 1 ∧ (sy_i F 15).toInt ≤ (sy_i F' 15).toInt ∧ (sy_i F' 15).toInt ≤ 420 * (sy_i F 12).toInt + (sy_i F' 4).toInt + 1 ∧
  ((sy_i F' 6).toInt = 0 → (sy_i F 4).toInt + 1 ≤ (sy_i F' 4).toInt ∧ (sy_i F' 5).toInt = 0 ∧ (sy_i F' 15).toInt ≤ 420 * (sy_i F 12).toInt + (sy_i F' 4).toInt ∧ ((sy_ai F' 47).getD (sy_i F 14).toInt.toNat 0).toInt = (sy_i F 15).toInt ∧ ((sy_ai F' 48).getD (sy_i F 14).toInt.toNat 0).toInt = (sy_i F' 15).toInt ∧ rp_go (sy_ai F' 49) (sy_ai F' 50) ((sy_i F' 15).toInt - (sy_i F 15).toInt).toNat (sy_i F 15).toInt.toNat 0)
theorem tr_Rdst {F F' F2 : Nat → sy_d} (h : tr_R F F') (e : ∀ q, q < 69 → F2 q = F' q) : tr_R F F2 := by
  obtain ⟨h1, h2, h3, h4, h5, h6, h7⟩ := h
  have i4 := nz_fi (e 4 (by decide))
  have i5 := nz_fi (e 5 (by decide))
  have i6 := nz_fi (e 6 (by decide))
  have i14 := nz_fi (e 14 (by decide))
  have i15 := nz_fi (e 15 (by decide))
  have a49 := nz_fa (e 49 (by decide))
  have a50 := nz_fa (e 50 (by decide))
  have a47 := nz_fa (e 47 (by decide))
  have a48 := nz_fa (e 48 (by decide))
  refine ⟨h1.dst e, ?_, fun b hb => s5_trans (h3 b hb) (s5_same (nz_fa (e 44 (by decide))) (nz_fa (e 45 (by decide))) (nz_fa (e 46 (by decide))) a47 a48 b), by rw [i14]; exact h4, by rw [i15]; exact h5, by rw [i15, i4]; exact h6, by rw [i4, i5, i6, i15, a47, a48, a49, a50]; exact h7⟩
  unfold kp
  rw [i15, a49, a50]
  exact h2
section TR
variable {Ls : Nat} {xs : Nat → Int32} (X1 X2 : List jm_c) (F : Nat → sy_d)
end TR
end
section
/-! ===== a law is read ===== -/
noncomputable def WL : List Nat := [4, 5, 6, 7, 14, 15, 16, 44, 45, 46, 47, 48, 49, 50, 51]
noncomputable def WLL : List Nat := [4, 5, 6, 7, 14, 15, 16, 42, 43, 44, 45, 46, 47, 48, 49, 50, 51]
noncomputable def lc (m : Int) (F0 F : Nat → sy_d) : Prop := gr WL F0 F ∧ kp F0 F ∧ kb F0 F ∧ (sy_i F0 15).toInt ≤ (sy_i F 15).toInt ∧ (sy_i F0 14).toInt ≤ (sy_i F 14).toInt ∧ (sy_i F 15).toInt ≤ 420 * (sy_i F0 12).toInt + (sy_i F 4).toInt + 1 ∧ (sy_i F 14).toInt ≤ 130 * (sy_i F0 12).toInt + m
noncomputable def li (k : Int) (F0 F : Nat → sy_d) : Prop := (sy_i F 5).toInt = 0 ∧ (sy_i F 15).toInt ≤ 420 * (sy_i F0 12).toInt + (sy_i F 4).toInt ∧ 4 * ((sy_i F 14).toInt - 130 * (sy_i F0 12).toInt) + k ≤ (sy_i F 4).toInt ∧ ∀ b : Nat, (sy_i F0 14).toInt ≤ b → (b : Int) < (sy_i F 14).toInt → rp_br F (sy_i F0 12).toInt.toNat (sy_i F 15).toInt b
theorem lc_step {m m' : Int} {F0 F F1 : Nat → sy_d} {C : List Nat} (h : lc m F0 F) (hb : iv_in F1 iv_B4) (g : ∀ j, j < 69 → j ∉ C → F1 j = F j) (hC : ∀ x ∈ C, x ∈ WL) (t : (sy_i F 4).toInt ≤ (sy_i F1 4).toInt) (u : (sy_i F1 6).toInt = 0 → (sy_i F 6).toInt = 0) (k : kp F F1) (hs : ∀ b : Nat, (b : Int) ≠ (sy_i F 14).toInt → s5 F F1 b) (l15 : (sy_i F 15).toInt ≤ (sy_i F1 15).toInt) (l14 : (sy_i F 14).toInt ≤ (sy_i F1 14).toInt) (c15 : (sy_i F1 15).toInt ≤ 420 * (sy_i F0 12).toInt + (sy_i F1 4).toInt + 1) (c14 : (sy_i F1 14).toInt ≤ 130 * (sy_i F0 12).toInt + m') : lc m' F0 F1 := by
  obtain ⟨h1, h2, h3, h4, h5, h6, h7⟩ := h
  exact ⟨h1.trans (gr_mk (W := WL) hb g hC t u) (fun _ q => q), kp_trans h2 k h4 l15, kb_step h3 hs h5 l14, by omega, by omega, c15, c14⟩
theorem lc_gr {m m' : Int} {F0 F F1 : Nat → sy_d} {W : List Nat} (h : lc m F0 F) (hG : gr W F F1) (hC : ∀ x ∈ W, x ∈ WL) (k : kp F F1) (hs : ∀ b : Nat, (b : Int) ≠ (sy_i F 14).toInt → s5 F F1 b) (l15 : (sy_i F 15).toInt ≤ (sy_i F1 15).toInt) (l14 : (sy_i F 14).toInt ≤ (sy_i F1 14).toInt) (c15 : (sy_i F1 15).toInt ≤ 420 * (sy_i F0 12).toInt + (sy_i F1 4).toInt + 1) (c14 : (sy_i F1 14).toInt ≤ 130 * (sy_i F0 12).toInt + m') : lc m' F0 F1 := lc_step h hG.b hG.f hC hG.t hG.u k hs l15 l14 c15 c14
theorem li_step {k k' : Int} {F0 F F1 : Nat → sy_d} (h : li k F0 F) (e5 : (sy_i F1 5).toInt = 0) (c : (sy_i F1 15).toInt ≤ 420 * (sy_i F0 12).toInt + (sy_i F1 4).toInt) (d : 4 * ((sy_i F1 14).toInt - 130 * (sy_i F0 12).toInt) + k' ≤ (sy_i F1 4).toInt) (e14 : (sy_i F1 14).toInt = (sy_i F 14).toInt) (hs : ∀ b : Nat, (b : Int) ≠ (sy_i F 14).toInt → s5 F F1 b) (hk : kp F F1) (l15 : (sy_i F 15).toInt ≤ (sy_i F1 15).toInt) : li k' F0 F1 :=
  ⟨e5, c, d, fun b h1 h2 => rp_br_keep (h.2.2.2 b h1 (by omega)) (hs b (by omega)) (fun i _ hi => hk i (Or.inl hi)) l15⟩
theorem rs_step {sd : Nat} {x y : Int} {F F1 : Nat → sy_d} (h : rs sd (sy_i F 15).toInt (sy_ai F 49) (sy_ai F 50) x y) (hk : kp F F1) (l15 : (sy_i F 15).toInt ≤ (sy_i F1 15).toInt) : rs sd (sy_i F1 15).toInt (sy_ai F1 49) (sy_ai F1 50) x y := rs_keep h (fun i _ hi => hk i (Or.inl hi)) l15
noncomputable def tl_R (k : Int) (F0 F' : Nat → sy_d) : Prop := gr WLL F0 F' ∧ kp F0 F' ∧ kb F0 F' ∧ (sy_i F0 15).toInt ≤ (sy_i F' 15).toInt ∧ (sy_i F0 14).toInt ≤ (sy_i F' 14).toInt ∧ (sy_i F' 15).toInt ≤ 420 * (sy_i F0 12).toInt + (sy_i F' 4).toInt + 1 ∧ (sy_i F' 14).toInt ≤ 130 * (sy_i F0 12).toInt + 101 ∧
  (∀ i : Nat, (i : Int) ≠ 6 * (sy_i F0 12).toInt + k → (sy_ai F' 42).getD i 0 = (sy_ai F0 42).getD i 0 ∧ (sy_ai F' 43).getD i 0 = (sy_ai F0 43).getD i 0) ∧
  ((sy_i F' 6).toInt = 0 → li 0 F0 F' ∧ (sy_i F0 4).toInt + 1 ≤ (sy_i F' 4).toInt ∧ ((sy_ai F' 42).getD (6 * (sy_i F0 12).toInt + k).toNat 0).toInt = (sy_i F0 14).toInt ∧ ((sy_ai F' 43).getD (6 * (sy_i F0 12).toInt + k).toNat 0).toInt = (sy_i F' 14).toInt)
noncomputable def tl_Q (k : Int) (F0 : Nat → sy_d) (X1 X2 : List jm_c) (v : Option Value) (G : jm_h) : Prop := ∃ F' : Nat → sy_d, v = none ∧ G = sy_dh F' X1 X2 (iv_H 4) ∧ tl_R k F0 F'
theorem lc_end {k : Int} {F0 F1 : Nat → sy_d} (h : lc 101 F0 F1) (hf : (sy_i F1 6).toInt ≠ 0) : tl_R k F0 F1 := by
  obtain ⟨h1, h2, h3, h4, h5, h6, h7⟩ := h
  have a42 := h1.a (k := 42) (by decide) (by decide)
  have a43 := h1.a (k := 43) (by decide) (by decide)
  exact ⟨h1.mono (by decide), h2, h3, h4, h5, h6, h7, fun i _ => by rw [a42, a43]; exact ⟨rfl, rfl⟩, fun z => absurd z hf⟩
section TL
variable {Ls : Nat} {xs : Nat → Int32} (X1 X2 : List jm_c) (F0 : Nat → sy_d) (k : Int)
/-- a term behind a test or alone: the branch is whole -/
theorem tl_term {m j j' : Int} {F F3 : Nat → sy_d} (hF0 : 420 * (sy_i F0 12).toInt ≤ (sy_i F0 15).toInt) (hx : lc m F0 F) (hi : (sy_i F 6).toInt = 0 → li j F0 F ∧ ((sy_ai F 44).getD (sy_i F 14).toInt.toNat 0 = 1 → rs (sy_i F0 12).toInt.toNat (sy_i F 15).toInt (sy_ai F 49) (sy_ai F 50) ((sy_ai F 45).getD (sy_i F 14).toInt.toNat 0).toInt ((sy_ai F 46).getD (sy_i F 14).toInt.toNat 0).toInt ∧ rs (sy_i F0 12).toInt.toNat (sy_i F 15).toInt (sy_ai F 49) (sy_ai F 50) ((sy_ai F 46).getD (sy_i F 14).toInt.toNat 0).toInt (sy_i F 15).toInt))
    (hR : tr_R F F3) (hj : j' + 3 ≤ j) : lc (m + 1) F0 F3 ∧ ((sy_i F3 6).toInt = 0 → li j' F0 F3 ∧ (sy_i F 4).toInt + 1 ≤ (sy_i F3 4).toInt) := by
  obtain ⟨x1, x2, x3, x4, x5, x6, x7⟩ := id hx
  obtain ⟨r1, r2, r3, r4, r5, r6, r7⟩ := hR
  have i12 := x1.i (k := 12) (by decide) (by decide)
  have c12 := nz_bx x1.b (k := 12) (lo := 0) (hi := 1) rfl
  have c14 := nz_bx x1.b (k := 14) (lo := 0) (hi := 260) rfl
  have d4 := nz_bx r1.b (k := 4) (lo := 0) (hi := 400) rfl
  refine ⟨lc_gr hx r1 (by decide) r2 r3 r5 (by omega) (by omega) (by omega), fun z => ?_⟩
  obtain ⟨y1, y2, y3, y4, y5, y6⟩ := r7 z
  obtain ⟨w, v⟩ := hi (r1.u z)
  obtain ⟨w1, w2, w3, w4⟩ := id w
  refine ⟨⟨y2, by omega, by omega, fun b h1 h2 => ?_⟩, y1⟩
  by_cases hb : (b : Int) = (sy_i F 14).toInt
  · have eb : b = (sy_i F 14).toInt.toNat := by omega
    have a44 := r1.a (k := 44) (by decide) (by decide)
    have a45 := r1.a (k := 45) (by decide) (by decide)
    have a46 := r1.a (k := 46) (by decide) (by decide)
    subst eb
    refine ⟨fun q => ?_, ?_⟩
    · rw [a44] at q
      obtain ⟨v1, v2⟩ := v q
      rw [rp_sg_rs, rp_sg_rs, a45, a46, y4]
      exact ⟨rs_step v1 r2 r5, rs_step v2 r2 r5⟩
    · rw [rp_sg_rs, y4, y5]
      exact ⟨by omega, by omega, by omega, y6⟩
  · exact rp_br_keep (w4 b h1 (by omega)) (r3 b hb) (fun i _ hi => r2 i (Or.inl hi)) r5
/-- the loop's head, with n ifs left -/
noncomputable def t12 (Ls : Nat) (xs : Nat → Int32) (n : Nat) : Prop := ∀ F : Nat → sy_d, lc 100 F0 F → ((sy_i F 6).toInt = 0 → li 2 F0 F) → (sy_i F 69).toInt = k → (sy_i F 70).toInt = (sy_i F0 14).toInt → 0 ≤ (sy_i F 71).toInt → (sy_i F 71).toInt ≤ 4 → 4 - (sy_i F 71).toInt < n →
    hd_W Ls xs 6 jm_M160 (tl_Q k F0 X1 X2) (12, sy_dL F [some (.inl (.ref 1000)), some (.inr (.inl 69)), some (.inr (.inl 70)), some (.inr (.inl 71))], sy_dS F [], sy_dh F X1 X2 (iv_H 4), 0, 0)
end TL
theorem lc_src {m : Int} {F F' G : Nat → sy_d} (h : tl_R m G F') (e : ∀ q, q < 69 → G q = F q) : tl_R m F F' := by
  obtain ⟨h1, h2, h3, h4, h5, h6, h7, h8, h9⟩ := h
  have i4 := nz_fi (e 4 (by decide))
  have i12 := nz_fi (e 12 (by decide))
  have i14 := nz_fi (e 14 (by decide))
  have i15 := nz_fi (e 15 (by decide))
  have a42 := nz_fa (e 42 (by decide))
  have a43 := nz_fa (e 43 (by decide))
  have a44 := nz_fa (e 44 (by decide))
  have a45 := nz_fa (e 45 (by decide))
  have a46 := nz_fa (e 46 (by decide))
  have a47 := nz_fa (e 47 (by decide))
  have a48 := nz_fa (e 48 (by decide))
  have a49 := nz_fa (e 49 (by decide))
  have a50 := nz_fa (e 50 (by decide))
  refine ⟨h1.src e, ?_, ?_, by rw [← i15]; exact h4, by rw [← i14]; exact h5, by rw [← i12]; exact h6, by rw [← i12]; exact h7, by rw [← i12, ← a42, ← a43]; exact h8, ?_⟩
  · unfold kp
    rw [← i15, ← a49, ← a50]
    exact h2
  · unfold kb s5
    rw [← i14, ← a44, ← a45, ← a46, ← a47, ← a48]
    exact h3
  · unfold li
    rw [← i4, ← i12, ← i14]
    exact h9
end
section
/-! ===== one thing is told, way by way ===== -/
theorem to_0_p0 {Ls : Nat} {xs : Nat → Int32} {d : Nat} {Q : Option Value → jm_h → Prop} (hd : 5 ≤ d) (F : Nat → sy_d) (X1 X2 : List jm_c) (hB : iv_in F iv_B4)
    (h0 : 0 ≤ (sy_i F 4).toInt ∧ (sy_i F 4).toInt < 403)
    (h1 : ((sy_ai F 25).getD (sy_i F 4).toNatClampNeg 0).toInt < 20)
    (h2 : 0 ≤ (sy_i F 4).toInt ∧ (sy_i F 4).toInt < 403)
    (h3 : (((sy_ai F 25).getD (sy_i F 4).toNatClampNeg 0) - ((22 : Int32))).toInt < 0)
    (h4 : (sy_i F 6).toInt ≤ 0)
    (h5 : 0 ≤ (sy_i F 4).toInt ∧ (sy_i F 4).toInt < 403)
    (k : ∀ F1 : Nat → sy_d, (∀ j, j < 69 → j ≠ 6 ∧ j ≠ 7 → F1 j = F j) → F1 6 = .inl (.int ((1 : Int32))) → F1 7 = .inl (.int ((sy_ai F 26).getD (sy_i F 4).toNatClampNeg 0)) → Q (none) (sy_dh F1 X1 X2 (iv_H 4))) :
    hd_W Ls xs d jm_M154 Q (0, sy_dL F [some (.inl (.ref 1000)), none], sy_dS F [], sy_dh F X1 X2 (iv_H 4), 0, 0) := by
  refine hd_ret (s := 4) (nv := 69) (v := none) (uh := hd_ov (iv_id 0 iv_B4) [(6, .inl (.inl (.int 1))), (7, .inl (.inr (.inl 72)))]) (f := true) (sp := [91, 119, 137, 156, 176, 233]) (d0 := 4) (O := [true, true, true, true]) (T := [(30, [.inr (.inl 4)], [.inr (.inl 25)]), (30, [.inr (.inl 4)], [.inr (.inl 25)]), (1, [.inr (.inl 70), .inl (.int 22)], []), (30, [.inr (.inl 4)], [.inr (.inl 26)])]) (P := [(6, .inr (.inl 4), .inl (.ref 403)), (2, .inr (.inl 69), .inl (.int 20)), (6, .inr (.inl 4), .inl (.ref 403)), (2, .inr (.inl 71), .inl (.int 0)), (4, .inr (.inl 6), .inl (.int 0)), (6, .inr (.inl 4), .inl (.ref 403))]) jm_ok154 (by decide +kernel) (by decide +kernel) hd F X1 X2 (fun F' hF hs => ?_)
  have b4 := hd_b (F := F) (F' := F') (k := 4) (hF 4 (by decide))
  have a25 := hd_ba (F := F) (F' := F') (k := 25) (hF 25 (by decide))
  have t69 : sy_dv F' (.inr (.inl 69)) = .int ((sy_ai F 25).getD (sy_i F 4).toNatClampNeg 0) := hd_rd (hs 0 _ rfl) b4 a25
  have t70 : sy_dv F' (.inr (.inl 70)) = .int ((sy_ai F 25).getD (sy_i F 4).toNatClampNeg 0) := hd_rd (hs 1 _ rfl) b4 a25
  have t71 : sy_dv F' (.inr (.inl 71)) = .int (((sy_ai F 25).getD (sy_i F 4).toNatClampNeg 0) - ((22 : Int32))) := hd_o (hs 2 _ rfl) t70 rfl rfl
  have b6 := hd_b (F := F) (F' := F') (k := 6) (hF 6 (by decide))
  have a26 := hd_ba (F := F) (F' := F') (k := 26) (hF 26 (by decide))
  have t72 : sy_dv F' (.inr (.inl 72)) = .int ((sy_ai F 26).getD (sy_i F 4).toNatClampNeg 0) := hd_rd (hs 3 _ rfl) b4 a26
  have hB' : iv_in F' iv_B4 := iv_in_eq hB (fun j hj => hF j (Nat.lt_of_lt_of_le hj (by decide +kernel)))
  refine ⟨List.forall_mem_cons.mpr ⟨hd_pb b4 (by first | exact h0 | exact h0), List.forall_mem_cons.mpr ⟨hd_p2 t69 rfl (by have hc : ((20) : Int32).toInt = 20 := (by decide); omega), List.forall_mem_cons.mpr ⟨hd_pb b4 (by first | exact h2 | exact h2), List.forall_mem_cons.mpr ⟨hd_p2 t71 rfl (by have hc : ((0) : Int32).toInt = 0 := (by decide); omega), List.forall_mem_cons.mpr ⟨hd_p4 b6 rfl (by have hc : ((0) : Int32).toInt = 0 := (by decide); omega), List.forall_mem_cons.mpr ⟨hd_pb b4 (by first | exact h5 | exact h5), fun _ h => absurd h List.not_mem_nil⟩⟩⟩⟩⟩⟩, ?_⟩
  refine k _ ?_ ?_ ?_
  · exact fun j hj hn => (hd_keep hB' (Nat.lt_of_lt_of_le hj (by decide +kernel)) (by simp; omega)).trans (hF j (Nat.lt_of_lt_of_le hj (by decide)))
  · exact hd_gi (x := .inl (.int 1)) (by decide +kernel) rfl
  · exact hd_gi (x := .inr (.inl 72)) (by decide +kernel) t72
theorem to_0_p1 {Ls : Nat} {xs : Nat → Int32} {d : Nat} {Q : Option Value → jm_h → Prop} (hd : 5 ≤ d) (F : Nat → sy_d) (X1 X2 : List jm_c) (hB : iv_in F iv_B4)
    (h0 : 0 ≤ (sy_i F 4).toInt ∧ (sy_i F 4).toInt < 403)
    (h1 : ((sy_ai F 25).getD (sy_i F 4).toNatClampNeg 0).toInt < 20)
    (h2 : 0 ≤ (sy_i F 4).toInt ∧ (sy_i F 4).toInt < 403)
    (h3 : (((sy_ai F 25).getD (sy_i F 4).toNatClampNeg 0) - ((22 : Int32))).toInt < 0)
    (h4 : 0 < (sy_i F 6).toInt)
    (h5 : 0 < (sy_i F 6).toInt)
    (k : ∀ F1 : Nat → sy_d, (∀ j, j < 69 → True → F1 j = F j) → Q (none) (sy_dh F1 X1 X2 (iv_H 4))) :
    hd_W Ls xs d jm_M154 Q (0, sy_dL F [some (.inl (.ref 1000)), none], sy_dS F [], sy_dh F X1 X2 (iv_H 4), 0, 0) := by
  refine hd_ret (s := 4) (nv := 69) (v := none) (uh := hd_ov (iv_id 0 iv_B4) []) (f := true) (sp := [91, 119, 137, 156, 176, 233]) (d0 := 4) (O := [true, true, true, false, false]) (T := [(30, [.inr (.inl 4)], [.inr (.inl 25)]), (30, [.inr (.inl 4)], [.inr (.inl 25)]), (1, [.inr (.inl 70), .inl (.int 22)], [])]) (P := [(6, .inr (.inl 4), .inl (.ref 403)), (2, .inr (.inl 69), .inl (.int 20)), (6, .inr (.inl 4), .inl (.ref 403)), (2, .inr (.inl 71), .inl (.int 0)), (5, .inr (.inl 6), .inl (.int 0)), (5, .inr (.inl 6), .inl (.int 0))]) jm_ok154 (by decide +kernel) (by decide +kernel) hd F X1 X2 (fun F' hF hs => ?_)
  have b4 := hd_b (F := F) (F' := F') (k := 4) (hF 4 (by decide))
  have a25 := hd_ba (F := F) (F' := F') (k := 25) (hF 25 (by decide))
  have t69 : sy_dv F' (.inr (.inl 69)) = .int ((sy_ai F 25).getD (sy_i F 4).toNatClampNeg 0) := hd_rd (hs 0 _ rfl) b4 a25
  have t70 : sy_dv F' (.inr (.inl 70)) = .int ((sy_ai F 25).getD (sy_i F 4).toNatClampNeg 0) := hd_rd (hs 1 _ rfl) b4 a25
  have t71 : sy_dv F' (.inr (.inl 71)) = .int (((sy_ai F 25).getD (sy_i F 4).toNatClampNeg 0) - ((22 : Int32))) := hd_o (hs 2 _ rfl) t70 rfl rfl
  have b6 := hd_b (F := F) (F' := F') (k := 6) (hF 6 (by decide))
  have hB' : iv_in F' iv_B4 := iv_in_eq hB (fun j hj => hF j (Nat.lt_of_lt_of_le hj (by decide +kernel)))
  refine ⟨List.forall_mem_cons.mpr ⟨hd_pb b4 (by first | exact h0 | exact h0), List.forall_mem_cons.mpr ⟨hd_p2 t69 rfl (by have hc : ((20) : Int32).toInt = 20 := (by decide); omega), List.forall_mem_cons.mpr ⟨hd_pb b4 (by first | exact h2 | exact h2), List.forall_mem_cons.mpr ⟨hd_p2 t71 rfl (by have hc : ((0) : Int32).toInt = 0 := (by decide); omega), List.forall_mem_cons.mpr ⟨hd_p5 b6 rfl (by have hc : ((0) : Int32).toInt = 0 := (by decide); omega), List.forall_mem_cons.mpr ⟨hd_p5 b6 rfl (by have hc : ((0) : Int32).toInt = 0 := (by decide); omega), fun _ h => absurd h List.not_mem_nil⟩⟩⟩⟩⟩⟩, ?_⟩
  refine k _ ?_
  · exact fun j hj _ => (hd_keep hB' (Nat.lt_of_lt_of_le hj (by decide +kernel)) (by simp)).trans (hF j (Nat.lt_of_lt_of_le hj (by decide)))
theorem to_0_p2 {Ls : Nat} {xs : Nat → Int32} {d : Nat} {Q : Option Value → jm_h → Prop} (hd : 5 ≤ d) (F : Nat → sy_d) (X1 X2 : List jm_c) (hB : iv_in F iv_B4)
    (h0 : 0 ≤ (sy_i F 4).toInt ∧ (sy_i F 4).toInt < 403)
    (h1 : 30 < ((sy_ai F 25).getD (sy_i F 4).toNatClampNeg 0).toInt)
    (h2 : 0 ≤ (sy_i F 4).toInt ∧ (sy_i F 4).toInt < 403)
    (h3 : 0 ≤ (((sy_ai F 25).getD (sy_i F 4).toNatClampNeg 0) - ((22 : Int32))).toInt)
    (h4 : 0 ≤ (sy_i F 4).toInt ∧ (sy_i F 4).toInt < 403)
    (h5 : 27 < ((sy_ai F 25).getD (sy_i F 4).toNatClampNeg 0).toInt)
    (h6 : (sy_i F 6).toInt ≤ 0)
    (h7 : 0 ≤ (sy_i F 4).toInt ∧ (sy_i F 4).toInt < 403)
    (k : ∀ F1 : Nat → sy_d, (∀ j, j < 69 → j ≠ 6 ∧ j ≠ 7 → F1 j = F j) → F1 6 = .inl (.int ((1 : Int32))) → F1 7 = .inl (.int ((sy_ai F 26).getD (sy_i F 4).toNatClampNeg 0)) → Q (none) (sy_dh F1 X1 X2 (iv_H 4))) :
    hd_W Ls xs d jm_M154 Q (0, sy_dL F [some (.inl (.ref 1000)), none], sy_dS F [], sy_dh F X1 X2 (iv_H 4), 0, 0) := by
  refine hd_ret (s := 4) (nv := 69) (v := none) (uh := hd_ov (iv_id 0 iv_B4) [(6, .inl (.inl (.int 1))), (7, .inl (.inr (.inl 73)))]) (f := true) (sp := [91, 119, 137, 156, 176, 233]) (d0 := 4) (O := [true, false, false, false, true]) (T := [(30, [.inr (.inl 4)], [.inr (.inl 25)]), (30, [.inr (.inl 4)], [.inr (.inl 25)]), (1, [.inr (.inl 70), .inl (.int 22)], []), (30, [.inr (.inl 4)], [.inr (.inl 25)]), (30, [.inr (.inl 4)], [.inr (.inl 26)])]) (P := [(6, .inr (.inl 4), .inl (.ref 403)), (2, .inl (.int 30), .inr (.inl 69)), (6, .inr (.inl 4), .inl (.ref 403)), (3, .inr (.inl 71), .inl (.int 0)), (6, .inr (.inl 4), .inl (.ref 403)), (5, .inr (.inl 72), .inl (.int 27)), (4, .inr (.inl 6), .inl (.int 0)), (6, .inr (.inl 4), .inl (.ref 403))]) jm_ok154 (by decide +kernel) (by decide +kernel) hd F X1 X2 (fun F' hF hs => ?_)
  have b4 := hd_b (F := F) (F' := F') (k := 4) (hF 4 (by decide))
  have a25 := hd_ba (F := F) (F' := F') (k := 25) (hF 25 (by decide))
  have t69 : sy_dv F' (.inr (.inl 69)) = .int ((sy_ai F 25).getD (sy_i F 4).toNatClampNeg 0) := hd_rd (hs 0 _ rfl) b4 a25
  have t70 : sy_dv F' (.inr (.inl 70)) = .int ((sy_ai F 25).getD (sy_i F 4).toNatClampNeg 0) := hd_rd (hs 1 _ rfl) b4 a25
  have t71 : sy_dv F' (.inr (.inl 71)) = .int (((sy_ai F 25).getD (sy_i F 4).toNatClampNeg 0) - ((22 : Int32))) := hd_o (hs 2 _ rfl) t70 rfl rfl
  have t72 : sy_dv F' (.inr (.inl 72)) = .int ((sy_ai F 25).getD (sy_i F 4).toNatClampNeg 0) := hd_rd (hs 3 _ rfl) b4 a25
  have b6 := hd_b (F := F) (F' := F') (k := 6) (hF 6 (by decide))
  have a26 := hd_ba (F := F) (F' := F') (k := 26) (hF 26 (by decide))
  have t73 : sy_dv F' (.inr (.inl 73)) = .int ((sy_ai F 26).getD (sy_i F 4).toNatClampNeg 0) := hd_rd (hs 4 _ rfl) b4 a26
  have hB' : iv_in F' iv_B4 := iv_in_eq hB (fun j hj => hF j (Nat.lt_of_lt_of_le hj (by decide +kernel)))
  refine ⟨List.forall_mem_cons.mpr ⟨hd_pb b4 (by first | exact h0 | exact h0), List.forall_mem_cons.mpr ⟨hd_p2 rfl t69 (by have hc : ((30) : Int32).toInt = 30 := (by decide); omega), List.forall_mem_cons.mpr ⟨hd_pb b4 (by first | exact h2 | exact h2), List.forall_mem_cons.mpr ⟨hd_p3 t71 rfl (by have hc : ((0) : Int32).toInt = 0 := (by decide); omega), List.forall_mem_cons.mpr ⟨hd_pb b4 (by first | exact h4 | exact h4), List.forall_mem_cons.mpr ⟨hd_p5 t72 rfl (by have hc : ((27) : Int32).toInt = 27 := (by decide); omega), List.forall_mem_cons.mpr ⟨hd_p4 b6 rfl (by have hc : ((0) : Int32).toInt = 0 := (by decide); omega), List.forall_mem_cons.mpr ⟨hd_pb b4 (by first | exact h7 | exact h7), fun _ h => absurd h List.not_mem_nil⟩⟩⟩⟩⟩⟩⟩⟩, ?_⟩
  refine k _ ?_ ?_ ?_
  · exact fun j hj hn => (hd_keep hB' (Nat.lt_of_lt_of_le hj (by decide +kernel)) (by simp; omega)).trans (hF j (Nat.lt_of_lt_of_le hj (by decide)))
  · exact hd_gi (x := .inl (.int 1)) (by decide +kernel) rfl
  · exact hd_gi (x := .inr (.inl 73)) (by decide +kernel) t73
theorem to_0_p3 {Ls : Nat} {xs : Nat → Int32} {d : Nat} {Q : Option Value → jm_h → Prop} (hd : 5 ≤ d) (F : Nat → sy_d) (X1 X2 : List jm_c) (hB : iv_in F iv_B4)
    (h0 : 0 ≤ (sy_i F 4).toInt ∧ (sy_i F 4).toInt < 403)
    (h1 : 30 < ((sy_ai F 25).getD (sy_i F 4).toNatClampNeg 0).toInt)
    (h2 : 0 ≤ (sy_i F 4).toInt ∧ (sy_i F 4).toInt < 403)
    (h3 : 0 ≤ (((sy_ai F 25).getD (sy_i F 4).toNatClampNeg 0) - ((22 : Int32))).toInt)
    (h4 : 0 ≤ (sy_i F 4).toInt ∧ (sy_i F 4).toInt < 403)
    (h5 : 27 < ((sy_ai F 25).getD (sy_i F 4).toNatClampNeg 0).toInt)
    (h6 : 0 < (sy_i F 6).toInt)
    (h7 : 0 < (sy_i F 6).toInt)
    (k : ∀ F1 : Nat → sy_d, (∀ j, j < 69 → True → F1 j = F j) → Q (none) (sy_dh F1 X1 X2 (iv_H 4))) :
    hd_W Ls xs d jm_M154 Q (0, sy_dL F [some (.inl (.ref 1000)), none], sy_dS F [], sy_dh F X1 X2 (iv_H 4), 0, 0) := by
  refine hd_ret (s := 4) (nv := 69) (v := none) (uh := hd_ov (iv_id 0 iv_B4) []) (f := true) (sp := [91, 119, 137, 156, 176, 233]) (d0 := 4) (O := [true, false, false, false, false, false]) (T := [(30, [.inr (.inl 4)], [.inr (.inl 25)]), (30, [.inr (.inl 4)], [.inr (.inl 25)]), (1, [.inr (.inl 70), .inl (.int 22)], []), (30, [.inr (.inl 4)], [.inr (.inl 25)])]) (P := [(6, .inr (.inl 4), .inl (.ref 403)), (2, .inl (.int 30), .inr (.inl 69)), (6, .inr (.inl 4), .inl (.ref 403)), (3, .inr (.inl 71), .inl (.int 0)), (6, .inr (.inl 4), .inl (.ref 403)), (5, .inr (.inl 72), .inl (.int 27)), (5, .inr (.inl 6), .inl (.int 0)), (5, .inr (.inl 6), .inl (.int 0))]) jm_ok154 (by decide +kernel) (by decide +kernel) hd F X1 X2 (fun F' hF hs => ?_)
  have b4 := hd_b (F := F) (F' := F') (k := 4) (hF 4 (by decide))
  have a25 := hd_ba (F := F) (F' := F') (k := 25) (hF 25 (by decide))
  have t69 : sy_dv F' (.inr (.inl 69)) = .int ((sy_ai F 25).getD (sy_i F 4).toNatClampNeg 0) := hd_rd (hs 0 _ rfl) b4 a25
  have t70 : sy_dv F' (.inr (.inl 70)) = .int ((sy_ai F 25).getD (sy_i F 4).toNatClampNeg 0) := hd_rd (hs 1 _ rfl) b4 a25
  have t71 : sy_dv F' (.inr (.inl 71)) = .int (((sy_ai F 25).getD (sy_i F 4).toNatClampNeg 0) - ((22 : Int32))) := hd_o (hs 2 _ rfl) t70 rfl rfl
  have t72 : sy_dv F' (.inr (.inl 72)) = .int ((sy_ai F 25).getD (sy_i F 4).toNatClampNeg 0) := hd_rd (hs 3 _ rfl) b4 a25
  have b6 := hd_b (F := F) (F' := F') (k := 6) (hF 6 (by decide))
  have hB' : iv_in F' iv_B4 := iv_in_eq hB (fun j hj => hF j (Nat.lt_of_lt_of_le hj (by decide +kernel)))
  refine ⟨List.forall_mem_cons.mpr ⟨hd_pb b4 (by first | exact h0 | exact h0), List.forall_mem_cons.mpr ⟨hd_p2 rfl t69 (by have hc : ((30) : Int32).toInt = 30 := (by decide); omega), List.forall_mem_cons.mpr ⟨hd_pb b4 (by first | exact h2 | exact h2), List.forall_mem_cons.mpr ⟨hd_p3 t71 rfl (by have hc : ((0) : Int32).toInt = 0 := (by decide); omega), List.forall_mem_cons.mpr ⟨hd_pb b4 (by first | exact h4 | exact h4), List.forall_mem_cons.mpr ⟨hd_p5 t72 rfl (by have hc : ((27) : Int32).toInt = 27 := (by decide); omega), List.forall_mem_cons.mpr ⟨hd_p5 b6 rfl (by have hc : ((0) : Int32).toInt = 0 := (by decide); omega), List.forall_mem_cons.mpr ⟨hd_p5 b6 rfl (by have hc : ((0) : Int32).toInt = 0 := (by decide); omega), fun _ h => absurd h List.not_mem_nil⟩⟩⟩⟩⟩⟩⟩⟩, ?_⟩
  refine k _ ?_
  · exact fun j hj _ => (hd_keep hB' (Nat.lt_of_lt_of_le hj (by decide +kernel)) (by simp)).trans (hF j (Nat.lt_of_lt_of_le hj (by decide)))
theorem to_0_p4 {Ls : Nat} {xs : Nat → Int32} {d : Nat} {Q : Option Value → jm_h → Prop} (hd : 5 ≤ d) (F : Nat → sy_d) (X1 X2 : List jm_c) (hB : iv_in F iv_B4)
    (h0 : 0 ≤ (sy_i F 4).toInt ∧ (sy_i F 4).toInt < 403)
    (h1 : ((sy_ai F 25).getD (sy_i F 4).toNatClampNeg 0).toInt = 20)
    (h2 : 0 ≤ (sy_i F 12).toInt ∧ (sy_i F 12).toInt < 2)
    (h3 : ((sy_ai F 31).getD (sy_i F 12).toNatClampNeg 0).toInt ≠ 7)
    (h4 : (sy_i F 6).toInt ≠ 0)
    (h5 : (sy_i F 6).toInt ≠ 0)
    (k : ∀ F1 : Nat → sy_d, (∀ j, j < 69 → True → F1 j = F j) → Q (none) (sy_dh F1 X1 X2 (iv_H 4))) :
    hd_W Ls xs d jm_M154 Q (0, sy_dL F [some (.inl (.ref 1000)), none], sy_dS F [], sy_dh F X1 X2 (iv_H 4), 0, 0) := by
  refine hd_ret (s := 4) (nv := 69) (v := none) (uh := hd_ov (iv_id 0 iv_B4) []) (f := true) (sp := [91, 119, 137, 156, 176, 233]) (d0 := 4) (O := [false, true, true, true, true]) (T := [(30, [.inr (.inl 4)], [.inr (.inl 25)]), (30, [.inr (.inl 12)], [.inr (.inl 31)])]) (P := [(6, .inr (.inl 4), .inl (.ref 403)), (0, .inr (.inl 69), .inl (.int 20)), (6, .inr (.inl 12), .inl (.ref 2)), (1, .inr (.inl 70), .inl (.int 7)), (1, .inr (.inl 6), .inl (.int 0)), (1, .inr (.inl 6), .inl (.int 0))]) jm_ok154 (by decide +kernel) (by decide +kernel) hd F X1 X2 (fun F' hF hs => ?_)
  have b4 := hd_b (F := F) (F' := F') (k := 4) (hF 4 (by decide))
  have a25 := hd_ba (F := F) (F' := F') (k := 25) (hF 25 (by decide))
  have t69 : sy_dv F' (.inr (.inl 69)) = .int ((sy_ai F 25).getD (sy_i F 4).toNatClampNeg 0) := hd_rd (hs 0 _ rfl) b4 a25
  have b12 := hd_b (F := F) (F' := F') (k := 12) (hF 12 (by decide))
  have a31 := hd_ba (F := F) (F' := F') (k := 31) (hF 31 (by decide))
  have t70 : sy_dv F' (.inr (.inl 70)) = .int ((sy_ai F 31).getD (sy_i F 12).toNatClampNeg 0) := hd_rd (hs 1 _ rfl) b12 a31
  have b6 := hd_b (F := F) (F' := F') (k := 6) (hF 6 (by decide))
  have hB' : iv_in F' iv_B4 := iv_in_eq hB (fun j hj => hF j (Nat.lt_of_lt_of_le hj (by decide +kernel)))
  refine ⟨List.forall_mem_cons.mpr ⟨hd_pb b4 (by first | exact h0 | exact h0), List.forall_mem_cons.mpr ⟨hd_p0 t69 rfl (by have hc : ((20) : Int32).toInt = 20 := (by decide); omega), List.forall_mem_cons.mpr ⟨hd_pb b12 (by first | exact h2 | exact h2), List.forall_mem_cons.mpr ⟨hd_p1 t70 rfl (by have hc : ((7) : Int32).toInt = 7 := (by decide); omega), List.forall_mem_cons.mpr ⟨hd_p1 b6 rfl (by have hc : ((0) : Int32).toInt = 0 := (by decide); omega), List.forall_mem_cons.mpr ⟨hd_p1 b6 rfl (by have hc : ((0) : Int32).toInt = 0 := (by decide); omega), fun _ h => absurd h List.not_mem_nil⟩⟩⟩⟩⟩⟩, ?_⟩
  refine k _ ?_
  · exact fun j hj _ => (hd_keep hB' (Nat.lt_of_lt_of_le hj (by decide +kernel)) (by simp)).trans (hF j (Nat.lt_of_lt_of_le hj (by decide)))
theorem to_0_p5 {Ls : Nat} {xs : Nat → Int32} {d : Nat} {Q : Option Value → jm_h → Prop} (hd : 5 ≤ d) (F : Nat → sy_d) (X1 X2 : List jm_c) (hB : iv_in F iv_B4)
    (h0 : 0 ≤ (sy_i F 4).toInt ∧ (sy_i F 4).toInt < 403)
    (h1 : ((sy_ai F 25).getD (sy_i F 4).toNatClampNeg 0).toInt = 20)
    (h2 : 0 ≤ (sy_i F 12).toInt ∧ (sy_i F 12).toInt < 2)
    (h3 : ((sy_ai F 31).getD (sy_i F 12).toNatClampNeg 0).toInt ≠ 7)
    (h4 : (sy_i F 6).toInt = 0)
    (h5 : (sy_i F 4).toInt ≠ 400)
    (h6 : (sy_i F 6).toInt = 0)
    (k : ∀ F1 : Nat → sy_d, (∀ j, j < 69 → j ≠ 4 → F1 j = F j) → F1 4 = .inl (.int ((sy_i F 4) + ((1 : Int32)))) → hd_W Ls xs d jm_M154 Q (91, sy_dL F1 [some (.inl (.ref 1000)), none], sy_dS F1 [.inl (.ref 1000)], sy_dh F1 X1 X2 (iv_H 4), 0, 0)) :
    hd_W Ls xs d jm_M154 Q (0, sy_dL F [some (.inl (.ref 1000)), none], sy_dS F [], sy_dh F X1 X2 (iv_H 4), 0, 0) := by
  refine hd_run (s := 4) (nv := 69) (pc := 91) (L := [some (.inl (.ref 1000)), none]) (S := [.inl (.ref 1000)]) (uh := hd_ov (iv_id 0 iv_B4) [(4, .inl (.inr (.inl 71)))]) (ul := []) (f := true) (sp := [91, 119, 137, 156, 176, 233]) (d0 := 4) (O := [false, true, true, false, true, false]) (T := [(30, [.inr (.inl 4)], [.inr (.inl 25)]), (30, [.inr (.inl 12)], [.inr (.inl 31)]), (0, [.inr (.inl 4), .inl (.int 1)], [])]) (P := [(6, .inr (.inl 4), .inl (.ref 403)), (0, .inr (.inl 69), .inl (.int 20)), (6, .inr (.inl 12), .inl (.ref 2)), (1, .inr (.inl 70), .inl (.int 7)), (0, .inr (.inl 6), .inl (.int 0)), (1, .inr (.inl 4), .inl (.int 400)), (0, .inr (.inl 6), .inl (.int 0))]) jm_ok154 (by decide +kernel) (by decide +kernel) hd F X1 X2 (fun F' hF hs => ?_)
  have b4 := hd_b (F := F) (F' := F') (k := 4) (hF 4 (by decide))
  have a25 := hd_ba (F := F) (F' := F') (k := 25) (hF 25 (by decide))
  have t69 : sy_dv F' (.inr (.inl 69)) = .int ((sy_ai F 25).getD (sy_i F 4).toNatClampNeg 0) := hd_rd (hs 0 _ rfl) b4 a25
  have b12 := hd_b (F := F) (F' := F') (k := 12) (hF 12 (by decide))
  have a31 := hd_ba (F := F) (F' := F') (k := 31) (hF 31 (by decide))
  have t70 : sy_dv F' (.inr (.inl 70)) = .int ((sy_ai F 31).getD (sy_i F 12).toNatClampNeg 0) := hd_rd (hs 1 _ rfl) b12 a31
  have b6 := hd_b (F := F) (F' := F') (k := 6) (hF 6 (by decide))
  have t71 : sy_dv F' (.inr (.inl 71)) = .int ((sy_i F 4) + ((1 : Int32))) := hd_o (hs 2 _ rfl) b4 rfl rfl
  have hB' : iv_in F' iv_B4 := iv_in_eq hB (fun j hj => hF j (Nat.lt_of_lt_of_le hj (by decide +kernel)))
  refine ⟨List.forall_mem_cons.mpr ⟨hd_pb b4 (by first | exact h0 | exact h0), List.forall_mem_cons.mpr ⟨hd_p0 t69 rfl (by have hc : ((20) : Int32).toInt = 20 := (by decide); omega), List.forall_mem_cons.mpr ⟨hd_pb b12 (by first | exact h2 | exact h2), List.forall_mem_cons.mpr ⟨hd_p1 t70 rfl (by have hc : ((7) : Int32).toInt = 7 := (by decide); omega), List.forall_mem_cons.mpr ⟨hd_p0 b6 rfl (by have hc : ((0) : Int32).toInt = 0 := (by decide); omega), List.forall_mem_cons.mpr ⟨hd_p1 b4 rfl (by have hc : ((400) : Int32).toInt = 400 := (by decide); omega), List.forall_mem_cons.mpr ⟨hd_p0 b6 rfl (by have hc : ((0) : Int32).toInt = 0 := (by decide); omega), fun _ h => absurd h List.not_mem_nil⟩⟩⟩⟩⟩⟩⟩, ?_⟩
  refine k _ ?_ ?_
  · exact fun j hj hn => (hd_keep hB' (Nat.lt_of_lt_of_le hj (by decide +kernel)) (by simp; omega)).trans (hF j (Nat.lt_of_lt_of_le hj (by decide)))
  · exact hd_gi (x := .inr (.inl 71)) (by decide +kernel) t71
theorem to_0_p6 {Ls : Nat} {xs : Nat → Int32} {d : Nat} {Q : Option Value → jm_h → Prop} (hd : 5 ≤ d) (F : Nat → sy_d) (X1 X2 : List jm_c) (hB : iv_in F iv_B4)
    (h0 : 0 ≤ (sy_i F 4).toInt ∧ (sy_i F 4).toInt < 403)
    (h1 : ((sy_ai F 25).getD (sy_i F 4).toNatClampNeg 0).toInt = 20)
    (h2 : 0 ≤ (sy_i F 12).toInt ∧ (sy_i F 12).toInt < 2)
    (h3 : ((sy_ai F 31).getD (sy_i F 12).toNatClampNeg 0).toInt ≠ 7)
    (h4 : (sy_i F 6).toInt = 0)
    (h5 : (sy_i F 4).toInt = 400)
    (h6 : (sy_i F 6).toInt ≤ 0)
    (h7 : 0 ≤ (sy_i F 4).toInt ∧ (sy_i F 4).toInt < 403)
    (k : ∀ F1 : Nat → sy_d, (∀ j, j < 69 → j ≠ 6 ∧ j ≠ 7 → F1 j = F j) → F1 6 = .inl (.int ((2 : Int32))) → F1 7 = .inl (.int ((sy_ai F 26).getD (sy_i F 4).toNatClampNeg 0)) → Q (none) (sy_dh F1 X1 X2 (iv_H 4))) :
    hd_W Ls xs d jm_M154 Q (0, sy_dL F [some (.inl (.ref 1000)), none], sy_dS F [], sy_dh F X1 X2 (iv_H 4), 0, 0) := by
  refine hd_ret (s := 4) (nv := 69) (v := none) (uh := hd_ov (iv_id 0 iv_B4) [(6, .inl (.inl (.int 2))), (7, .inl (.inr (.inl 71)))]) (f := true) (sp := [91, 119, 137, 156, 176, 233]) (d0 := 4) (O := [false, true, true, false, false, true]) (T := [(30, [.inr (.inl 4)], [.inr (.inl 25)]), (30, [.inr (.inl 12)], [.inr (.inl 31)]), (30, [.inr (.inl 4)], [.inr (.inl 26)])]) (P := [(6, .inr (.inl 4), .inl (.ref 403)), (0, .inr (.inl 69), .inl (.int 20)), (6, .inr (.inl 12), .inl (.ref 2)), (1, .inr (.inl 70), .inl (.int 7)), (0, .inr (.inl 6), .inl (.int 0)), (0, .inr (.inl 4), .inl (.int 400)), (4, .inr (.inl 6), .inl (.int 0)), (6, .inr (.inl 4), .inl (.ref 403))]) jm_ok154 (by decide +kernel) (by decide +kernel) hd F X1 X2 (fun F' hF hs => ?_)
  have b4 := hd_b (F := F) (F' := F') (k := 4) (hF 4 (by decide))
  have a25 := hd_ba (F := F) (F' := F') (k := 25) (hF 25 (by decide))
  have t69 : sy_dv F' (.inr (.inl 69)) = .int ((sy_ai F 25).getD (sy_i F 4).toNatClampNeg 0) := hd_rd (hs 0 _ rfl) b4 a25
  have b12 := hd_b (F := F) (F' := F') (k := 12) (hF 12 (by decide))
  have a31 := hd_ba (F := F) (F' := F') (k := 31) (hF 31 (by decide))
  have t70 : sy_dv F' (.inr (.inl 70)) = .int ((sy_ai F 31).getD (sy_i F 12).toNatClampNeg 0) := hd_rd (hs 1 _ rfl) b12 a31
  have b6 := hd_b (F := F) (F' := F') (k := 6) (hF 6 (by decide))
  have a26 := hd_ba (F := F) (F' := F') (k := 26) (hF 26 (by decide))
  have t71 : sy_dv F' (.inr (.inl 71)) = .int ((sy_ai F 26).getD (sy_i F 4).toNatClampNeg 0) := hd_rd (hs 2 _ rfl) b4 a26
  have hB' : iv_in F' iv_B4 := iv_in_eq hB (fun j hj => hF j (Nat.lt_of_lt_of_le hj (by decide +kernel)))
  refine ⟨List.forall_mem_cons.mpr ⟨hd_pb b4 (by first | exact h0 | exact h0), List.forall_mem_cons.mpr ⟨hd_p0 t69 rfl (by have hc : ((20) : Int32).toInt = 20 := (by decide); omega), List.forall_mem_cons.mpr ⟨hd_pb b12 (by first | exact h2 | exact h2), List.forall_mem_cons.mpr ⟨hd_p1 t70 rfl (by have hc : ((7) : Int32).toInt = 7 := (by decide); omega), List.forall_mem_cons.mpr ⟨hd_p0 b6 rfl (by have hc : ((0) : Int32).toInt = 0 := (by decide); omega), List.forall_mem_cons.mpr ⟨hd_p0 b4 rfl (by have hc : ((400) : Int32).toInt = 400 := (by decide); omega), List.forall_mem_cons.mpr ⟨hd_p4 b6 rfl (by have hc : ((0) : Int32).toInt = 0 := (by decide); omega), List.forall_mem_cons.mpr ⟨hd_pb b4 (by first | exact h7 | exact h7), fun _ h => absurd h List.not_mem_nil⟩⟩⟩⟩⟩⟩⟩⟩, ?_⟩
  refine k _ ?_ ?_ ?_
  · exact fun j hj hn => (hd_keep hB' (Nat.lt_of_lt_of_le hj (by decide +kernel)) (by simp; omega)).trans (hF j (Nat.lt_of_lt_of_le hj (by decide)))
  · exact hd_gi (x := .inl (.int 2)) (by decide +kernel) rfl
  · exact hd_gi (x := .inr (.inl 71)) (by decide +kernel) t71
theorem to_0_p7 {Ls : Nat} {xs : Nat → Int32} {d : Nat} {Q : Option Value → jm_h → Prop} (hd : 5 ≤ d) (F : Nat → sy_d) (X1 X2 : List jm_c) (hB : iv_in F iv_B4)
    (h0 : 0 ≤ (sy_i F 4).toInt ∧ (sy_i F 4).toInt < 403)
    (h1 : ((sy_ai F 25).getD (sy_i F 4).toNatClampNeg 0).toInt = 20)
    (h2 : 0 ≤ (sy_i F 12).toInt ∧ (sy_i F 12).toInt < 2)
    (h3 : ((sy_ai F 31).getD (sy_i F 12).toNatClampNeg 0).toInt = 7)
    (h4 : (sy_i F 6).toInt ≤ 0)
    (h5 : 0 ≤ (sy_i F 4).toInt ∧ (sy_i F 4).toInt < 403)
    (k : ∀ F1 : Nat → sy_d, (∀ j, j < 69 → j ≠ 6 ∧ j ≠ 7 → F1 j = F j) → F1 6 = .inl (.int ((2 : Int32))) → F1 7 = .inl (.int ((sy_ai F 26).getD (sy_i F 4).toNatClampNeg 0)) → Q (none) (sy_dh F1 X1 X2 (iv_H 4))) :
    hd_W Ls xs d jm_M154 Q (0, sy_dL F [some (.inl (.ref 1000)), none], sy_dS F [], sy_dh F X1 X2 (iv_H 4), 0, 0) := by
  refine hd_ret (s := 4) (nv := 69) (v := none) (uh := hd_ov (iv_id 0 iv_B4) [(6, .inl (.inl (.int 2))), (7, .inl (.inr (.inl 71)))]) (f := true) (sp := [91, 119, 137, 156, 176, 233]) (d0 := 4) (O := [false, true, false, true]) (T := [(30, [.inr (.inl 4)], [.inr (.inl 25)]), (30, [.inr (.inl 12)], [.inr (.inl 31)]), (30, [.inr (.inl 4)], [.inr (.inl 26)])]) (P := [(6, .inr (.inl 4), .inl (.ref 403)), (0, .inr (.inl 69), .inl (.int 20)), (6, .inr (.inl 12), .inl (.ref 2)), (0, .inr (.inl 70), .inl (.int 7)), (4, .inr (.inl 6), .inl (.int 0)), (6, .inr (.inl 4), .inl (.ref 403))]) jm_ok154 (by decide +kernel) (by decide +kernel) hd F X1 X2 (fun F' hF hs => ?_)
  have b4 := hd_b (F := F) (F' := F') (k := 4) (hF 4 (by decide))
  have a25 := hd_ba (F := F) (F' := F') (k := 25) (hF 25 (by decide))
  have t69 : sy_dv F' (.inr (.inl 69)) = .int ((sy_ai F 25).getD (sy_i F 4).toNatClampNeg 0) := hd_rd (hs 0 _ rfl) b4 a25
  have b12 := hd_b (F := F) (F' := F') (k := 12) (hF 12 (by decide))
  have a31 := hd_ba (F := F) (F' := F') (k := 31) (hF 31 (by decide))
  have t70 : sy_dv F' (.inr (.inl 70)) = .int ((sy_ai F 31).getD (sy_i F 12).toNatClampNeg 0) := hd_rd (hs 1 _ rfl) b12 a31
  have b6 := hd_b (F := F) (F' := F') (k := 6) (hF 6 (by decide))
  have a26 := hd_ba (F := F) (F' := F') (k := 26) (hF 26 (by decide))
  have t71 : sy_dv F' (.inr (.inl 71)) = .int ((sy_ai F 26).getD (sy_i F 4).toNatClampNeg 0) := hd_rd (hs 2 _ rfl) b4 a26
  have hB' : iv_in F' iv_B4 := iv_in_eq hB (fun j hj => hF j (Nat.lt_of_lt_of_le hj (by decide +kernel)))
  refine ⟨List.forall_mem_cons.mpr ⟨hd_pb b4 (by first | exact h0 | exact h0), List.forall_mem_cons.mpr ⟨hd_p0 t69 rfl (by have hc : ((20) : Int32).toInt = 20 := (by decide); omega), List.forall_mem_cons.mpr ⟨hd_pb b12 (by first | exact h2 | exact h2), List.forall_mem_cons.mpr ⟨hd_p0 t70 rfl (by have hc : ((7) : Int32).toInt = 7 := (by decide); omega), List.forall_mem_cons.mpr ⟨hd_p4 b6 rfl (by have hc : ((0) : Int32).toInt = 0 := (by decide); omega), List.forall_mem_cons.mpr ⟨hd_pb b4 (by first | exact h5 | exact h5), fun _ h => absurd h List.not_mem_nil⟩⟩⟩⟩⟩⟩, ?_⟩
  refine k _ ?_ ?_ ?_
  · exact fun j hj hn => (hd_keep hB' (Nat.lt_of_lt_of_le hj (by decide +kernel)) (by simp; omega)).trans (hF j (Nat.lt_of_lt_of_le hj (by decide)))
  · exact hd_gi (x := .inl (.int 2)) (by decide +kernel) rfl
  · exact hd_gi (x := .inr (.inl 71)) (by decide +kernel) t71
theorem to_0_p8 {Ls : Nat} {xs : Nat → Int32} {d : Nat} {Q : Option Value → jm_h → Prop} (hd : 5 ≤ d) (F : Nat → sy_d) (X1 X2 : List jm_c) (hB : iv_in F iv_B4)
    (h0 : 0 ≤ (sy_i F 4).toInt ∧ (sy_i F 4).toInt < 403)
    (h1 : ((sy_ai F 25).getD (sy_i F 4).toNatClampNeg 0).toInt = 20)
    (h2 : 0 ≤ (sy_i F 12).toInt ∧ (sy_i F 12).toInt < 2)
    (h3 : ((sy_ai F 31).getD (sy_i F 12).toNatClampNeg 0).toInt = 7)
    (h4 : 0 < (sy_i F 6).toInt)
    (h5 : (sy_i F 6).toInt ≠ 0)
    (h6 : (sy_i F 6).toInt ≠ 0)
    (k : ∀ F1 : Nat → sy_d, (∀ j, j < 69 → True → F1 j = F j) → Q (none) (sy_dh F1 X1 X2 (iv_H 4))) :
    hd_W Ls xs d jm_M154 Q (0, sy_dL F [some (.inl (.ref 1000)), none], sy_dS F [], sy_dh F X1 X2 (iv_H 4), 0, 0) := by
  refine hd_ret (s := 4) (nv := 69) (v := none) (uh := hd_ov (iv_id 0 iv_B4) []) (f := true) (sp := [91, 119, 137, 156, 176, 233]) (d0 := 4) (O := [false, true, false, false, true, true]) (T := [(30, [.inr (.inl 4)], [.inr (.inl 25)]), (30, [.inr (.inl 12)], [.inr (.inl 31)])]) (P := [(6, .inr (.inl 4), .inl (.ref 403)), (0, .inr (.inl 69), .inl (.int 20)), (6, .inr (.inl 12), .inl (.ref 2)), (0, .inr (.inl 70), .inl (.int 7)), (5, .inr (.inl 6), .inl (.int 0)), (1, .inr (.inl 6), .inl (.int 0)), (1, .inr (.inl 6), .inl (.int 0))]) jm_ok154 (by decide +kernel) (by decide +kernel) hd F X1 X2 (fun F' hF hs => ?_)
  have b4 := hd_b (F := F) (F' := F') (k := 4) (hF 4 (by decide))
  have a25 := hd_ba (F := F) (F' := F') (k := 25) (hF 25 (by decide))
  have t69 : sy_dv F' (.inr (.inl 69)) = .int ((sy_ai F 25).getD (sy_i F 4).toNatClampNeg 0) := hd_rd (hs 0 _ rfl) b4 a25
  have b12 := hd_b (F := F) (F' := F') (k := 12) (hF 12 (by decide))
  have a31 := hd_ba (F := F) (F' := F') (k := 31) (hF 31 (by decide))
  have t70 : sy_dv F' (.inr (.inl 70)) = .int ((sy_ai F 31).getD (sy_i F 12).toNatClampNeg 0) := hd_rd (hs 1 _ rfl) b12 a31
  have b6 := hd_b (F := F) (F' := F') (k := 6) (hF 6 (by decide))
  have hB' : iv_in F' iv_B4 := iv_in_eq hB (fun j hj => hF j (Nat.lt_of_lt_of_le hj (by decide +kernel)))
  refine ⟨List.forall_mem_cons.mpr ⟨hd_pb b4 (by first | exact h0 | exact h0), List.forall_mem_cons.mpr ⟨hd_p0 t69 rfl (by have hc : ((20) : Int32).toInt = 20 := (by decide); omega), List.forall_mem_cons.mpr ⟨hd_pb b12 (by first | exact h2 | exact h2), List.forall_mem_cons.mpr ⟨hd_p0 t70 rfl (by have hc : ((7) : Int32).toInt = 7 := (by decide); omega), List.forall_mem_cons.mpr ⟨hd_p5 b6 rfl (by have hc : ((0) : Int32).toInt = 0 := (by decide); omega), List.forall_mem_cons.mpr ⟨hd_p1 b6 rfl (by have hc : ((0) : Int32).toInt = 0 := (by decide); omega), List.forall_mem_cons.mpr ⟨hd_p1 b6 rfl (by have hc : ((0) : Int32).toInt = 0 := (by decide); omega), fun _ h => absurd h List.not_mem_nil⟩⟩⟩⟩⟩⟩⟩, ?_⟩
  refine k _ ?_
  · exact fun j hj _ => (hd_keep hB' (Nat.lt_of_lt_of_le hj (by decide +kernel)) (by simp)).trans (hF j (Nat.lt_of_lt_of_le hj (by decide)))
theorem to_0_p9 {Ls : Nat} {xs : Nat → Int32} {d : Nat} {Q : Option Value → jm_h → Prop} (hd : 5 ≤ d) (F : Nat → sy_d) (X1 X2 : List jm_c) (hB : iv_in F iv_B4)
    (h0 : 0 ≤ (sy_i F 4).toInt ∧ (sy_i F 4).toInt < 403)
    (h1 : ((sy_ai F 25).getD (sy_i F 4).toNatClampNeg 0).toInt = 21)
    (h2 : 0 ≤ (sy_i F 12).toInt ∧ (sy_i F 12).toInt < 2)
    (h3 : ((sy_ai F 35).getD (sy_i F 12).toNatClampNeg 0).toInt ≠ 4)
    (h4 : (sy_i F 6).toInt ≠ 0)
    (h5 : (sy_i F 6).toInt ≠ 0)
    (k : ∀ F1 : Nat → sy_d, (∀ j, j < 69 → True → F1 j = F j) → Q (none) (sy_dh F1 X1 X2 (iv_H 4))) :
    hd_W Ls xs d jm_M154 Q (0, sy_dL F [some (.inl (.ref 1000)), none], sy_dS F [], sy_dh F X1 X2 (iv_H 4), 0, 0) := by
  refine hd_ret (s := 4) (nv := 69) (v := none) (uh := hd_ov (iv_id 0 iv_B4) []) (f := true) (sp := [91, 119, 137, 156, 176, 233]) (d0 := 4) (O := [false, false, true, true, true, true]) (T := [(30, [.inr (.inl 4)], [.inr (.inl 25)]), (30, [.inr (.inl 12)], [.inr (.inl 35)])]) (P := [(6, .inr (.inl 4), .inl (.ref 403)), (0, .inr (.inl 69), .inl (.int 21)), (6, .inr (.inl 12), .inl (.ref 2)), (1, .inr (.inl 70), .inl (.int 4)), (1, .inr (.inl 6), .inl (.int 0)), (1, .inr (.inl 6), .inl (.int 0))]) jm_ok154 (by decide +kernel) (by decide +kernel) hd F X1 X2 (fun F' hF hs => ?_)
  have b4 := hd_b (F := F) (F' := F') (k := 4) (hF 4 (by decide))
  have a25 := hd_ba (F := F) (F' := F') (k := 25) (hF 25 (by decide))
  have t69 : sy_dv F' (.inr (.inl 69)) = .int ((sy_ai F 25).getD (sy_i F 4).toNatClampNeg 0) := hd_rd (hs 0 _ rfl) b4 a25
  have b12 := hd_b (F := F) (F' := F') (k := 12) (hF 12 (by decide))
  have a35 := hd_ba (F := F) (F' := F') (k := 35) (hF 35 (by decide))
  have t70 : sy_dv F' (.inr (.inl 70)) = .int ((sy_ai F 35).getD (sy_i F 12).toNatClampNeg 0) := hd_rd (hs 1 _ rfl) b12 a35
  have b6 := hd_b (F := F) (F' := F') (k := 6) (hF 6 (by decide))
  have hB' : iv_in F' iv_B4 := iv_in_eq hB (fun j hj => hF j (Nat.lt_of_lt_of_le hj (by decide +kernel)))
  refine ⟨List.forall_mem_cons.mpr ⟨hd_pb b4 (by first | exact h0 | exact h0), List.forall_mem_cons.mpr ⟨hd_p0 t69 rfl (by have hc : ((21) : Int32).toInt = 21 := (by decide); omega), List.forall_mem_cons.mpr ⟨hd_pb b12 (by first | exact h2 | exact h2), List.forall_mem_cons.mpr ⟨hd_p1 t70 rfl (by have hc : ((4) : Int32).toInt = 4 := (by decide); omega), List.forall_mem_cons.mpr ⟨hd_p1 b6 rfl (by have hc : ((0) : Int32).toInt = 0 := (by decide); omega), List.forall_mem_cons.mpr ⟨hd_p1 b6 rfl (by have hc : ((0) : Int32).toInt = 0 := (by decide); omega), fun _ h => absurd h List.not_mem_nil⟩⟩⟩⟩⟩⟩, ?_⟩
  refine k _ ?_
  · exact fun j hj _ => (hd_keep hB' (Nat.lt_of_lt_of_le hj (by decide +kernel)) (by simp)).trans (hF j (Nat.lt_of_lt_of_le hj (by decide)))
theorem to_0_p10 {Ls : Nat} {xs : Nat → Int32} {d : Nat} {Q : Option Value → jm_h → Prop} (hd : 5 ≤ d) (F : Nat → sy_d) (X1 X2 : List jm_c) (hB : iv_in F iv_B4)
    (h0 : 0 ≤ (sy_i F 4).toInt ∧ (sy_i F 4).toInt < 403)
    (h1 : ((sy_ai F 25).getD (sy_i F 4).toNatClampNeg 0).toInt = 21)
    (h2 : 0 ≤ (sy_i F 12).toInt ∧ (sy_i F 12).toInt < 2)
    (h3 : ((sy_ai F 35).getD (sy_i F 12).toNatClampNeg 0).toInt ≠ 4)
    (h4 : (sy_i F 6).toInt = 0)
    (h5 : (sy_i F 4).toInt ≠ 400)
    (h6 : (sy_i F 6).toInt = 0)
    (k : ∀ F1 : Nat → sy_d, (∀ j, j < 69 → j ≠ 4 → F1 j = F j) → F1 4 = .inl (.int ((sy_i F 4) + ((1 : Int32)))) → hd_W Ls xs d jm_M154 Q (119, sy_dL F1 [some (.inl (.ref 1000)), none], sy_dS F1 [.inl (.ref 1000)], sy_dh F1 X1 X2 (iv_H 4), 0, 0)) :
    hd_W Ls xs d jm_M154 Q (0, sy_dL F [some (.inl (.ref 1000)), none], sy_dS F [], sy_dh F X1 X2 (iv_H 4), 0, 0) := by
  refine hd_run (s := 4) (nv := 69) (pc := 119) (L := [some (.inl (.ref 1000)), none]) (S := [.inl (.ref 1000)]) (uh := hd_ov (iv_id 0 iv_B4) [(4, .inl (.inr (.inl 71)))]) (ul := []) (f := true) (sp := [91, 119, 137, 156, 176, 233]) (d0 := 4) (O := [false, false, true, true, false, true, false]) (T := [(30, [.inr (.inl 4)], [.inr (.inl 25)]), (30, [.inr (.inl 12)], [.inr (.inl 35)]), (0, [.inr (.inl 4), .inl (.int 1)], [])]) (P := [(6, .inr (.inl 4), .inl (.ref 403)), (0, .inr (.inl 69), .inl (.int 21)), (6, .inr (.inl 12), .inl (.ref 2)), (1, .inr (.inl 70), .inl (.int 4)), (0, .inr (.inl 6), .inl (.int 0)), (1, .inr (.inl 4), .inl (.int 400)), (0, .inr (.inl 6), .inl (.int 0))]) jm_ok154 (by decide +kernel) (by decide +kernel) hd F X1 X2 (fun F' hF hs => ?_)
  have b4 := hd_b (F := F) (F' := F') (k := 4) (hF 4 (by decide))
  have a25 := hd_ba (F := F) (F' := F') (k := 25) (hF 25 (by decide))
  have t69 : sy_dv F' (.inr (.inl 69)) = .int ((sy_ai F 25).getD (sy_i F 4).toNatClampNeg 0) := hd_rd (hs 0 _ rfl) b4 a25
  have b12 := hd_b (F := F) (F' := F') (k := 12) (hF 12 (by decide))
  have a35 := hd_ba (F := F) (F' := F') (k := 35) (hF 35 (by decide))
  have t70 : sy_dv F' (.inr (.inl 70)) = .int ((sy_ai F 35).getD (sy_i F 12).toNatClampNeg 0) := hd_rd (hs 1 _ rfl) b12 a35
  have b6 := hd_b (F := F) (F' := F') (k := 6) (hF 6 (by decide))
  have t71 : sy_dv F' (.inr (.inl 71)) = .int ((sy_i F 4) + ((1 : Int32))) := hd_o (hs 2 _ rfl) b4 rfl rfl
  have hB' : iv_in F' iv_B4 := iv_in_eq hB (fun j hj => hF j (Nat.lt_of_lt_of_le hj (by decide +kernel)))
  refine ⟨List.forall_mem_cons.mpr ⟨hd_pb b4 (by first | exact h0 | exact h0), List.forall_mem_cons.mpr ⟨hd_p0 t69 rfl (by have hc : ((21) : Int32).toInt = 21 := (by decide); omega), List.forall_mem_cons.mpr ⟨hd_pb b12 (by first | exact h2 | exact h2), List.forall_mem_cons.mpr ⟨hd_p1 t70 rfl (by have hc : ((4) : Int32).toInt = 4 := (by decide); omega), List.forall_mem_cons.mpr ⟨hd_p0 b6 rfl (by have hc : ((0) : Int32).toInt = 0 := (by decide); omega), List.forall_mem_cons.mpr ⟨hd_p1 b4 rfl (by have hc : ((400) : Int32).toInt = 400 := (by decide); omega), List.forall_mem_cons.mpr ⟨hd_p0 b6 rfl (by have hc : ((0) : Int32).toInt = 0 := (by decide); omega), fun _ h => absurd h List.not_mem_nil⟩⟩⟩⟩⟩⟩⟩, ?_⟩
  refine k _ ?_ ?_
  · exact fun j hj hn => (hd_keep hB' (Nat.lt_of_lt_of_le hj (by decide +kernel)) (by simp; omega)).trans (hF j (Nat.lt_of_lt_of_le hj (by decide)))
  · exact hd_gi (x := .inr (.inl 71)) (by decide +kernel) t71
theorem to_0_p11 {Ls : Nat} {xs : Nat → Int32} {d : Nat} {Q : Option Value → jm_h → Prop} (hd : 5 ≤ d) (F : Nat → sy_d) (X1 X2 : List jm_c) (hB : iv_in F iv_B4)
    (h0 : 0 ≤ (sy_i F 4).toInt ∧ (sy_i F 4).toInt < 403)
    (h1 : ((sy_ai F 25).getD (sy_i F 4).toNatClampNeg 0).toInt = 21)
    (h2 : 0 ≤ (sy_i F 12).toInt ∧ (sy_i F 12).toInt < 2)
    (h3 : ((sy_ai F 35).getD (sy_i F 12).toNatClampNeg 0).toInt ≠ 4)
    (h4 : (sy_i F 6).toInt = 0)
    (h5 : (sy_i F 4).toInt = 400)
    (h6 : (sy_i F 6).toInt ≤ 0)
    (h7 : 0 ≤ (sy_i F 4).toInt ∧ (sy_i F 4).toInt < 403)
    (k : ∀ F1 : Nat → sy_d, (∀ j, j < 69 → j ≠ 6 ∧ j ≠ 7 → F1 j = F j) → F1 6 = .inl (.int ((2 : Int32))) → F1 7 = .inl (.int ((sy_ai F 26).getD (sy_i F 4).toNatClampNeg 0)) → Q (none) (sy_dh F1 X1 X2 (iv_H 4))) :
    hd_W Ls xs d jm_M154 Q (0, sy_dL F [some (.inl (.ref 1000)), none], sy_dS F [], sy_dh F X1 X2 (iv_H 4), 0, 0) := by
  refine hd_ret (s := 4) (nv := 69) (v := none) (uh := hd_ov (iv_id 0 iv_B4) [(6, .inl (.inl (.int 2))), (7, .inl (.inr (.inl 71)))]) (f := true) (sp := [91, 119, 137, 156, 176, 233]) (d0 := 4) (O := [false, false, true, true, false, false, true]) (T := [(30, [.inr (.inl 4)], [.inr (.inl 25)]), (30, [.inr (.inl 12)], [.inr (.inl 35)]), (30, [.inr (.inl 4)], [.inr (.inl 26)])]) (P := [(6, .inr (.inl 4), .inl (.ref 403)), (0, .inr (.inl 69), .inl (.int 21)), (6, .inr (.inl 12), .inl (.ref 2)), (1, .inr (.inl 70), .inl (.int 4)), (0, .inr (.inl 6), .inl (.int 0)), (0, .inr (.inl 4), .inl (.int 400)), (4, .inr (.inl 6), .inl (.int 0)), (6, .inr (.inl 4), .inl (.ref 403))]) jm_ok154 (by decide +kernel) (by decide +kernel) hd F X1 X2 (fun F' hF hs => ?_)
  have b4 := hd_b (F := F) (F' := F') (k := 4) (hF 4 (by decide))
  have a25 := hd_ba (F := F) (F' := F') (k := 25) (hF 25 (by decide))
  have t69 : sy_dv F' (.inr (.inl 69)) = .int ((sy_ai F 25).getD (sy_i F 4).toNatClampNeg 0) := hd_rd (hs 0 _ rfl) b4 a25
  have b12 := hd_b (F := F) (F' := F') (k := 12) (hF 12 (by decide))
  have a35 := hd_ba (F := F) (F' := F') (k := 35) (hF 35 (by decide))
  have t70 : sy_dv F' (.inr (.inl 70)) = .int ((sy_ai F 35).getD (sy_i F 12).toNatClampNeg 0) := hd_rd (hs 1 _ rfl) b12 a35
  have b6 := hd_b (F := F) (F' := F') (k := 6) (hF 6 (by decide))
  have a26 := hd_ba (F := F) (F' := F') (k := 26) (hF 26 (by decide))
  have t71 : sy_dv F' (.inr (.inl 71)) = .int ((sy_ai F 26).getD (sy_i F 4).toNatClampNeg 0) := hd_rd (hs 2 _ rfl) b4 a26
  have hB' : iv_in F' iv_B4 := iv_in_eq hB (fun j hj => hF j (Nat.lt_of_lt_of_le hj (by decide +kernel)))
  refine ⟨List.forall_mem_cons.mpr ⟨hd_pb b4 (by first | exact h0 | exact h0), List.forall_mem_cons.mpr ⟨hd_p0 t69 rfl (by have hc : ((21) : Int32).toInt = 21 := (by decide); omega), List.forall_mem_cons.mpr ⟨hd_pb b12 (by first | exact h2 | exact h2), List.forall_mem_cons.mpr ⟨hd_p1 t70 rfl (by have hc : ((4) : Int32).toInt = 4 := (by decide); omega), List.forall_mem_cons.mpr ⟨hd_p0 b6 rfl (by have hc : ((0) : Int32).toInt = 0 := (by decide); omega), List.forall_mem_cons.mpr ⟨hd_p0 b4 rfl (by have hc : ((400) : Int32).toInt = 400 := (by decide); omega), List.forall_mem_cons.mpr ⟨hd_p4 b6 rfl (by have hc : ((0) : Int32).toInt = 0 := (by decide); omega), List.forall_mem_cons.mpr ⟨hd_pb b4 (by first | exact h7 | exact h7), fun _ h => absurd h List.not_mem_nil⟩⟩⟩⟩⟩⟩⟩⟩, ?_⟩
  refine k _ ?_ ?_ ?_
  · exact fun j hj hn => (hd_keep hB' (Nat.lt_of_lt_of_le hj (by decide +kernel)) (by simp; omega)).trans (hF j (Nat.lt_of_lt_of_le hj (by decide)))
  · exact hd_gi (x := .inl (.int 2)) (by decide +kernel) rfl
  · exact hd_gi (x := .inr (.inl 71)) (by decide +kernel) t71
theorem to_0_p12 {Ls : Nat} {xs : Nat → Int32} {d : Nat} {Q : Option Value → jm_h → Prop} (hd : 5 ≤ d) (F : Nat → sy_d) (X1 X2 : List jm_c) (hB : iv_in F iv_B4)
    (h0 : 0 ≤ (sy_i F 4).toInt ∧ (sy_i F 4).toInt < 403)
    (h1 : ((sy_ai F 25).getD (sy_i F 4).toNatClampNeg 0).toInt = 21)
    (h2 : 0 ≤ (sy_i F 12).toInt ∧ (sy_i F 12).toInt < 2)
    (h3 : ((sy_ai F 35).getD (sy_i F 12).toNatClampNeg 0).toInt = 4)
    (h4 : (sy_i F 6).toInt ≤ 0)
    (h5 : 0 ≤ (sy_i F 4).toInt ∧ (sy_i F 4).toInt < 403)
    (k : ∀ F1 : Nat → sy_d, (∀ j, j < 69 → j ≠ 6 ∧ j ≠ 7 → F1 j = F j) → F1 6 = .inl (.int ((2 : Int32))) → F1 7 = .inl (.int ((sy_ai F 26).getD (sy_i F 4).toNatClampNeg 0)) → Q (none) (sy_dh F1 X1 X2 (iv_H 4))) :
    hd_W Ls xs d jm_M154 Q (0, sy_dL F [some (.inl (.ref 1000)), none], sy_dS F [], sy_dh F X1 X2 (iv_H 4), 0, 0) := by
  refine hd_ret (s := 4) (nv := 69) (v := none) (uh := hd_ov (iv_id 0 iv_B4) [(6, .inl (.inl (.int 2))), (7, .inl (.inr (.inl 71)))]) (f := true) (sp := [91, 119, 137, 156, 176, 233]) (d0 := 4) (O := [false, false, true, false, true]) (T := [(30, [.inr (.inl 4)], [.inr (.inl 25)]), (30, [.inr (.inl 12)], [.inr (.inl 35)]), (30, [.inr (.inl 4)], [.inr (.inl 26)])]) (P := [(6, .inr (.inl 4), .inl (.ref 403)), (0, .inr (.inl 69), .inl (.int 21)), (6, .inr (.inl 12), .inl (.ref 2)), (0, .inr (.inl 70), .inl (.int 4)), (4, .inr (.inl 6), .inl (.int 0)), (6, .inr (.inl 4), .inl (.ref 403))]) jm_ok154 (by decide +kernel) (by decide +kernel) hd F X1 X2 (fun F' hF hs => ?_)
  have b4 := hd_b (F := F) (F' := F') (k := 4) (hF 4 (by decide))
  have a25 := hd_ba (F := F) (F' := F') (k := 25) (hF 25 (by decide))
  have t69 : sy_dv F' (.inr (.inl 69)) = .int ((sy_ai F 25).getD (sy_i F 4).toNatClampNeg 0) := hd_rd (hs 0 _ rfl) b4 a25
  have b12 := hd_b (F := F) (F' := F') (k := 12) (hF 12 (by decide))
  have a35 := hd_ba (F := F) (F' := F') (k := 35) (hF 35 (by decide))
  have t70 : sy_dv F' (.inr (.inl 70)) = .int ((sy_ai F 35).getD (sy_i F 12).toNatClampNeg 0) := hd_rd (hs 1 _ rfl) b12 a35
  have b6 := hd_b (F := F) (F' := F') (k := 6) (hF 6 (by decide))
  have a26 := hd_ba (F := F) (F' := F') (k := 26) (hF 26 (by decide))
  have t71 : sy_dv F' (.inr (.inl 71)) = .int ((sy_ai F 26).getD (sy_i F 4).toNatClampNeg 0) := hd_rd (hs 2 _ rfl) b4 a26
  have hB' : iv_in F' iv_B4 := iv_in_eq hB (fun j hj => hF j (Nat.lt_of_lt_of_le hj (by decide +kernel)))
  refine ⟨List.forall_mem_cons.mpr ⟨hd_pb b4 (by first | exact h0 | exact h0), List.forall_mem_cons.mpr ⟨hd_p0 t69 rfl (by have hc : ((21) : Int32).toInt = 21 := (by decide); omega), List.forall_mem_cons.mpr ⟨hd_pb b12 (by first | exact h2 | exact h2), List.forall_mem_cons.mpr ⟨hd_p0 t70 rfl (by have hc : ((4) : Int32).toInt = 4 := (by decide); omega), List.forall_mem_cons.mpr ⟨hd_p4 b6 rfl (by have hc : ((0) : Int32).toInt = 0 := (by decide); omega), List.forall_mem_cons.mpr ⟨hd_pb b4 (by first | exact h5 | exact h5), fun _ h => absurd h List.not_mem_nil⟩⟩⟩⟩⟩⟩, ?_⟩
  refine k _ ?_ ?_ ?_
  · exact fun j hj hn => (hd_keep hB' (Nat.lt_of_lt_of_le hj (by decide +kernel)) (by simp; omega)).trans (hF j (Nat.lt_of_lt_of_le hj (by decide)))
  · exact hd_gi (x := .inl (.int 2)) (by decide +kernel) rfl
  · exact hd_gi (x := .inr (.inl 71)) (by decide +kernel) t71
theorem to_0_p13 {Ls : Nat} {xs : Nat → Int32} {d : Nat} {Q : Option Value → jm_h → Prop} (hd : 5 ≤ d) (F : Nat → sy_d) (X1 X2 : List jm_c) (hB : iv_in F iv_B4)
    (h0 : 0 ≤ (sy_i F 4).toInt ∧ (sy_i F 4).toInt < 403)
    (h1 : ((sy_ai F 25).getD (sy_i F 4).toNatClampNeg 0).toInt = 21)
    (h2 : 0 ≤ (sy_i F 12).toInt ∧ (sy_i F 12).toInt < 2)
    (h3 : ((sy_ai F 35).getD (sy_i F 12).toNatClampNeg 0).toInt = 4)
    (h4 : 0 < (sy_i F 6).toInt)
    (h5 : (sy_i F 6).toInt ≠ 0)
    (h6 : (sy_i F 6).toInt ≠ 0)
    (k : ∀ F1 : Nat → sy_d, (∀ j, j < 69 → True → F1 j = F j) → Q (none) (sy_dh F1 X1 X2 (iv_H 4))) :
    hd_W Ls xs d jm_M154 Q (0, sy_dL F [some (.inl (.ref 1000)), none], sy_dS F [], sy_dh F X1 X2 (iv_H 4), 0, 0) := by
  refine hd_ret (s := 4) (nv := 69) (v := none) (uh := hd_ov (iv_id 0 iv_B4) []) (f := true) (sp := [91, 119, 137, 156, 176, 233]) (d0 := 4) (O := [false, false, true, false, false, true, true]) (T := [(30, [.inr (.inl 4)], [.inr (.inl 25)]), (30, [.inr (.inl 12)], [.inr (.inl 35)])]) (P := [(6, .inr (.inl 4), .inl (.ref 403)), (0, .inr (.inl 69), .inl (.int 21)), (6, .inr (.inl 12), .inl (.ref 2)), (0, .inr (.inl 70), .inl (.int 4)), (5, .inr (.inl 6), .inl (.int 0)), (1, .inr (.inl 6), .inl (.int 0)), (1, .inr (.inl 6), .inl (.int 0))]) jm_ok154 (by decide +kernel) (by decide +kernel) hd F X1 X2 (fun F' hF hs => ?_)
  have b4 := hd_b (F := F) (F' := F') (k := 4) (hF 4 (by decide))
  have a25 := hd_ba (F := F) (F' := F') (k := 25) (hF 25 (by decide))
  have t69 : sy_dv F' (.inr (.inl 69)) = .int ((sy_ai F 25).getD (sy_i F 4).toNatClampNeg 0) := hd_rd (hs 0 _ rfl) b4 a25
  have b12 := hd_b (F := F) (F' := F') (k := 12) (hF 12 (by decide))
  have a35 := hd_ba (F := F) (F' := F') (k := 35) (hF 35 (by decide))
  have t70 : sy_dv F' (.inr (.inl 70)) = .int ((sy_ai F 35).getD (sy_i F 12).toNatClampNeg 0) := hd_rd (hs 1 _ rfl) b12 a35
  have b6 := hd_b (F := F) (F' := F') (k := 6) (hF 6 (by decide))
  have hB' : iv_in F' iv_B4 := iv_in_eq hB (fun j hj => hF j (Nat.lt_of_lt_of_le hj (by decide +kernel)))
  refine ⟨List.forall_mem_cons.mpr ⟨hd_pb b4 (by first | exact h0 | exact h0), List.forall_mem_cons.mpr ⟨hd_p0 t69 rfl (by have hc : ((21) : Int32).toInt = 21 := (by decide); omega), List.forall_mem_cons.mpr ⟨hd_pb b12 (by first | exact h2 | exact h2), List.forall_mem_cons.mpr ⟨hd_p0 t70 rfl (by have hc : ((4) : Int32).toInt = 4 := (by decide); omega), List.forall_mem_cons.mpr ⟨hd_p5 b6 rfl (by have hc : ((0) : Int32).toInt = 0 := (by decide); omega), List.forall_mem_cons.mpr ⟨hd_p1 b6 rfl (by have hc : ((0) : Int32).toInt = 0 := (by decide); omega), List.forall_mem_cons.mpr ⟨hd_p1 b6 rfl (by have hc : ((0) : Int32).toInt = 0 := (by decide); omega), fun _ h => absurd h List.not_mem_nil⟩⟩⟩⟩⟩⟩⟩, ?_⟩
  refine k _ ?_
  · exact fun j hj _ => (hd_keep hB' (Nat.lt_of_lt_of_le hj (by decide +kernel)) (by simp)).trans (hF j (Nat.lt_of_lt_of_le hj (by decide)))
theorem to_0_p14 {Ls : Nat} {xs : Nat → Int32} {d : Nat} {Q : Option Value → jm_h → Prop} (hd : 5 ≤ d) (F : Nat → sy_d) (X1 X2 : List jm_c) (hB : iv_in F iv_B4)
    (h0 : 0 ≤ (sy_i F 4).toInt ∧ (sy_i F 4).toInt < 403)
    (h1 : ((sy_ai F 25).getD (sy_i F 4).toNatClampNeg 0).toInt = 22)
    (h2 : 0 ≤ (sy_i F 4).toInt ∧ (sy_i F 4).toInt < 403)
    (h3 : 0 ≤ (((sy_ai F 25).getD (sy_i F 4).toNatClampNeg 0) - ((22 : Int32))).toInt)
    (h4 : 0 ≤ (sy_i F 4).toInt ∧ (sy_i F 4).toInt < 403)
    (h5 : ((sy_ai F 25).getD (sy_i F 4).toNatClampNeg 0).toInt ≤ 27)
    (h6 : (sy_i F 6).toInt ≤ 0)
    (h7 : (sy_i F 4).toInt ≠ 400)
    (k : ∀ F1 : Nat → sy_d, (∀ j, j < 69 → j ≠ 4 → F1 j = F j) → F1 4 = .inl (.int ((sy_i F 4) + ((1 : Int32)))) → F1 69 = .inl (.int (((sy_ai F 25).getD (sy_i F 4).toNatClampNeg 0) - ((22 : Int32)))) → hd_W Ls xs d jm_M154 Q (233, sy_dL F1 [some (.inl (.ref 1000)), none], sy_dS F1 [.inr (.inl 69), .inl (.ref 1000)], sy_dh F1 X1 X2 (iv_H 4), 0, 0)) :
    hd_W Ls xs d jm_M154 Q (0, sy_dL F [some (.inl (.ref 1000)), none], sy_dS F [], sy_dh F X1 X2 (iv_H 4), 0, 0) := by
  refine hd_run (s := 4) (nv := 69) (pc := 233) (L := [some (.inl (.ref 1000)), none]) (S := [.inr (.inl 69), .inl (.ref 1000)]) (uh := hd_ov (iv_id 0 iv_B4) [(4, .inl (.inr (.inl 73)))]) (ul := [.inl (.inr (.inl 71))]) (f := true) (sp := [91, 119, 137, 156, 176, 233]) (d0 := 4) (O := [false, false, false, true, false, true, true, true]) (T := [(30, [.inr (.inl 4)], [.inr (.inl 25)]), (30, [.inr (.inl 4)], [.inr (.inl 25)]), (1, [.inr (.inl 70), .inl (.int 22)], []), (30, [.inr (.inl 4)], [.inr (.inl 25)]), (0, [.inr (.inl 4), .inl (.int 1)], [])]) (P := [(6, .inr (.inl 4), .inl (.ref 403)), (0, .inr (.inl 69), .inl (.int 22)), (6, .inr (.inl 4), .inl (.ref 403)), (3, .inr (.inl 71), .inl (.int 0)), (6, .inr (.inl 4), .inl (.ref 403)), (4, .inr (.inl 72), .inl (.int 27)), (4, .inr (.inl 6), .inl (.int 0)), (1, .inr (.inl 4), .inl (.int 400))]) jm_ok154 (by decide +kernel) (by decide +kernel) hd F X1 X2 (fun F' hF hs => ?_)
  have b4 := hd_b (F := F) (F' := F') (k := 4) (hF 4 (by decide))
  have a25 := hd_ba (F := F) (F' := F') (k := 25) (hF 25 (by decide))
  have t69 : sy_dv F' (.inr (.inl 69)) = .int ((sy_ai F 25).getD (sy_i F 4).toNatClampNeg 0) := hd_rd (hs 0 _ rfl) b4 a25
  have t70 : sy_dv F' (.inr (.inl 70)) = .int ((sy_ai F 25).getD (sy_i F 4).toNatClampNeg 0) := hd_rd (hs 1 _ rfl) b4 a25
  have t71 : sy_dv F' (.inr (.inl 71)) = .int (((sy_ai F 25).getD (sy_i F 4).toNatClampNeg 0) - ((22 : Int32))) := hd_o (hs 2 _ rfl) t70 rfl rfl
  have t72 : sy_dv F' (.inr (.inl 72)) = .int ((sy_ai F 25).getD (sy_i F 4).toNatClampNeg 0) := hd_rd (hs 3 _ rfl) b4 a25
  have b6 := hd_b (F := F) (F' := F') (k := 6) (hF 6 (by decide))
  have t73 : sy_dv F' (.inr (.inl 73)) = .int ((sy_i F 4) + ((1 : Int32))) := hd_o (hs 4 _ rfl) b4 rfl rfl
  have hB' : iv_in F' iv_B4 := iv_in_eq hB (fun j hj => hF j (Nat.lt_of_lt_of_le hj (by decide +kernel)))
  refine ⟨List.forall_mem_cons.mpr ⟨hd_pb b4 (by first | exact h0 | exact h0), List.forall_mem_cons.mpr ⟨hd_p0 t69 rfl (by have hc : ((22) : Int32).toInt = 22 := (by decide); omega), List.forall_mem_cons.mpr ⟨hd_pb b4 (by first | exact h2 | exact h2), List.forall_mem_cons.mpr ⟨hd_p3 t71 rfl (by have hc : ((0) : Int32).toInt = 0 := (by decide); omega), List.forall_mem_cons.mpr ⟨hd_pb b4 (by first | exact h4 | exact h4), List.forall_mem_cons.mpr ⟨hd_p4 t72 rfl (by have hc : ((27) : Int32).toInt = 27 := (by decide); omega), List.forall_mem_cons.mpr ⟨hd_p4 b6 rfl (by have hc : ((0) : Int32).toInt = 0 := (by decide); omega), List.forall_mem_cons.mpr ⟨hd_p1 b4 rfl (by have hc : ((400) : Int32).toInt = 400 := (by decide); omega), fun _ h => absurd h List.not_mem_nil⟩⟩⟩⟩⟩⟩⟩⟩, ?_⟩
  refine k _ ?_ ?_ ?_
  · exact fun j hj hn => (hd_keep hB' (Nat.lt_of_lt_of_le hj (by decide +kernel)) (by simp; omega)).trans (hF j (Nat.lt_of_lt_of_le hj (by decide)))
  · exact hd_gi (x := .inr (.inl 73)) (by decide +kernel) t73
  · exact hd_gi (x := .inr (.inl 71)) (by decide +kernel) t71
theorem to_0_p15 {Ls : Nat} {xs : Nat → Int32} {d : Nat} {Q : Option Value → jm_h → Prop} (hd : 5 ≤ d) (F : Nat → sy_d) (X1 X2 : List jm_c) (hB : iv_in F iv_B4)
    (h0 : 0 ≤ (sy_i F 4).toInt ∧ (sy_i F 4).toInt < 403)
    (h1 : ((sy_ai F 25).getD (sy_i F 4).toNatClampNeg 0).toInt = 22)
    (h2 : 0 ≤ (sy_i F 4).toInt ∧ (sy_i F 4).toInt < 403)
    (h3 : 0 ≤ (((sy_ai F 25).getD (sy_i F 4).toNatClampNeg 0) - ((22 : Int32))).toInt)
    (h4 : 0 ≤ (sy_i F 4).toInt ∧ (sy_i F 4).toInt < 403)
    (h5 : ((sy_ai F 25).getD (sy_i F 4).toNatClampNeg 0).toInt ≤ 27)
    (h6 : (sy_i F 6).toInt ≤ 0)
    (h7 : (sy_i F 4).toInt = 400)
    (h8 : (sy_i F 6).toInt ≤ 0)
    (h9 : 0 ≤ (sy_i F 4).toInt ∧ (sy_i F 4).toInt < 403)
    (k : ∀ F1 : Nat → sy_d, (∀ j, j < 69 → j ≠ 6 ∧ j ≠ 7 → F1 j = F j) → F1 6 = .inl (.int ((2 : Int32))) → F1 7 = .inl (.int ((sy_ai F 26).getD (sy_i F 4).toNatClampNeg 0)) → F1 69 = .inl (.int (((sy_ai F 25).getD (sy_i F 4).toNatClampNeg 0) - ((22 : Int32)))) → hd_W Ls xs d jm_M154 Q (233, sy_dL F1 [some (.inl (.ref 1000)), none], sy_dS F1 [.inr (.inl 69), .inl (.ref 1000)], sy_dh F1 X1 X2 (iv_H 4), 0, 0)) :
    hd_W Ls xs d jm_M154 Q (0, sy_dL F [some (.inl (.ref 1000)), none], sy_dS F [], sy_dh F X1 X2 (iv_H 4), 0, 0) := by
  refine hd_run (s := 4) (nv := 69) (pc := 233) (L := [some (.inl (.ref 1000)), none]) (S := [.inr (.inl 69), .inl (.ref 1000)]) (uh := hd_ov (iv_id 0 iv_B4) [(6, .inl (.inl (.int 2))), (7, .inl (.inr (.inl 73)))]) (ul := [.inl (.inr (.inl 71))]) (f := true) (sp := [91, 119, 137, 156, 176, 233]) (d0 := 4) (O := [false, false, false, true, false, true, true, false, true]) (T := [(30, [.inr (.inl 4)], [.inr (.inl 25)]), (30, [.inr (.inl 4)], [.inr (.inl 25)]), (1, [.inr (.inl 70), .inl (.int 22)], []), (30, [.inr (.inl 4)], [.inr (.inl 25)]), (30, [.inr (.inl 4)], [.inr (.inl 26)])]) (P := [(6, .inr (.inl 4), .inl (.ref 403)), (0, .inr (.inl 69), .inl (.int 22)), (6, .inr (.inl 4), .inl (.ref 403)), (3, .inr (.inl 71), .inl (.int 0)), (6, .inr (.inl 4), .inl (.ref 403)), (4, .inr (.inl 72), .inl (.int 27)), (4, .inr (.inl 6), .inl (.int 0)), (0, .inr (.inl 4), .inl (.int 400)), (4, .inr (.inl 6), .inl (.int 0)), (6, .inr (.inl 4), .inl (.ref 403))]) jm_ok154 (by decide +kernel) (by decide +kernel) hd F X1 X2 (fun F' hF hs => ?_)
  have b4 := hd_b (F := F) (F' := F') (k := 4) (hF 4 (by decide))
  have a25 := hd_ba (F := F) (F' := F') (k := 25) (hF 25 (by decide))
  have t69 : sy_dv F' (.inr (.inl 69)) = .int ((sy_ai F 25).getD (sy_i F 4).toNatClampNeg 0) := hd_rd (hs 0 _ rfl) b4 a25
  have t70 : sy_dv F' (.inr (.inl 70)) = .int ((sy_ai F 25).getD (sy_i F 4).toNatClampNeg 0) := hd_rd (hs 1 _ rfl) b4 a25
  have t71 : sy_dv F' (.inr (.inl 71)) = .int (((sy_ai F 25).getD (sy_i F 4).toNatClampNeg 0) - ((22 : Int32))) := hd_o (hs 2 _ rfl) t70 rfl rfl
  have t72 : sy_dv F' (.inr (.inl 72)) = .int ((sy_ai F 25).getD (sy_i F 4).toNatClampNeg 0) := hd_rd (hs 3 _ rfl) b4 a25
  have b6 := hd_b (F := F) (F' := F') (k := 6) (hF 6 (by decide))
  have a26 := hd_ba (F := F) (F' := F') (k := 26) (hF 26 (by decide))
  have t73 : sy_dv F' (.inr (.inl 73)) = .int ((sy_ai F 26).getD (sy_i F 4).toNatClampNeg 0) := hd_rd (hs 4 _ rfl) b4 a26
  have hB' : iv_in F' iv_B4 := iv_in_eq hB (fun j hj => hF j (Nat.lt_of_lt_of_le hj (by decide +kernel)))
  refine ⟨List.forall_mem_cons.mpr ⟨hd_pb b4 (by first | exact h0 | exact h0), List.forall_mem_cons.mpr ⟨hd_p0 t69 rfl (by have hc : ((22) : Int32).toInt = 22 := (by decide); omega), List.forall_mem_cons.mpr ⟨hd_pb b4 (by first | exact h2 | exact h2), List.forall_mem_cons.mpr ⟨hd_p3 t71 rfl (by have hc : ((0) : Int32).toInt = 0 := (by decide); omega), List.forall_mem_cons.mpr ⟨hd_pb b4 (by first | exact h4 | exact h4), List.forall_mem_cons.mpr ⟨hd_p4 t72 rfl (by have hc : ((27) : Int32).toInt = 27 := (by decide); omega), List.forall_mem_cons.mpr ⟨hd_p4 b6 rfl (by have hc : ((0) : Int32).toInt = 0 := (by decide); omega), List.forall_mem_cons.mpr ⟨hd_p0 b4 rfl (by have hc : ((400) : Int32).toInt = 400 := (by decide); omega), List.forall_mem_cons.mpr ⟨hd_p4 b6 rfl (by have hc : ((0) : Int32).toInt = 0 := (by decide); omega), List.forall_mem_cons.mpr ⟨hd_pb b4 (by first | exact h9 | exact h9), fun _ h => absurd h List.not_mem_nil⟩⟩⟩⟩⟩⟩⟩⟩⟩⟩, ?_⟩
  refine k _ ?_ ?_ ?_ ?_
  · exact fun j hj hn => (hd_keep hB' (Nat.lt_of_lt_of_le hj (by decide +kernel)) (by simp; omega)).trans (hF j (Nat.lt_of_lt_of_le hj (by decide)))
  · exact hd_gi (x := .inl (.int 2)) (by decide +kernel) rfl
  · exact hd_gi (x := .inr (.inl 73)) (by decide +kernel) t73
  · exact hd_gi (x := .inr (.inl 71)) (by decide +kernel) t71
theorem to_0_p16 {Ls : Nat} {xs : Nat → Int32} {d : Nat} {Q : Option Value → jm_h → Prop} (hd : 5 ≤ d) (F : Nat → sy_d) (X1 X2 : List jm_c) (hB : iv_in F iv_B4)
    (h0 : 0 ≤ (sy_i F 4).toInt ∧ (sy_i F 4).toInt < 403)
    (h1 : ((sy_ai F 25).getD (sy_i F 4).toNatClampNeg 0).toInt = 22)
    (h2 : 0 ≤ (sy_i F 4).toInt ∧ (sy_i F 4).toInt < 403)
    (h3 : 0 ≤ (((sy_ai F 25).getD (sy_i F 4).toNatClampNeg 0) - ((22 : Int32))).toInt)
    (h4 : 0 ≤ (sy_i F 4).toInt ∧ (sy_i F 4).toInt < 403)
    (h5 : ((sy_ai F 25).getD (sy_i F 4).toNatClampNeg 0).toInt ≤ 27)
    (h6 : 0 < (sy_i F 6).toInt)
    (k : ∀ F1 : Nat → sy_d, (∀ j, j < 69 → True → F1 j = F j) → Q (none) (sy_dh F1 X1 X2 (iv_H 4))) :
    hd_W Ls xs d jm_M154 Q (0, sy_dL F [some (.inl (.ref 1000)), none], sy_dS F [], sy_dh F X1 X2 (iv_H 4), 0, 0) := by
  refine hd_ret (s := 4) (nv := 69) (v := none) (uh := hd_ov (iv_id 0 iv_B4) []) (f := true) (sp := [91, 119, 137, 156, 176, 233]) (d0 := 4) (O := [false, false, false, true, false, true, false]) (T := [(30, [.inr (.inl 4)], [.inr (.inl 25)]), (30, [.inr (.inl 4)], [.inr (.inl 25)]), (1, [.inr (.inl 70), .inl (.int 22)], []), (30, [.inr (.inl 4)], [.inr (.inl 25)])]) (P := [(6, .inr (.inl 4), .inl (.ref 403)), (0, .inr (.inl 69), .inl (.int 22)), (6, .inr (.inl 4), .inl (.ref 403)), (3, .inr (.inl 71), .inl (.int 0)), (6, .inr (.inl 4), .inl (.ref 403)), (4, .inr (.inl 72), .inl (.int 27)), (5, .inr (.inl 6), .inl (.int 0))]) jm_ok154 (by decide +kernel) (by decide +kernel) hd F X1 X2 (fun F' hF hs => ?_)
  have b4 := hd_b (F := F) (F' := F') (k := 4) (hF 4 (by decide))
  have a25 := hd_ba (F := F) (F' := F') (k := 25) (hF 25 (by decide))
  have t69 : sy_dv F' (.inr (.inl 69)) = .int ((sy_ai F 25).getD (sy_i F 4).toNatClampNeg 0) := hd_rd (hs 0 _ rfl) b4 a25
  have t70 : sy_dv F' (.inr (.inl 70)) = .int ((sy_ai F 25).getD (sy_i F 4).toNatClampNeg 0) := hd_rd (hs 1 _ rfl) b4 a25
  have t71 : sy_dv F' (.inr (.inl 71)) = .int (((sy_ai F 25).getD (sy_i F 4).toNatClampNeg 0) - ((22 : Int32))) := hd_o (hs 2 _ rfl) t70 rfl rfl
  have t72 : sy_dv F' (.inr (.inl 72)) = .int ((sy_ai F 25).getD (sy_i F 4).toNatClampNeg 0) := hd_rd (hs 3 _ rfl) b4 a25
  have b6 := hd_b (F := F) (F' := F') (k := 6) (hF 6 (by decide))
  have hB' : iv_in F' iv_B4 := iv_in_eq hB (fun j hj => hF j (Nat.lt_of_lt_of_le hj (by decide +kernel)))
  refine ⟨List.forall_mem_cons.mpr ⟨hd_pb b4 (by first | exact h0 | exact h0), List.forall_mem_cons.mpr ⟨hd_p0 t69 rfl (by have hc : ((22) : Int32).toInt = 22 := (by decide); omega), List.forall_mem_cons.mpr ⟨hd_pb b4 (by first | exact h2 | exact h2), List.forall_mem_cons.mpr ⟨hd_p3 t71 rfl (by have hc : ((0) : Int32).toInt = 0 := (by decide); omega), List.forall_mem_cons.mpr ⟨hd_pb b4 (by first | exact h4 | exact h4), List.forall_mem_cons.mpr ⟨hd_p4 t72 rfl (by have hc : ((27) : Int32).toInt = 27 := (by decide); omega), List.forall_mem_cons.mpr ⟨hd_p5 b6 rfl (by have hc : ((0) : Int32).toInt = 0 := (by decide); omega), fun _ h => absurd h List.not_mem_nil⟩⟩⟩⟩⟩⟩⟩, ?_⟩
  refine k _ ?_
  · exact fun j hj _ => (hd_keep hB' (Nat.lt_of_lt_of_le hj (by decide +kernel)) (by simp)).trans (hF j (Nat.lt_of_lt_of_le hj (by decide)))
theorem to_0_p17 {Ls : Nat} {xs : Nat → Int32} {d : Nat} {Q : Option Value → jm_h → Prop} (hd : 5 ≤ d) (F : Nat → sy_d) (X1 X2 : List jm_c) (hB : iv_in F iv_B4)
    (h0 : 0 ≤ (sy_i F 4).toInt ∧ (sy_i F 4).toInt < 403)
    (h1 : ((sy_ai F 25).getD (sy_i F 4).toNatClampNeg 0).toInt = 23)
    (h2 : 0 ≤ (sy_i F 4).toInt ∧ (sy_i F 4).toInt < 403)
    (h3 : 0 ≤ (((sy_ai F 25).getD (sy_i F 4).toNatClampNeg 0) - ((22 : Int32))).toInt)
    (h4 : 0 ≤ (sy_i F 4).toInt ∧ (sy_i F 4).toInt < 403)
    (h5 : ((sy_ai F 25).getD (sy_i F 4).toNatClampNeg 0).toInt ≤ 27)
    (h6 : (sy_i F 6).toInt ≤ 0)
    (h7 : (sy_i F 4).toInt ≠ 400)
    (k : ∀ F1 : Nat → sy_d, (∀ j, j < 69 → j ≠ 4 → F1 j = F j) → F1 4 = .inl (.int ((sy_i F 4) + ((1 : Int32)))) → F1 69 = .inl (.int (((sy_ai F 25).getD (sy_i F 4).toNatClampNeg 0) - ((22 : Int32)))) → hd_W Ls xs d jm_M154 Q (233, sy_dL F1 [some (.inl (.ref 1000)), none], sy_dS F1 [.inr (.inl 69), .inl (.ref 1000)], sy_dh F1 X1 X2 (iv_H 4), 0, 0)) :
    hd_W Ls xs d jm_M154 Q (0, sy_dL F [some (.inl (.ref 1000)), none], sy_dS F [], sy_dh F X1 X2 (iv_H 4), 0, 0) := by
  refine hd_run (s := 4) (nv := 69) (pc := 233) (L := [some (.inl (.ref 1000)), none]) (S := [.inr (.inl 69), .inl (.ref 1000)]) (uh := hd_ov (iv_id 0 iv_B4) [(4, .inl (.inr (.inl 73)))]) (ul := [.inl (.inr (.inl 71))]) (f := true) (sp := [91, 119, 137, 156, 176, 233]) (d0 := 4) (O := [false, false, false, false, true, false, true, true, true]) (T := [(30, [.inr (.inl 4)], [.inr (.inl 25)]), (30, [.inr (.inl 4)], [.inr (.inl 25)]), (1, [.inr (.inl 70), .inl (.int 22)], []), (30, [.inr (.inl 4)], [.inr (.inl 25)]), (0, [.inr (.inl 4), .inl (.int 1)], [])]) (P := [(6, .inr (.inl 4), .inl (.ref 403)), (0, .inr (.inl 69), .inl (.int 23)), (6, .inr (.inl 4), .inl (.ref 403)), (3, .inr (.inl 71), .inl (.int 0)), (6, .inr (.inl 4), .inl (.ref 403)), (4, .inr (.inl 72), .inl (.int 27)), (4, .inr (.inl 6), .inl (.int 0)), (1, .inr (.inl 4), .inl (.int 400))]) jm_ok154 (by decide +kernel) (by decide +kernel) hd F X1 X2 (fun F' hF hs => ?_)
  have b4 := hd_b (F := F) (F' := F') (k := 4) (hF 4 (by decide))
  have a25 := hd_ba (F := F) (F' := F') (k := 25) (hF 25 (by decide))
  have t69 : sy_dv F' (.inr (.inl 69)) = .int ((sy_ai F 25).getD (sy_i F 4).toNatClampNeg 0) := hd_rd (hs 0 _ rfl) b4 a25
  have t70 : sy_dv F' (.inr (.inl 70)) = .int ((sy_ai F 25).getD (sy_i F 4).toNatClampNeg 0) := hd_rd (hs 1 _ rfl) b4 a25
  have t71 : sy_dv F' (.inr (.inl 71)) = .int (((sy_ai F 25).getD (sy_i F 4).toNatClampNeg 0) - ((22 : Int32))) := hd_o (hs 2 _ rfl) t70 rfl rfl
  have t72 : sy_dv F' (.inr (.inl 72)) = .int ((sy_ai F 25).getD (sy_i F 4).toNatClampNeg 0) := hd_rd (hs 3 _ rfl) b4 a25
  have b6 := hd_b (F := F) (F' := F') (k := 6) (hF 6 (by decide))
  have t73 : sy_dv F' (.inr (.inl 73)) = .int ((sy_i F 4) + ((1 : Int32))) := hd_o (hs 4 _ rfl) b4 rfl rfl
  have hB' : iv_in F' iv_B4 := iv_in_eq hB (fun j hj => hF j (Nat.lt_of_lt_of_le hj (by decide +kernel)))
  refine ⟨List.forall_mem_cons.mpr ⟨hd_pb b4 (by first | exact h0 | exact h0), List.forall_mem_cons.mpr ⟨hd_p0 t69 rfl (by have hc : ((23) : Int32).toInt = 23 := (by decide); omega), List.forall_mem_cons.mpr ⟨hd_pb b4 (by first | exact h2 | exact h2), List.forall_mem_cons.mpr ⟨hd_p3 t71 rfl (by have hc : ((0) : Int32).toInt = 0 := (by decide); omega), List.forall_mem_cons.mpr ⟨hd_pb b4 (by first | exact h4 | exact h4), List.forall_mem_cons.mpr ⟨hd_p4 t72 rfl (by have hc : ((27) : Int32).toInt = 27 := (by decide); omega), List.forall_mem_cons.mpr ⟨hd_p4 b6 rfl (by have hc : ((0) : Int32).toInt = 0 := (by decide); omega), List.forall_mem_cons.mpr ⟨hd_p1 b4 rfl (by have hc : ((400) : Int32).toInt = 400 := (by decide); omega), fun _ h => absurd h List.not_mem_nil⟩⟩⟩⟩⟩⟩⟩⟩, ?_⟩
  refine k _ ?_ ?_ ?_
  · exact fun j hj hn => (hd_keep hB' (Nat.lt_of_lt_of_le hj (by decide +kernel)) (by simp; omega)).trans (hF j (Nat.lt_of_lt_of_le hj (by decide)))
  · exact hd_gi (x := .inr (.inl 73)) (by decide +kernel) t73
  · exact hd_gi (x := .inr (.inl 71)) (by decide +kernel) t71
theorem to_0_p18 {Ls : Nat} {xs : Nat → Int32} {d : Nat} {Q : Option Value → jm_h → Prop} (hd : 5 ≤ d) (F : Nat → sy_d) (X1 X2 : List jm_c) (hB : iv_in F iv_B4)
    (h0 : 0 ≤ (sy_i F 4).toInt ∧ (sy_i F 4).toInt < 403)
    (h1 : ((sy_ai F 25).getD (sy_i F 4).toNatClampNeg 0).toInt = 23)
    (h2 : 0 ≤ (sy_i F 4).toInt ∧ (sy_i F 4).toInt < 403)
    (h3 : 0 ≤ (((sy_ai F 25).getD (sy_i F 4).toNatClampNeg 0) - ((22 : Int32))).toInt)
    (h4 : 0 ≤ (sy_i F 4).toInt ∧ (sy_i F 4).toInt < 403)
    (h5 : ((sy_ai F 25).getD (sy_i F 4).toNatClampNeg 0).toInt ≤ 27)
    (h6 : (sy_i F 6).toInt ≤ 0)
    (h7 : (sy_i F 4).toInt = 400)
    (h8 : (sy_i F 6).toInt ≤ 0)
    (h9 : 0 ≤ (sy_i F 4).toInt ∧ (sy_i F 4).toInt < 403)
    (k : ∀ F1 : Nat → sy_d, (∀ j, j < 69 → j ≠ 6 ∧ j ≠ 7 → F1 j = F j) → F1 6 = .inl (.int ((2 : Int32))) → F1 7 = .inl (.int ((sy_ai F 26).getD (sy_i F 4).toNatClampNeg 0)) → F1 69 = .inl (.int (((sy_ai F 25).getD (sy_i F 4).toNatClampNeg 0) - ((22 : Int32)))) → hd_W Ls xs d jm_M154 Q (233, sy_dL F1 [some (.inl (.ref 1000)), none], sy_dS F1 [.inr (.inl 69), .inl (.ref 1000)], sy_dh F1 X1 X2 (iv_H 4), 0, 0)) :
    hd_W Ls xs d jm_M154 Q (0, sy_dL F [some (.inl (.ref 1000)), none], sy_dS F [], sy_dh F X1 X2 (iv_H 4), 0, 0) := by
  refine hd_run (s := 4) (nv := 69) (pc := 233) (L := [some (.inl (.ref 1000)), none]) (S := [.inr (.inl 69), .inl (.ref 1000)]) (uh := hd_ov (iv_id 0 iv_B4) [(6, .inl (.inl (.int 2))), (7, .inl (.inr (.inl 73)))]) (ul := [.inl (.inr (.inl 71))]) (f := true) (sp := [91, 119, 137, 156, 176, 233]) (d0 := 4) (O := [false, false, false, false, true, false, true, true, false, true]) (T := [(30, [.inr (.inl 4)], [.inr (.inl 25)]), (30, [.inr (.inl 4)], [.inr (.inl 25)]), (1, [.inr (.inl 70), .inl (.int 22)], []), (30, [.inr (.inl 4)], [.inr (.inl 25)]), (30, [.inr (.inl 4)], [.inr (.inl 26)])]) (P := [(6, .inr (.inl 4), .inl (.ref 403)), (0, .inr (.inl 69), .inl (.int 23)), (6, .inr (.inl 4), .inl (.ref 403)), (3, .inr (.inl 71), .inl (.int 0)), (6, .inr (.inl 4), .inl (.ref 403)), (4, .inr (.inl 72), .inl (.int 27)), (4, .inr (.inl 6), .inl (.int 0)), (0, .inr (.inl 4), .inl (.int 400)), (4, .inr (.inl 6), .inl (.int 0)), (6, .inr (.inl 4), .inl (.ref 403))]) jm_ok154 (by decide +kernel) (by decide +kernel) hd F X1 X2 (fun F' hF hs => ?_)
  have b4 := hd_b (F := F) (F' := F') (k := 4) (hF 4 (by decide))
  have a25 := hd_ba (F := F) (F' := F') (k := 25) (hF 25 (by decide))
  have t69 : sy_dv F' (.inr (.inl 69)) = .int ((sy_ai F 25).getD (sy_i F 4).toNatClampNeg 0) := hd_rd (hs 0 _ rfl) b4 a25
  have t70 : sy_dv F' (.inr (.inl 70)) = .int ((sy_ai F 25).getD (sy_i F 4).toNatClampNeg 0) := hd_rd (hs 1 _ rfl) b4 a25
  have t71 : sy_dv F' (.inr (.inl 71)) = .int (((sy_ai F 25).getD (sy_i F 4).toNatClampNeg 0) - ((22 : Int32))) := hd_o (hs 2 _ rfl) t70 rfl rfl
  have t72 : sy_dv F' (.inr (.inl 72)) = .int ((sy_ai F 25).getD (sy_i F 4).toNatClampNeg 0) := hd_rd (hs 3 _ rfl) b4 a25
  have b6 := hd_b (F := F) (F' := F') (k := 6) (hF 6 (by decide))
  have a26 := hd_ba (F := F) (F' := F') (k := 26) (hF 26 (by decide))
  have t73 : sy_dv F' (.inr (.inl 73)) = .int ((sy_ai F 26).getD (sy_i F 4).toNatClampNeg 0) := hd_rd (hs 4 _ rfl) b4 a26
  have hB' : iv_in F' iv_B4 := iv_in_eq hB (fun j hj => hF j (Nat.lt_of_lt_of_le hj (by decide +kernel)))
  refine ⟨List.forall_mem_cons.mpr ⟨hd_pb b4 (by first | exact h0 | exact h0), List.forall_mem_cons.mpr ⟨hd_p0 t69 rfl (by have hc : ((23) : Int32).toInt = 23 := (by decide); omega), List.forall_mem_cons.mpr ⟨hd_pb b4 (by first | exact h2 | exact h2), List.forall_mem_cons.mpr ⟨hd_p3 t71 rfl (by have hc : ((0) : Int32).toInt = 0 := (by decide); omega), List.forall_mem_cons.mpr ⟨hd_pb b4 (by first | exact h4 | exact h4), List.forall_mem_cons.mpr ⟨hd_p4 t72 rfl (by have hc : ((27) : Int32).toInt = 27 := (by decide); omega), List.forall_mem_cons.mpr ⟨hd_p4 b6 rfl (by have hc : ((0) : Int32).toInt = 0 := (by decide); omega), List.forall_mem_cons.mpr ⟨hd_p0 b4 rfl (by have hc : ((400) : Int32).toInt = 400 := (by decide); omega), List.forall_mem_cons.mpr ⟨hd_p4 b6 rfl (by have hc : ((0) : Int32).toInt = 0 := (by decide); omega), List.forall_mem_cons.mpr ⟨hd_pb b4 (by first | exact h9 | exact h9), fun _ h => absurd h List.not_mem_nil⟩⟩⟩⟩⟩⟩⟩⟩⟩⟩, ?_⟩
  refine k _ ?_ ?_ ?_ ?_
  · exact fun j hj hn => (hd_keep hB' (Nat.lt_of_lt_of_le hj (by decide +kernel)) (by simp; omega)).trans (hF j (Nat.lt_of_lt_of_le hj (by decide)))
  · exact hd_gi (x := .inl (.int 2)) (by decide +kernel) rfl
  · exact hd_gi (x := .inr (.inl 73)) (by decide +kernel) t73
  · exact hd_gi (x := .inr (.inl 71)) (by decide +kernel) t71
theorem to_0_p19 {Ls : Nat} {xs : Nat → Int32} {d : Nat} {Q : Option Value → jm_h → Prop} (hd : 5 ≤ d) (F : Nat → sy_d) (X1 X2 : List jm_c) (hB : iv_in F iv_B4)
    (h0 : 0 ≤ (sy_i F 4).toInt ∧ (sy_i F 4).toInt < 403)
    (h1 : ((sy_ai F 25).getD (sy_i F 4).toNatClampNeg 0).toInt = 23)
    (h2 : 0 ≤ (sy_i F 4).toInt ∧ (sy_i F 4).toInt < 403)
    (h3 : 0 ≤ (((sy_ai F 25).getD (sy_i F 4).toNatClampNeg 0) - ((22 : Int32))).toInt)
    (h4 : 0 ≤ (sy_i F 4).toInt ∧ (sy_i F 4).toInt < 403)
    (h5 : ((sy_ai F 25).getD (sy_i F 4).toNatClampNeg 0).toInt ≤ 27)
    (h6 : 0 < (sy_i F 6).toInt)
    (k : ∀ F1 : Nat → sy_d, (∀ j, j < 69 → True → F1 j = F j) → Q (none) (sy_dh F1 X1 X2 (iv_H 4))) :
    hd_W Ls xs d jm_M154 Q (0, sy_dL F [some (.inl (.ref 1000)), none], sy_dS F [], sy_dh F X1 X2 (iv_H 4), 0, 0) := by
  refine hd_ret (s := 4) (nv := 69) (v := none) (uh := hd_ov (iv_id 0 iv_B4) []) (f := true) (sp := [91, 119, 137, 156, 176, 233]) (d0 := 4) (O := [false, false, false, false, true, false, true, false]) (T := [(30, [.inr (.inl 4)], [.inr (.inl 25)]), (30, [.inr (.inl 4)], [.inr (.inl 25)]), (1, [.inr (.inl 70), .inl (.int 22)], []), (30, [.inr (.inl 4)], [.inr (.inl 25)])]) (P := [(6, .inr (.inl 4), .inl (.ref 403)), (0, .inr (.inl 69), .inl (.int 23)), (6, .inr (.inl 4), .inl (.ref 403)), (3, .inr (.inl 71), .inl (.int 0)), (6, .inr (.inl 4), .inl (.ref 403)), (4, .inr (.inl 72), .inl (.int 27)), (5, .inr (.inl 6), .inl (.int 0))]) jm_ok154 (by decide +kernel) (by decide +kernel) hd F X1 X2 (fun F' hF hs => ?_)
  have b4 := hd_b (F := F) (F' := F') (k := 4) (hF 4 (by decide))
  have a25 := hd_ba (F := F) (F' := F') (k := 25) (hF 25 (by decide))
  have t69 : sy_dv F' (.inr (.inl 69)) = .int ((sy_ai F 25).getD (sy_i F 4).toNatClampNeg 0) := hd_rd (hs 0 _ rfl) b4 a25
  have t70 : sy_dv F' (.inr (.inl 70)) = .int ((sy_ai F 25).getD (sy_i F 4).toNatClampNeg 0) := hd_rd (hs 1 _ rfl) b4 a25
  have t71 : sy_dv F' (.inr (.inl 71)) = .int (((sy_ai F 25).getD (sy_i F 4).toNatClampNeg 0) - ((22 : Int32))) := hd_o (hs 2 _ rfl) t70 rfl rfl
  have t72 : sy_dv F' (.inr (.inl 72)) = .int ((sy_ai F 25).getD (sy_i F 4).toNatClampNeg 0) := hd_rd (hs 3 _ rfl) b4 a25
  have b6 := hd_b (F := F) (F' := F') (k := 6) (hF 6 (by decide))
  have hB' : iv_in F' iv_B4 := iv_in_eq hB (fun j hj => hF j (Nat.lt_of_lt_of_le hj (by decide +kernel)))
  refine ⟨List.forall_mem_cons.mpr ⟨hd_pb b4 (by first | exact h0 | exact h0), List.forall_mem_cons.mpr ⟨hd_p0 t69 rfl (by have hc : ((23) : Int32).toInt = 23 := (by decide); omega), List.forall_mem_cons.mpr ⟨hd_pb b4 (by first | exact h2 | exact h2), List.forall_mem_cons.mpr ⟨hd_p3 t71 rfl (by have hc : ((0) : Int32).toInt = 0 := (by decide); omega), List.forall_mem_cons.mpr ⟨hd_pb b4 (by first | exact h4 | exact h4), List.forall_mem_cons.mpr ⟨hd_p4 t72 rfl (by have hc : ((27) : Int32).toInt = 27 := (by decide); omega), List.forall_mem_cons.mpr ⟨hd_p5 b6 rfl (by have hc : ((0) : Int32).toInt = 0 := (by decide); omega), fun _ h => absurd h List.not_mem_nil⟩⟩⟩⟩⟩⟩⟩, ?_⟩
  refine k _ ?_
  · exact fun j hj _ => (hd_keep hB' (Nat.lt_of_lt_of_le hj (by decide +kernel)) (by simp)).trans (hF j (Nat.lt_of_lt_of_le hj (by decide)))
theorem to_0_p20 {Ls : Nat} {xs : Nat → Int32} {d : Nat} {Q : Option Value → jm_h → Prop} (hd : 5 ≤ d) (F : Nat → sy_d) (X1 X2 : List jm_c) (hB : iv_in F iv_B4)
    (h0 : 0 ≤ (sy_i F 4).toInt ∧ (sy_i F 4).toInt < 403)
    (h1 : ((sy_ai F 25).getD (sy_i F 4).toNatClampNeg 0).toInt = 24)
    (h2 : 0 ≤ (sy_i F 4).toInt ∧ (sy_i F 4).toInt < 403)
    (h3 : 0 ≤ (((sy_ai F 25).getD (sy_i F 4).toNatClampNeg 0) - ((22 : Int32))).toInt)
    (h4 : 0 ≤ (sy_i F 4).toInt ∧ (sy_i F 4).toInt < 403)
    (h5 : ((sy_ai F 25).getD (sy_i F 4).toNatClampNeg 0).toInt ≤ 27)
    (h6 : (sy_i F 6).toInt ≤ 0)
    (h7 : (sy_i F 4).toInt ≠ 400)
    (k : ∀ F1 : Nat → sy_d, (∀ j, j < 69 → j ≠ 4 → F1 j = F j) → F1 4 = .inl (.int ((sy_i F 4) + ((1 : Int32)))) → F1 69 = .inl (.int (((sy_ai F 25).getD (sy_i F 4).toNatClampNeg 0) - ((22 : Int32)))) → hd_W Ls xs d jm_M154 Q (233, sy_dL F1 [some (.inl (.ref 1000)), none], sy_dS F1 [.inr (.inl 69), .inl (.ref 1000)], sy_dh F1 X1 X2 (iv_H 4), 0, 0)) :
    hd_W Ls xs d jm_M154 Q (0, sy_dL F [some (.inl (.ref 1000)), none], sy_dS F [], sy_dh F X1 X2 (iv_H 4), 0, 0) := by
  refine hd_run (s := 4) (nv := 69) (pc := 233) (L := [some (.inl (.ref 1000)), none]) (S := [.inr (.inl 69), .inl (.ref 1000)]) (uh := hd_ov (iv_id 0 iv_B4) [(4, .inl (.inr (.inl 73)))]) (ul := [.inl (.inr (.inl 71))]) (f := true) (sp := [91, 119, 137, 156, 176, 233]) (d0 := 4) (O := [false, false, false, false, false, true, false, true, true, true]) (T := [(30, [.inr (.inl 4)], [.inr (.inl 25)]), (30, [.inr (.inl 4)], [.inr (.inl 25)]), (1, [.inr (.inl 70), .inl (.int 22)], []), (30, [.inr (.inl 4)], [.inr (.inl 25)]), (0, [.inr (.inl 4), .inl (.int 1)], [])]) (P := [(6, .inr (.inl 4), .inl (.ref 403)), (0, .inr (.inl 69), .inl (.int 24)), (6, .inr (.inl 4), .inl (.ref 403)), (3, .inr (.inl 71), .inl (.int 0)), (6, .inr (.inl 4), .inl (.ref 403)), (4, .inr (.inl 72), .inl (.int 27)), (4, .inr (.inl 6), .inl (.int 0)), (1, .inr (.inl 4), .inl (.int 400))]) jm_ok154 (by decide +kernel) (by decide +kernel) hd F X1 X2 (fun F' hF hs => ?_)
  have b4 := hd_b (F := F) (F' := F') (k := 4) (hF 4 (by decide))
  have a25 := hd_ba (F := F) (F' := F') (k := 25) (hF 25 (by decide))
  have t69 : sy_dv F' (.inr (.inl 69)) = .int ((sy_ai F 25).getD (sy_i F 4).toNatClampNeg 0) := hd_rd (hs 0 _ rfl) b4 a25
  have t70 : sy_dv F' (.inr (.inl 70)) = .int ((sy_ai F 25).getD (sy_i F 4).toNatClampNeg 0) := hd_rd (hs 1 _ rfl) b4 a25
  have t71 : sy_dv F' (.inr (.inl 71)) = .int (((sy_ai F 25).getD (sy_i F 4).toNatClampNeg 0) - ((22 : Int32))) := hd_o (hs 2 _ rfl) t70 rfl rfl
  have t72 : sy_dv F' (.inr (.inl 72)) = .int ((sy_ai F 25).getD (sy_i F 4).toNatClampNeg 0) := hd_rd (hs 3 _ rfl) b4 a25
  have b6 := hd_b (F := F) (F' := F') (k := 6) (hF 6 (by decide))
  have t73 : sy_dv F' (.inr (.inl 73)) = .int ((sy_i F 4) + ((1 : Int32))) := hd_o (hs 4 _ rfl) b4 rfl rfl
  have hB' : iv_in F' iv_B4 := iv_in_eq hB (fun j hj => hF j (Nat.lt_of_lt_of_le hj (by decide +kernel)))
  refine ⟨List.forall_mem_cons.mpr ⟨hd_pb b4 (by first | exact h0 | exact h0), List.forall_mem_cons.mpr ⟨hd_p0 t69 rfl (by have hc : ((24) : Int32).toInt = 24 := (by decide); omega), List.forall_mem_cons.mpr ⟨hd_pb b4 (by first | exact h2 | exact h2), List.forall_mem_cons.mpr ⟨hd_p3 t71 rfl (by have hc : ((0) : Int32).toInt = 0 := (by decide); omega), List.forall_mem_cons.mpr ⟨hd_pb b4 (by first | exact h4 | exact h4), List.forall_mem_cons.mpr ⟨hd_p4 t72 rfl (by have hc : ((27) : Int32).toInt = 27 := (by decide); omega), List.forall_mem_cons.mpr ⟨hd_p4 b6 rfl (by have hc : ((0) : Int32).toInt = 0 := (by decide); omega), List.forall_mem_cons.mpr ⟨hd_p1 b4 rfl (by have hc : ((400) : Int32).toInt = 400 := (by decide); omega), fun _ h => absurd h List.not_mem_nil⟩⟩⟩⟩⟩⟩⟩⟩, ?_⟩
  refine k _ ?_ ?_ ?_
  · exact fun j hj hn => (hd_keep hB' (Nat.lt_of_lt_of_le hj (by decide +kernel)) (by simp; omega)).trans (hF j (Nat.lt_of_lt_of_le hj (by decide)))
  · exact hd_gi (x := .inr (.inl 73)) (by decide +kernel) t73
  · exact hd_gi (x := .inr (.inl 71)) (by decide +kernel) t71
theorem to_0_p21 {Ls : Nat} {xs : Nat → Int32} {d : Nat} {Q : Option Value → jm_h → Prop} (hd : 5 ≤ d) (F : Nat → sy_d) (X1 X2 : List jm_c) (hB : iv_in F iv_B4)
    (h0 : 0 ≤ (sy_i F 4).toInt ∧ (sy_i F 4).toInt < 403)
    (h1 : ((sy_ai F 25).getD (sy_i F 4).toNatClampNeg 0).toInt = 24)
    (h2 : 0 ≤ (sy_i F 4).toInt ∧ (sy_i F 4).toInt < 403)
    (h3 : 0 ≤ (((sy_ai F 25).getD (sy_i F 4).toNatClampNeg 0) - ((22 : Int32))).toInt)
    (h4 : 0 ≤ (sy_i F 4).toInt ∧ (sy_i F 4).toInt < 403)
    (h5 : ((sy_ai F 25).getD (sy_i F 4).toNatClampNeg 0).toInt ≤ 27)
    (h6 : (sy_i F 6).toInt ≤ 0)
    (h7 : (sy_i F 4).toInt = 400)
    (h8 : (sy_i F 6).toInt ≤ 0)
    (h9 : 0 ≤ (sy_i F 4).toInt ∧ (sy_i F 4).toInt < 403)
    (k : ∀ F1 : Nat → sy_d, (∀ j, j < 69 → j ≠ 6 ∧ j ≠ 7 → F1 j = F j) → F1 6 = .inl (.int ((2 : Int32))) → F1 7 = .inl (.int ((sy_ai F 26).getD (sy_i F 4).toNatClampNeg 0)) → F1 69 = .inl (.int (((sy_ai F 25).getD (sy_i F 4).toNatClampNeg 0) - ((22 : Int32)))) → hd_W Ls xs d jm_M154 Q (233, sy_dL F1 [some (.inl (.ref 1000)), none], sy_dS F1 [.inr (.inl 69), .inl (.ref 1000)], sy_dh F1 X1 X2 (iv_H 4), 0, 0)) :
    hd_W Ls xs d jm_M154 Q (0, sy_dL F [some (.inl (.ref 1000)), none], sy_dS F [], sy_dh F X1 X2 (iv_H 4), 0, 0) := by
  refine hd_run (s := 4) (nv := 69) (pc := 233) (L := [some (.inl (.ref 1000)), none]) (S := [.inr (.inl 69), .inl (.ref 1000)]) (uh := hd_ov (iv_id 0 iv_B4) [(6, .inl (.inl (.int 2))), (7, .inl (.inr (.inl 73)))]) (ul := [.inl (.inr (.inl 71))]) (f := true) (sp := [91, 119, 137, 156, 176, 233]) (d0 := 4) (O := [false, false, false, false, false, true, false, true, true, false, true]) (T := [(30, [.inr (.inl 4)], [.inr (.inl 25)]), (30, [.inr (.inl 4)], [.inr (.inl 25)]), (1, [.inr (.inl 70), .inl (.int 22)], []), (30, [.inr (.inl 4)], [.inr (.inl 25)]), (30, [.inr (.inl 4)], [.inr (.inl 26)])]) (P := [(6, .inr (.inl 4), .inl (.ref 403)), (0, .inr (.inl 69), .inl (.int 24)), (6, .inr (.inl 4), .inl (.ref 403)), (3, .inr (.inl 71), .inl (.int 0)), (6, .inr (.inl 4), .inl (.ref 403)), (4, .inr (.inl 72), .inl (.int 27)), (4, .inr (.inl 6), .inl (.int 0)), (0, .inr (.inl 4), .inl (.int 400)), (4, .inr (.inl 6), .inl (.int 0)), (6, .inr (.inl 4), .inl (.ref 403))]) jm_ok154 (by decide +kernel) (by decide +kernel) hd F X1 X2 (fun F' hF hs => ?_)
  have b4 := hd_b (F := F) (F' := F') (k := 4) (hF 4 (by decide))
  have a25 := hd_ba (F := F) (F' := F') (k := 25) (hF 25 (by decide))
  have t69 : sy_dv F' (.inr (.inl 69)) = .int ((sy_ai F 25).getD (sy_i F 4).toNatClampNeg 0) := hd_rd (hs 0 _ rfl) b4 a25
  have t70 : sy_dv F' (.inr (.inl 70)) = .int ((sy_ai F 25).getD (sy_i F 4).toNatClampNeg 0) := hd_rd (hs 1 _ rfl) b4 a25
  have t71 : sy_dv F' (.inr (.inl 71)) = .int (((sy_ai F 25).getD (sy_i F 4).toNatClampNeg 0) - ((22 : Int32))) := hd_o (hs 2 _ rfl) t70 rfl rfl
  have t72 : sy_dv F' (.inr (.inl 72)) = .int ((sy_ai F 25).getD (sy_i F 4).toNatClampNeg 0) := hd_rd (hs 3 _ rfl) b4 a25
  have b6 := hd_b (F := F) (F' := F') (k := 6) (hF 6 (by decide))
  have a26 := hd_ba (F := F) (F' := F') (k := 26) (hF 26 (by decide))
  have t73 : sy_dv F' (.inr (.inl 73)) = .int ((sy_ai F 26).getD (sy_i F 4).toNatClampNeg 0) := hd_rd (hs 4 _ rfl) b4 a26
  have hB' : iv_in F' iv_B4 := iv_in_eq hB (fun j hj => hF j (Nat.lt_of_lt_of_le hj (by decide +kernel)))
  refine ⟨List.forall_mem_cons.mpr ⟨hd_pb b4 (by first | exact h0 | exact h0), List.forall_mem_cons.mpr ⟨hd_p0 t69 rfl (by have hc : ((24) : Int32).toInt = 24 := (by decide); omega), List.forall_mem_cons.mpr ⟨hd_pb b4 (by first | exact h2 | exact h2), List.forall_mem_cons.mpr ⟨hd_p3 t71 rfl (by have hc : ((0) : Int32).toInt = 0 := (by decide); omega), List.forall_mem_cons.mpr ⟨hd_pb b4 (by first | exact h4 | exact h4), List.forall_mem_cons.mpr ⟨hd_p4 t72 rfl (by have hc : ((27) : Int32).toInt = 27 := (by decide); omega), List.forall_mem_cons.mpr ⟨hd_p4 b6 rfl (by have hc : ((0) : Int32).toInt = 0 := (by decide); omega), List.forall_mem_cons.mpr ⟨hd_p0 b4 rfl (by have hc : ((400) : Int32).toInt = 400 := (by decide); omega), List.forall_mem_cons.mpr ⟨hd_p4 b6 rfl (by have hc : ((0) : Int32).toInt = 0 := (by decide); omega), List.forall_mem_cons.mpr ⟨hd_pb b4 (by first | exact h9 | exact h9), fun _ h => absurd h List.not_mem_nil⟩⟩⟩⟩⟩⟩⟩⟩⟩⟩, ?_⟩
  refine k _ ?_ ?_ ?_ ?_
  · exact fun j hj hn => (hd_keep hB' (Nat.lt_of_lt_of_le hj (by decide +kernel)) (by simp; omega)).trans (hF j (Nat.lt_of_lt_of_le hj (by decide)))
  · exact hd_gi (x := .inl (.int 2)) (by decide +kernel) rfl
  · exact hd_gi (x := .inr (.inl 73)) (by decide +kernel) t73
  · exact hd_gi (x := .inr (.inl 71)) (by decide +kernel) t71
theorem to_0_p22 {Ls : Nat} {xs : Nat → Int32} {d : Nat} {Q : Option Value → jm_h → Prop} (hd : 5 ≤ d) (F : Nat → sy_d) (X1 X2 : List jm_c) (hB : iv_in F iv_B4)
    (h0 : 0 ≤ (sy_i F 4).toInt ∧ (sy_i F 4).toInt < 403)
    (h1 : ((sy_ai F 25).getD (sy_i F 4).toNatClampNeg 0).toInt = 24)
    (h2 : 0 ≤ (sy_i F 4).toInt ∧ (sy_i F 4).toInt < 403)
    (h3 : 0 ≤ (((sy_ai F 25).getD (sy_i F 4).toNatClampNeg 0) - ((22 : Int32))).toInt)
    (h4 : 0 ≤ (sy_i F 4).toInt ∧ (sy_i F 4).toInt < 403)
    (h5 : ((sy_ai F 25).getD (sy_i F 4).toNatClampNeg 0).toInt ≤ 27)
    (h6 : 0 < (sy_i F 6).toInt)
    (k : ∀ F1 : Nat → sy_d, (∀ j, j < 69 → True → F1 j = F j) → Q (none) (sy_dh F1 X1 X2 (iv_H 4))) :
    hd_W Ls xs d jm_M154 Q (0, sy_dL F [some (.inl (.ref 1000)), none], sy_dS F [], sy_dh F X1 X2 (iv_H 4), 0, 0) := by
  refine hd_ret (s := 4) (nv := 69) (v := none) (uh := hd_ov (iv_id 0 iv_B4) []) (f := true) (sp := [91, 119, 137, 156, 176, 233]) (d0 := 4) (O := [false, false, false, false, false, true, false, true, false]) (T := [(30, [.inr (.inl 4)], [.inr (.inl 25)]), (30, [.inr (.inl 4)], [.inr (.inl 25)]), (1, [.inr (.inl 70), .inl (.int 22)], []), (30, [.inr (.inl 4)], [.inr (.inl 25)])]) (P := [(6, .inr (.inl 4), .inl (.ref 403)), (0, .inr (.inl 69), .inl (.int 24)), (6, .inr (.inl 4), .inl (.ref 403)), (3, .inr (.inl 71), .inl (.int 0)), (6, .inr (.inl 4), .inl (.ref 403)), (4, .inr (.inl 72), .inl (.int 27)), (5, .inr (.inl 6), .inl (.int 0))]) jm_ok154 (by decide +kernel) (by decide +kernel) hd F X1 X2 (fun F' hF hs => ?_)
  have b4 := hd_b (F := F) (F' := F') (k := 4) (hF 4 (by decide))
  have a25 := hd_ba (F := F) (F' := F') (k := 25) (hF 25 (by decide))
  have t69 : sy_dv F' (.inr (.inl 69)) = .int ((sy_ai F 25).getD (sy_i F 4).toNatClampNeg 0) := hd_rd (hs 0 _ rfl) b4 a25
  have t70 : sy_dv F' (.inr (.inl 70)) = .int ((sy_ai F 25).getD (sy_i F 4).toNatClampNeg 0) := hd_rd (hs 1 _ rfl) b4 a25
  have t71 : sy_dv F' (.inr (.inl 71)) = .int (((sy_ai F 25).getD (sy_i F 4).toNatClampNeg 0) - ((22 : Int32))) := hd_o (hs 2 _ rfl) t70 rfl rfl
  have t72 : sy_dv F' (.inr (.inl 72)) = .int ((sy_ai F 25).getD (sy_i F 4).toNatClampNeg 0) := hd_rd (hs 3 _ rfl) b4 a25
  have b6 := hd_b (F := F) (F' := F') (k := 6) (hF 6 (by decide))
  have hB' : iv_in F' iv_B4 := iv_in_eq hB (fun j hj => hF j (Nat.lt_of_lt_of_le hj (by decide +kernel)))
  refine ⟨List.forall_mem_cons.mpr ⟨hd_pb b4 (by first | exact h0 | exact h0), List.forall_mem_cons.mpr ⟨hd_p0 t69 rfl (by have hc : ((24) : Int32).toInt = 24 := (by decide); omega), List.forall_mem_cons.mpr ⟨hd_pb b4 (by first | exact h2 | exact h2), List.forall_mem_cons.mpr ⟨hd_p3 t71 rfl (by have hc : ((0) : Int32).toInt = 0 := (by decide); omega), List.forall_mem_cons.mpr ⟨hd_pb b4 (by first | exact h4 | exact h4), List.forall_mem_cons.mpr ⟨hd_p4 t72 rfl (by have hc : ((27) : Int32).toInt = 27 := (by decide); omega), List.forall_mem_cons.mpr ⟨hd_p5 b6 rfl (by have hc : ((0) : Int32).toInt = 0 := (by decide); omega), fun _ h => absurd h List.not_mem_nil⟩⟩⟩⟩⟩⟩⟩, ?_⟩
  refine k _ ?_
  · exact fun j hj _ => (hd_keep hB' (Nat.lt_of_lt_of_le hj (by decide +kernel)) (by simp)).trans (hF j (Nat.lt_of_lt_of_le hj (by decide)))
theorem to_0_p23 {Ls : Nat} {xs : Nat → Int32} {d : Nat} {Q : Option Value → jm_h → Prop} (hd : 5 ≤ d) (F : Nat → sy_d) (X1 X2 : List jm_c) (hB : iv_in F iv_B4)
    (h0 : 0 ≤ (sy_i F 4).toInt ∧ (sy_i F 4).toInt < 403)
    (h1 : ((sy_ai F 25).getD (sy_i F 4).toNatClampNeg 0).toInt = 25)
    (h2 : 0 ≤ (sy_i F 4).toInt ∧ (sy_i F 4).toInt < 403)
    (h3 : 0 ≤ (((sy_ai F 25).getD (sy_i F 4).toNatClampNeg 0) - ((22 : Int32))).toInt)
    (h4 : 0 ≤ (sy_i F 4).toInt ∧ (sy_i F 4).toInt < 403)
    (h5 : ((sy_ai F 25).getD (sy_i F 4).toNatClampNeg 0).toInt ≤ 27)
    (h6 : (sy_i F 6).toInt ≤ 0)
    (h7 : (sy_i F 4).toInt ≠ 400)
    (k : ∀ F1 : Nat → sy_d, (∀ j, j < 69 → j ≠ 4 → F1 j = F j) → F1 4 = .inl (.int ((sy_i F 4) + ((1 : Int32)))) → F1 69 = .inl (.int (((sy_ai F 25).getD (sy_i F 4).toNatClampNeg 0) - ((22 : Int32)))) → hd_W Ls xs d jm_M154 Q (233, sy_dL F1 [some (.inl (.ref 1000)), none], sy_dS F1 [.inr (.inl 69), .inl (.ref 1000)], sy_dh F1 X1 X2 (iv_H 4), 0, 0)) :
    hd_W Ls xs d jm_M154 Q (0, sy_dL F [some (.inl (.ref 1000)), none], sy_dS F [], sy_dh F X1 X2 (iv_H 4), 0, 0) := by
  refine hd_run (s := 4) (nv := 69) (pc := 233) (L := [some (.inl (.ref 1000)), none]) (S := [.inr (.inl 69), .inl (.ref 1000)]) (uh := hd_ov (iv_id 0 iv_B4) [(4, .inl (.inr (.inl 73)))]) (ul := [.inl (.inr (.inl 71))]) (f := true) (sp := [91, 119, 137, 156, 176, 233]) (d0 := 4) (O := [false, false, false, false, false, false, true, false, true, true, true]) (T := [(30, [.inr (.inl 4)], [.inr (.inl 25)]), (30, [.inr (.inl 4)], [.inr (.inl 25)]), (1, [.inr (.inl 70), .inl (.int 22)], []), (30, [.inr (.inl 4)], [.inr (.inl 25)]), (0, [.inr (.inl 4), .inl (.int 1)], [])]) (P := [(6, .inr (.inl 4), .inl (.ref 403)), (0, .inr (.inl 69), .inl (.int 25)), (6, .inr (.inl 4), .inl (.ref 403)), (3, .inr (.inl 71), .inl (.int 0)), (6, .inr (.inl 4), .inl (.ref 403)), (4, .inr (.inl 72), .inl (.int 27)), (4, .inr (.inl 6), .inl (.int 0)), (1, .inr (.inl 4), .inl (.int 400))]) jm_ok154 (by decide +kernel) (by decide +kernel) hd F X1 X2 (fun F' hF hs => ?_)
  have b4 := hd_b (F := F) (F' := F') (k := 4) (hF 4 (by decide))
  have a25 := hd_ba (F := F) (F' := F') (k := 25) (hF 25 (by decide))
  have t69 : sy_dv F' (.inr (.inl 69)) = .int ((sy_ai F 25).getD (sy_i F 4).toNatClampNeg 0) := hd_rd (hs 0 _ rfl) b4 a25
  have t70 : sy_dv F' (.inr (.inl 70)) = .int ((sy_ai F 25).getD (sy_i F 4).toNatClampNeg 0) := hd_rd (hs 1 _ rfl) b4 a25
  have t71 : sy_dv F' (.inr (.inl 71)) = .int (((sy_ai F 25).getD (sy_i F 4).toNatClampNeg 0) - ((22 : Int32))) := hd_o (hs 2 _ rfl) t70 rfl rfl
  have t72 : sy_dv F' (.inr (.inl 72)) = .int ((sy_ai F 25).getD (sy_i F 4).toNatClampNeg 0) := hd_rd (hs 3 _ rfl) b4 a25
  have b6 := hd_b (F := F) (F' := F') (k := 6) (hF 6 (by decide))
  have t73 : sy_dv F' (.inr (.inl 73)) = .int ((sy_i F 4) + ((1 : Int32))) := hd_o (hs 4 _ rfl) b4 rfl rfl
  have hB' : iv_in F' iv_B4 := iv_in_eq hB (fun j hj => hF j (Nat.lt_of_lt_of_le hj (by decide +kernel)))
  refine ⟨List.forall_mem_cons.mpr ⟨hd_pb b4 (by first | exact h0 | exact h0), List.forall_mem_cons.mpr ⟨hd_p0 t69 rfl (by have hc : ((25) : Int32).toInt = 25 := (by decide); omega), List.forall_mem_cons.mpr ⟨hd_pb b4 (by first | exact h2 | exact h2), List.forall_mem_cons.mpr ⟨hd_p3 t71 rfl (by have hc : ((0) : Int32).toInt = 0 := (by decide); omega), List.forall_mem_cons.mpr ⟨hd_pb b4 (by first | exact h4 | exact h4), List.forall_mem_cons.mpr ⟨hd_p4 t72 rfl (by have hc : ((27) : Int32).toInt = 27 := (by decide); omega), List.forall_mem_cons.mpr ⟨hd_p4 b6 rfl (by have hc : ((0) : Int32).toInt = 0 := (by decide); omega), List.forall_mem_cons.mpr ⟨hd_p1 b4 rfl (by have hc : ((400) : Int32).toInt = 400 := (by decide); omega), fun _ h => absurd h List.not_mem_nil⟩⟩⟩⟩⟩⟩⟩⟩, ?_⟩
  refine k _ ?_ ?_ ?_
  · exact fun j hj hn => (hd_keep hB' (Nat.lt_of_lt_of_le hj (by decide +kernel)) (by simp; omega)).trans (hF j (Nat.lt_of_lt_of_le hj (by decide)))
  · exact hd_gi (x := .inr (.inl 73)) (by decide +kernel) t73
  · exact hd_gi (x := .inr (.inl 71)) (by decide +kernel) t71
theorem to_0_p24 {Ls : Nat} {xs : Nat → Int32} {d : Nat} {Q : Option Value → jm_h → Prop} (hd : 5 ≤ d) (F : Nat → sy_d) (X1 X2 : List jm_c) (hB : iv_in F iv_B4)
    (h0 : 0 ≤ (sy_i F 4).toInt ∧ (sy_i F 4).toInt < 403)
    (h1 : ((sy_ai F 25).getD (sy_i F 4).toNatClampNeg 0).toInt = 25)
    (h2 : 0 ≤ (sy_i F 4).toInt ∧ (sy_i F 4).toInt < 403)
    (h3 : 0 ≤ (((sy_ai F 25).getD (sy_i F 4).toNatClampNeg 0) - ((22 : Int32))).toInt)
    (h4 : 0 ≤ (sy_i F 4).toInt ∧ (sy_i F 4).toInt < 403)
    (h5 : ((sy_ai F 25).getD (sy_i F 4).toNatClampNeg 0).toInt ≤ 27)
    (h6 : (sy_i F 6).toInt ≤ 0)
    (h7 : (sy_i F 4).toInt = 400)
    (h8 : (sy_i F 6).toInt ≤ 0)
    (h9 : 0 ≤ (sy_i F 4).toInt ∧ (sy_i F 4).toInt < 403)
    (k : ∀ F1 : Nat → sy_d, (∀ j, j < 69 → j ≠ 6 ∧ j ≠ 7 → F1 j = F j) → F1 6 = .inl (.int ((2 : Int32))) → F1 7 = .inl (.int ((sy_ai F 26).getD (sy_i F 4).toNatClampNeg 0)) → F1 69 = .inl (.int (((sy_ai F 25).getD (sy_i F 4).toNatClampNeg 0) - ((22 : Int32)))) → hd_W Ls xs d jm_M154 Q (233, sy_dL F1 [some (.inl (.ref 1000)), none], sy_dS F1 [.inr (.inl 69), .inl (.ref 1000)], sy_dh F1 X1 X2 (iv_H 4), 0, 0)) :
    hd_W Ls xs d jm_M154 Q (0, sy_dL F [some (.inl (.ref 1000)), none], sy_dS F [], sy_dh F X1 X2 (iv_H 4), 0, 0) := by
  refine hd_run (s := 4) (nv := 69) (pc := 233) (L := [some (.inl (.ref 1000)), none]) (S := [.inr (.inl 69), .inl (.ref 1000)]) (uh := hd_ov (iv_id 0 iv_B4) [(6, .inl (.inl (.int 2))), (7, .inl (.inr (.inl 73)))]) (ul := [.inl (.inr (.inl 71))]) (f := true) (sp := [91, 119, 137, 156, 176, 233]) (d0 := 4) (O := [false, false, false, false, false, false, true, false, true, true, false, true]) (T := [(30, [.inr (.inl 4)], [.inr (.inl 25)]), (30, [.inr (.inl 4)], [.inr (.inl 25)]), (1, [.inr (.inl 70), .inl (.int 22)], []), (30, [.inr (.inl 4)], [.inr (.inl 25)]), (30, [.inr (.inl 4)], [.inr (.inl 26)])]) (P := [(6, .inr (.inl 4), .inl (.ref 403)), (0, .inr (.inl 69), .inl (.int 25)), (6, .inr (.inl 4), .inl (.ref 403)), (3, .inr (.inl 71), .inl (.int 0)), (6, .inr (.inl 4), .inl (.ref 403)), (4, .inr (.inl 72), .inl (.int 27)), (4, .inr (.inl 6), .inl (.int 0)), (0, .inr (.inl 4), .inl (.int 400)), (4, .inr (.inl 6), .inl (.int 0)), (6, .inr (.inl 4), .inl (.ref 403))]) jm_ok154 (by decide +kernel) (by decide +kernel) hd F X1 X2 (fun F' hF hs => ?_)
  have b4 := hd_b (F := F) (F' := F') (k := 4) (hF 4 (by decide))
  have a25 := hd_ba (F := F) (F' := F') (k := 25) (hF 25 (by decide))
  have t69 : sy_dv F' (.inr (.inl 69)) = .int ((sy_ai F 25).getD (sy_i F 4).toNatClampNeg 0) := hd_rd (hs 0 _ rfl) b4 a25
  have t70 : sy_dv F' (.inr (.inl 70)) = .int ((sy_ai F 25).getD (sy_i F 4).toNatClampNeg 0) := hd_rd (hs 1 _ rfl) b4 a25
  have t71 : sy_dv F' (.inr (.inl 71)) = .int (((sy_ai F 25).getD (sy_i F 4).toNatClampNeg 0) - ((22 : Int32))) := hd_o (hs 2 _ rfl) t70 rfl rfl
  have t72 : sy_dv F' (.inr (.inl 72)) = .int ((sy_ai F 25).getD (sy_i F 4).toNatClampNeg 0) := hd_rd (hs 3 _ rfl) b4 a25
  have b6 := hd_b (F := F) (F' := F') (k := 6) (hF 6 (by decide))
  have a26 := hd_ba (F := F) (F' := F') (k := 26) (hF 26 (by decide))
  have t73 : sy_dv F' (.inr (.inl 73)) = .int ((sy_ai F 26).getD (sy_i F 4).toNatClampNeg 0) := hd_rd (hs 4 _ rfl) b4 a26
  have hB' : iv_in F' iv_B4 := iv_in_eq hB (fun j hj => hF j (Nat.lt_of_lt_of_le hj (by decide +kernel)))
  refine ⟨List.forall_mem_cons.mpr ⟨hd_pb b4 (by first | exact h0 | exact h0), List.forall_mem_cons.mpr ⟨hd_p0 t69 rfl (by have hc : ((25) : Int32).toInt = 25 := (by decide); omega), List.forall_mem_cons.mpr ⟨hd_pb b4 (by first | exact h2 | exact h2), List.forall_mem_cons.mpr ⟨hd_p3 t71 rfl (by have hc : ((0) : Int32).toInt = 0 := (by decide); omega), List.forall_mem_cons.mpr ⟨hd_pb b4 (by first | exact h4 | exact h4), List.forall_mem_cons.mpr ⟨hd_p4 t72 rfl (by have hc : ((27) : Int32).toInt = 27 := (by decide); omega), List.forall_mem_cons.mpr ⟨hd_p4 b6 rfl (by have hc : ((0) : Int32).toInt = 0 := (by decide); omega), List.forall_mem_cons.mpr ⟨hd_p0 b4 rfl (by have hc : ((400) : Int32).toInt = 400 := (by decide); omega), List.forall_mem_cons.mpr ⟨hd_p4 b6 rfl (by have hc : ((0) : Int32).toInt = 0 := (by decide); omega), List.forall_mem_cons.mpr ⟨hd_pb b4 (by first | exact h9 | exact h9), fun _ h => absurd h List.not_mem_nil⟩⟩⟩⟩⟩⟩⟩⟩⟩⟩, ?_⟩
  refine k _ ?_ ?_ ?_ ?_
  · exact fun j hj hn => (hd_keep hB' (Nat.lt_of_lt_of_le hj (by decide +kernel)) (by simp; omega)).trans (hF j (Nat.lt_of_lt_of_le hj (by decide)))
  · exact hd_gi (x := .inl (.int 2)) (by decide +kernel) rfl
  · exact hd_gi (x := .inr (.inl 73)) (by decide +kernel) t73
  · exact hd_gi (x := .inr (.inl 71)) (by decide +kernel) t71
theorem to_0_p25 {Ls : Nat} {xs : Nat → Int32} {d : Nat} {Q : Option Value → jm_h → Prop} (hd : 5 ≤ d) (F : Nat → sy_d) (X1 X2 : List jm_c) (hB : iv_in F iv_B4)
    (h0 : 0 ≤ (sy_i F 4).toInt ∧ (sy_i F 4).toInt < 403)
    (h1 : ((sy_ai F 25).getD (sy_i F 4).toNatClampNeg 0).toInt = 25)
    (h2 : 0 ≤ (sy_i F 4).toInt ∧ (sy_i F 4).toInt < 403)
    (h3 : 0 ≤ (((sy_ai F 25).getD (sy_i F 4).toNatClampNeg 0) - ((22 : Int32))).toInt)
    (h4 : 0 ≤ (sy_i F 4).toInt ∧ (sy_i F 4).toInt < 403)
    (h5 : ((sy_ai F 25).getD (sy_i F 4).toNatClampNeg 0).toInt ≤ 27)
    (h6 : 0 < (sy_i F 6).toInt)
    (k : ∀ F1 : Nat → sy_d, (∀ j, j < 69 → True → F1 j = F j) → Q (none) (sy_dh F1 X1 X2 (iv_H 4))) :
    hd_W Ls xs d jm_M154 Q (0, sy_dL F [some (.inl (.ref 1000)), none], sy_dS F [], sy_dh F X1 X2 (iv_H 4), 0, 0) := by
  refine hd_ret (s := 4) (nv := 69) (v := none) (uh := hd_ov (iv_id 0 iv_B4) []) (f := true) (sp := [91, 119, 137, 156, 176, 233]) (d0 := 4) (O := [false, false, false, false, false, false, true, false, true, false]) (T := [(30, [.inr (.inl 4)], [.inr (.inl 25)]), (30, [.inr (.inl 4)], [.inr (.inl 25)]), (1, [.inr (.inl 70), .inl (.int 22)], []), (30, [.inr (.inl 4)], [.inr (.inl 25)])]) (P := [(6, .inr (.inl 4), .inl (.ref 403)), (0, .inr (.inl 69), .inl (.int 25)), (6, .inr (.inl 4), .inl (.ref 403)), (3, .inr (.inl 71), .inl (.int 0)), (6, .inr (.inl 4), .inl (.ref 403)), (4, .inr (.inl 72), .inl (.int 27)), (5, .inr (.inl 6), .inl (.int 0))]) jm_ok154 (by decide +kernel) (by decide +kernel) hd F X1 X2 (fun F' hF hs => ?_)
  have b4 := hd_b (F := F) (F' := F') (k := 4) (hF 4 (by decide))
  have a25 := hd_ba (F := F) (F' := F') (k := 25) (hF 25 (by decide))
  have t69 : sy_dv F' (.inr (.inl 69)) = .int ((sy_ai F 25).getD (sy_i F 4).toNatClampNeg 0) := hd_rd (hs 0 _ rfl) b4 a25
  have t70 : sy_dv F' (.inr (.inl 70)) = .int ((sy_ai F 25).getD (sy_i F 4).toNatClampNeg 0) := hd_rd (hs 1 _ rfl) b4 a25
  have t71 : sy_dv F' (.inr (.inl 71)) = .int (((sy_ai F 25).getD (sy_i F 4).toNatClampNeg 0) - ((22 : Int32))) := hd_o (hs 2 _ rfl) t70 rfl rfl
  have t72 : sy_dv F' (.inr (.inl 72)) = .int ((sy_ai F 25).getD (sy_i F 4).toNatClampNeg 0) := hd_rd (hs 3 _ rfl) b4 a25
  have b6 := hd_b (F := F) (F' := F') (k := 6) (hF 6 (by decide))
  have hB' : iv_in F' iv_B4 := iv_in_eq hB (fun j hj => hF j (Nat.lt_of_lt_of_le hj (by decide +kernel)))
  refine ⟨List.forall_mem_cons.mpr ⟨hd_pb b4 (by first | exact h0 | exact h0), List.forall_mem_cons.mpr ⟨hd_p0 t69 rfl (by have hc : ((25) : Int32).toInt = 25 := (by decide); omega), List.forall_mem_cons.mpr ⟨hd_pb b4 (by first | exact h2 | exact h2), List.forall_mem_cons.mpr ⟨hd_p3 t71 rfl (by have hc : ((0) : Int32).toInt = 0 := (by decide); omega), List.forall_mem_cons.mpr ⟨hd_pb b4 (by first | exact h4 | exact h4), List.forall_mem_cons.mpr ⟨hd_p4 t72 rfl (by have hc : ((27) : Int32).toInt = 27 := (by decide); omega), List.forall_mem_cons.mpr ⟨hd_p5 b6 rfl (by have hc : ((0) : Int32).toInt = 0 := (by decide); omega), fun _ h => absurd h List.not_mem_nil⟩⟩⟩⟩⟩⟩⟩, ?_⟩
  refine k _ ?_
  · exact fun j hj _ => (hd_keep hB' (Nat.lt_of_lt_of_le hj (by decide +kernel)) (by simp)).trans (hF j (Nat.lt_of_lt_of_le hj (by decide)))
theorem to_0_p26 {Ls : Nat} {xs : Nat → Int32} {d : Nat} {Q : Option Value → jm_h → Prop} (hd : 5 ≤ d) (F : Nat → sy_d) (X1 X2 : List jm_c) (hB : iv_in F iv_B4)
    (h0 : 0 ≤ (sy_i F 4).toInt ∧ (sy_i F 4).toInt < 403)
    (h1 : ((sy_ai F 25).getD (sy_i F 4).toNatClampNeg 0).toInt = 26)
    (h2 : 0 ≤ (sy_i F 4).toInt ∧ (sy_i F 4).toInt < 403)
    (h3 : 0 ≤ (((sy_ai F 25).getD (sy_i F 4).toNatClampNeg 0) - ((22 : Int32))).toInt)
    (h4 : 0 ≤ (sy_i F 4).toInt ∧ (sy_i F 4).toInt < 403)
    (h5 : ((sy_ai F 25).getD (sy_i F 4).toNatClampNeg 0).toInt ≤ 27)
    (h6 : (sy_i F 6).toInt ≤ 0)
    (h7 : (sy_i F 4).toInt ≠ 400)
    (k : ∀ F1 : Nat → sy_d, (∀ j, j < 69 → j ≠ 4 → F1 j = F j) → F1 4 = .inl (.int ((sy_i F 4) + ((1 : Int32)))) → F1 69 = .inl (.int (((sy_ai F 25).getD (sy_i F 4).toNatClampNeg 0) - ((22 : Int32)))) → hd_W Ls xs d jm_M154 Q (233, sy_dL F1 [some (.inl (.ref 1000)), none], sy_dS F1 [.inr (.inl 69), .inl (.ref 1000)], sy_dh F1 X1 X2 (iv_H 4), 0, 0)) :
    hd_W Ls xs d jm_M154 Q (0, sy_dL F [some (.inl (.ref 1000)), none], sy_dS F [], sy_dh F X1 X2 (iv_H 4), 0, 0) := by
  refine hd_run (s := 4) (nv := 69) (pc := 233) (L := [some (.inl (.ref 1000)), none]) (S := [.inr (.inl 69), .inl (.ref 1000)]) (uh := hd_ov (iv_id 0 iv_B4) [(4, .inl (.inr (.inl 73)))]) (ul := [.inl (.inr (.inl 71))]) (f := true) (sp := [91, 119, 137, 156, 176, 233]) (d0 := 4) (O := [false, false, false, false, false, false, false, true, false, true, true, true]) (T := [(30, [.inr (.inl 4)], [.inr (.inl 25)]), (30, [.inr (.inl 4)], [.inr (.inl 25)]), (1, [.inr (.inl 70), .inl (.int 22)], []), (30, [.inr (.inl 4)], [.inr (.inl 25)]), (0, [.inr (.inl 4), .inl (.int 1)], [])]) (P := [(6, .inr (.inl 4), .inl (.ref 403)), (0, .inr (.inl 69), .inl (.int 26)), (6, .inr (.inl 4), .inl (.ref 403)), (3, .inr (.inl 71), .inl (.int 0)), (6, .inr (.inl 4), .inl (.ref 403)), (4, .inr (.inl 72), .inl (.int 27)), (4, .inr (.inl 6), .inl (.int 0)), (1, .inr (.inl 4), .inl (.int 400))]) jm_ok154 (by decide +kernel) (by decide +kernel) hd F X1 X2 (fun F' hF hs => ?_)
  have b4 := hd_b (F := F) (F' := F') (k := 4) (hF 4 (by decide))
  have a25 := hd_ba (F := F) (F' := F') (k := 25) (hF 25 (by decide))
  have t69 : sy_dv F' (.inr (.inl 69)) = .int ((sy_ai F 25).getD (sy_i F 4).toNatClampNeg 0) := hd_rd (hs 0 _ rfl) b4 a25
  have t70 : sy_dv F' (.inr (.inl 70)) = .int ((sy_ai F 25).getD (sy_i F 4).toNatClampNeg 0) := hd_rd (hs 1 _ rfl) b4 a25
  have t71 : sy_dv F' (.inr (.inl 71)) = .int (((sy_ai F 25).getD (sy_i F 4).toNatClampNeg 0) - ((22 : Int32))) := hd_o (hs 2 _ rfl) t70 rfl rfl
  have t72 : sy_dv F' (.inr (.inl 72)) = .int ((sy_ai F 25).getD (sy_i F 4).toNatClampNeg 0) := hd_rd (hs 3 _ rfl) b4 a25
  have b6 := hd_b (F := F) (F' := F') (k := 6) (hF 6 (by decide))
  have t73 : sy_dv F' (.inr (.inl 73)) = .int ((sy_i F 4) + ((1 : Int32))) := hd_o (hs 4 _ rfl) b4 rfl rfl
  have hB' : iv_in F' iv_B4 := iv_in_eq hB (fun j hj => hF j (Nat.lt_of_lt_of_le hj (by decide +kernel)))
  refine ⟨List.forall_mem_cons.mpr ⟨hd_pb b4 (by first | exact h0 | exact h0), List.forall_mem_cons.mpr ⟨hd_p0 t69 rfl (by have hc : ((26) : Int32).toInt = 26 := (by decide); omega), List.forall_mem_cons.mpr ⟨hd_pb b4 (by first | exact h2 | exact h2), List.forall_mem_cons.mpr ⟨hd_p3 t71 rfl (by have hc : ((0) : Int32).toInt = 0 := (by decide); omega), List.forall_mem_cons.mpr ⟨hd_pb b4 (by first | exact h4 | exact h4), List.forall_mem_cons.mpr ⟨hd_p4 t72 rfl (by have hc : ((27) : Int32).toInt = 27 := (by decide); omega), List.forall_mem_cons.mpr ⟨hd_p4 b6 rfl (by have hc : ((0) : Int32).toInt = 0 := (by decide); omega), List.forall_mem_cons.mpr ⟨hd_p1 b4 rfl (by have hc : ((400) : Int32).toInt = 400 := (by decide); omega), fun _ h => absurd h List.not_mem_nil⟩⟩⟩⟩⟩⟩⟩⟩, ?_⟩
  refine k _ ?_ ?_ ?_
  · exact fun j hj hn => (hd_keep hB' (Nat.lt_of_lt_of_le hj (by decide +kernel)) (by simp; omega)).trans (hF j (Nat.lt_of_lt_of_le hj (by decide)))
  · exact hd_gi (x := .inr (.inl 73)) (by decide +kernel) t73
  · exact hd_gi (x := .inr (.inl 71)) (by decide +kernel) t71
theorem to_0_p27 {Ls : Nat} {xs : Nat → Int32} {d : Nat} {Q : Option Value → jm_h → Prop} (hd : 5 ≤ d) (F : Nat → sy_d) (X1 X2 : List jm_c) (hB : iv_in F iv_B4)
    (h0 : 0 ≤ (sy_i F 4).toInt ∧ (sy_i F 4).toInt < 403)
    (h1 : ((sy_ai F 25).getD (sy_i F 4).toNatClampNeg 0).toInt = 26)
    (h2 : 0 ≤ (sy_i F 4).toInt ∧ (sy_i F 4).toInt < 403)
    (h3 : 0 ≤ (((sy_ai F 25).getD (sy_i F 4).toNatClampNeg 0) - ((22 : Int32))).toInt)
    (h4 : 0 ≤ (sy_i F 4).toInt ∧ (sy_i F 4).toInt < 403)
    (h5 : ((sy_ai F 25).getD (sy_i F 4).toNatClampNeg 0).toInt ≤ 27)
    (h6 : (sy_i F 6).toInt ≤ 0)
    (h7 : (sy_i F 4).toInt = 400)
    (h8 : (sy_i F 6).toInt ≤ 0)
    (h9 : 0 ≤ (sy_i F 4).toInt ∧ (sy_i F 4).toInt < 403)
    (k : ∀ F1 : Nat → sy_d, (∀ j, j < 69 → j ≠ 6 ∧ j ≠ 7 → F1 j = F j) → F1 6 = .inl (.int ((2 : Int32))) → F1 7 = .inl (.int ((sy_ai F 26).getD (sy_i F 4).toNatClampNeg 0)) → F1 69 = .inl (.int (((sy_ai F 25).getD (sy_i F 4).toNatClampNeg 0) - ((22 : Int32)))) → hd_W Ls xs d jm_M154 Q (233, sy_dL F1 [some (.inl (.ref 1000)), none], sy_dS F1 [.inr (.inl 69), .inl (.ref 1000)], sy_dh F1 X1 X2 (iv_H 4), 0, 0)) :
    hd_W Ls xs d jm_M154 Q (0, sy_dL F [some (.inl (.ref 1000)), none], sy_dS F [], sy_dh F X1 X2 (iv_H 4), 0, 0) := by
  refine hd_run (s := 4) (nv := 69) (pc := 233) (L := [some (.inl (.ref 1000)), none]) (S := [.inr (.inl 69), .inl (.ref 1000)]) (uh := hd_ov (iv_id 0 iv_B4) [(6, .inl (.inl (.int 2))), (7, .inl (.inr (.inl 73)))]) (ul := [.inl (.inr (.inl 71))]) (f := true) (sp := [91, 119, 137, 156, 176, 233]) (d0 := 4) (O := [false, false, false, false, false, false, false, true, false, true, true, false, true]) (T := [(30, [.inr (.inl 4)], [.inr (.inl 25)]), (30, [.inr (.inl 4)], [.inr (.inl 25)]), (1, [.inr (.inl 70), .inl (.int 22)], []), (30, [.inr (.inl 4)], [.inr (.inl 25)]), (30, [.inr (.inl 4)], [.inr (.inl 26)])]) (P := [(6, .inr (.inl 4), .inl (.ref 403)), (0, .inr (.inl 69), .inl (.int 26)), (6, .inr (.inl 4), .inl (.ref 403)), (3, .inr (.inl 71), .inl (.int 0)), (6, .inr (.inl 4), .inl (.ref 403)), (4, .inr (.inl 72), .inl (.int 27)), (4, .inr (.inl 6), .inl (.int 0)), (0, .inr (.inl 4), .inl (.int 400)), (4, .inr (.inl 6), .inl (.int 0)), (6, .inr (.inl 4), .inl (.ref 403))]) jm_ok154 (by decide +kernel) (by decide +kernel) hd F X1 X2 (fun F' hF hs => ?_)
  have b4 := hd_b (F := F) (F' := F') (k := 4) (hF 4 (by decide))
  have a25 := hd_ba (F := F) (F' := F') (k := 25) (hF 25 (by decide))
  have t69 : sy_dv F' (.inr (.inl 69)) = .int ((sy_ai F 25).getD (sy_i F 4).toNatClampNeg 0) := hd_rd (hs 0 _ rfl) b4 a25
  have t70 : sy_dv F' (.inr (.inl 70)) = .int ((sy_ai F 25).getD (sy_i F 4).toNatClampNeg 0) := hd_rd (hs 1 _ rfl) b4 a25
  have t71 : sy_dv F' (.inr (.inl 71)) = .int (((sy_ai F 25).getD (sy_i F 4).toNatClampNeg 0) - ((22 : Int32))) := hd_o (hs 2 _ rfl) t70 rfl rfl
  have t72 : sy_dv F' (.inr (.inl 72)) = .int ((sy_ai F 25).getD (sy_i F 4).toNatClampNeg 0) := hd_rd (hs 3 _ rfl) b4 a25
  have b6 := hd_b (F := F) (F' := F') (k := 6) (hF 6 (by decide))
  have a26 := hd_ba (F := F) (F' := F') (k := 26) (hF 26 (by decide))
  have t73 : sy_dv F' (.inr (.inl 73)) = .int ((sy_ai F 26).getD (sy_i F 4).toNatClampNeg 0) := hd_rd (hs 4 _ rfl) b4 a26
  have hB' : iv_in F' iv_B4 := iv_in_eq hB (fun j hj => hF j (Nat.lt_of_lt_of_le hj (by decide +kernel)))
  refine ⟨List.forall_mem_cons.mpr ⟨hd_pb b4 (by first | exact h0 | exact h0), List.forall_mem_cons.mpr ⟨hd_p0 t69 rfl (by have hc : ((26) : Int32).toInt = 26 := (by decide); omega), List.forall_mem_cons.mpr ⟨hd_pb b4 (by first | exact h2 | exact h2), List.forall_mem_cons.mpr ⟨hd_p3 t71 rfl (by have hc : ((0) : Int32).toInt = 0 := (by decide); omega), List.forall_mem_cons.mpr ⟨hd_pb b4 (by first | exact h4 | exact h4), List.forall_mem_cons.mpr ⟨hd_p4 t72 rfl (by have hc : ((27) : Int32).toInt = 27 := (by decide); omega), List.forall_mem_cons.mpr ⟨hd_p4 b6 rfl (by have hc : ((0) : Int32).toInt = 0 := (by decide); omega), List.forall_mem_cons.mpr ⟨hd_p0 b4 rfl (by have hc : ((400) : Int32).toInt = 400 := (by decide); omega), List.forall_mem_cons.mpr ⟨hd_p4 b6 rfl (by have hc : ((0) : Int32).toInt = 0 := (by decide); omega), List.forall_mem_cons.mpr ⟨hd_pb b4 (by first | exact h9 | exact h9), fun _ h => absurd h List.not_mem_nil⟩⟩⟩⟩⟩⟩⟩⟩⟩⟩, ?_⟩
  refine k _ ?_ ?_ ?_ ?_
  · exact fun j hj hn => (hd_keep hB' (Nat.lt_of_lt_of_le hj (by decide +kernel)) (by simp; omega)).trans (hF j (Nat.lt_of_lt_of_le hj (by decide)))
  · exact hd_gi (x := .inl (.int 2)) (by decide +kernel) rfl
  · exact hd_gi (x := .inr (.inl 73)) (by decide +kernel) t73
  · exact hd_gi (x := .inr (.inl 71)) (by decide +kernel) t71
theorem to_0_p28 {Ls : Nat} {xs : Nat → Int32} {d : Nat} {Q : Option Value → jm_h → Prop} (hd : 5 ≤ d) (F : Nat → sy_d) (X1 X2 : List jm_c) (hB : iv_in F iv_B4)
    (h0 : 0 ≤ (sy_i F 4).toInt ∧ (sy_i F 4).toInt < 403)
    (h1 : ((sy_ai F 25).getD (sy_i F 4).toNatClampNeg 0).toInt = 26)
    (h2 : 0 ≤ (sy_i F 4).toInt ∧ (sy_i F 4).toInt < 403)
    (h3 : 0 ≤ (((sy_ai F 25).getD (sy_i F 4).toNatClampNeg 0) - ((22 : Int32))).toInt)
    (h4 : 0 ≤ (sy_i F 4).toInt ∧ (sy_i F 4).toInt < 403)
    (h5 : ((sy_ai F 25).getD (sy_i F 4).toNatClampNeg 0).toInt ≤ 27)
    (h6 : 0 < (sy_i F 6).toInt)
    (k : ∀ F1 : Nat → sy_d, (∀ j, j < 69 → True → F1 j = F j) → Q (none) (sy_dh F1 X1 X2 (iv_H 4))) :
    hd_W Ls xs d jm_M154 Q (0, sy_dL F [some (.inl (.ref 1000)), none], sy_dS F [], sy_dh F X1 X2 (iv_H 4), 0, 0) := by
  refine hd_ret (s := 4) (nv := 69) (v := none) (uh := hd_ov (iv_id 0 iv_B4) []) (f := true) (sp := [91, 119, 137, 156, 176, 233]) (d0 := 4) (O := [false, false, false, false, false, false, false, true, false, true, false]) (T := [(30, [.inr (.inl 4)], [.inr (.inl 25)]), (30, [.inr (.inl 4)], [.inr (.inl 25)]), (1, [.inr (.inl 70), .inl (.int 22)], []), (30, [.inr (.inl 4)], [.inr (.inl 25)])]) (P := [(6, .inr (.inl 4), .inl (.ref 403)), (0, .inr (.inl 69), .inl (.int 26)), (6, .inr (.inl 4), .inl (.ref 403)), (3, .inr (.inl 71), .inl (.int 0)), (6, .inr (.inl 4), .inl (.ref 403)), (4, .inr (.inl 72), .inl (.int 27)), (5, .inr (.inl 6), .inl (.int 0))]) jm_ok154 (by decide +kernel) (by decide +kernel) hd F X1 X2 (fun F' hF hs => ?_)
  have b4 := hd_b (F := F) (F' := F') (k := 4) (hF 4 (by decide))
  have a25 := hd_ba (F := F) (F' := F') (k := 25) (hF 25 (by decide))
  have t69 : sy_dv F' (.inr (.inl 69)) = .int ((sy_ai F 25).getD (sy_i F 4).toNatClampNeg 0) := hd_rd (hs 0 _ rfl) b4 a25
  have t70 : sy_dv F' (.inr (.inl 70)) = .int ((sy_ai F 25).getD (sy_i F 4).toNatClampNeg 0) := hd_rd (hs 1 _ rfl) b4 a25
  have t71 : sy_dv F' (.inr (.inl 71)) = .int (((sy_ai F 25).getD (sy_i F 4).toNatClampNeg 0) - ((22 : Int32))) := hd_o (hs 2 _ rfl) t70 rfl rfl
  have t72 : sy_dv F' (.inr (.inl 72)) = .int ((sy_ai F 25).getD (sy_i F 4).toNatClampNeg 0) := hd_rd (hs 3 _ rfl) b4 a25
  have b6 := hd_b (F := F) (F' := F') (k := 6) (hF 6 (by decide))
  have hB' : iv_in F' iv_B4 := iv_in_eq hB (fun j hj => hF j (Nat.lt_of_lt_of_le hj (by decide +kernel)))
  refine ⟨List.forall_mem_cons.mpr ⟨hd_pb b4 (by first | exact h0 | exact h0), List.forall_mem_cons.mpr ⟨hd_p0 t69 rfl (by have hc : ((26) : Int32).toInt = 26 := (by decide); omega), List.forall_mem_cons.mpr ⟨hd_pb b4 (by first | exact h2 | exact h2), List.forall_mem_cons.mpr ⟨hd_p3 t71 rfl (by have hc : ((0) : Int32).toInt = 0 := (by decide); omega), List.forall_mem_cons.mpr ⟨hd_pb b4 (by first | exact h4 | exact h4), List.forall_mem_cons.mpr ⟨hd_p4 t72 rfl (by have hc : ((27) : Int32).toInt = 27 := (by decide); omega), List.forall_mem_cons.mpr ⟨hd_p5 b6 rfl (by have hc : ((0) : Int32).toInt = 0 := (by decide); omega), fun _ h => absurd h List.not_mem_nil⟩⟩⟩⟩⟩⟩⟩, ?_⟩
  refine k _ ?_
  · exact fun j hj _ => (hd_keep hB' (Nat.lt_of_lt_of_le hj (by decide +kernel)) (by simp)).trans (hF j (Nat.lt_of_lt_of_le hj (by decide)))
theorem to_0_p29 {Ls : Nat} {xs : Nat → Int32} {d : Nat} {Q : Option Value → jm_h → Prop} (hd : 5 ≤ d) (F : Nat → sy_d) (X1 X2 : List jm_c) (hB : iv_in F iv_B4)
    (h0 : 0 ≤ (sy_i F 4).toInt ∧ (sy_i F 4).toInt < 403)
    (h1 : ((sy_ai F 25).getD (sy_i F 4).toNatClampNeg 0).toInt = 27)
    (h2 : 0 ≤ (sy_i F 4).toInt ∧ (sy_i F 4).toInt < 403)
    (h3 : 0 ≤ (((sy_ai F 25).getD (sy_i F 4).toNatClampNeg 0) - ((22 : Int32))).toInt)
    (h4 : 0 ≤ (sy_i F 4).toInt ∧ (sy_i F 4).toInt < 403)
    (h5 : ((sy_ai F 25).getD (sy_i F 4).toNatClampNeg 0).toInt ≤ 27)
    (h6 : (sy_i F 6).toInt ≤ 0)
    (h7 : (sy_i F 4).toInt ≠ 400)
    (k : ∀ F1 : Nat → sy_d, (∀ j, j < 69 → j ≠ 4 → F1 j = F j) → F1 4 = .inl (.int ((sy_i F 4) + ((1 : Int32)))) → F1 69 = .inl (.int (((sy_ai F 25).getD (sy_i F 4).toNatClampNeg 0) - ((22 : Int32)))) → hd_W Ls xs d jm_M154 Q (233, sy_dL F1 [some (.inl (.ref 1000)), none], sy_dS F1 [.inr (.inl 69), .inl (.ref 1000)], sy_dh F1 X1 X2 (iv_H 4), 0, 0)) :
    hd_W Ls xs d jm_M154 Q (0, sy_dL F [some (.inl (.ref 1000)), none], sy_dS F [], sy_dh F X1 X2 (iv_H 4), 0, 0) := by
  refine hd_run (s := 4) (nv := 69) (pc := 233) (L := [some (.inl (.ref 1000)), none]) (S := [.inr (.inl 69), .inl (.ref 1000)]) (uh := hd_ov (iv_id 0 iv_B4) [(4, .inl (.inr (.inl 73)))]) (ul := [.inl (.inr (.inl 71))]) (f := true) (sp := [91, 119, 137, 156, 176, 233]) (d0 := 4) (O := [false, false, false, false, false, false, false, false, true, false, true, true, true]) (T := [(30, [.inr (.inl 4)], [.inr (.inl 25)]), (30, [.inr (.inl 4)], [.inr (.inl 25)]), (1, [.inr (.inl 70), .inl (.int 22)], []), (30, [.inr (.inl 4)], [.inr (.inl 25)]), (0, [.inr (.inl 4), .inl (.int 1)], [])]) (P := [(6, .inr (.inl 4), .inl (.ref 403)), (0, .inr (.inl 69), .inl (.int 27)), (6, .inr (.inl 4), .inl (.ref 403)), (3, .inr (.inl 71), .inl (.int 0)), (6, .inr (.inl 4), .inl (.ref 403)), (4, .inr (.inl 72), .inl (.int 27)), (4, .inr (.inl 6), .inl (.int 0)), (1, .inr (.inl 4), .inl (.int 400))]) jm_ok154 (by decide +kernel) (by decide +kernel) hd F X1 X2 (fun F' hF hs => ?_)
  have b4 := hd_b (F := F) (F' := F') (k := 4) (hF 4 (by decide))
  have a25 := hd_ba (F := F) (F' := F') (k := 25) (hF 25 (by decide))
  have t69 : sy_dv F' (.inr (.inl 69)) = .int ((sy_ai F 25).getD (sy_i F 4).toNatClampNeg 0) := hd_rd (hs 0 _ rfl) b4 a25
  have t70 : sy_dv F' (.inr (.inl 70)) = .int ((sy_ai F 25).getD (sy_i F 4).toNatClampNeg 0) := hd_rd (hs 1 _ rfl) b4 a25
  have t71 : sy_dv F' (.inr (.inl 71)) = .int (((sy_ai F 25).getD (sy_i F 4).toNatClampNeg 0) - ((22 : Int32))) := hd_o (hs 2 _ rfl) t70 rfl rfl
  have t72 : sy_dv F' (.inr (.inl 72)) = .int ((sy_ai F 25).getD (sy_i F 4).toNatClampNeg 0) := hd_rd (hs 3 _ rfl) b4 a25
  have b6 := hd_b (F := F) (F' := F') (k := 6) (hF 6 (by decide))
  have t73 : sy_dv F' (.inr (.inl 73)) = .int ((sy_i F 4) + ((1 : Int32))) := hd_o (hs 4 _ rfl) b4 rfl rfl
  have hB' : iv_in F' iv_B4 := iv_in_eq hB (fun j hj => hF j (Nat.lt_of_lt_of_le hj (by decide +kernel)))
  refine ⟨List.forall_mem_cons.mpr ⟨hd_pb b4 (by first | exact h0 | exact h0), List.forall_mem_cons.mpr ⟨hd_p0 t69 rfl (by have hc : ((27) : Int32).toInt = 27 := (by decide); omega), List.forall_mem_cons.mpr ⟨hd_pb b4 (by first | exact h2 | exact h2), List.forall_mem_cons.mpr ⟨hd_p3 t71 rfl (by have hc : ((0) : Int32).toInt = 0 := (by decide); omega), List.forall_mem_cons.mpr ⟨hd_pb b4 (by first | exact h4 | exact h4), List.forall_mem_cons.mpr ⟨hd_p4 t72 rfl (by have hc : ((27) : Int32).toInt = 27 := (by decide); omega), List.forall_mem_cons.mpr ⟨hd_p4 b6 rfl (by have hc : ((0) : Int32).toInt = 0 := (by decide); omega), List.forall_mem_cons.mpr ⟨hd_p1 b4 rfl (by have hc : ((400) : Int32).toInt = 400 := (by decide); omega), fun _ h => absurd h List.not_mem_nil⟩⟩⟩⟩⟩⟩⟩⟩, ?_⟩
  refine k _ ?_ ?_ ?_
  · exact fun j hj hn => (hd_keep hB' (Nat.lt_of_lt_of_le hj (by decide +kernel)) (by simp; omega)).trans (hF j (Nat.lt_of_lt_of_le hj (by decide)))
  · exact hd_gi (x := .inr (.inl 73)) (by decide +kernel) t73
  · exact hd_gi (x := .inr (.inl 71)) (by decide +kernel) t71
theorem to_0_p30 {Ls : Nat} {xs : Nat → Int32} {d : Nat} {Q : Option Value → jm_h → Prop} (hd : 5 ≤ d) (F : Nat → sy_d) (X1 X2 : List jm_c) (hB : iv_in F iv_B4)
    (h0 : 0 ≤ (sy_i F 4).toInt ∧ (sy_i F 4).toInt < 403)
    (h1 : ((sy_ai F 25).getD (sy_i F 4).toNatClampNeg 0).toInt = 27)
    (h2 : 0 ≤ (sy_i F 4).toInt ∧ (sy_i F 4).toInt < 403)
    (h3 : 0 ≤ (((sy_ai F 25).getD (sy_i F 4).toNatClampNeg 0) - ((22 : Int32))).toInt)
    (h4 : 0 ≤ (sy_i F 4).toInt ∧ (sy_i F 4).toInt < 403)
    (h5 : ((sy_ai F 25).getD (sy_i F 4).toNatClampNeg 0).toInt ≤ 27)
    (h6 : (sy_i F 6).toInt ≤ 0)
    (h7 : (sy_i F 4).toInt = 400)
    (h8 : (sy_i F 6).toInt ≤ 0)
    (h9 : 0 ≤ (sy_i F 4).toInt ∧ (sy_i F 4).toInt < 403)
    (k : ∀ F1 : Nat → sy_d, (∀ j, j < 69 → j ≠ 6 ∧ j ≠ 7 → F1 j = F j) → F1 6 = .inl (.int ((2 : Int32))) → F1 7 = .inl (.int ((sy_ai F 26).getD (sy_i F 4).toNatClampNeg 0)) → F1 69 = .inl (.int (((sy_ai F 25).getD (sy_i F 4).toNatClampNeg 0) - ((22 : Int32)))) → hd_W Ls xs d jm_M154 Q (233, sy_dL F1 [some (.inl (.ref 1000)), none], sy_dS F1 [.inr (.inl 69), .inl (.ref 1000)], sy_dh F1 X1 X2 (iv_H 4), 0, 0)) :
    hd_W Ls xs d jm_M154 Q (0, sy_dL F [some (.inl (.ref 1000)), none], sy_dS F [], sy_dh F X1 X2 (iv_H 4), 0, 0) := by
  refine hd_run (s := 4) (nv := 69) (pc := 233) (L := [some (.inl (.ref 1000)), none]) (S := [.inr (.inl 69), .inl (.ref 1000)]) (uh := hd_ov (iv_id 0 iv_B4) [(6, .inl (.inl (.int 2))), (7, .inl (.inr (.inl 73)))]) (ul := [.inl (.inr (.inl 71))]) (f := true) (sp := [91, 119, 137, 156, 176, 233]) (d0 := 4) (O := [false, false, false, false, false, false, false, false, true, false, true, true, false, true]) (T := [(30, [.inr (.inl 4)], [.inr (.inl 25)]), (30, [.inr (.inl 4)], [.inr (.inl 25)]), (1, [.inr (.inl 70), .inl (.int 22)], []), (30, [.inr (.inl 4)], [.inr (.inl 25)]), (30, [.inr (.inl 4)], [.inr (.inl 26)])]) (P := [(6, .inr (.inl 4), .inl (.ref 403)), (0, .inr (.inl 69), .inl (.int 27)), (6, .inr (.inl 4), .inl (.ref 403)), (3, .inr (.inl 71), .inl (.int 0)), (6, .inr (.inl 4), .inl (.ref 403)), (4, .inr (.inl 72), .inl (.int 27)), (4, .inr (.inl 6), .inl (.int 0)), (0, .inr (.inl 4), .inl (.int 400)), (4, .inr (.inl 6), .inl (.int 0)), (6, .inr (.inl 4), .inl (.ref 403))]) jm_ok154 (by decide +kernel) (by decide +kernel) hd F X1 X2 (fun F' hF hs => ?_)
  have b4 := hd_b (F := F) (F' := F') (k := 4) (hF 4 (by decide))
  have a25 := hd_ba (F := F) (F' := F') (k := 25) (hF 25 (by decide))
  have t69 : sy_dv F' (.inr (.inl 69)) = .int ((sy_ai F 25).getD (sy_i F 4).toNatClampNeg 0) := hd_rd (hs 0 _ rfl) b4 a25
  have t70 : sy_dv F' (.inr (.inl 70)) = .int ((sy_ai F 25).getD (sy_i F 4).toNatClampNeg 0) := hd_rd (hs 1 _ rfl) b4 a25
  have t71 : sy_dv F' (.inr (.inl 71)) = .int (((sy_ai F 25).getD (sy_i F 4).toNatClampNeg 0) - ((22 : Int32))) := hd_o (hs 2 _ rfl) t70 rfl rfl
  have t72 : sy_dv F' (.inr (.inl 72)) = .int ((sy_ai F 25).getD (sy_i F 4).toNatClampNeg 0) := hd_rd (hs 3 _ rfl) b4 a25
  have b6 := hd_b (F := F) (F' := F') (k := 6) (hF 6 (by decide))
  have a26 := hd_ba (F := F) (F' := F') (k := 26) (hF 26 (by decide))
  have t73 : sy_dv F' (.inr (.inl 73)) = .int ((sy_ai F 26).getD (sy_i F 4).toNatClampNeg 0) := hd_rd (hs 4 _ rfl) b4 a26
  have hB' : iv_in F' iv_B4 := iv_in_eq hB (fun j hj => hF j (Nat.lt_of_lt_of_le hj (by decide +kernel)))
  refine ⟨List.forall_mem_cons.mpr ⟨hd_pb b4 (by first | exact h0 | exact h0), List.forall_mem_cons.mpr ⟨hd_p0 t69 rfl (by have hc : ((27) : Int32).toInt = 27 := (by decide); omega), List.forall_mem_cons.mpr ⟨hd_pb b4 (by first | exact h2 | exact h2), List.forall_mem_cons.mpr ⟨hd_p3 t71 rfl (by have hc : ((0) : Int32).toInt = 0 := (by decide); omega), List.forall_mem_cons.mpr ⟨hd_pb b4 (by first | exact h4 | exact h4), List.forall_mem_cons.mpr ⟨hd_p4 t72 rfl (by have hc : ((27) : Int32).toInt = 27 := (by decide); omega), List.forall_mem_cons.mpr ⟨hd_p4 b6 rfl (by have hc : ((0) : Int32).toInt = 0 := (by decide); omega), List.forall_mem_cons.mpr ⟨hd_p0 b4 rfl (by have hc : ((400) : Int32).toInt = 400 := (by decide); omega), List.forall_mem_cons.mpr ⟨hd_p4 b6 rfl (by have hc : ((0) : Int32).toInt = 0 := (by decide); omega), List.forall_mem_cons.mpr ⟨hd_pb b4 (by first | exact h9 | exact h9), fun _ h => absurd h List.not_mem_nil⟩⟩⟩⟩⟩⟩⟩⟩⟩⟩, ?_⟩
  refine k _ ?_ ?_ ?_ ?_
  · exact fun j hj hn => (hd_keep hB' (Nat.lt_of_lt_of_le hj (by decide +kernel)) (by simp; omega)).trans (hF j (Nat.lt_of_lt_of_le hj (by decide)))
  · exact hd_gi (x := .inl (.int 2)) (by decide +kernel) rfl
  · exact hd_gi (x := .inr (.inl 73)) (by decide +kernel) t73
  · exact hd_gi (x := .inr (.inl 71)) (by decide +kernel) t71
theorem to_0_p31 {Ls : Nat} {xs : Nat → Int32} {d : Nat} {Q : Option Value → jm_h → Prop} (hd : 5 ≤ d) (F : Nat → sy_d) (X1 X2 : List jm_c) (hB : iv_in F iv_B4)
    (h0 : 0 ≤ (sy_i F 4).toInt ∧ (sy_i F 4).toInt < 403)
    (h1 : ((sy_ai F 25).getD (sy_i F 4).toNatClampNeg 0).toInt = 27)
    (h2 : 0 ≤ (sy_i F 4).toInt ∧ (sy_i F 4).toInt < 403)
    (h3 : 0 ≤ (((sy_ai F 25).getD (sy_i F 4).toNatClampNeg 0) - ((22 : Int32))).toInt)
    (h4 : 0 ≤ (sy_i F 4).toInt ∧ (sy_i F 4).toInt < 403)
    (h5 : ((sy_ai F 25).getD (sy_i F 4).toNatClampNeg 0).toInt ≤ 27)
    (h6 : 0 < (sy_i F 6).toInt)
    (k : ∀ F1 : Nat → sy_d, (∀ j, j < 69 → True → F1 j = F j) → Q (none) (sy_dh F1 X1 X2 (iv_H 4))) :
    hd_W Ls xs d jm_M154 Q (0, sy_dL F [some (.inl (.ref 1000)), none], sy_dS F [], sy_dh F X1 X2 (iv_H 4), 0, 0) := by
  refine hd_ret (s := 4) (nv := 69) (v := none) (uh := hd_ov (iv_id 0 iv_B4) []) (f := true) (sp := [91, 119, 137, 156, 176, 233]) (d0 := 4) (O := [false, false, false, false, false, false, false, false, true, false, true, false]) (T := [(30, [.inr (.inl 4)], [.inr (.inl 25)]), (30, [.inr (.inl 4)], [.inr (.inl 25)]), (1, [.inr (.inl 70), .inl (.int 22)], []), (30, [.inr (.inl 4)], [.inr (.inl 25)])]) (P := [(6, .inr (.inl 4), .inl (.ref 403)), (0, .inr (.inl 69), .inl (.int 27)), (6, .inr (.inl 4), .inl (.ref 403)), (3, .inr (.inl 71), .inl (.int 0)), (6, .inr (.inl 4), .inl (.ref 403)), (4, .inr (.inl 72), .inl (.int 27)), (5, .inr (.inl 6), .inl (.int 0))]) jm_ok154 (by decide +kernel) (by decide +kernel) hd F X1 X2 (fun F' hF hs => ?_)
  have b4 := hd_b (F := F) (F' := F') (k := 4) (hF 4 (by decide))
  have a25 := hd_ba (F := F) (F' := F') (k := 25) (hF 25 (by decide))
  have t69 : sy_dv F' (.inr (.inl 69)) = .int ((sy_ai F 25).getD (sy_i F 4).toNatClampNeg 0) := hd_rd (hs 0 _ rfl) b4 a25
  have t70 : sy_dv F' (.inr (.inl 70)) = .int ((sy_ai F 25).getD (sy_i F 4).toNatClampNeg 0) := hd_rd (hs 1 _ rfl) b4 a25
  have t71 : sy_dv F' (.inr (.inl 71)) = .int (((sy_ai F 25).getD (sy_i F 4).toNatClampNeg 0) - ((22 : Int32))) := hd_o (hs 2 _ rfl) t70 rfl rfl
  have t72 : sy_dv F' (.inr (.inl 72)) = .int ((sy_ai F 25).getD (sy_i F 4).toNatClampNeg 0) := hd_rd (hs 3 _ rfl) b4 a25
  have b6 := hd_b (F := F) (F' := F') (k := 6) (hF 6 (by decide))
  have hB' : iv_in F' iv_B4 := iv_in_eq hB (fun j hj => hF j (Nat.lt_of_lt_of_le hj (by decide +kernel)))
  refine ⟨List.forall_mem_cons.mpr ⟨hd_pb b4 (by first | exact h0 | exact h0), List.forall_mem_cons.mpr ⟨hd_p0 t69 rfl (by have hc : ((27) : Int32).toInt = 27 := (by decide); omega), List.forall_mem_cons.mpr ⟨hd_pb b4 (by first | exact h2 | exact h2), List.forall_mem_cons.mpr ⟨hd_p3 t71 rfl (by have hc : ((0) : Int32).toInt = 0 := (by decide); omega), List.forall_mem_cons.mpr ⟨hd_pb b4 (by first | exact h4 | exact h4), List.forall_mem_cons.mpr ⟨hd_p4 t72 rfl (by have hc : ((27) : Int32).toInt = 27 := (by decide); omega), List.forall_mem_cons.mpr ⟨hd_p5 b6 rfl (by have hc : ((0) : Int32).toInt = 0 := (by decide); omega), fun _ h => absurd h List.not_mem_nil⟩⟩⟩⟩⟩⟩⟩, ?_⟩
  refine k _ ?_
  · exact fun j hj _ => (hd_keep hB' (Nat.lt_of_lt_of_le hj (by decide +kernel)) (by simp)).trans (hF j (Nat.lt_of_lt_of_le hj (by decide)))
theorem to_0_p32 {Ls : Nat} {xs : Nat → Int32} {d : Nat} {Q : Option Value → jm_h → Prop} (hd : 5 ≤ d) (F : Nat → sy_d) (X1 X2 : List jm_c) (hB : iv_in F iv_B4)
    (h0 : 0 ≤ (sy_i F 4).toInt ∧ (sy_i F 4).toInt < 403)
    (h1 : ((sy_ai F 25).getD (sy_i F 4).toNatClampNeg 0).toInt = 28)
    (k : ∀ F1 : Nat → sy_d, (∀ j, j < 69 → True → F1 j = F j) → F1 69 = .inl (.int (sy_i F 12)) → hd_W Ls xs d jm_M154 Q (137, sy_dL F1 [some (.inl (.ref 1000)), none], sy_dS F1 [.inl (.int 99), .inl (.int 0), .inl (.ref 1000), .inr (.inl 69), .inl (.ref 1017)], sy_dh F1 X1 X2 (iv_H 4), 0, 0)) :
    hd_W Ls xs d jm_M154 Q (0, sy_dL F [some (.inl (.ref 1000)), none], sy_dS F [], sy_dh F X1 X2 (iv_H 4), 0, 0) := by
  refine hd_run (s := 4) (nv := 69) (pc := 137) (L := [some (.inl (.ref 1000)), none]) (S := [.inl (.int 99), .inl (.int 0), .inl (.ref 1000), .inr (.inl 69), .inl (.ref 1017)]) (uh := hd_ov (iv_id 0 iv_B4) []) (ul := [.inl (.inr (.inl 12))]) (f := true) (sp := [91, 119, 137, 156, 176, 233]) (d0 := 4) (O := [false, false, false, false, false, false, false, false, false, true]) (T := [(30, [.inr (.inl 4)], [.inr (.inl 25)])]) (P := [(6, .inr (.inl 4), .inl (.ref 403)), (0, .inr (.inl 69), .inl (.int 28))]) jm_ok154 (by decide +kernel) (by decide +kernel) hd F X1 X2 (fun F' hF hs => ?_)
  have b4 := hd_b (F := F) (F' := F') (k := 4) (hF 4 (by decide))
  have a25 := hd_ba (F := F) (F' := F') (k := 25) (hF 25 (by decide))
  have t69 : sy_dv F' (.inr (.inl 69)) = .int ((sy_ai F 25).getD (sy_i F 4).toNatClampNeg 0) := hd_rd (hs 0 _ rfl) b4 a25
  have b12 := hd_b (F := F) (F' := F') (k := 12) (hF 12 (by decide))
  have hB' : iv_in F' iv_B4 := iv_in_eq hB (fun j hj => hF j (Nat.lt_of_lt_of_le hj (by decide +kernel)))
  refine ⟨List.forall_mem_cons.mpr ⟨hd_pb b4 (by first | exact h0 | exact h0), List.forall_mem_cons.mpr ⟨hd_p0 t69 rfl (by have hc : ((28) : Int32).toInt = 28 := (by decide); omega), fun _ h => absurd h List.not_mem_nil⟩⟩, ?_⟩
  refine k _ ?_ ?_
  · exact fun j hj _ => (hd_keep hB' (Nat.lt_of_lt_of_le hj (by decide +kernel)) (by simp)).trans (hF j (Nat.lt_of_lt_of_le hj (by decide)))
  · exact hd_gi (x := .inr (.inl 12)) (by decide +kernel) b12
theorem to_0_p33 {Ls : Nat} {xs : Nat → Int32} {d : Nat} {Q : Option Value → jm_h → Prop} (hd : 5 ≤ d) (F : Nat → sy_d) (X1 X2 : List jm_c) (hB : iv_in F iv_B4)
    (h0 : 0 ≤ (sy_i F 4).toInt ∧ (sy_i F 4).toInt < 403)
    (h1 : ((sy_ai F 25).getD (sy_i F 4).toNatClampNeg 0).toInt = 29)
    (k : ∀ F1 : Nat → sy_d, (∀ j, j < 69 → True → F1 j = F j) → F1 69 = .inl (.int (sy_i F 12)) → hd_W Ls xs d jm_M154 Q (156, sy_dL F1 [some (.inl (.ref 1000)), none], sy_dS F1 [.inl (.int 99), .inl (.int 0), .inl (.ref 1000), .inr (.inl 69), .inl (.ref 1018)], sy_dh F1 X1 X2 (iv_H 4), 0, 0)) :
    hd_W Ls xs d jm_M154 Q (0, sy_dL F [some (.inl (.ref 1000)), none], sy_dS F [], sy_dh F X1 X2 (iv_H 4), 0, 0) := by
  refine hd_run (s := 4) (nv := 69) (pc := 156) (L := [some (.inl (.ref 1000)), none]) (S := [.inl (.int 99), .inl (.int 0), .inl (.ref 1000), .inr (.inl 69), .inl (.ref 1018)]) (uh := hd_ov (iv_id 0 iv_B4) []) (ul := [.inl (.inr (.inl 12))]) (f := true) (sp := [91, 119, 137, 156, 176, 233]) (d0 := 4) (O := [false, false, false, false, false, false, false, false, false, false, true]) (T := [(30, [.inr (.inl 4)], [.inr (.inl 25)])]) (P := [(6, .inr (.inl 4), .inl (.ref 403)), (0, .inr (.inl 69), .inl (.int 29))]) jm_ok154 (by decide +kernel) (by decide +kernel) hd F X1 X2 (fun F' hF hs => ?_)
  have b4 := hd_b (F := F) (F' := F') (k := 4) (hF 4 (by decide))
  have a25 := hd_ba (F := F) (F' := F') (k := 25) (hF 25 (by decide))
  have t69 : sy_dv F' (.inr (.inl 69)) = .int ((sy_ai F 25).getD (sy_i F 4).toNatClampNeg 0) := hd_rd (hs 0 _ rfl) b4 a25
  have b12 := hd_b (F := F) (F' := F') (k := 12) (hF 12 (by decide))
  have hB' : iv_in F' iv_B4 := iv_in_eq hB (fun j hj => hF j (Nat.lt_of_lt_of_le hj (by decide +kernel)))
  refine ⟨List.forall_mem_cons.mpr ⟨hd_pb b4 (by first | exact h0 | exact h0), List.forall_mem_cons.mpr ⟨hd_p0 t69 rfl (by have hc : ((29) : Int32).toInt = 29 := (by decide); omega), fun _ h => absurd h List.not_mem_nil⟩⟩, ?_⟩
  refine k _ ?_ ?_
  · exact fun j hj _ => (hd_keep hB' (Nat.lt_of_lt_of_le hj (by decide +kernel)) (by simp)).trans (hF j (Nat.lt_of_lt_of_le hj (by decide)))
  · exact hd_gi (x := .inr (.inl 12)) (by decide +kernel) b12
theorem to_0_p34 {Ls : Nat} {xs : Nat → Int32} {d : Nat} {Q : Option Value → jm_h → Prop} (hd : 5 ≤ d) (F : Nat → sy_d) (X1 X2 : List jm_c) (hB : iv_in F iv_B4)
    (h0 : 0 ≤ (sy_i F 4).toInt ∧ (sy_i F 4).toInt < 403)
    (h1 : ((sy_ai F 25).getD (sy_i F 4).toNatClampNeg 0).toInt = 30)
    (k : ∀ F1 : Nat → sy_d, (∀ j, j < 69 → True → F1 j = F j) → F1 69 = .inl (.int (sy_i F 12)) → hd_W Ls xs d jm_M154 Q (176, sy_dL F1 [some (.inl (.ref 1000)), none], sy_dS F1 [.inl (.int 9999), .inl (.int 0), .inl (.ref 1000), .inr (.inl 69), .inl (.ref 1019)], sy_dh F1 X1 X2 (iv_H 4), 0, 0)) :
    hd_W Ls xs d jm_M154 Q (0, sy_dL F [some (.inl (.ref 1000)), none], sy_dS F [], sy_dh F X1 X2 (iv_H 4), 0, 0) := by
  refine hd_run (s := 4) (nv := 69) (pc := 176) (L := [some (.inl (.ref 1000)), none]) (S := [.inl (.int 9999), .inl (.int 0), .inl (.ref 1000), .inr (.inl 69), .inl (.ref 1019)]) (uh := hd_ov (iv_id 0 iv_B4) []) (ul := [.inl (.inr (.inl 12))]) (f := true) (sp := [91, 119, 137, 156, 176, 233]) (d0 := 4) (O := [false, false, false, false, false, false, false, false, false, false, false, true]) (T := [(30, [.inr (.inl 4)], [.inr (.inl 25)])]) (P := [(6, .inr (.inl 4), .inl (.ref 403)), (0, .inr (.inl 69), .inl (.int 30))]) jm_ok154 (by decide +kernel) (by decide +kernel) hd F X1 X2 (fun F' hF hs => ?_)
  have b4 := hd_b (F := F) (F' := F') (k := 4) (hF 4 (by decide))
  have a25 := hd_ba (F := F) (F' := F') (k := 25) (hF 25 (by decide))
  have t69 : sy_dv F' (.inr (.inl 69)) = .int ((sy_ai F 25).getD (sy_i F 4).toNatClampNeg 0) := hd_rd (hs 0 _ rfl) b4 a25
  have b12 := hd_b (F := F) (F' := F') (k := 12) (hF 12 (by decide))
  have hB' : iv_in F' iv_B4 := iv_in_eq hB (fun j hj => hF j (Nat.lt_of_lt_of_le hj (by decide +kernel)))
  refine ⟨List.forall_mem_cons.mpr ⟨hd_pb b4 (by first | exact h0 | exact h0), List.forall_mem_cons.mpr ⟨hd_p0 t69 rfl (by have hc : ((30) : Int32).toInt = 30 := (by decide); omega), fun _ h => absurd h List.not_mem_nil⟩⟩, ?_⟩
  refine k _ ?_ ?_
  · exact fun j hj _ => (hd_keep hB' (Nat.lt_of_lt_of_le hj (by decide +kernel)) (by simp)).trans (hF j (Nat.lt_of_lt_of_le hj (by decide)))
  · exact hd_gi (x := .inr (.inl 12)) (by decide +kernel) b12
theorem to_94_p0 {Ls : Nat} {xs : Nat → Int32} {d : Nat} {Q : Option Value → jm_h → Prop} (hd : 5 ≤ d) (F : Nat → sy_d) (X1 X2 : List jm_c) (hB : iv_in F iv_B4)
    (k : ∀ F1 : Nat → sy_d, (∀ j, j < 69 → True → F1 j = F j) → Q (none) (sy_dh F1 X1 X2 (iv_H 4))) :
    hd_W Ls xs d jm_M154 Q (94, sy_dL F [some (.inl (.ref 1000)), none], sy_dS F [], sy_dh F X1 X2 (iv_H 4), 0, 0) := by
  refine hd_ret (s := 4) (nv := 69) (v := none) (uh := hd_ov (iv_id 0 iv_B4) []) (f := false) (sp := []) (d0 := 4) (O := []) (T := []) (P := []) jm_ok154 (by decide +kernel) (by decide +kernel) hd F X1 X2 (fun F' hF hs => ?_)
  have hB' : iv_in F' iv_B4 := iv_in_eq hB (fun j hj => hF j (Nat.lt_of_lt_of_le hj (by decide +kernel)))
  refine ⟨fun _ h => absurd h List.not_mem_nil, ?_⟩
  refine k _ ?_
  · exact fun j hj _ => (hd_keep hB' (Nat.lt_of_lt_of_le hj (by decide +kernel)) (by simp)).trans (hF j (Nat.lt_of_lt_of_le hj (by decide)))
theorem to_122_p0 {Ls : Nat} {xs : Nat → Int32} {d : Nat} {Q : Option Value → jm_h → Prop} (hd : 5 ≤ d) (F : Nat → sy_d) (X1 X2 : List jm_c) (hB : iv_in F iv_B4)
    (k : ∀ F1 : Nat → sy_d, (∀ j, j < 69 → True → F1 j = F j) → Q (none) (sy_dh F1 X1 X2 (iv_H 4))) :
    hd_W Ls xs d jm_M154 Q (122, sy_dL F [some (.inl (.ref 1000)), none], sy_dS F [], sy_dh F X1 X2 (iv_H 4), 0, 0) := by
  refine hd_ret (s := 4) (nv := 69) (v := none) (uh := hd_ov (iv_id 0 iv_B4) []) (f := false) (sp := []) (d0 := 4) (O := []) (T := []) (P := []) jm_ok154 (by decide +kernel) (by decide +kernel) hd F X1 X2 (fun F' hF hs => ?_)
  have hB' : iv_in F' iv_B4 := iv_in_eq hB (fun j hj => hF j (Nat.lt_of_lt_of_le hj (by decide +kernel)))
  refine ⟨fun _ h => absurd h List.not_mem_nil, ?_⟩
  refine k _ ?_
  · exact fun j hj _ => (hd_keep hB' (Nat.lt_of_lt_of_le hj (by decide +kernel)) (by simp)).trans (hF j (Nat.lt_of_lt_of_le hj (by decide)))
theorem to_140_p0 {Ls : Nat} {xs : Nat → Int32} {d : Nat} {Q : Option Value → jm_h → Prop} (hd : 5 ≤ d) (F : Nat → sy_d) (X1 X2 : List jm_c) (hB : iv_in F iv_B4)
    (h0 : 0 ≤ (sy_i F 69).toInt ∧ (sy_i F 69).toInt < 2)
    (k : ∀ F1 : Nat → sy_d, (∀ j, j < 69 → j ≠ 39 → F1 j = F j) → F1 39 = .inr (.inl (jm_upd (sy_ai F 39) (sy_i F 69).toNatClampNeg (sy_i F 70))) → Q (none) (sy_dh F1 X1 X2 (iv_H 4))) :
    hd_W Ls xs d jm_M154 Q (140, sy_dL F [some (.inl (.ref 1000)), none], sy_dS F [.inr (.inl 70), .inr (.inl 69), .inl (.ref 1017)], sy_dh F X1 X2 (iv_H 4), 0, 0) := by
  refine hd_ret (s := 4) (nv := 71) (v := none) (uh := hd_ov (iv_id 0 iv_B4) [(39, .inr (.inr (.inl 71)))]) (f := false) (sp := []) (d0 := 4) (O := []) (T := [(40, [.inr (.inl 69), .inr (.inl 70)], [.inr (.inl 39)])]) (P := [(6, .inr (.inl 69), .inl (.ref 2))]) jm_ok154 (by decide +kernel) (by decide +kernel) hd F X1 X2 (fun F' hF hs => ?_)
  have b69 := hd_b (F := F) (F' := F') (k := 69) (hF 69 (by decide))
  have b70 := hd_b (F := F) (F' := F') (k := 70) (hF 70 (by decide))
  have a39 := hd_ba (F := F) (F' := F') (k := 39) (hF 39 (by decide))
  have t71 : sy_da F' (.inr (.inl 71)) = .inl (jm_upd (sy_ai F 39) (sy_i F 69).toNatClampNeg (sy_i F 70)) := hd_up (hs 0 _ rfl) b69 b70 a39
  have hB' : iv_in F' iv_B4 := iv_in_eq hB (fun j hj => hF j (Nat.lt_of_lt_of_le hj (by decide +kernel)))
  refine ⟨List.forall_mem_cons.mpr ⟨hd_pb b69 (by first | exact h0 | exact h0), fun _ h => absurd h List.not_mem_nil⟩, ?_⟩
  refine k _ ?_ ?_
  · exact fun j hj hn => (hd_keep hB' (Nat.lt_of_lt_of_le hj (by decide +kernel)) (by simp; omega)).trans (hF j (Nat.lt_of_lt_of_le hj (by decide)))
  · exact hd_ga (a := .inr (.inl 71)) (by decide +kernel) t71
theorem to_159_p0 {Ls : Nat} {xs : Nat → Int32} {d : Nat} {Q : Option Value → jm_h → Prop} (hd : 5 ≤ d) (F : Nat → sy_d) (X1 X2 : List jm_c) (hB : iv_in F iv_B4)
    (h0 : 0 ≤ (sy_i F 69).toInt ∧ (sy_i F 69).toInt < 2)
    (k : ∀ F1 : Nat → sy_d, (∀ j, j < 69 → j ≠ 40 → F1 j = F j) → F1 40 = .inr (.inl (jm_upd (sy_ai F 40) (sy_i F 69).toNatClampNeg (sy_i F 70))) → Q (none) (sy_dh F1 X1 X2 (iv_H 4))) :
    hd_W Ls xs d jm_M154 Q (159, sy_dL F [some (.inl (.ref 1000)), none], sy_dS F [.inr (.inl 70), .inr (.inl 69), .inl (.ref 1018)], sy_dh F X1 X2 (iv_H 4), 0, 0) := by
  refine hd_ret (s := 4) (nv := 71) (v := none) (uh := hd_ov (iv_id 0 iv_B4) [(40, .inr (.inr (.inl 71)))]) (f := false) (sp := []) (d0 := 4) (O := []) (T := [(40, [.inr (.inl 69), .inr (.inl 70)], [.inr (.inl 40)])]) (P := [(6, .inr (.inl 69), .inl (.ref 2))]) jm_ok154 (by decide +kernel) (by decide +kernel) hd F X1 X2 (fun F' hF hs => ?_)
  have b69 := hd_b (F := F) (F' := F') (k := 69) (hF 69 (by decide))
  have b70 := hd_b (F := F) (F' := F') (k := 70) (hF 70 (by decide))
  have a40 := hd_ba (F := F) (F' := F') (k := 40) (hF 40 (by decide))
  have t71 : sy_da F' (.inr (.inl 71)) = .inl (jm_upd (sy_ai F 40) (sy_i F 69).toNatClampNeg (sy_i F 70)) := hd_up (hs 0 _ rfl) b69 b70 a40
  have hB' : iv_in F' iv_B4 := iv_in_eq hB (fun j hj => hF j (Nat.lt_of_lt_of_le hj (by decide +kernel)))
  refine ⟨List.forall_mem_cons.mpr ⟨hd_pb b69 (by first | exact h0 | exact h0), fun _ h => absurd h List.not_mem_nil⟩, ?_⟩
  refine k _ ?_ ?_
  · exact fun j hj hn => (hd_keep hB' (Nat.lt_of_lt_of_le hj (by decide +kernel)) (by simp; omega)).trans (hF j (Nat.lt_of_lt_of_le hj (by decide)))
  · exact hd_ga (a := .inr (.inl 71)) (by decide +kernel) t71
theorem to_179_p0 {Ls : Nat} {xs : Nat → Int32} {d : Nat} {Q : Option Value → jm_h → Prop} (hd : 5 ≤ d) (F : Nat → sy_d) (X1 X2 : List jm_c) (hB : iv_in F iv_B4)
    (h0 : 0 ≤ (sy_i F 69).toInt ∧ (sy_i F 69).toInt < 2)
    (k : ∀ F1 : Nat → sy_d, (∀ j, j < 69 → j ≠ 41 → F1 j = F j) → F1 41 = .inr (.inl (jm_upd (sy_ai F 41) (sy_i F 69).toNatClampNeg (sy_i F 70))) → Q (none) (sy_dh F1 X1 X2 (iv_H 4))) :
    hd_W Ls xs d jm_M154 Q (179, sy_dL F [some (.inl (.ref 1000)), none], sy_dS F [.inr (.inl 70), .inr (.inl 69), .inl (.ref 1019)], sy_dh F X1 X2 (iv_H 4), 0, 0) := by
  refine hd_ret (s := 4) (nv := 71) (v := none) (uh := hd_ov (iv_id 0 iv_B4) [(41, .inr (.inr (.inl 71)))]) (f := false) (sp := []) (d0 := 4) (O := []) (T := [(40, [.inr (.inl 69), .inr (.inl 70)], [.inr (.inl 41)])]) (P := [(6, .inr (.inl 69), .inl (.ref 2))]) jm_ok154 (by decide +kernel) (by decide +kernel) hd F X1 X2 (fun F' hF hs => ?_)
  have b69 := hd_b (F := F) (F' := F') (k := 69) (hF 69 (by decide))
  have b70 := hd_b (F := F) (F' := F') (k := 70) (hF 70 (by decide))
  have a41 := hd_ba (F := F) (F' := F') (k := 41) (hF 41 (by decide))
  have t71 : sy_da F' (.inr (.inl 71)) = .inl (jm_upd (sy_ai F 41) (sy_i F 69).toNatClampNeg (sy_i F 70)) := hd_up (hs 0 _ rfl) b69 b70 a41
  have hB' : iv_in F' iv_B4 := iv_in_eq hB (fun j hj => hF j (Nat.lt_of_lt_of_le hj (by decide +kernel)))
  refine ⟨List.forall_mem_cons.mpr ⟨hd_pb b69 (by first | exact h0 | exact h0), fun _ h => absurd h List.not_mem_nil⟩, ?_⟩
  refine k _ ?_ ?_
  · exact fun j hj hn => (hd_keep hB' (Nat.lt_of_lt_of_le hj (by decide +kernel)) (by simp; omega)).trans (hF j (Nat.lt_of_lt_of_le hj (by decide)))
  · exact hd_ga (a := .inr (.inl 71)) (by decide +kernel) t71
theorem to_236_p0 {Ls : Nat} {xs : Nat → Int32} {d : Nat} {Q : Option Value → jm_h → Prop} (hd : 5 ≤ d) (F : Nat → sy_d) (X1 X2 : List jm_c) (hB : iv_in F iv_B4)
    (k : ∀ F1 : Nat → sy_d, (∀ j, j < 69 → True → F1 j = F j) → Q (none) (sy_dh F1 X1 X2 (iv_H 4))) :
    hd_W Ls xs d jm_M154 Q (236, sy_dL F [some (.inl (.ref 1000)), none], sy_dS F [], sy_dh F X1 X2 (iv_H 4), 0, 0) := by
  refine hd_ret (s := 4) (nv := 70) (v := none) (uh := hd_ov (iv_id 0 iv_B4) []) (f := false) (sp := []) (d0 := 4) (O := []) (T := []) (P := []) jm_ok154 (by decide +kernel) (by decide +kernel) hd F X1 X2 (fun F' hF hs => ?_)
  have hB' : iv_in F' iv_B4 := iv_in_eq hB (fun j hj => hF j (Nat.lt_of_lt_of_le hj (by decide +kernel)))
  refine ⟨fun _ h => absurd h List.not_mem_nil, ?_⟩
  refine k _ ?_
  · exact fun j hj _ => (hd_keep hB' (Nat.lt_of_lt_of_le hj (by decide +kernel)) (by simp)).trans (hF j (Nat.lt_of_lt_of_le hj (by decide)))
end
section
/-! ===== one thing is told ===== -/
noncomputable def WO : List Nat := [4, 5, 6, 7, 8, 9, 13, 14, 15, 16, 30, 31, 32, 33, 34, 35, 36, 37, 38, 39, 40, 41, 42, 43, 44, 45, 46, 47, 48, 49, 50, 51]
noncomputable def pj (F : Nat → sy_d) : Prop := rp_S F (sy_i F 12).toInt.toNat (sy_i F 14).toInt (sy_i F 15).toInt ∧ 130 * (sy_i F 12).toInt ≤ (sy_i F 14).toInt ∧ 420 * (sy_i F 12).toInt ≤ (sy_i F 15).toInt ∧ 4 * ((sy_i F 14).toInt - 130 * (sy_i F 12).toInt) ≤ (sy_i F 4).toInt ∧ (sy_i F 15).toInt ≤ 420 * (sy_i F 12).toInt + (sy_i F 4).toInt ∧ (sy_i F 13).toInt = ((sy_ai F 31).getD (sy_i F 12).toInt.toNat 0).toInt + ((sy_ai F 35).getD (sy_i F 12).toInt.toNat 0).toInt ∧ (sy_i F 5).toInt = 0
noncomputable def pk (F : Nat → sy_d) : Prop := iv_in F iv_B4 ∧ (sy_i F 12).toInt = 1 - (sy_i F 11).toInt ∧ jm_rpn F ∧ ((sy_i F 6).toInt = 0 → pj F)
theorem pj_of {F F1 : Nat → sy_d} {W : List Nat} (h : pj F) (hG : gr W F F1) (hW : ∀ q ∈ ([5, 12, 14, 15, 42, 43, 44, 45, 46, 47, 48, 49, 50] : List Nat), q ∉ W) (hn : (sy_i F1 13).toInt = ((sy_ai F1 31).getD (sy_i F 12).toInt.toNat 0).toInt + ((sy_ai F1 35).getD (sy_i F 12).toInt.toNat 0).toInt) : pj F1 := by
  obtain ⟨h1, h2, h3, h4, h5, h6, h7⟩ := h
  have i5 := hG.i (k := 5) (by decide) (hW 5 (by decide))
  have i12 := hG.i (k := 12) (by decide) (hW 12 (by decide))
  have i14 := hG.i (k := 14) (by decide) (hW 14 (by decide))
  have i15 := hG.i (k := 15) (by decide) (hW 15 (by decide))
  have a42 := hG.a (k := 42) (by decide) (hW 42 (by decide))
  have a43 := hG.a (k := 43) (by decide) (hW 43 (by decide))
  have a44 := hG.a (k := 44) (by decide) (hW 44 (by decide))
  have a45 := hG.a (k := 45) (by decide) (hW 45 (by decide))
  have a46 := hG.a (k := 46) (by decide) (hW 46 (by decide))
  have a47 := hG.a (k := 47) (by decide) (hW 47 (by decide))
  have a48 := hG.a (k := 48) (by decide) (hW 48 (by decide))
  have a49 := hG.a (k := 49) (by decide) (hW 49 (by decide))
  have a50 := hG.a (k := 50) (by decide) (hW 50 (by decide))
  have t := hG.t
  refine ⟨?_, by omega, by omega, by omega, by omega, by rw [i12]; exact hn, by omega⟩
  rw [i12]
  exact rp_S_keep h1 (fun k _ => by rw [a42, a43]; exact ⟨rfl, rfl⟩) (fun b _ _ => s5_same a44 a45 a46 a47 a48 b) (fun i _ _ => by rw [a49, a50]; exact ⟨rfl, rfl⟩) (by omega) (by omega)
theorem pk_of {F F1 : Nat → sy_d} {W : List Nat} (h : pk F) (hG : gr W F F1) (hW : ∀ q ∈ ([11, 12, 42, 43, 44, 45, 46, 47, 48, 49, 50] : List Nat), q ∉ W) (hj : (sy_i F1 6).toInt = 0 → pj F1) : pk F1 := by
  obtain ⟨h1, h2, h3, h4⟩ := h
  have i11 := hG.i (k := 11) (by decide) (hW 11 (by decide))
  have i12 := hG.i (k := 12) (by decide) (hW 12 (by decide))
  refine ⟨hG.b, by omega, jm_rpn_eq (fun q hq => hG.f q (by revert q; decide) (hW q ?_)) h3, hj⟩
  revert q
  decide
noncomputable def to_Q (F : Nat → sy_d) (X1 X2 : List jm_c) (v : Option Value) (G : jm_h) : Prop := ∃ F' : Nat → sy_d, v = none ∧ G = sy_dh F' X1 X2 (iv_H 4) ∧ gr WO F F' ∧ pk F' ∧ ((sy_i F' 6).toInt = 0 → (sy_i F 4).toInt + 1 ≤ (sy_i F' 4).toInt)
theorem pk_law {k : Int} {F F' : Nat → sy_d} (hk : 0 ≤ k ∧ k ≤ 5) (hB : iv_in F iv_B4) (h12 : (sy_i F 12).toInt = 1 - (sy_i F 11).toInt) (hr : jm_rpn F) (hS : rp_S F (sy_i F 12).toInt.toNat (sy_i F 14).toInt (sy_i F 15).toInt) (h130 : 130 * (sy_i F 12).toInt ≤ (sy_i F 14).toInt) (h420 : 420 * (sy_i F 12).toInt ≤ (sy_i F 15).toInt) (hn : (sy_i F 13).toInt = ((sy_ai F 31).getD (sy_i F 12).toInt.toNat 0).toInt + ((sy_ai F 35).getD (sy_i F 12).toInt.toNat 0).toInt) (hR : tl_R k F F') : pk F' := by
  obtain ⟨r1, r2, r3, r4, r5, r6, r7, r8, r9⟩ := hR
  have i11 := r1.i (k := 11) (by decide) (by decide)
  have i12 := r1.i (k := 12) (by decide) (by decide)
  have i13 := r1.i (k := 13) (by decide) (by decide)
  have a31 := r1.a (k := 31) (by decide) (by decide)
  have a35 := r1.a (k := 35) (by decide) (by decide)
  have c11 := nz_bx hB (k := 11) (lo := 0) (hi := 1) rfl
  have d4 := nz_bx r1.b (k := 4) (lo := 0) (hi := 400) rfl
  have c14 := nz_bx hB (k := 14) (lo := 0) (hi := 260) rfl
  refine ⟨r1.b, by omega, ?_, fun z => ?_⟩
  · have e1 : (sy_i F' 11).toNatClampNeg = (sy_i F 11).toInt.toNat := by
      show (sy_i F' 11).toInt.toNat = _
      rw [i11]
    have hr' : rp_S F (sy_i F 11).toInt.toNat (130 * (sy_i F 11).toInt.toNat + 130) (420 * (sy_i F 11).toInt.toNat + 420) := hr
    unfold jm_rpn
    rw [e1]
    refine rp_S_keep hr' (fun k' hk' => r8 _ (by omega)) (fun b q1 q2 => r3 b (by omega)) (fun i q1 q2 => r2 i (by omega)) (Int.le_refl _) (Int.le_refl _)
  · obtain ⟨⟨l1, l2, l3, l4⟩, l5, l6, l7⟩ := r9 z
    refine ⟨?_, by omega, by omega, by omega, by omega, by rw [i12, i13, a31, a35]; exact hn, l1⟩
    rw [i12]
    intro k' b hk' q1 q2
    by_cases e : (6 * (sy_i F 12).toInt.toNat + k') = (6 * (sy_i F 12).toInt + k).toNat
    · rw [e, l6] at q1
      rw [e, l7] at q2
      exact ⟨⟨by omega, q2⟩, l4 b q1 q2⟩
    · obtain ⟨e1, e2⟩ := r8 (6 * (sy_i F 12).toInt.toNat + k') (by omega)
      rw [e1] at q1
      rw [e2] at q2
      obtain ⟨v1, v2⟩ := hS k' b hk' q1 q2
      exact ⟨⟨v1.1, by omega⟩, rp_br_keep v2 (r3 b (by omega)) (fun i _ hi => r2 i (Or.inl hi)) r4⟩
theorem tl_Rdst {k : Int} {F F' F2 : Nat → sy_d} (h : tl_R k F F') (e : ∀ q, q < 69 → F2 q = F' q) : tl_R k F F2 := by
  obtain ⟨h1, h2, h3, h4, h5, h6, h7, h8, h9⟩ := h
  have i4 := nz_fi (e 4 (by decide))
  have i5 := nz_fi (e 5 (by decide))
  have i6 := nz_fi (e 6 (by decide))
  have i14 := nz_fi (e 14 (by decide))
  have i15 := nz_fi (e 15 (by decide))
  have a42 := nz_fa (e 42 (by decide))
  have a43 := nz_fa (e 43 (by decide))
  have a44 := nz_fa (e 44 (by decide))
  have a45 := nz_fa (e 45 (by decide))
  have a46 := nz_fa (e 46 (by decide))
  have a47 := nz_fa (e 47 (by decide))
  have a48 := nz_fa (e 48 (by decide))
  have a49 := nz_fa (e 49 (by decide))
  have a50 := nz_fa (e 50 (by decide))
  refine ⟨h1.dst e, ?_, ?_, by rw [i15]; exact h4, by rw [i14]; exact h5, by rw [i15, i4]; exact h6, by rw [i14]; exact h7, by rw [a42, a43]; exact h8, ?_⟩
  · unfold kp
    rw [i15, a49, a50]
    exact h2
  · unfold kb s5
    rw [i14, a44, a45, a46, a47, a48]
    exact h3
  · unfold li rp_br
    rw [i4, i5, i6, i14, i15, a42, a43, a44, a45, a46, a47, a48, a49, a50]
    exact h9
section TO
variable {Ls : Nat} {xs : Nat → Int32} (X1 X2 : List jm_c) (F : Nat → sy_d)
end TO
end
section
/-! ===== the reference reads, way by way ===== -/
theorem re_45_p0 {Ls : Nat} {xs : Nat → Int32} {d : Nat} {Q : Option Value → jm_h → Prop} (hd : 3 ≤ d) (F : Nat → sy_d) (X1 X2 : List jm_c) (hB : iv_in F iv_B4)
    (h0 : 0 ≤ (((1 : Int32)) - (sy_i F 11)).toInt ∧ (((1 : Int32)) - (sy_i F 11)).toInt < 2)
    (h1 : 0 ≤ (((1 : Int32)) - (sy_i F 11)).toInt ∧ (((1 : Int32)) - (sy_i F 11)).toInt < 2)
    (h2 : 0 ≤ (((1 : Int32)) - (sy_i F 11)).toInt ∧ (((1 : Int32)) - (sy_i F 11)).toInt < 2)
    (h3 : 0 ≤ (((1 : Int32)) - (sy_i F 11)).toInt ∧ (((1 : Int32)) - (sy_i F 11)).toInt < 2)
    (h4 : 0 ≤ (((1 : Int32)) - (sy_i F 11)).toInt ∧ (((1 : Int32)) - (sy_i F 11)).toInt < 2)
    (h5 : 0 ≤ ((((6 : Int32)) * (((1 : Int32)) - (sy_i F 11))) + ((0 : Int32))).toInt ∧ ((((6 : Int32)) * (((1 : Int32)) - (sy_i F 11))) + ((0 : Int32))).toInt < 12)
    (h6 : 0 ≤ ((((6 : Int32)) * (((1 : Int32)) - (sy_i F 11))) + ((0 : Int32))).toInt ∧ ((((6 : Int32)) * (((1 : Int32)) - (sy_i F 11))) + ((0 : Int32))).toInt < 12)
    (h7 : 0 ≤ ((((6 : Int32)) * (((1 : Int32)) - (sy_i F 11))) + ((1 : Int32))).toInt ∧ ((((6 : Int32)) * (((1 : Int32)) - (sy_i F 11))) + ((1 : Int32))).toInt < 12)
    (h8 : 0 ≤ ((((6 : Int32)) * (((1 : Int32)) - (sy_i F 11))) + ((1 : Int32))).toInt ∧ ((((6 : Int32)) * (((1 : Int32)) - (sy_i F 11))) + ((1 : Int32))).toInt < 12)
    (h9 : 0 ≤ ((((6 : Int32)) * (((1 : Int32)) - (sy_i F 11))) + ((2 : Int32))).toInt ∧ ((((6 : Int32)) * (((1 : Int32)) - (sy_i F 11))) + ((2 : Int32))).toInt < 12)
    (h10 : 0 ≤ ((((6 : Int32)) * (((1 : Int32)) - (sy_i F 11))) + ((2 : Int32))).toInt ∧ ((((6 : Int32)) * (((1 : Int32)) - (sy_i F 11))) + ((2 : Int32))).toInt < 12)
    (h11 : 0 ≤ ((((6 : Int32)) * (((1 : Int32)) - (sy_i F 11))) + ((3 : Int32))).toInt ∧ ((((6 : Int32)) * (((1 : Int32)) - (sy_i F 11))) + ((3 : Int32))).toInt < 12)
    (h12 : 0 ≤ ((((6 : Int32)) * (((1 : Int32)) - (sy_i F 11))) + ((3 : Int32))).toInt ∧ ((((6 : Int32)) * (((1 : Int32)) - (sy_i F 11))) + ((3 : Int32))).toInt < 12)
    (h13 : 0 ≤ ((((6 : Int32)) * (((1 : Int32)) - (sy_i F 11))) + ((4 : Int32))).toInt ∧ ((((6 : Int32)) * (((1 : Int32)) - (sy_i F 11))) + ((4 : Int32))).toInt < 12)
    (h14 : 0 ≤ ((((6 : Int32)) * (((1 : Int32)) - (sy_i F 11))) + ((4 : Int32))).toInt ∧ ((((6 : Int32)) * (((1 : Int32)) - (sy_i F 11))) + ((4 : Int32))).toInt < 12)
    (h15 : 0 ≤ ((((6 : Int32)) * (((1 : Int32)) - (sy_i F 11))) + ((5 : Int32))).toInt ∧ ((((6 : Int32)) * (((1 : Int32)) - (sy_i F 11))) + ((5 : Int32))).toInt < 12)
    (h16 : 0 ≤ ((((6 : Int32)) * (((1 : Int32)) - (sy_i F 11))) + ((5 : Int32))).toInt ∧ ((((6 : Int32)) * (((1 : Int32)) - (sy_i F 11))) + ((5 : Int32))).toInt < 12)
    (k : ∀ F1 : Nat → sy_d, (∀ j, j < 69 → j ≠ 4 ∧ j ≠ 5 ∧ j ≠ 6 ∧ j ≠ 8 ∧ j ≠ 12 ∧ j ≠ 13 ∧ j ≠ 14 ∧ j ≠ 15 ∧ j ≠ 31 ∧ j ≠ 35 ∧ j ≠ 39 ∧ j ≠ 40 ∧ j ≠ 41 ∧ j ≠ 42 ∧ j ≠ 43 → F1 j = F j) → F1 4 = .inl (.int ((0 : Int32))) → F1 5 = .inl (.int ((0 : Int32))) → F1 6 = .inl (.int ((0 : Int32))) → F1 8 = .inl (.int ((0 : Int32))) → F1 12 = .inl (.int (((1 : Int32)) - (sy_i F 11))) → F1 13 = .inl (.int ((0 : Int32))) → F1 14 = .inl (.int (((130 : Int32)) * (((1 : Int32)) - (sy_i F 11)))) → F1 15 = .inl (.int (((420 : Int32)) * (((1 : Int32)) - (sy_i F 11)))) → F1 31 = .inr (.inl (jm_upd (sy_ai F 31) (((1 : Int32)) - (sy_i F 11)).toNatClampNeg ((0 : Int32)))) → F1 35 = .inr (.inl (jm_upd (sy_ai F 35) (((1 : Int32)) - (sy_i F 11)).toNatClampNeg ((0 : Int32)))) → F1 39 = .inr (.inl (jm_upd (sy_ai F 39) (((1 : Int32)) - (sy_i F 11)).toNatClampNeg ((10 : Int32)))) → F1 40 = .inr (.inl (jm_upd (sy_ai F 40) (((1 : Int32)) - (sy_i F 11)).toNatClampNeg ((6 : Int32)))) → F1 41 = .inr (.inl (jm_upd (sy_ai F 41) (((1 : Int32)) - (sy_i F 11)).toNatClampNeg ((0 : Int32)))) → F1 42 = .inr (.inl (jm_upd (jm_upd (jm_upd (jm_upd (jm_upd (jm_upd (sy_ai F 42) ((((6 : Int32)) * (((1 : Int32)) - (sy_i F 11))) + ((0 : Int32))).toNatClampNeg ((0 : Int32))) ((((6 : Int32)) * (((1 : Int32)) - (sy_i F 11))) + ((1 : Int32))).toNatClampNeg ((0 : Int32))) ((((6 : Int32)) * (((1 : Int32)) - (sy_i F 11))) + ((2 : Int32))).toNatClampNeg ((0 : Int32))) ((((6 : Int32)) * (((1 : Int32)) - (sy_i F 11))) + ((3 : Int32))).toNatClampNeg ((0 : Int32))) ((((6 : Int32)) * (((1 : Int32)) - (sy_i F 11))) + ((4 : Int32))).toNatClampNeg ((0 : Int32))) ((((6 : Int32)) * (((1 : Int32)) - (sy_i F 11))) + ((5 : Int32))).toNatClampNeg ((0 : Int32)))) → F1 43 = .inr (.inl (jm_upd (jm_upd (jm_upd (jm_upd (jm_upd (jm_upd (sy_ai F 43) ((((6 : Int32)) * (((1 : Int32)) - (sy_i F 11))) + ((0 : Int32))).toNatClampNeg ((0 : Int32))) ((((6 : Int32)) * (((1 : Int32)) - (sy_i F 11))) + ((1 : Int32))).toNatClampNeg ((0 : Int32))) ((((6 : Int32)) * (((1 : Int32)) - (sy_i F 11))) + ((2 : Int32))).toNatClampNeg ((0 : Int32))) ((((6 : Int32)) * (((1 : Int32)) - (sy_i F 11))) + ((3 : Int32))).toNatClampNeg ((0 : Int32))) ((((6 : Int32)) * (((1 : Int32)) - (sy_i F 11))) + ((4 : Int32))).toNatClampNeg ((0 : Int32))) ((((6 : Int32)) * (((1 : Int32)) - (sy_i F 11))) + ((5 : Int32))).toNatClampNeg ((0 : Int32)))) → hd_W Ls xs d jm_M150 Q (112, sy_dL F1 [some (.inl (.ref 1000)), none], sy_dS F1 [], sy_dh F1 X1 X2 (iv_H 4), 0, 0)) :
    hd_W Ls xs d jm_M150 Q (45, sy_dL F [some (.inl (.ref 1000)), none], sy_dS F [], sy_dh F X1 X2 (iv_H 4), 0, 0) := by
  refine hd_run (s := 4) (nv := 69) (pc := 112) (L := [some (.inl (.ref 1000)), none]) (S := []) (uh := hd_ov (iv_id 0 iv_B4) [(4, .inl (.inl (.int 0))), (5, .inl (.inl (.int 0))), (6, .inl (.inl (.int 0))), (8, .inl (.inl (.int 0))), (12, .inl (.inr (.inl 69))), (13, .inl (.inl (.int 0))), (14, .inl (.inr (.inl 111))), (15, .inl (.inr (.inl 112))), (31, .inr (.inr (.inl 70))), (35, .inr (.inr (.inl 71))), (39, .inr (.inr (.inl 72))), (40, .inr (.inr (.inl 73))), (41, .inr (.inr (.inl 74))), (42, .inr (.inr (.inl 107))), (43, .inr (.inr (.inl 110)))]) (ul := []) (f := false) (sp := [112]) (d0 := 2) (O := []) (T := [(1, [.inl (.int 1), .inr (.inl 11)], []), (40, [.inr (.inl 69), .inl (.int 0)], [.inr (.inl 31)]), (40, [.inr (.inl 69), .inl (.int 0)], [.inr (.inl 35)]), (40, [.inr (.inl 69), .inl (.int 10)], [.inr (.inl 39)]), (40, [.inr (.inl 69), .inl (.int 6)], [.inr (.inl 40)]), (40, [.inr (.inl 69), .inl (.int 0)], [.inr (.inl 41)]), (2, [.inl (.int 6), .inr (.inl 69)], []), (0, [.inr (.inl 75), .inl (.int 0)], []), (40, [.inr (.inl 76), .inl (.int 0)], [.inr (.inl 42)]), (2, [.inl (.int 6), .inr (.inl 69)], []), (0, [.inr (.inl 78), .inl (.int 0)], []), (40, [.inr (.inl 79), .inl (.int 0)], [.inr (.inl 43)]), (2, [.inl (.int 6), .inr (.inl 69)], []), (0, [.inr (.inl 81), .inl (.int 1)], []), (40, [.inr (.inl 82), .inl (.int 0)], [.inr (.inl 77)]), (2, [.inl (.int 6), .inr (.inl 69)], []), (0, [.inr (.inl 84), .inl (.int 1)], []), (40, [.inr (.inl 85), .inl (.int 0)], [.inr (.inl 80)]), (2, [.inl (.int 6), .inr (.inl 69)], []), (0, [.inr (.inl 87), .inl (.int 2)], []), (40, [.inr (.inl 88), .inl (.int 0)], [.inr (.inl 83)]), (2, [.inl (.int 6), .inr (.inl 69)], []), (0, [.inr (.inl 90), .inl (.int 2)], []), (40, [.inr (.inl 91), .inl (.int 0)], [.inr (.inl 86)]), (2, [.inl (.int 6), .inr (.inl 69)], []), (0, [.inr (.inl 93), .inl (.int 3)], []), (40, [.inr (.inl 94), .inl (.int 0)], [.inr (.inl 89)]), (2, [.inl (.int 6), .inr (.inl 69)], []), (0, [.inr (.inl 96), .inl (.int 3)], []), (40, [.inr (.inl 97), .inl (.int 0)], [.inr (.inl 92)]), (2, [.inl (.int 6), .inr (.inl 69)], []), (0, [.inr (.inl 99), .inl (.int 4)], []), (40, [.inr (.inl 100), .inl (.int 0)], [.inr (.inl 95)]), (2, [.inl (.int 6), .inr (.inl 69)], []), (0, [.inr (.inl 102), .inl (.int 4)], []), (40, [.inr (.inl 103), .inl (.int 0)], [.inr (.inl 98)]), (2, [.inl (.int 6), .inr (.inl 69)], []), (0, [.inr (.inl 105), .inl (.int 5)], []), (40, [.inr (.inl 106), .inl (.int 0)], [.inr (.inl 101)]), (2, [.inl (.int 6), .inr (.inl 69)], []), (0, [.inr (.inl 108), .inl (.int 5)], []), (40, [.inr (.inl 109), .inl (.int 0)], [.inr (.inl 104)]), (2, [.inl (.int 130), .inr (.inl 69)], []), (2, [.inl (.int 420), .inr (.inl 69)], [])]) (P := [(6, .inr (.inl 69), .inl (.ref 2)), (6, .inr (.inl 69), .inl (.ref 2)), (6, .inr (.inl 69), .inl (.ref 2)), (6, .inr (.inl 69), .inl (.ref 2)), (6, .inr (.inl 69), .inl (.ref 2)), (6, .inr (.inl 76), .inl (.ref 12)), (6, .inr (.inl 79), .inl (.ref 12)), (6, .inr (.inl 82), .inl (.ref 12)), (6, .inr (.inl 85), .inl (.ref 12)), (6, .inr (.inl 88), .inl (.ref 12)), (6, .inr (.inl 91), .inl (.ref 12)), (6, .inr (.inl 94), .inl (.ref 12)), (6, .inr (.inl 97), .inl (.ref 12)), (6, .inr (.inl 100), .inl (.ref 12)), (6, .inr (.inl 103), .inl (.ref 12)), (6, .inr (.inl 106), .inl (.ref 12)), (6, .inr (.inl 109), .inl (.ref 12))]) jm_ok150 (by decide +kernel) (by decide +kernel) hd F X1 X2 (fun F' hF hs => ?_)
  have b11 := hd_b (F := F) (F' := F') (k := 11) (hF 11 (by decide))
  have t69 : sy_dv F' (.inr (.inl 69)) = .int (((1 : Int32)) - (sy_i F 11)) := hd_o (hs 0 _ rfl) rfl b11 rfl
  have t75 : sy_dv F' (.inr (.inl 75)) = .int (((6 : Int32)) * (((1 : Int32)) - (sy_i F 11))) := hd_o (hs 6 _ rfl) rfl t69 rfl
  have t76 : sy_dv F' (.inr (.inl 76)) = .int ((((6 : Int32)) * (((1 : Int32)) - (sy_i F 11))) + ((0 : Int32))) := hd_o (hs 7 _ rfl) t75 rfl rfl
  have t78 : sy_dv F' (.inr (.inl 78)) = .int (((6 : Int32)) * (((1 : Int32)) - (sy_i F 11))) := hd_o (hs 9 _ rfl) rfl t69 rfl
  have t79 : sy_dv F' (.inr (.inl 79)) = .int ((((6 : Int32)) * (((1 : Int32)) - (sy_i F 11))) + ((0 : Int32))) := hd_o (hs 10 _ rfl) t78 rfl rfl
  have t81 : sy_dv F' (.inr (.inl 81)) = .int (((6 : Int32)) * (((1 : Int32)) - (sy_i F 11))) := hd_o (hs 12 _ rfl) rfl t69 rfl
  have t82 : sy_dv F' (.inr (.inl 82)) = .int ((((6 : Int32)) * (((1 : Int32)) - (sy_i F 11))) + ((1 : Int32))) := hd_o (hs 13 _ rfl) t81 rfl rfl
  have t84 : sy_dv F' (.inr (.inl 84)) = .int (((6 : Int32)) * (((1 : Int32)) - (sy_i F 11))) := hd_o (hs 15 _ rfl) rfl t69 rfl
  have t85 : sy_dv F' (.inr (.inl 85)) = .int ((((6 : Int32)) * (((1 : Int32)) - (sy_i F 11))) + ((1 : Int32))) := hd_o (hs 16 _ rfl) t84 rfl rfl
  have t87 : sy_dv F' (.inr (.inl 87)) = .int (((6 : Int32)) * (((1 : Int32)) - (sy_i F 11))) := hd_o (hs 18 _ rfl) rfl t69 rfl
  have t88 : sy_dv F' (.inr (.inl 88)) = .int ((((6 : Int32)) * (((1 : Int32)) - (sy_i F 11))) + ((2 : Int32))) := hd_o (hs 19 _ rfl) t87 rfl rfl
  have t90 : sy_dv F' (.inr (.inl 90)) = .int (((6 : Int32)) * (((1 : Int32)) - (sy_i F 11))) := hd_o (hs 21 _ rfl) rfl t69 rfl
  have t91 : sy_dv F' (.inr (.inl 91)) = .int ((((6 : Int32)) * (((1 : Int32)) - (sy_i F 11))) + ((2 : Int32))) := hd_o (hs 22 _ rfl) t90 rfl rfl
  have t93 : sy_dv F' (.inr (.inl 93)) = .int (((6 : Int32)) * (((1 : Int32)) - (sy_i F 11))) := hd_o (hs 24 _ rfl) rfl t69 rfl
  have t94 : sy_dv F' (.inr (.inl 94)) = .int ((((6 : Int32)) * (((1 : Int32)) - (sy_i F 11))) + ((3 : Int32))) := hd_o (hs 25 _ rfl) t93 rfl rfl
  have t96 : sy_dv F' (.inr (.inl 96)) = .int (((6 : Int32)) * (((1 : Int32)) - (sy_i F 11))) := hd_o (hs 27 _ rfl) rfl t69 rfl
  have t97 : sy_dv F' (.inr (.inl 97)) = .int ((((6 : Int32)) * (((1 : Int32)) - (sy_i F 11))) + ((3 : Int32))) := hd_o (hs 28 _ rfl) t96 rfl rfl
  have t99 : sy_dv F' (.inr (.inl 99)) = .int (((6 : Int32)) * (((1 : Int32)) - (sy_i F 11))) := hd_o (hs 30 _ rfl) rfl t69 rfl
  have t100 : sy_dv F' (.inr (.inl 100)) = .int ((((6 : Int32)) * (((1 : Int32)) - (sy_i F 11))) + ((4 : Int32))) := hd_o (hs 31 _ rfl) t99 rfl rfl
  have t102 : sy_dv F' (.inr (.inl 102)) = .int (((6 : Int32)) * (((1 : Int32)) - (sy_i F 11))) := hd_o (hs 33 _ rfl) rfl t69 rfl
  have t103 : sy_dv F' (.inr (.inl 103)) = .int ((((6 : Int32)) * (((1 : Int32)) - (sy_i F 11))) + ((4 : Int32))) := hd_o (hs 34 _ rfl) t102 rfl rfl
  have t105 : sy_dv F' (.inr (.inl 105)) = .int (((6 : Int32)) * (((1 : Int32)) - (sy_i F 11))) := hd_o (hs 36 _ rfl) rfl t69 rfl
  have t106 : sy_dv F' (.inr (.inl 106)) = .int ((((6 : Int32)) * (((1 : Int32)) - (sy_i F 11))) + ((5 : Int32))) := hd_o (hs 37 _ rfl) t105 rfl rfl
  have t108 : sy_dv F' (.inr (.inl 108)) = .int (((6 : Int32)) * (((1 : Int32)) - (sy_i F 11))) := hd_o (hs 39 _ rfl) rfl t69 rfl
  have t109 : sy_dv F' (.inr (.inl 109)) = .int ((((6 : Int32)) * (((1 : Int32)) - (sy_i F 11))) + ((5 : Int32))) := hd_o (hs 40 _ rfl) t108 rfl rfl
  have t111 : sy_dv F' (.inr (.inl 111)) = .int (((130 : Int32)) * (((1 : Int32)) - (sy_i F 11))) := hd_o (hs 42 _ rfl) rfl t69 rfl
  have t112 : sy_dv F' (.inr (.inl 112)) = .int (((420 : Int32)) * (((1 : Int32)) - (sy_i F 11))) := hd_o (hs 43 _ rfl) rfl t69 rfl
  have a31 := hd_ba (F := F) (F' := F') (k := 31) (hF 31 (by decide))
  have t70 : sy_da F' (.inr (.inl 70)) = .inl (jm_upd (sy_ai F 31) (((1 : Int32)) - (sy_i F 11)).toNatClampNeg ((0 : Int32))) := hd_up (hs 1 _ rfl) t69 rfl a31
  have a35 := hd_ba (F := F) (F' := F') (k := 35) (hF 35 (by decide))
  have t71 : sy_da F' (.inr (.inl 71)) = .inl (jm_upd (sy_ai F 35) (((1 : Int32)) - (sy_i F 11)).toNatClampNeg ((0 : Int32))) := hd_up (hs 2 _ rfl) t69 rfl a35
  have a39 := hd_ba (F := F) (F' := F') (k := 39) (hF 39 (by decide))
  have t72 : sy_da F' (.inr (.inl 72)) = .inl (jm_upd (sy_ai F 39) (((1 : Int32)) - (sy_i F 11)).toNatClampNeg ((10 : Int32))) := hd_up (hs 3 _ rfl) t69 rfl a39
  have a40 := hd_ba (F := F) (F' := F') (k := 40) (hF 40 (by decide))
  have t73 : sy_da F' (.inr (.inl 73)) = .inl (jm_upd (sy_ai F 40) (((1 : Int32)) - (sy_i F 11)).toNatClampNeg ((6 : Int32))) := hd_up (hs 4 _ rfl) t69 rfl a40
  have a41 := hd_ba (F := F) (F' := F') (k := 41) (hF 41 (by decide))
  have t74 : sy_da F' (.inr (.inl 74)) = .inl (jm_upd (sy_ai F 41) (((1 : Int32)) - (sy_i F 11)).toNatClampNeg ((0 : Int32))) := hd_up (hs 5 _ rfl) t69 rfl a41
  have a42 := hd_ba (F := F) (F' := F') (k := 42) (hF 42 (by decide))
  have t77 : sy_da F' (.inr (.inl 77)) = .inl (jm_upd (sy_ai F 42) ((((6 : Int32)) * (((1 : Int32)) - (sy_i F 11))) + ((0 : Int32))).toNatClampNeg ((0 : Int32))) := hd_up (hs 8 _ rfl) t76 rfl a42
  have t83 : sy_da F' (.inr (.inl 83)) = .inl (jm_upd (jm_upd (sy_ai F 42) ((((6 : Int32)) * (((1 : Int32)) - (sy_i F 11))) + ((0 : Int32))).toNatClampNeg ((0 : Int32))) ((((6 : Int32)) * (((1 : Int32)) - (sy_i F 11))) + ((1 : Int32))).toNatClampNeg ((0 : Int32))) := hd_up (hs 14 _ rfl) t82 rfl t77
  have t89 : sy_da F' (.inr (.inl 89)) = .inl (jm_upd (jm_upd (jm_upd (sy_ai F 42) ((((6 : Int32)) * (((1 : Int32)) - (sy_i F 11))) + ((0 : Int32))).toNatClampNeg ((0 : Int32))) ((((6 : Int32)) * (((1 : Int32)) - (sy_i F 11))) + ((1 : Int32))).toNatClampNeg ((0 : Int32))) ((((6 : Int32)) * (((1 : Int32)) - (sy_i F 11))) + ((2 : Int32))).toNatClampNeg ((0 : Int32))) := hd_up (hs 20 _ rfl) t88 rfl t83
  have t95 : sy_da F' (.inr (.inl 95)) = .inl (jm_upd (jm_upd (jm_upd (jm_upd (sy_ai F 42) ((((6 : Int32)) * (((1 : Int32)) - (sy_i F 11))) + ((0 : Int32))).toNatClampNeg ((0 : Int32))) ((((6 : Int32)) * (((1 : Int32)) - (sy_i F 11))) + ((1 : Int32))).toNatClampNeg ((0 : Int32))) ((((6 : Int32)) * (((1 : Int32)) - (sy_i F 11))) + ((2 : Int32))).toNatClampNeg ((0 : Int32))) ((((6 : Int32)) * (((1 : Int32)) - (sy_i F 11))) + ((3 : Int32))).toNatClampNeg ((0 : Int32))) := hd_up (hs 26 _ rfl) t94 rfl t89
  have t101 : sy_da F' (.inr (.inl 101)) = .inl (jm_upd (jm_upd (jm_upd (jm_upd (jm_upd (sy_ai F 42) ((((6 : Int32)) * (((1 : Int32)) - (sy_i F 11))) + ((0 : Int32))).toNatClampNeg ((0 : Int32))) ((((6 : Int32)) * (((1 : Int32)) - (sy_i F 11))) + ((1 : Int32))).toNatClampNeg ((0 : Int32))) ((((6 : Int32)) * (((1 : Int32)) - (sy_i F 11))) + ((2 : Int32))).toNatClampNeg ((0 : Int32))) ((((6 : Int32)) * (((1 : Int32)) - (sy_i F 11))) + ((3 : Int32))).toNatClampNeg ((0 : Int32))) ((((6 : Int32)) * (((1 : Int32)) - (sy_i F 11))) + ((4 : Int32))).toNatClampNeg ((0 : Int32))) := hd_up (hs 32 _ rfl) t100 rfl t95
  have t107 : sy_da F' (.inr (.inl 107)) = .inl (jm_upd (jm_upd (jm_upd (jm_upd (jm_upd (jm_upd (sy_ai F 42) ((((6 : Int32)) * (((1 : Int32)) - (sy_i F 11))) + ((0 : Int32))).toNatClampNeg ((0 : Int32))) ((((6 : Int32)) * (((1 : Int32)) - (sy_i F 11))) + ((1 : Int32))).toNatClampNeg ((0 : Int32))) ((((6 : Int32)) * (((1 : Int32)) - (sy_i F 11))) + ((2 : Int32))).toNatClampNeg ((0 : Int32))) ((((6 : Int32)) * (((1 : Int32)) - (sy_i F 11))) + ((3 : Int32))).toNatClampNeg ((0 : Int32))) ((((6 : Int32)) * (((1 : Int32)) - (sy_i F 11))) + ((4 : Int32))).toNatClampNeg ((0 : Int32))) ((((6 : Int32)) * (((1 : Int32)) - (sy_i F 11))) + ((5 : Int32))).toNatClampNeg ((0 : Int32))) := hd_up (hs 38 _ rfl) t106 rfl t101
  have a43 := hd_ba (F := F) (F' := F') (k := 43) (hF 43 (by decide))
  have t80 : sy_da F' (.inr (.inl 80)) = .inl (jm_upd (sy_ai F 43) ((((6 : Int32)) * (((1 : Int32)) - (sy_i F 11))) + ((0 : Int32))).toNatClampNeg ((0 : Int32))) := hd_up (hs 11 _ rfl) t79 rfl a43
  have t86 : sy_da F' (.inr (.inl 86)) = .inl (jm_upd (jm_upd (sy_ai F 43) ((((6 : Int32)) * (((1 : Int32)) - (sy_i F 11))) + ((0 : Int32))).toNatClampNeg ((0 : Int32))) ((((6 : Int32)) * (((1 : Int32)) - (sy_i F 11))) + ((1 : Int32))).toNatClampNeg ((0 : Int32))) := hd_up (hs 17 _ rfl) t85 rfl t80
  have t92 : sy_da F' (.inr (.inl 92)) = .inl (jm_upd (jm_upd (jm_upd (sy_ai F 43) ((((6 : Int32)) * (((1 : Int32)) - (sy_i F 11))) + ((0 : Int32))).toNatClampNeg ((0 : Int32))) ((((6 : Int32)) * (((1 : Int32)) - (sy_i F 11))) + ((1 : Int32))).toNatClampNeg ((0 : Int32))) ((((6 : Int32)) * (((1 : Int32)) - (sy_i F 11))) + ((2 : Int32))).toNatClampNeg ((0 : Int32))) := hd_up (hs 23 _ rfl) t91 rfl t86
  have t98 : sy_da F' (.inr (.inl 98)) = .inl (jm_upd (jm_upd (jm_upd (jm_upd (sy_ai F 43) ((((6 : Int32)) * (((1 : Int32)) - (sy_i F 11))) + ((0 : Int32))).toNatClampNeg ((0 : Int32))) ((((6 : Int32)) * (((1 : Int32)) - (sy_i F 11))) + ((1 : Int32))).toNatClampNeg ((0 : Int32))) ((((6 : Int32)) * (((1 : Int32)) - (sy_i F 11))) + ((2 : Int32))).toNatClampNeg ((0 : Int32))) ((((6 : Int32)) * (((1 : Int32)) - (sy_i F 11))) + ((3 : Int32))).toNatClampNeg ((0 : Int32))) := hd_up (hs 29 _ rfl) t97 rfl t92
  have t104 : sy_da F' (.inr (.inl 104)) = .inl (jm_upd (jm_upd (jm_upd (jm_upd (jm_upd (sy_ai F 43) ((((6 : Int32)) * (((1 : Int32)) - (sy_i F 11))) + ((0 : Int32))).toNatClampNeg ((0 : Int32))) ((((6 : Int32)) * (((1 : Int32)) - (sy_i F 11))) + ((1 : Int32))).toNatClampNeg ((0 : Int32))) ((((6 : Int32)) * (((1 : Int32)) - (sy_i F 11))) + ((2 : Int32))).toNatClampNeg ((0 : Int32))) ((((6 : Int32)) * (((1 : Int32)) - (sy_i F 11))) + ((3 : Int32))).toNatClampNeg ((0 : Int32))) ((((6 : Int32)) * (((1 : Int32)) - (sy_i F 11))) + ((4 : Int32))).toNatClampNeg ((0 : Int32))) := hd_up (hs 35 _ rfl) t103 rfl t98
  have t110 : sy_da F' (.inr (.inl 110)) = .inl (jm_upd (jm_upd (jm_upd (jm_upd (jm_upd (jm_upd (sy_ai F 43) ((((6 : Int32)) * (((1 : Int32)) - (sy_i F 11))) + ((0 : Int32))).toNatClampNeg ((0 : Int32))) ((((6 : Int32)) * (((1 : Int32)) - (sy_i F 11))) + ((1 : Int32))).toNatClampNeg ((0 : Int32))) ((((6 : Int32)) * (((1 : Int32)) - (sy_i F 11))) + ((2 : Int32))).toNatClampNeg ((0 : Int32))) ((((6 : Int32)) * (((1 : Int32)) - (sy_i F 11))) + ((3 : Int32))).toNatClampNeg ((0 : Int32))) ((((6 : Int32)) * (((1 : Int32)) - (sy_i F 11))) + ((4 : Int32))).toNatClampNeg ((0 : Int32))) ((((6 : Int32)) * (((1 : Int32)) - (sy_i F 11))) + ((5 : Int32))).toNatClampNeg ((0 : Int32))) := hd_up (hs 41 _ rfl) t109 rfl t104
  have hB' : iv_in F' iv_B4 := iv_in_eq hB (fun j hj => hF j (Nat.lt_of_lt_of_le hj (by decide +kernel)))
  refine ⟨List.forall_mem_cons.mpr ⟨hd_pb t69 (by first | exact h0 | exact h0), List.forall_mem_cons.mpr ⟨hd_pb t69 (by first | exact h1 | exact h1), List.forall_mem_cons.mpr ⟨hd_pb t69 (by first | exact h2 | exact h2), List.forall_mem_cons.mpr ⟨hd_pb t69 (by first | exact h3 | exact h3), List.forall_mem_cons.mpr ⟨hd_pb t69 (by first | exact h4 | exact h4), List.forall_mem_cons.mpr ⟨hd_pb t76 (by first | exact h5 | exact h5), List.forall_mem_cons.mpr ⟨hd_pb t79 (by first | exact h6 | exact h6), List.forall_mem_cons.mpr ⟨hd_pb t82 (by first | exact h7 | exact h7), List.forall_mem_cons.mpr ⟨hd_pb t85 (by first | exact h8 | exact h8), List.forall_mem_cons.mpr ⟨hd_pb t88 (by first | exact h9 | exact h9), List.forall_mem_cons.mpr ⟨hd_pb t91 (by first | exact h10 | exact h10), List.forall_mem_cons.mpr ⟨hd_pb t94 (by first | exact h11 | exact h11), List.forall_mem_cons.mpr ⟨hd_pb t97 (by first | exact h12 | exact h12), List.forall_mem_cons.mpr ⟨hd_pb t100 (by first | exact h13 | exact h13), List.forall_mem_cons.mpr ⟨hd_pb t103 (by first | exact h14 | exact h14), List.forall_mem_cons.mpr ⟨hd_pb t106 (by first | exact h15 | exact h15), List.forall_mem_cons.mpr ⟨hd_pb t109 (by first | exact h16 | exact h16), fun _ h => absurd h List.not_mem_nil⟩⟩⟩⟩⟩⟩⟩⟩⟩⟩⟩⟩⟩⟩⟩⟩⟩, ?_⟩
  refine k _ ?_ ?_ ?_ ?_ ?_ ?_ ?_ ?_ ?_ ?_ ?_ ?_ ?_ ?_ ?_ ?_
  · exact fun j hj hn => (hd_keep hB' (Nat.lt_of_lt_of_le hj (by decide +kernel)) (by simp; omega)).trans (hF j (Nat.lt_of_lt_of_le hj (by decide)))
  · exact hd_gi (x := .inl (.int 0)) (by decide +kernel) rfl
  · exact hd_gi (x := .inl (.int 0)) (by decide +kernel) rfl
  · exact hd_gi (x := .inl (.int 0)) (by decide +kernel) rfl
  · exact hd_gi (x := .inl (.int 0)) (by decide +kernel) rfl
  · exact hd_gi (x := .inr (.inl 69)) (by decide +kernel) t69
  · exact hd_gi (x := .inl (.int 0)) (by decide +kernel) rfl
  · exact hd_gi (x := .inr (.inl 111)) (by decide +kernel) t111
  · exact hd_gi (x := .inr (.inl 112)) (by decide +kernel) t112
  · exact hd_ga (a := .inr (.inl 70)) (by decide +kernel) t70
  · exact hd_ga (a := .inr (.inl 71)) (by decide +kernel) t71
  · exact hd_ga (a := .inr (.inl 72)) (by decide +kernel) t72
  · exact hd_ga (a := .inr (.inl 73)) (by decide +kernel) t73
  · exact hd_ga (a := .inr (.inl 74)) (by decide +kernel) t74
  · exact hd_ga (a := .inr (.inl 107)) (by decide +kernel) t107
  · exact hd_ga (a := .inr (.inl 110)) (by decide +kernel) t110
theorem re_112_p0 {Ls : Nat} {xs : Nat → Int32} {d : Nat} {Q : Option Value → jm_h → Prop} (hd : 3 ≤ d) (F : Nat → sy_d) (X1 X2 : List jm_c) (hB : iv_in F iv_B4)
    (h0 : (sy_i F 6).toInt ≠ 0)
    (h1 : 0 < (sy_i F 6).toInt)
    (h2 : 0 < (sy_i F 6).toInt)
    (k : ∀ F1 : Nat → sy_d, (∀ j, j < 69 → j ≠ 10 → F1 j = F j) → F1 10 = .inl (.int (sy_i F 7)) → Q (some (.int (sy_i F 6))) (sy_dh F1 X1 X2 (iv_H 4))) :
    hd_W Ls xs d jm_M150 Q (112, sy_dL F [some (.inl (.ref 1000)), none], sy_dS F [], sy_dh F X1 X2 (iv_H 4), 0, 0) := by
  refine hd_ret (s := 4) (nv := 69) (v := some (.inr (.inl 6))) (uh := hd_ov (iv_id 0 iv_B4) [(10, .inl (.inr (.inl 7)))]) (f := true) (sp := [128, 200]) (d0 := 2) (O := [true, false, false]) (T := []) (P := [(1, .inr (.inl 6), .inl (.int 0)), (5, .inr (.inl 6), .inl (.int 0)), (5, .inr (.inl 6), .inl (.int 0))]) jm_ok150 (by decide +kernel) (by decide +kernel) hd F X1 X2 (fun F' hF hs => ?_)
  have b6 := hd_b (F := F) (F' := F') (k := 6) (hF 6 (by decide))
  have b7 := hd_b (F := F) (F' := F') (k := 7) (hF 7 (by decide))
  have hB' : iv_in F' iv_B4 := iv_in_eq hB (fun j hj => hF j (Nat.lt_of_lt_of_le hj (by decide +kernel)))
  have hk := k (sy_cm F' (hd_ov (iv_id 0 iv_B4) [(10, .inl (.inr (.inl 7)))] ++ [])) (fun j hj hn => (hd_keep hB' (Nat.lt_of_lt_of_le hj (by decide +kernel)) (by simp; omega)).trans (hF j (Nat.lt_of_lt_of_le hj (by decide)))) (hd_gi (x := .inr (.inl 7)) (by decide +kernel) b7)
  refine ⟨List.forall_mem_cons.mpr ⟨hd_p1 b6 rfl (by have hc : ((0) : Int32).toInt = 0 := (by decide); omega), List.forall_mem_cons.mpr ⟨hd_p5 b6 rfl (by have hc : ((0) : Int32).toInt = 0 := (by decide); omega), List.forall_mem_cons.mpr ⟨hd_p5 b6 rfl (by have hc : ((0) : Int32).toInt = 0 := (by decide); omega), fun _ h => absurd h List.not_mem_nil⟩⟩⟩, ?_⟩
  show Q (some (sy_dv F' (.inr (.inl 6)))) _
  rw [b6]
  exact hk
theorem re_112_p1 {Ls : Nat} {xs : Nat → Int32} {d : Nat} {Q : Option Value → jm_h → Prop} (hd : 3 ≤ d) (F : Nat → sy_d) (X1 X2 : List jm_c) (hB : iv_in F iv_B4)
    (h0 : (sy_i F 6).toInt = 0)
    (h1 : (sy_i F 6).toInt = 0)
    (h2 : 0 ≤ (sy_i F 4).toInt ∧ (sy_i F 4).toInt < 403)
    (h3 : ((sy_ai F 25).getD (sy_i F 4).toNatClampNeg 0).toInt ≠ 0)
    (k : ∀ F1 : Nat → sy_d, (∀ j, j < 69 → True → F1 j = F j) → hd_W Ls xs d jm_M150 Q (128, sy_dL F1 [some (.inl (.ref 1000)), none], sy_dS F1 [.inl (.ref 1000)], sy_dh F1 X1 X2 (iv_H 4), 0, 0)) :
    hd_W Ls xs d jm_M150 Q (112, sy_dL F [some (.inl (.ref 1000)), none], sy_dS F [], sy_dh F X1 X2 (iv_H 4), 0, 0) := by
  refine hd_run (s := 4) (nv := 69) (pc := 128) (L := [some (.inl (.ref 1000)), none]) (S := [.inl (.ref 1000)]) (uh := hd_ov (iv_id 0 iv_B4) []) (ul := []) (f := true) (sp := [128, 200]) (d0 := 2) (O := [false, false, true]) (T := [(30, [.inr (.inl 4)], [.inr (.inl 25)])]) (P := [(0, .inr (.inl 6), .inl (.int 0)), (0, .inr (.inl 6), .inl (.int 0)), (6, .inr (.inl 4), .inl (.ref 403)), (1, .inr (.inl 69), .inl (.int 0))]) jm_ok150 (by decide +kernel) (by decide +kernel) hd F X1 X2 (fun F' hF hs => ?_)
  have b6 := hd_b (F := F) (F' := F') (k := 6) (hF 6 (by decide))
  have b4 := hd_b (F := F) (F' := F') (k := 4) (hF 4 (by decide))
  have a25 := hd_ba (F := F) (F' := F') (k := 25) (hF 25 (by decide))
  have t69 : sy_dv F' (.inr (.inl 69)) = .int ((sy_ai F 25).getD (sy_i F 4).toNatClampNeg 0) := hd_rd (hs 0 _ rfl) b4 a25
  have hB' : iv_in F' iv_B4 := iv_in_eq hB (fun j hj => hF j (Nat.lt_of_lt_of_le hj (by decide +kernel)))
  refine ⟨List.forall_mem_cons.mpr ⟨hd_p0 b6 rfl (by have hc : ((0) : Int32).toInt = 0 := (by decide); omega), List.forall_mem_cons.mpr ⟨hd_p0 b6 rfl (by have hc : ((0) : Int32).toInt = 0 := (by decide); omega), List.forall_mem_cons.mpr ⟨hd_pb b4 (by first | exact h2 | exact h2), List.forall_mem_cons.mpr ⟨hd_p1 t69 rfl (by have hc : ((0) : Int32).toInt = 0 := (by decide); omega), fun _ h => absurd h List.not_mem_nil⟩⟩⟩⟩, ?_⟩
  refine k _ ?_
  · exact fun j hj _ => (hd_keep hB' (Nat.lt_of_lt_of_le hj (by decide +kernel)) (by simp)).trans (hF j (Nat.lt_of_lt_of_le hj (by decide)))
theorem re_112_p2 {Ls : Nat} {xs : Nat → Int32} {d : Nat} {Q : Option Value → jm_h → Prop} (hd : 3 ≤ d) (F : Nat → sy_d) (X1 X2 : List jm_c) (hB : iv_in F iv_B4)
    (h0 : (sy_i F 6).toInt = 0)
    (h1 : (sy_i F 6).toInt = 0)
    (h2 : 0 ≤ (sy_i F 4).toInt ∧ (sy_i F 4).toInt < 403)
    (h3 : ((sy_ai F 25).getD (sy_i F 4).toNatClampNeg 0).toInt = 0)
    (h4 : (sy_i F 6).toInt ≤ 0)
    (h5 : (sy_i F 8).toInt ≤ 0)
    (h6 : (sy_i F 6).toInt ≤ 0)
    (h7 : (sy_i F 8).toInt ≤ 0)
    (k : ∀ F1 : Nat → sy_d, (∀ j, j < 69 → j ≠ 10 ∧ j ≠ 11 → F1 j = F j) → F1 10 = .inl (.int (((-1) : Int32))) → F1 11 = .inl (.int (sy_i F 12)) → hd_W Ls xs d jm_M150 Q (200, sy_dL F1 [some (.inl (.ref 1000)), none], sy_dS F1 [.inl (.ref 1000)], sy_dh F1 X1 X2 (iv_H 4), 0, 0)) :
    hd_W Ls xs d jm_M150 Q (112, sy_dL F [some (.inl (.ref 1000)), none], sy_dS F [], sy_dh F X1 X2 (iv_H 4), 0, 0) := by
  refine hd_run (s := 4) (nv := 69) (pc := 200) (L := [some (.inl (.ref 1000)), none]) (S := [.inl (.ref 1000)]) (uh := hd_ov (iv_id 0 iv_B4) [(10, .inl (.inl (.int (-1)))), (11, .inl (.inr (.inl 12)))]) (ul := []) (f := true) (sp := [128, 200]) (d0 := 2) (O := [false, false, false, true, true, true, true]) (T := [(30, [.inr (.inl 4)], [.inr (.inl 25)])]) (P := [(0, .inr (.inl 6), .inl (.int 0)), (0, .inr (.inl 6), .inl (.int 0)), (6, .inr (.inl 4), .inl (.ref 403)), (0, .inr (.inl 69), .inl (.int 0)), (4, .inr (.inl 6), .inl (.int 0)), (4, .inr (.inl 8), .inl (.int 0)), (4, .inr (.inl 6), .inl (.int 0)), (4, .inr (.inl 8), .inl (.int 0))]) jm_ok150 (by decide +kernel) (by decide +kernel) hd F X1 X2 (fun F' hF hs => ?_)
  have b6 := hd_b (F := F) (F' := F') (k := 6) (hF 6 (by decide))
  have b4 := hd_b (F := F) (F' := F') (k := 4) (hF 4 (by decide))
  have a25 := hd_ba (F := F) (F' := F') (k := 25) (hF 25 (by decide))
  have t69 : sy_dv F' (.inr (.inl 69)) = .int ((sy_ai F 25).getD (sy_i F 4).toNatClampNeg 0) := hd_rd (hs 0 _ rfl) b4 a25
  have b8 := hd_b (F := F) (F' := F') (k := 8) (hF 8 (by decide))
  have b12 := hd_b (F := F) (F' := F') (k := 12) (hF 12 (by decide))
  have hB' : iv_in F' iv_B4 := iv_in_eq hB (fun j hj => hF j (Nat.lt_of_lt_of_le hj (by decide +kernel)))
  refine ⟨List.forall_mem_cons.mpr ⟨hd_p0 b6 rfl (by have hc : ((0) : Int32).toInt = 0 := (by decide); omega), List.forall_mem_cons.mpr ⟨hd_p0 b6 rfl (by have hc : ((0) : Int32).toInt = 0 := (by decide); omega), List.forall_mem_cons.mpr ⟨hd_pb b4 (by first | exact h2 | exact h2), List.forall_mem_cons.mpr ⟨hd_p0 t69 rfl (by have hc : ((0) : Int32).toInt = 0 := (by decide); omega), List.forall_mem_cons.mpr ⟨hd_p4 b6 rfl (by have hc : ((0) : Int32).toInt = 0 := (by decide); omega), List.forall_mem_cons.mpr ⟨hd_p4 b8 rfl (by have hc : ((0) : Int32).toInt = 0 := (by decide); omega), List.forall_mem_cons.mpr ⟨hd_p4 b6 rfl (by have hc : ((0) : Int32).toInt = 0 := (by decide); omega), List.forall_mem_cons.mpr ⟨hd_p4 b8 rfl (by have hc : ((0) : Int32).toInt = 0 := (by decide); omega), fun _ h => absurd h List.not_mem_nil⟩⟩⟩⟩⟩⟩⟩⟩, ?_⟩
  refine k _ ?_ ?_ ?_
  · exact fun j hj hn => (hd_keep hB' (Nat.lt_of_lt_of_le hj (by decide +kernel)) (by simp; omega)).trans (hF j (Nat.lt_of_lt_of_le hj (by decide)))
  · exact hd_gi (x := .inl (.int (-1))) (by decide +kernel) rfl
  · exact hd_gi (x := .inr (.inl 12)) (by decide +kernel) b12
theorem re_112_p3 {Ls : Nat} {xs : Nat → Int32} {d : Nat} {Q : Option Value → jm_h → Prop} (hd : 3 ≤ d) (F : Nat → sy_d) (X1 X2 : List jm_c) (hB : iv_in F iv_B4)
    (h0 : (sy_i F 6).toInt = 0)
    (h1 : (sy_i F 6).toInt = 0)
    (h2 : 0 ≤ (sy_i F 4).toInt ∧ (sy_i F 4).toInt < 403)
    (h3 : ((sy_ai F 25).getD (sy_i F 4).toNatClampNeg 0).toInt = 0)
    (h4 : (sy_i F 6).toInt ≤ 0)
    (h5 : 0 < (sy_i F 8).toInt)
    (h6 : (sy_i F 6).toInt ≤ 0)
    (h7 : 0 < (sy_i F 8).toInt)
    (k : ∀ F1 : Nat → sy_d, (∀ j, j < 69 → j ≠ 10 → F1 j = F j) → F1 10 = .inl (.int (sy_i F 9)) → Q (some (.int (sy_i F 8))) (sy_dh F1 X1 X2 (iv_H 4))) :
    hd_W Ls xs d jm_M150 Q (112, sy_dL F [some (.inl (.ref 1000)), none], sy_dS F [], sy_dh F X1 X2 (iv_H 4), 0, 0) := by
  refine hd_ret (s := 4) (nv := 69) (v := some (.inr (.inl 8))) (uh := hd_ov (iv_id 0 iv_B4) [(10, .inl (.inr (.inl 9)))]) (f := true) (sp := [128, 200]) (d0 := 2) (O := [false, false, false, true, false, true, false]) (T := [(30, [.inr (.inl 4)], [.inr (.inl 25)])]) (P := [(0, .inr (.inl 6), .inl (.int 0)), (0, .inr (.inl 6), .inl (.int 0)), (6, .inr (.inl 4), .inl (.ref 403)), (0, .inr (.inl 69), .inl (.int 0)), (4, .inr (.inl 6), .inl (.int 0)), (5, .inr (.inl 8), .inl (.int 0)), (4, .inr (.inl 6), .inl (.int 0)), (5, .inr (.inl 8), .inl (.int 0))]) jm_ok150 (by decide +kernel) (by decide +kernel) hd F X1 X2 (fun F' hF hs => ?_)
  have b6 := hd_b (F := F) (F' := F') (k := 6) (hF 6 (by decide))
  have b4 := hd_b (F := F) (F' := F') (k := 4) (hF 4 (by decide))
  have a25 := hd_ba (F := F) (F' := F') (k := 25) (hF 25 (by decide))
  have t69 : sy_dv F' (.inr (.inl 69)) = .int ((sy_ai F 25).getD (sy_i F 4).toNatClampNeg 0) := hd_rd (hs 0 _ rfl) b4 a25
  have b8 := hd_b (F := F) (F' := F') (k := 8) (hF 8 (by decide))
  have b9 := hd_b (F := F) (F' := F') (k := 9) (hF 9 (by decide))
  have hB' : iv_in F' iv_B4 := iv_in_eq hB (fun j hj => hF j (Nat.lt_of_lt_of_le hj (by decide +kernel)))
  have hk := k (sy_cm F' (hd_ov (iv_id 0 iv_B4) [(10, .inl (.inr (.inl 9)))] ++ [])) (fun j hj hn => (hd_keep hB' (Nat.lt_of_lt_of_le hj (by decide +kernel)) (by simp; omega)).trans (hF j (Nat.lt_of_lt_of_le hj (by decide)))) (hd_gi (x := .inr (.inl 9)) (by decide +kernel) b9)
  refine ⟨List.forall_mem_cons.mpr ⟨hd_p0 b6 rfl (by have hc : ((0) : Int32).toInt = 0 := (by decide); omega), List.forall_mem_cons.mpr ⟨hd_p0 b6 rfl (by have hc : ((0) : Int32).toInt = 0 := (by decide); omega), List.forall_mem_cons.mpr ⟨hd_pb b4 (by first | exact h2 | exact h2), List.forall_mem_cons.mpr ⟨hd_p0 t69 rfl (by have hc : ((0) : Int32).toInt = 0 := (by decide); omega), List.forall_mem_cons.mpr ⟨hd_p4 b6 rfl (by have hc : ((0) : Int32).toInt = 0 := (by decide); omega), List.forall_mem_cons.mpr ⟨hd_p5 b8 rfl (by have hc : ((0) : Int32).toInt = 0 := (by decide); omega), List.forall_mem_cons.mpr ⟨hd_p4 b6 rfl (by have hc : ((0) : Int32).toInt = 0 := (by decide); omega), List.forall_mem_cons.mpr ⟨hd_p5 b8 rfl (by have hc : ((0) : Int32).toInt = 0 := (by decide); omega), fun _ h => absurd h List.not_mem_nil⟩⟩⟩⟩⟩⟩⟩⟩, ?_⟩
  show Q (some (sy_dv F' (.inr (.inl 8)))) _
  rw [b8]
  exact hk
theorem re_131_p0 {Ls : Nat} {xs : Nat → Int32} {d : Nat} {Q : Option Value → jm_h → Prop} (hd : 3 ≤ d) (F : Nat → sy_d) (X1 X2 : List jm_c) (hB : iv_in F iv_B4)
    (k : ∀ F1 : Nat → sy_d, (∀ j, j < 69 → True → F1 j = F j) → hd_W Ls xs d jm_M150 Q (112, sy_dL F1 [some (.inl (.ref 1000)), none], sy_dS F1 [], sy_dh F1 X1 X2 (iv_H 4), 0, 0)) :
    hd_W Ls xs d jm_M150 Q (131, sy_dL F [some (.inl (.ref 1000)), none], sy_dS F [], sy_dh F X1 X2 (iv_H 4), 0, 0) := by
  refine hd_run (s := 4) (nv := 69) (pc := 112) (L := [some (.inl (.ref 1000)), none]) (S := []) (uh := hd_ov (iv_id 0 iv_B4) []) (ul := []) (f := false) (sp := [112]) (d0 := 2) (O := []) (T := []) (P := []) jm_ok150 (by decide +kernel) (by decide +kernel) hd F X1 X2 (fun F' hF hs => ?_)
  have hB' : iv_in F' iv_B4 := iv_in_eq hB (fun j hj => hF j (Nat.lt_of_lt_of_le hj (by decide +kernel)))
  refine ⟨fun _ h => absurd h List.not_mem_nil, ?_⟩
  refine k _ ?_
  · exact fun j hj _ => (hd_keep hB' (Nat.lt_of_lt_of_le hj (by decide +kernel)) (by simp)).trans (hF j (Nat.lt_of_lt_of_le hj (by decide)))
theorem re_203_p0 {Ls : Nat} {xs : Nat → Int32} {d : Nat} {Q : Option Value → jm_h → Prop} (hd : 3 ≤ d) (F : Nat → sy_d) (X1 X2 : List jm_c) (hB : iv_in F iv_B4)
    (k : ∀ F1 : Nat → sy_d, (∀ j, j < 69 → True → F1 j = F j) → hd_W Ls xs d jm_M150 Q (204, sy_dL F1 [some (.inl (.ref 1000)), none], sy_dS F1 [.inl (.ref 1000)], sy_dh F1 X1 X2 (iv_H 4), 0, 0)) :
    hd_W Ls xs d jm_M150 Q (203, sy_dL F [some (.inl (.ref 1000)), none], sy_dS F [], sy_dh F X1 X2 (iv_H 4), 0, 0) := by
  refine hd_run (s := 4) (nv := 69) (pc := 204) (L := [some (.inl (.ref 1000)), none]) (S := [.inl (.ref 1000)]) (uh := hd_ov (iv_id 0 iv_B4) []) (ul := []) (f := false) (sp := [204]) (d0 := 2) (O := []) (T := []) (P := []) jm_ok150 (by decide +kernel) (by decide +kernel) hd F X1 X2 (fun F' hF hs => ?_)
  have hB' : iv_in F' iv_B4 := iv_in_eq hB (fun j hj => hF j (Nat.lt_of_lt_of_le hj (by decide +kernel)))
  refine ⟨fun _ h => absurd h List.not_mem_nil, ?_⟩
  refine k _ ?_
  · exact fun j hj _ => (hd_keep hB' (Nat.lt_of_lt_of_le hj (by decide +kernel)) (by simp)).trans (hF j (Nat.lt_of_lt_of_le hj (by decide)))
theorem re_207_p0 {Ls : Nat} {xs : Nat → Int32} {d : Nat} {Q : Option Value → jm_h → Prop} (hd : 3 ≤ d) (F : Nat → sy_d) (X1 X2 : List jm_c) (hB : iv_in F iv_B4)
    (k : ∀ F1 : Nat → sy_d, (∀ j, j < 69 → j ≠ 20 ∧ j ≠ 21 ∧ j ≠ 67 → F1 j = F j) → F1 20 = .inl (.int ((0 : Int32))) → F1 21 = .inl (.int ((0 : Int32))) → F1 67 = .inr (.inl (jm_upd (jm_upd (jm_upd (sy_ai F 67) ((0 : Int32)).toNatClampNeg ((0 : Int32))) ((1 : Int32)).toNatClampNeg ((0 : Int32))) ((2 : Int32)).toNatClampNeg ((0 : Int32)))) → Q (some (.int ((0 : Int32)))) (sy_dh F1 X1 X2 (iv_H 4))) :
    hd_W Ls xs d jm_M150 Q (207, sy_dL F [some (.inl (.ref 1000)), none], sy_dS F [], sy_dh F X1 X2 (iv_H 4), 0, 0) := by
  refine hd_ret (s := 4) (nv := 69) (v := some (.inl (.int 0))) (uh := hd_ov (iv_id 0 iv_B4) [(20, .inl (.inl (.int 0))), (21, .inl (.inl (.int 0))), (67, .inr (.inr (.inl 71)))]) (f := false) (sp := []) (d0 := 2) (O := []) (T := [(40, [.inl (.int 0), .inl (.int 0)], [.inr (.inl 67)]), (40, [.inl (.int 1), .inl (.int 0)], [.inr (.inl 69)]), (40, [.inl (.int 2), .inl (.int 0)], [.inr (.inl 70)])]) (P := []) jm_ok150 (by decide +kernel) (by decide +kernel) hd F X1 X2 (fun F' hF hs => ?_)
  have a67 := hd_ba (F := F) (F' := F') (k := 67) (hF 67 (by decide))
  have t69 : sy_da F' (.inr (.inl 69)) = .inl (jm_upd (sy_ai F 67) ((0 : Int32)).toNatClampNeg ((0 : Int32))) := hd_up (hs 0 _ rfl) rfl rfl a67
  have t70 : sy_da F' (.inr (.inl 70)) = .inl (jm_upd (jm_upd (sy_ai F 67) ((0 : Int32)).toNatClampNeg ((0 : Int32))) ((1 : Int32)).toNatClampNeg ((0 : Int32))) := hd_up (hs 1 _ rfl) rfl rfl t69
  have t71 : sy_da F' (.inr (.inl 71)) = .inl (jm_upd (jm_upd (jm_upd (sy_ai F 67) ((0 : Int32)).toNatClampNeg ((0 : Int32))) ((1 : Int32)).toNatClampNeg ((0 : Int32))) ((2 : Int32)).toNatClampNeg ((0 : Int32))) := hd_up (hs 2 _ rfl) rfl rfl t70
  have hB' : iv_in F' iv_B4 := iv_in_eq hB (fun j hj => hF j (Nat.lt_of_lt_of_le hj (by decide +kernel)))
  refine ⟨fun _ h => absurd h List.not_mem_nil, ?_⟩
  refine k _ ?_ ?_ ?_ ?_
  · exact fun j hj hn => (hd_keep hB' (Nat.lt_of_lt_of_le hj (by decide +kernel)) (by simp; omega)).trans (hF j (Nat.lt_of_lt_of_le hj (by decide)))
  · exact hd_gi (x := .inl (.int 0)) (by decide +kernel) rfl
  · exact hd_gi (x := .inl (.int 0)) (by decide +kernel) rfl
  · exact hd_ga (a := .inr (.inl 71)) (by decide +kernel) t71
end
section
/-! ===== the reference reads ===== -/
theorem ct_v {M : jm_M} {n d : Nat} {W : List Nat} (h : ct_ok jj (n, [.inl (.ref 1000)], 4, [4], iv_B4, W, iv_B4, none, d)) (hM : jm_TB[n]? = some M) {Ls : Nat} {xs : Nat → Int32} (F : Nat → sy_d) (X1 X2 : List jm_c) (hB : iv_in F iv_B4) (hJ : jm_rpn F) :
    jm_T Ls xs d M [.ref 1000] (sy_dh F X1 X2 (iv_H 4)) 0 0 (fun v G => ∃ F' : Nat → sy_d, v = none ∧ G = sy_dh F' X1 X2 (iv_H 4) ∧ iv_in F' iv_B4 ∧ (∀ j, j < 69 → W.contains j = false → F' j = F j) ∧ jm_rpn F') := by
  refine jm_T_mono (h M hM Ls xs F X1 X2 hB hJ) ?_
  rintro v G ⟨t, F', ht, hG, hf, hB', hv, hj⟩
  have ht : t ∈ [4] := ht
  have e : t = 4 := List.mem_singleton.mp ht
  subst e
  have hv : v = none := by
    cases v with
    | none => rfl
    | some x => exact absurd hv (by intro q; cases q)
  exact ⟨F', hv, hG, hB', hf, hj⟩
theorem u6_at (l : List Int32) (s : Int) (h0 : 0 ≤ s) (h1 : s ≤ 1) (i : Nat) : (jm_upd (jm_upd (jm_upd (jm_upd (jm_upd (jm_upd l (6 * s + 0).toNat 0) (6 * s + 1).toNat 0) (6 * s + 2).toNat 0) (6 * s + 3).toNat 0) (6 * s + 4).toNat 0) (6 * s + 5).toNat 0).getD i 0 = if 6 * s ≤ i ∧ (i : Int) < 6 * s + 6 then 0 else l.getD i 0 := by
  rw [jm_upd_at, jm_upd_at, jm_upd_at, jm_upd_at, jm_upd_at, jm_upd_at]
  by_cases q : 6 * s ≤ i ∧ (i : Int) < 6 * s + 6
  · rw [if_pos q]
    repeat' split
    all_goals first | rfl | (exfalso; omega)
  · rw [if_neg q, if_neg (by omega), if_neg (by omega), if_neg (by omega), if_neg (by omega), if_neg (by omega), if_neg (by omega)]
noncomputable def re_Q (X1 X2 : List jm_c) (v : Option Value) (G : jm_h) : Prop := ∃ (x : Int32) (F' : Nat → sy_d), v = some (.int x) ∧ G = sy_dh F' X1 X2 (iv_H 4) ∧ iv_in F' iv_B4 ∧ jm_rpn F' ∧ (sy_i F' 1).toInt = 0
section RE
variable {Ls : Nat} {xs : Nat → Int32} (X1 X2 : List jm_c)
end RE
end
section
/-! ===== the law's steps ===== -/
def lw_L (i : Int32) : List (Option Value) := [some (.ref 0), some (.ref 8), some (.ref 1000), some (.int i)]
section LWS
variable {p : Program} {l : Launch} {e : Env} {s : State} {m : MethodId} {args : Array Value} {below : List Frame} {meth : Method} {c : Code} {D : va_G} {h0 : Nat} {ex : Nat → Nat} {ka : Nat → ClassId} {Ls : Nat} {xs : Nat → Int32} {n0 : Nat} {Q : State → Prop} {i : jm_I} {pc : Nat} {L : List (Option Value)} {S : List Value} {G : jm_h} {cn sn : Nat} {st : jm_St}
theorem lw_st (C0 : jm_C p s m args meth c D h0 ex ka Ls xs jm_ML n0) (hi : jm_in jm_ML pc = some i) (h : jm_step jm_ML Ls xs 0 0 i pc L S G (cn, sn) = some st) (k : jm_W p l e room_1 s m args below meth c D h0 ex ka jm_ML n0 Q st) : jm_W p l e room_1 s m args below meth c D h0 ex ka jm_ML n0 Q (pc, L, S, G, cn, sn) :=
  jm_step_ok C0 (Nat.zero_le _) (Nat.zero_le _) (Nat.le_of_ble_eq_true rfl) (Nat.le_of_ble_eq_true rfl) (jm_in_ck jm_lawck hi) h k
/-- an int of the script -/
theorem lw_arg {v : Int32} {k : Int} (C0 : jm_C p s m args meth c D h0 ex ka Ls xs jm_ML n0) (h1 : jm_in jm_ML pc = some (.aload_n 0, 1, 0, 0, 0)) (h2 : jm_in jm_ML (pc + 1) = some (.iload_n 3, 1, 0, 0, 0)) (h3 : jm_in jm_ML (pc + 2) = some (.iconst k, 1, 0, 0, 0)) (h4 : jm_in jm_ML (pc + 3) = some (.iadd, 1, 0, 0, 0)) (h5 : jm_in jm_ML (pc + 4) = some (.iaload, 1, 0, 0, 0)) (hb : jm_out (v + Int32.ofInt k) Ls = false)
    (kk : jm_W p l e room_1 s m args below meth c D h0 ex ka jm_ML n0 Q (pc + 5, lw_L v, .int (xs (v + Int32.ofInt k).toNatClampNeg) :: S, G, cn, sn)) : jm_W p l e room_1 s m args below meth c D h0 ex ka jm_ML n0 Q (pc, lw_L v, S, G, cn, sn) := by
  refine lw_st C0 h1 (jm_step_a1 rfl) ?_
  refine lw_st C0 h2 (jm_step_a1 rfl) ?_
  refine lw_st C0 h3 (jm_step_a1 rfl) ?_
  refine lw_st C0 h4 (jm_step_b1 rfl rfl rfl) ?_
  refine lw_st C0 h5 (jm_step_d2 rfl rfl rfl rfl rfl ?_) kk
  show (bif jm_out (v + Int32.ofInt k) Ls then none else _) = _
  rw [hb]
  rfl
/-- a truth value of the script -/
theorem lw_argb {v x : Int32} (C0 : jm_C p s m args meth c D h0 ex ka Ls xs jm_ML n0) (h1 : jm_in jm_ML pc = some (.ifCond .eq 7, 3, 0, 0, 0)) (h2 : jm_in jm_ML (pc + 3) = some (.iconst 1, 1, 0, 0, 0)) (h3 : jm_in jm_ML (pc + 4) = some (.goto 4, 3, 0, 0, 0)) (h4 : jm_in jm_ML (pc + 7) = some (.iconst 0, 1, 0, 0, 0))
    (kk : jm_W p l e room_1 s m args below meth c D h0 ex ka jm_ML n0 Q (pc + 8, lw_L v, .int (if x = 0 then 0 else 1) :: S, G, cn, sn)) : jm_W p l e room_1 s m args below meth c D h0 ex ka jm_ML n0 Q (pc, lw_L v, .int x :: S, G, cn, sn) := by
  have ht : jm_tg pc 7 = some (pc + 7) := by
    unfold jm_tg
    rw [if_pos (by omega)]
    congr 1
  have ht2 : jm_tg (pc + 4) 4 = some (pc + 8) := by
    unfold jm_tg
    rw [if_pos (by omega)]
    congr 1
  by_cases hx : x = 0
  · rw [if_pos hx] at kk
    refine lw_st C0 h1 (st := (pc + 7, lw_L v, S, G, cn, sn)) (jm_step_c1 rfl rfl rfl ?_) ?_
    · simp only [jm_c1, ht, if_pos hx, if_pos]
    · exact lw_st C0 h4 (jm_step_a1 rfl) kk
  · rw [if_neg hx] at kk
    refine lw_st C0 h1 (st := (pc + 3, lw_L v, S, G, cn, sn)) (jm_step_c1 rfl rfl rfl ?_) ?_
    · simp only [jm_c1, ht, if_neg hx, if_pos]
    · refine lw_st C0 h2 (jm_step_a1 rfl) ?_
      refine lw_st C0 h3 (st := (pc + 8, lw_L v, .int 1 :: S, G, cn, sn)) (jm_step_c1 rfl rfl rfl ?_) kk
      simp only [jm_c1, ht2, if_pos]
      rfl
theorem lw_cf {a idx po b : Nat} {M1 : jm_M} {As rest : List Value} (hM : jm_TB[a]? = some M1) (hk : jm_kd M1 = 1) (hn : jm_na M1 = As.length) (hr : jm_rok G M1 b = true) (hc : jm_cs rest ≤ 8) : jm_cf jm_TB (.invokevirtual idx, 3, a, 0, po) G (As.reverse ++ .ref b :: rest) = some (M1, .ref b :: As, rest) := by
  have h1 : (As.reverse ++ Value.ref b :: rest).drop (jm_na M1) = .ref b :: rest := by
    rw [hn, show As.length = As.reverse.length by simp, List.drop_left]
  have h2 : (As.reverse ++ Value.ref b :: rest).take (jm_na M1) = As.reverse := by
    rw [hn, show As.length = As.reverse.length by simp, List.take_left]
  have hcond : jm_kd M1 = 1 ∧ jm_na M1 ≤ (As.reverse ++ Value.ref b :: rest).length := ⟨hk, by rw [hn]; simp⟩
  have hcond2 : jm_cs rest ≤ 8 ∧ jm_rok G M1 b = true := ⟨hc, hr⟩
  have hlt : (3 : Nat) = 3 ∧ (0 : Nat) < 2 := ⟨rfl, by decide⟩
  simp only [jm_cf, hM, if_pos hcond, h1, h2, if_pos hcond2, List.reverse_reverse]
  exact if_pos ⟨trivial, by decide⟩
/-- a call -/
theorem lw_call {a idx po b : Nat} {M1 : jm_M} {As rest : List Value} {Post : Option Value → jm_h → Prop} (C0 : jm_C p s m args meth c D h0 ex ka Ls xs jm_ML n0) (hi : jm_in jm_ML pc = some (.invokevirtual idx, 3, a, 0, po)) (hM : jm_TB[a]? = some M1) (hk : jm_kd M1 = 1) (hn : jm_na M1 = As.length) (hr : jm_rok G M1 b = true) (hc : jm_cs rest ≤ 8) (hS : S = As.reverse ++ .ref b :: rest) {d1 : Nat} (hd : d1 ≤ 60) (hT : jm_T Ls xs d1 M1 (.ref b :: As) G 0 0 Post) (hcn : cn ≤ 600000) (hsn : sn ≤ 7302250)
    (kk : ∀ (v : Option Value) (G1 : jm_h), Post v G1 → jm_len G1 = jm_len G → jm_W p l e room_1 s m args below meth c D h0 ex ka jm_ML n0 Q (pc + 3, L, v.toList ++ rest, G1, cn, sn)) : jm_W p l e room_1 s m args below meth c D h0 ex ka jm_ML n0 Q (pc, L, S, G, cn, sn) := by
  subst hS
  exact jm_call_ok jm_TBok jm_hYN C0 (jm_in_ck jm_lawck hi) (lw_cf hM hk hn hr hc) hT (show d1 + 1 ≤ 2048 by omega) (show 64 * d1 + 64 ≤ 84000 by omega) hcn hsn kk
/-- both answers are alike: on to the next turn -/
theorem lw_cmp {v r : Int32} {off : Int} {t : Nat} (C0 : jm_C p s m args meth c D h0 ex ka Ls xs jm_ML n0) (hi : jm_in jm_ML pc = some (.if_icmp .eq off, 3, 0, 0, 0)) (ht : jm_tg pc off = some t)
    (kk : jm_W p l e room_1 s m args below meth c D h0 ex ka jm_ML n0 Q (t, lw_L v, S, G, cn, sn)) : jm_W p l e room_1 s m args below meth c D h0 ex ka jm_ML n0 Q (pc, lw_L v, .int r :: .int r :: S, G, cn, sn) := by
  refine lw_st C0 hi (st := (t, lw_L v, S, G, cn, sn)) (jm_step_c1 rfl rfl rfl ?_) kk
  simp only [jm_c1, ht, if_pos]
/-- an answer that nobody looks at -/
theorem lw_pop {v r : Int32} (C0 : jm_C p s m args meth c D h0 ex ka Ls xs jm_ML n0) (hi : jm_in jm_ML pc = some (.pop, 1, 0, 0, 0)) (kk : jm_W p l e room_1 s m args below meth c D h0 ex ka jm_ML n0 Q (pc + 1, lw_L v, S, G, cn, sn)) : jm_W p l e room_1 s m args below meth c D h0 ex ka jm_ML n0 Q (pc, lw_L v, .int r :: S, G, cn, sn) :=
  lw_st C0 hi (st := (pc + 1, lw_L v, S, G, cn, sn)) (jm_step_a2 rfl rfl rfl rfl rfl) kk
theorem lw_go {v : Int32} {off : Int} {t : Nat} (C0 : jm_C p s m args meth c D h0 ex ka Ls xs jm_ML n0) (hi : jm_in jm_ML pc = some (.goto off, 3, 0, 0, 0)) (ht : jm_tg pc off = some t) (kk : jm_W p l e room_1 s m args below meth c D h0 ex ka jm_ML n0 Q (t, lw_L v, S, G, cn, sn)) : jm_W p l e room_1 s m args below meth c D h0 ex ka jm_ML n0 Q (pc, lw_L v, S, G, cn, sn) := by
  refine lw_st C0 hi (st := (t, lw_L v, S, G, cn, sn)) (jm_step_c1 rfl rfl rfl ?_) kk
  simp only [jm_c1, ht, if_pos]
end LWS
/-- from these cells the class and the reference come to their ends, with answers that VX and VM say -/
def lw_un (Ls : Nat) (xs : Nat → Int32) (kX kM : jm_M) (As : List Value) (G : jm_h) (V : Int32 → Prop) (J1 J2 : jm_h → Prop) : Prop :=
  ∃ d1 d2 : Nat, d1 ≤ 60 ∧ d2 ≤ 60 ∧ jm_T Ls xs d1 kX (.ref 8 :: As) G 0 0 (fun v G1 => (∃ r : Int32, v = some (.int r) ∧ V r) ∧ J1 G1) ∧ ∀ G1, J1 G1 → jm_T Ls xs d2 kM (.ref 1000 :: As) G1 0 0 (fun v G2 => (∃ r : Int32, v = some (.int r) ∧ V r) ∧ J2 G2)
end
section
/-! ===== what the two keep, call by call ===== -/
noncomputable def nx (n : Nat) (F : Nat → sy_d) (as : List Int32) : Nat → sy_d := fun j => if j < n then F j else .inl (.int (as.getD (j - n) 0))
theorem nx_lt {n : Nat} {F : Nat → sy_d} {as : List Int32} : ∀ j, j < n → nx n F as j = F j := fun j h => by
  unfold nx
  rw [if_pos h]
theorem nx_at {n : Nat} {F : Nat → sy_d} {as : List Int32} (i : Nat) : nx n F as (n + i) = .inl (.int (as.getD i 0)) := by
  unfold nx
  rw [if_neg (by omega), Nat.add_sub_cancel_left]
noncomputable def hps (F : Nat → sy_d) : Nat → List iv_t → Prop
  | _, [] => True
  | k, t :: r => iv_has (F k) t ∧ hps F (k + 1) r
theorem hps_at {F : Nat → sy_d} : ∀ (P : List iv_t) (k i : Nat) (t : iv_t), hps F k P → P[i]? = some t → iv_has (F (k + i)) t
  | [], _, _, _, _, h => by simp at h
  | q :: r, k, 0, t, h, e => by
    have e : some q = some t := e
    cases e
    exact h.1
  | q :: r, k, i + 1, t, h, e => by
    have e : r[i]? = some t := e
    have := hps_at r (k + 1) i t h.2 e
    rwa [show k + 1 + i = k + (i + 1) by omega] at this
theorem iv_app {F : Nat → sy_d} {B P : List iv_t} {n : Nat} (hn : B.length = n) (hB : iv_in F B) (hP : hps F n P) : iv_in F (B ++ P) := by
  intro k t h
  by_cases q : k < n
  · rw [List.getElem?_append_left (by omega)] at h
    exact hB k t h
  · rw [List.getElem?_append_right (by omega)] at h
    have := hps_at P n (k - n) t hP (by rw [← hn]; exact h)
    rwa [show n + (k - n) = k by omega] at this
theorem iv_nx {F : Nat → sy_d} {B : List iv_t} {n : Nat} {as : List Int32} (hn : B.length = n) (hB : iv_in F B) : iv_in (nx n F as) B := iv_in_eq hB (fun j hj => nx_lt j (by omega))
theorem iv_tf (x : Int32) : iv_has (.inl (.int (if x = 0 then 0 else 1))) (0, 0, 1) := by
  by_cases h : x = 0
  · rw [if_pos h]
    exact ⟨rfl, by decide, by decide⟩
  · rw [if_neg h]
    exact ⟨rfl, by decide, by decide⟩
theorem iv_az (x : Int32) : iv_has (.inl (.int x)) iz0 := nz_hz rfl
theorem dh_x : ∀ {s : Nat} (F : Nat → sy_d) (X1 X2 : List jm_c), s < 4 → sy_dh F X1 X2 (iv_H s) = ((sy_dh F [] [] (iv_H s)).1, X2)
  | 0, _, _, _, _ => rfl
  | 1, _, _, _, _ => rfl
  | 2, _, _, _, _ => rfl
  | 3, _, _, _, _ => rfl
  | n + 4, _, _, _, h => absurd h (by omega)
theorem dh_m (F : Nat → sy_d) (X1 X2 : List jm_c) : sy_dh F X1 X2 (iv_H 4) = (X1, (sy_dh F [] [] (iv_H 4)).2) := rfl
theorem dh_nx : ∀ {s : Nat} {F F0 : Nat → sy_d}, s < 4 → (∀ j, j < 82 → F0 j = F j) → (sy_dh F [] [] (iv_H s)).1 = (sy_dh F0 [] [] (iv_H s)).1
  | 0, F, F0, _, h => by
    have g : sy_gw 82 (iv_H 0).1 = true := by decide +kernel
    simp only [sy_dh, sy_gw_ok g h]
  | 1, F, F0, _, h => by
    have g : sy_gw 82 (iv_H 1).1 = true := by decide +kernel
    simp only [sy_dh, sy_gw_ok g h]
  | 2, F, F0, _, h => by
    have g : sy_gw 82 (iv_H 2).1 = true := by decide +kernel
    simp only [sy_dh, sy_gw_ok g h]
  | 3, F, F0, _, h => by
    have g : sy_gw 82 (iv_H 3).1 = true := by decide +kernel
    simp only [sy_dh, sy_gw_ok g h]
  | n + 4, _, _, h, _ => absurd h (by omega)
/-- the class's cells keep their bounds, taped is tau; the reference's are C2 -/
noncomputable def nv1 (C2 : List jm_c) (tau : Int32) (G : jm_h) : Prop := ∃ (t : Nat) (F : Nat → sy_d), t < 4 ∧ G = ((sy_dh F [] [] (iv_H t)).1, C2) ∧ iv_in F iv_B0 ∧ jx_ok F ∧ sy_i F 0 = tau
noncomputable def nv2 (C1 : List jm_c) (tau : Int32) (G : jm_h) : Prop := ∃ F : Nat → sy_d, G = (C1, (sy_dh F [] [] (iv_H 4)).2) ∧ iv_in F iv_B4 ∧ jm_rpn F ∧ sy_i F 1 = tau
/-- both keep their bounds, and taped is alike -/
noncomputable def nv (G : jm_h) : Prop := ∃ (s : Nat) (F F2 : Nat → sy_d), s < 4 ∧ G = ((sy_dh F [] [] (iv_H s)).1, (sy_dh F2 [] [] (iv_H 4)).2) ∧ iv_in F iv_B0 ∧ jx_ok F ∧ iv_in F2 iv_B4 ∧ jm_rpn F2 ∧ sy_i F 0 = sy_i F2 1
noncomputable def xT (Ls : Nat) (xs : Nat → Int32) (M : jm_M) (As : List Value) (V : Int32 → Int32 → Prop) (f : Int32 → Int32) : Prop := ∀ (s : Nat) (F : Nat → sy_d) (X2 : List jm_c), s < 4 → iv_in F iv_B0 → jx_ok F → ∃ d, d ≤ 60 ∧ jm_T Ls xs d M (.ref 8 :: As) ((sy_dh F [] [] (iv_H s)).1, X2) 0 0 (fun v G => (∃ r : Int32, v = some (.int r) ∧ V (sy_i F 0) r) ∧ nv1 X2 (f (sy_i F 0)) G)
noncomputable def mT (Ls : Nat) (xs : Nat → Int32) (M : jm_M) (As : List Value) (V : Int32 → Int32 → Prop) (f : Int32 → Int32) : Prop := ∃ d, d ≤ 60 ∧ ∀ (F : Nat → sy_d) (X1 : List jm_c), iv_in F iv_B4 → jm_rpn F → jm_T Ls xs d M (.ref 1000 :: As) (X1, (sy_dh F [] [] (iv_H 4)).2) 0 0 (fun v G => (∃ r : Int32, v = some (.int r) ∧ V (sy_i F 1) r) ∧ nv2 X1 (f (sy_i F 1)) G)
theorem iv_ri {v : Option Value} {r : iv_t} (h : iv_ro v (some r)) (hr : r.1 = 0) : ∃ x : Int32, v = some (.int x) ∧ r.2.1 ≤ x.toInt ∧ x.toInt ≤ r.2.2 := by
  match v, h with
  | some (.int x), h => exact ⟨x, rfl, h.2.1, h.2.2⟩
  | some (.long x), h => exact absurd (h.1.symm.trans hr) (by decide)
theorem jj_x {s : Nat} {F : Nat → sy_d} (hs : s < 4) : jj s F ↔ jx_ok F := by
  unfold jj
  rw [if_neg (by omega)]
theorem ct_x {n s d : Nat} {ts Wr : List Nat} {A : List sy_v} {E : List iv_t} {r : iv_t} {M : jm_M} (as : List Int32) (h : ct_ok jj (n, A, s, ts, E, Wr, iv_B0, some r, d)) (hM : jm_TB[n]? = some M) (hs : s < 4) (hts : ∀ t ∈ ts, t < 4) (hW : Wr.contains 0 = false) (hr : r.1 = 0) (hA : ∀ F, A.map (sy_dv (nx 82 F as)) = .ref 8 :: as.map .int) (hE : ∀ F, iv_in F iv_B0 → iv_in (nx 82 F as) E) {Ls : Nat} {xs : Nat → Int32} (F : Nat → sy_d) (X2 : List jm_c) (hB : iv_in F iv_B0) (hJ : jx_ok F) :
    jm_T Ls xs d M (.ref 8 :: as.map .int) ((sy_dh F [] [] (iv_H s)).1, X2) 0 0 (fun v G => (∃ x : Int32, v = some (.int x) ∧ (r.2.1 ≤ x.toInt ∧ x.toInt ≤ r.2.2)) ∧ nv1 X2 (sy_i F 0) G) := by
  have k0 : ∀ j, j < 82 → nx 82 F as j = F j := nx_lt
  have hJ0 : jx_ok (nx 82 F as) := jx_ok_eq (k0 39 (by decide)) (k0 41 (by decide)) hJ
  rw [dh_nx hs k0, ← dh_x (nx 82 F as) [] X2 hs, ← hA F]
  refine jm_T_mono (h M hM Ls xs (nx 82 F as) [] X2 (hE F hB) ((jj_x hs).mpr hJ0)) ?_
  rintro v G ⟨t, F', ht, hG, hf, hB', hv, hj⟩
  have ht4 := hts t ht
  have f0 : F' 0 = nx 82 F as 0 := hf 0 (by
    show 0 < iv_nh s
    unfold iv_nh
    rw [if_neg (by omega)]
    decide) hW
  have e0 : sy_i F' 0 = sy_i F 0 := by
    unfold sy_i
    rw [f0, k0 0 (by decide)]
  exact ⟨iv_ri hv hr, t, F', ht4, by rw [hG, dh_x F' [] X2 ht4], hB', (jj_x ht4).mp hj, e0⟩
theorem ct_xr {n s d : Nat} {ts Wr : List Nat} {A : List sy_v} {r : iv_t} {M : jm_M} (h : ct_ok jj (n, A, s, ts, iv_B0, Wr, iv_ov iv_B0 [(0, (0, 0, 0))], some r, d)) (hM : jm_TB[n]? = some M) (hs : s < 4) (hts : ∀ t ∈ ts, t < 4) (hr : r.1 = 0) (hA : ∀ F, A.map (sy_dv F) = [.ref 8]) {Ls : Nat} {xs : Nat → Int32} (F : Nat → sy_d) (X2 : List jm_c) (hB : iv_in F iv_B0) (hJ : jx_ok F) :
    jm_T Ls xs d M [.ref 8] ((sy_dh F [] [] (iv_H s)).1, X2) 0 0 (fun v G => (∃ x : Int32, v = some (.int x) ∧ (r.2.1 ≤ x.toInt ∧ x.toInt ≤ r.2.2)) ∧ nv1 X2 0 G) := by
  rw [← dh_x F [] X2 hs, ← hA F]
  refine jm_T_mono (h M hM Ls xs F [] X2 hB ((jj_x hs).mpr hJ)) ?_
  rintro v G ⟨t, F', ht, hG, hf, hB', hv, hj⟩
  have ht4 := hts t ht
  have hB' : iv_in F' (iv_ov iv_B0 [(0, (0, 0, 0))]) := hB'
  obtain ⟨w, w1, w2, w3⟩ := iv_h0 (hB' 0 (0, 0, 0) rfl)
  have e0 : sy_i F' 0 = 0 := by
    rw [zz_i w1]
    refine Int32.toInt_inj.mp ?_
    have : (0 : Int32).toInt = 0 := by decide
    omega
  refine ⟨iv_ri hv hr, t, F', ht4, by rw [hG, dh_x F' [] X2 ht4], fun k q hq => ?_, (jj_x ht4).mp hj, e0⟩
  by_cases hk : k = 0
  · subst hk
    have hq : some (0, 0, 2000) = some q := hq
    cases hq
    exact nz_hi w1 rfl (by omega) (by omega)
  · refine hB' k q ?_
    show (iv_B0.set 0 (0, 0, 0))[k]? = some q
    rw [List.getElem?_set_ne (fun z => hk z.symm)]
    exact hq
theorem ct_mm {n d : Nat} {Wr : List Nat} {A : List sy_v} {E : List iv_t} {r : iv_t} {M : jm_M} (as : List Int32) (h : ct_ok jj (n, A, 4, [4], E, Wr, iv_B4, some r, d)) (hM : jm_TB[n]? = some M) (hW : Wr.contains 1 = false) (hr : r.1 = 0) (hA : ∀ F, A.map (sy_dv (nx 69 F as)) = .ref 1000 :: as.map .int) (hE : ∀ F, iv_in F iv_B4 → iv_in (nx 69 F as) E) {Ls : Nat} {xs : Nat → Int32} (F : Nat → sy_d) (X1 : List jm_c) (hB : iv_in F iv_B4) (hJ : jm_rpn F) :
    jm_T Ls xs d M (.ref 1000 :: as.map .int) (X1, (sy_dh F [] [] (iv_H 4)).2) 0 0 (fun v G => (∃ x : Int32, v = some (.int x) ∧ (r.2.1 ≤ x.toInt ∧ x.toInt ≤ r.2.2)) ∧ nv2 X1 (sy_i F 1) G) := by
  have k0 : ∀ j, j < 69 → nx 69 F as j = F j := nx_lt
  have hJ0 : jm_rpn (nx 69 F as) := jm_rpn_eq (fun q hq => k0 q (by revert q; decide)) hJ
  rw [← dh_m F X1 [], nz_eH X1 [] k0, ← hA F]
  refine jm_T_mono (h M hM Ls xs (nx 69 F as) X1 [] (hE F hB) hJ0) ?_
  rintro v G ⟨t, F', ht, hG, hf, hB', hv, hj⟩
  have ht : t ∈ [4] := ht
  have e : t = 4 := List.mem_singleton.mp ht
  subst e
  have f0 : F' 1 = nx 69 F as 1 := hf 1 (show 1 < iv_nh 4 by decide) hW
  have e0 : sy_i F' 1 = sy_i F 1 := by
    unfold sy_i
    rw [f0, k0 1 (by decide)]
  exact ⟨iv_ri hv hr, F', by rw [hG, dh_m F' X1 []], hB', hj, e0⟩
/-- both sides alike in taped: a turn -/
theorem lw_un_of {Ls : Nat} {xs : Nat → Int32} {kX kM : jm_M} {As : List Value} {V : Int32 → Int32 → Prop} {f : Int32 → Int32} {G : jm_h} (hx : xT Ls xs kX As V f) (hm : mT Ls xs kM As V f) (hG : nv G) : ∃ (C2 : List jm_c) (tau : Int32), G.2 = C2 ∧ (∃ F : Nat → sy_d, C2 = (sy_dh F [] [] (iv_H 4)).2) ∧ lw_un Ls xs kX kM As G (V tau) (nv1 C2 (f tau)) nv := by
  obtain ⟨s, F, F2, hs, rfl, hB, hJ, hB2, hJ2, ht⟩ := hG
  obtain ⟨d1, hd1, h1⟩ := hx s F (sy_dh F2 [] [] (iv_H 4)).2 hs hB hJ
  obtain ⟨d2, hd2, h2⟩ := hm
  refine ⟨_, sy_i F 0, rfl, ⟨F2, rfl⟩, d1, d2, hd1, hd2, h1, ?_⟩
  rintro G1 ⟨t, F', ht4, rfl, hB', hJ', e'⟩
  refine jm_T_mono (h2 F2 _ hB2 hJ2) ?_
  rintro v G2 ⟨⟨r, hr, hV⟩, F3, rfl, hB3, hJ3, e3⟩
  exact ⟨⟨r, hr, by rw [ht]; exact hV⟩, t, F', F3, ht4, rfl, hB', hJ', hB3, hJ3, by rw [e', e3, ht]⟩
theorem nv_8 : ∀ {G : jm_h}, nv G → ∃ fs, jm_g G 8 = some (.inr (9, fs)) := by
  rintro G ⟨s, F, F2, hs, rfl, -⟩
  match s, hs with
  | 0, _ => exact ⟨_, rfl⟩
  | 1, _ => exact ⟨_, rfl⟩
  | 2, _ => exact ⟨_, rfl⟩
  | 3, _ => exact ⟨_, rfl⟩
  | n + 4, h => exact absurd h (by omega)
theorem nv1_1000 {C2 : List jm_c} {tau : Int32} (h : ∃ F : Nat → sy_d, C2 = (sy_dh F [] [] (iv_H 4)).2) : ∀ G, nv1 C2 tau G → ∃ fs, jm_g G 1000 = some (.inr (10, fs)) := by
  obtain ⟨F, rfl⟩ := h
  rintro G ⟨t, F1, -, rfl, -⟩
  exact ⟨_, rfl⟩
end
