/-! ===== expressions, way by way ===== -/
theorem co_0_p0 {Ls : Nat} {xs : Nat → Int32} {d : Nat} {Q : Option Value → jm_h → Prop} (hd : 2 ≤ d) (F : Nat → sy_d) (X1 X2 : List jm_c) (hB : iv_in F iv_B4)
    (h0 : (sy_i F 16).toInt ≤ 0)
    (k : ∀ F1 : Nat → sy_d, (∀ j, j < 69 → True → F1 j = F j) → Q (none) (sy_dh F1 X1 X2 (iv_H 4))) :
    hd_W Ls xs d jm_M163 Q (0, sy_dL F [some (.inl (.ref 1000)), some (.inr (.inl 69)), none], sy_dS F [], sy_dh F X1 X2 (iv_H 4), 0, 0) := by
  refine hd_ret (s := 4) (nv := 70) (v := none) (uh := hd_ov (iv_id 0 iv_B4) []) (f := true) (sp := [0]) (d0 := 1) (O := [true]) (T := []) (P := [(4, .inr (.inl 16), .inl (.int 0))]) jm_ok163 (by decide +kernel) (by decide +kernel) hd F X1 X2 (fun F' hF hs => ?_)
  have b16 := hd_b (F := F) (F' := F') (k := 16) (hF 16 (by decide))
  have hB' : iv_in F' iv_B4 := iv_in_eq hB (fun j hj => hF j (Nat.lt_of_lt_of_le hj (by decide +kernel)))
  refine ⟨List.forall_mem_cons.mpr ⟨hd_p4 b16 rfl (by have hc : ((0) : Int32).toInt = 0 := (by decide); omega), fun _ h => absurd h List.not_mem_nil⟩, ?_⟩
  refine k _ ?_
  · exact fun j hj _ => (hd_keep hB' (Nat.lt_of_lt_of_le hj (by decide +kernel)) (by simp)).trans (hF j (by omega))
theorem co_0_p1 {Ls : Nat} {xs : Nat → Int32} {d : Nat} {Q : Option Value → jm_h → Prop} (hd : 2 ≤ d) (F : Nat → sy_d) (X1 X2 : List jm_c) (hB : iv_in F iv_B4)
    (h0 : 0 < (sy_i F 16).toInt)
    (h1 : 0 ≤ ((sy_i F 16) - ((1 : Int32))).toInt ∧ ((sy_i F 16) - ((1 : Int32))).toInt < 64)
    (h2 : ((sy_ai F 51).getD ((sy_i F 16) - ((1 : Int32))).toNatClampNeg 0).toInt = 6)
    (k : ∀ F1 : Nat → sy_d, (∀ j, j < 69 → True → F1 j = F j) → Q (none) (sy_dh F1 X1 X2 (iv_H 4))) :
    hd_W Ls xs d jm_M163 Q (0, sy_dL F [some (.inl (.ref 1000)), some (.inr (.inl 69)), none], sy_dS F [], sy_dh F X1 X2 (iv_H 4), 0, 0) := by
  refine hd_ret (s := 4) (nv := 70) (v := none) (uh := hd_ov (iv_id 0 iv_B4) []) (f := true) (sp := [0]) (d0 := 1) (O := [false, true]) (T := [(1, [.inr (.inl 16), .inl (.int 1)], []), (30, [.inr (.inl 70)], [.inr (.inl 51)])]) (P := [(5, .inr (.inl 16), .inl (.int 0)), (6, .inr (.inl 70), .inl (.ref 64)), (0, .inr (.inl 71), .inl (.int 6))]) jm_ok163 (by decide +kernel) (by decide +kernel) hd F X1 X2 (fun F' hF hs => ?_)
  have b16 := hd_b (F := F) (F' := F') (k := 16) (hF 16 (by decide))
  have t70 : sy_dv F' (.inr (.inl 70)) = .int ((sy_i F 16) - ((1 : Int32))) := hd_o (hs 0 _ rfl) b16 rfl rfl
  have a51 := hd_ba (F := F) (F' := F') (k := 51) (hF 51 (by decide))
  have t71 : sy_dv F' (.inr (.inl 71)) = .int ((sy_ai F 51).getD ((sy_i F 16) - ((1 : Int32))).toNatClampNeg 0) := hd_rd (hs 1 _ rfl) t70 a51
  have hB' : iv_in F' iv_B4 := iv_in_eq hB (fun j hj => hF j (Nat.lt_of_lt_of_le hj (by decide +kernel)))
  refine ⟨List.forall_mem_cons.mpr ⟨hd_p5 b16 rfl (by have hc : ((0) : Int32).toInt = 0 := (by decide); omega), List.forall_mem_cons.mpr ⟨hd_pb t70 (by first | exact h1 | exact h1), List.forall_mem_cons.mpr ⟨hd_p0 t71 rfl (by have hc : ((6) : Int32).toInt = 6 := (by decide); omega), fun _ h => absurd h List.not_mem_nil⟩⟩⟩, ?_⟩
  refine k _ ?_
  · exact fun j hj _ => (hd_keep hB' (Nat.lt_of_lt_of_le hj (by decide +kernel)) (by simp)).trans (hF j (by omega))
theorem co_0_p2 {Ls : Nat} {xs : Nat → Int32} {d : Nat} {Q : Option Value → jm_h → Prop} (hd : 2 ≤ d) (F : Nat → sy_d) (X1 X2 : List jm_c) (hB : iv_in F iv_B4)
    (h0 : 0 < (sy_i F 16).toInt)
    (h1 : 0 ≤ ((sy_i F 16) - ((1 : Int32))).toInt ∧ ((sy_i F 16) - ((1 : Int32))).toInt < 64)
    (h2 : ((sy_ai F 51).getD ((sy_i F 16) - ((1 : Int32))).toNatClampNeg 0).toInt ≠ 6)
    (h3 : (sy_i F 69).toInt = 0)
    (h4 : ((sy_ai F 51).getD ((sy_i F 16) - ((1 : Int32))).toNatClampNeg 0).toInt ≠ 8)
    (h5 : ((sy_ai F 51).getD ((sy_i F 16) - ((1 : Int32))).toNatClampNeg 0).toInt ≠ 9)
    (h6 : ((sy_ai F 51).getD ((sy_i F 16) - ((1 : Int32))).toNatClampNeg 0).toInt ≠ 10)
    (h7 : 0 ≤ (sy_i F 15).toInt ∧ (sy_i F 15).toInt < 840)
    (h8 : 0 ≤ (sy_i F 15).toInt ∧ (sy_i F 15).toInt < 840)
    (k : ∀ F1 : Nat → sy_d, (∀ j, j < 69 → j ≠ 15 ∧ j ≠ 16 ∧ j ≠ 49 ∧ j ≠ 50 → F1 j = F j) → F1 15 = .inl (.int ((sy_i F 15) + ((1 : Int32)))) → F1 16 = .inl (.int ((sy_i F 16) - ((1 : Int32)))) → F1 49 = .inr (.inl (jm_upd (sy_ai F 49) (sy_i F 15).toNatClampNeg ((5 : Int32)))) → F1 50 = .inr (.inl (jm_upd (sy_ai F 50) (sy_i F 15).toNatClampNeg ((0 : Int32)))) → F1 69 = .inl (.int (sy_i F 69)) → hd_W Ls xs d jm_M163 Q (0, sy_dL F1 [some (.inl (.ref 1000)), some (.inr (.inl 69)), none], sy_dS F1 [], sy_dh F1 X1 X2 (iv_H 4), 0, 0)) :
    hd_W Ls xs d jm_M163 Q (0, sy_dL F [some (.inl (.ref 1000)), some (.inr (.inl 69)), none], sy_dS F [], sy_dh F X1 X2 (iv_H 4), 0, 0) := by
  refine hd_run (s := 4) (nv := 70) (pc := 0) (L := [some (.inl (.ref 1000)), some (.inr (.inl 69)), none]) (S := []) (uh := hd_ov (iv_id 0 iv_B4) [(15, .inl (.inr (.inl 75))), (16, .inl (.inr (.inl 72))), (49, .inr (.inr (.inl 73))), (50, .inr (.inr (.inl 74)))]) (ul := [.inl (.inr (.inl 69))]) (f := true) (sp := [0]) (d0 := 1) (O := [false, false, true, true, true, true]) (T := [(1, [.inr (.inl 16), .inl (.int 1)], []), (30, [.inr (.inl 70)], [.inr (.inl 51)]), (1, [.inr (.inl 16), .inl (.int 1)], []), (40, [.inr (.inl 15), .inl (.int 5)], [.inr (.inl 49)]), (40, [.inr (.inl 15), .inl (.int 0)], [.inr (.inl 50)]), (0, [.inr (.inl 15), .inl (.int 1)], [])]) (P := [(5, .inr (.inl 16), .inl (.int 0)), (6, .inr (.inl 70), .inl (.ref 64)), (1, .inr (.inl 71), .inl (.int 6)), (0, .inr (.inl 69), .inl (.int 0)), (1, .inr (.inl 71), .inl (.int 8)), (1, .inr (.inl 71), .inl (.int 9)), (1, .inr (.inl 71), .inl (.int 10)), (6, .inr (.inl 15), .inl (.ref 840)), (6, .inr (.inl 15), .inl (.ref 840))]) jm_ok163 (by decide +kernel) (by decide +kernel) hd F X1 X2 (fun F' hF hs => ?_)
  have b16 := hd_b (F := F) (F' := F') (k := 16) (hF 16 (by decide))
  have t70 : sy_dv F' (.inr (.inl 70)) = .int ((sy_i F 16) - ((1 : Int32))) := hd_o (hs 0 _ rfl) b16 rfl rfl
  have a51 := hd_ba (F := F) (F' := F') (k := 51) (hF 51 (by decide))
  have t71 : sy_dv F' (.inr (.inl 71)) = .int ((sy_ai F 51).getD ((sy_i F 16) - ((1 : Int32))).toNatClampNeg 0) := hd_rd (hs 1 _ rfl) t70 a51
  have b69 := hd_b (F := F) (F' := F') (k := 69) (hF 69 (by decide))
  have b15 := hd_b (F := F) (F' := F') (k := 15) (hF 15 (by decide))
  have t75 : sy_dv F' (.inr (.inl 75)) = .int ((sy_i F 15) + ((1 : Int32))) := hd_o (hs 5 _ rfl) b15 rfl rfl
  have t72 : sy_dv F' (.inr (.inl 72)) = .int ((sy_i F 16) - ((1 : Int32))) := hd_o (hs 2 _ rfl) b16 rfl rfl
  have a49 := hd_ba (F := F) (F' := F') (k := 49) (hF 49 (by decide))
  have t73 : sy_da F' (.inr (.inl 73)) = .inl (jm_upd (sy_ai F 49) (sy_i F 15).toNatClampNeg ((5 : Int32))) := hd_up (hs 3 _ rfl) b15 rfl a49
  have a50 := hd_ba (F := F) (F' := F') (k := 50) (hF 50 (by decide))
  have t74 : sy_da F' (.inr (.inl 74)) = .inl (jm_upd (sy_ai F 50) (sy_i F 15).toNatClampNeg ((0 : Int32))) := hd_up (hs 4 _ rfl) b15 rfl a50
  have hB' : iv_in F' iv_B4 := iv_in_eq hB (fun j hj => hF j (Nat.lt_of_lt_of_le hj (by decide +kernel)))
  refine ⟨List.forall_mem_cons.mpr ⟨hd_p5 b16 rfl (by have hc : ((0) : Int32).toInt = 0 := (by decide); omega), List.forall_mem_cons.mpr ⟨hd_pb t70 (by first | exact h1 | exact h1), List.forall_mem_cons.mpr ⟨hd_p1 t71 rfl (by have hc : ((6) : Int32).toInt = 6 := (by decide); omega), List.forall_mem_cons.mpr ⟨hd_p0 b69 rfl (by have hc : ((0) : Int32).toInt = 0 := (by decide); omega), List.forall_mem_cons.mpr ⟨hd_p1 t71 rfl (by have hc : ((8) : Int32).toInt = 8 := (by decide); omega), List.forall_mem_cons.mpr ⟨hd_p1 t71 rfl (by have hc : ((9) : Int32).toInt = 9 := (by decide); omega), List.forall_mem_cons.mpr ⟨hd_p1 t71 rfl (by have hc : ((10) : Int32).toInt = 10 := (by decide); omega), List.forall_mem_cons.mpr ⟨hd_pb b15 (by first | exact h7 | exact h7), List.forall_mem_cons.mpr ⟨hd_pb b15 (by first | exact h8 | exact h8), fun _ h => absurd h List.not_mem_nil⟩⟩⟩⟩⟩⟩⟩⟩⟩, ?_⟩
  refine k _ ?_ ?_ ?_ ?_ ?_ ?_
  · exact fun j hj hn => (hd_keep hB' (Nat.lt_of_lt_of_le hj (by decide +kernel)) (by simp; omega)).trans (hF j (by omega))
  · exact hd_gi (x := .inr (.inl 75)) (by decide +kernel) t75
  · exact hd_gi (x := .inr (.inl 72)) (by decide +kernel) t72
  · exact hd_ga (a := .inr (.inl 73)) (by decide +kernel) t73
  · exact hd_ga (a := .inr (.inl 74)) (by decide +kernel) t74
  · exact hd_gi (x := .inr (.inl 69)) (by decide +kernel) b69
theorem co_0_p3 {Ls : Nat} {xs : Nat → Int32} {d : Nat} {Q : Option Value → jm_h → Prop} (hd : 2 ≤ d) (F : Nat → sy_d) (X1 X2 : List jm_c) (hB : iv_in F iv_B4)
    (h0 : 0 < (sy_i F 16).toInt)
    (h1 : 0 ≤ ((sy_i F 16) - ((1 : Int32))).toInt ∧ ((sy_i F 16) - ((1 : Int32))).toInt < 64)
    (h2 : ((sy_ai F 51).getD ((sy_i F 16) - ((1 : Int32))).toNatClampNeg 0).toInt ≠ 6)
    (h3 : (sy_i F 69).toInt = 0)
    (h4 : ((sy_ai F 51).getD ((sy_i F 16) - ((1 : Int32))).toNatClampNeg 0).toInt ≠ 8)
    (h5 : ((sy_ai F 51).getD ((sy_i F 16) - ((1 : Int32))).toNatClampNeg 0).toInt ≠ 9)
    (h6 : ((sy_ai F 51).getD ((sy_i F 16) - ((1 : Int32))).toNatClampNeg 0).toInt = 10)
    (h7 : 0 ≤ (sy_i F 15).toInt ∧ (sy_i F 15).toInt < 840)
    (h8 : 0 ≤ (sy_i F 15).toInt ∧ (sy_i F 15).toInt < 840)
    (k : ∀ F1 : Nat → sy_d, (∀ j, j < 69 → j ≠ 15 ∧ j ≠ 16 ∧ j ≠ 49 ∧ j ≠ 50 → F1 j = F j) → F1 15 = .inl (.int ((sy_i F 15) + ((1 : Int32)))) → F1 16 = .inl (.int ((sy_i F 16) - ((1 : Int32)))) → F1 49 = .inr (.inl (jm_upd (sy_ai F 49) (sy_i F 15).toNatClampNeg ((4 : Int32)))) → F1 50 = .inr (.inl (jm_upd (sy_ai F 50) (sy_i F 15).toNatClampNeg ((0 : Int32)))) → F1 69 = .inl (.int (sy_i F 69)) → hd_W Ls xs d jm_M163 Q (0, sy_dL F1 [some (.inl (.ref 1000)), some (.inr (.inl 69)), none], sy_dS F1 [], sy_dh F1 X1 X2 (iv_H 4), 0, 0)) :
    hd_W Ls xs d jm_M163 Q (0, sy_dL F [some (.inl (.ref 1000)), some (.inr (.inl 69)), none], sy_dS F [], sy_dh F X1 X2 (iv_H 4), 0, 0) := by
  refine hd_run (s := 4) (nv := 70) (pc := 0) (L := [some (.inl (.ref 1000)), some (.inr (.inl 69)), none]) (S := []) (uh := hd_ov (iv_id 0 iv_B4) [(15, .inl (.inr (.inl 75))), (16, .inl (.inr (.inl 72))), (49, .inr (.inr (.inl 73))), (50, .inr (.inr (.inl 74)))]) (ul := [.inl (.inr (.inl 69))]) (f := true) (sp := [0]) (d0 := 1) (O := [false, false, true, true, true, false]) (T := [(1, [.inr (.inl 16), .inl (.int 1)], []), (30, [.inr (.inl 70)], [.inr (.inl 51)]), (1, [.inr (.inl 16), .inl (.int 1)], []), (40, [.inr (.inl 15), .inl (.int 4)], [.inr (.inl 49)]), (40, [.inr (.inl 15), .inl (.int 0)], [.inr (.inl 50)]), (0, [.inr (.inl 15), .inl (.int 1)], [])]) (P := [(5, .inr (.inl 16), .inl (.int 0)), (6, .inr (.inl 70), .inl (.ref 64)), (1, .inr (.inl 71), .inl (.int 6)), (0, .inr (.inl 69), .inl (.int 0)), (1, .inr (.inl 71), .inl (.int 8)), (1, .inr (.inl 71), .inl (.int 9)), (0, .inr (.inl 71), .inl (.int 10)), (6, .inr (.inl 15), .inl (.ref 840)), (6, .inr (.inl 15), .inl (.ref 840))]) jm_ok163 (by decide +kernel) (by decide +kernel) hd F X1 X2 (fun F' hF hs => ?_)
  have b16 := hd_b (F := F) (F' := F') (k := 16) (hF 16 (by decide))
  have t70 : sy_dv F' (.inr (.inl 70)) = .int ((sy_i F 16) - ((1 : Int32))) := hd_o (hs 0 _ rfl) b16 rfl rfl
  have a51 := hd_ba (F := F) (F' := F') (k := 51) (hF 51 (by decide))
  have t71 : sy_dv F' (.inr (.inl 71)) = .int ((sy_ai F 51).getD ((sy_i F 16) - ((1 : Int32))).toNatClampNeg 0) := hd_rd (hs 1 _ rfl) t70 a51
  have b69 := hd_b (F := F) (F' := F') (k := 69) (hF 69 (by decide))
  have b15 := hd_b (F := F) (F' := F') (k := 15) (hF 15 (by decide))
  have t75 : sy_dv F' (.inr (.inl 75)) = .int ((sy_i F 15) + ((1 : Int32))) := hd_o (hs 5 _ rfl) b15 rfl rfl
  have t72 : sy_dv F' (.inr (.inl 72)) = .int ((sy_i F 16) - ((1 : Int32))) := hd_o (hs 2 _ rfl) b16 rfl rfl
  have a49 := hd_ba (F := F) (F' := F') (k := 49) (hF 49 (by decide))
  have t73 : sy_da F' (.inr (.inl 73)) = .inl (jm_upd (sy_ai F 49) (sy_i F 15).toNatClampNeg ((4 : Int32))) := hd_up (hs 3 _ rfl) b15 rfl a49
  have a50 := hd_ba (F := F) (F' := F') (k := 50) (hF 50 (by decide))
  have t74 : sy_da F' (.inr (.inl 74)) = .inl (jm_upd (sy_ai F 50) (sy_i F 15).toNatClampNeg ((0 : Int32))) := hd_up (hs 4 _ rfl) b15 rfl a50
  have hB' : iv_in F' iv_B4 := iv_in_eq hB (fun j hj => hF j (Nat.lt_of_lt_of_le hj (by decide +kernel)))
  refine ⟨List.forall_mem_cons.mpr ⟨hd_p5 b16 rfl (by have hc : ((0) : Int32).toInt = 0 := (by decide); omega), List.forall_mem_cons.mpr ⟨hd_pb t70 (by first | exact h1 | exact h1), List.forall_mem_cons.mpr ⟨hd_p1 t71 rfl (by have hc : ((6) : Int32).toInt = 6 := (by decide); omega), List.forall_mem_cons.mpr ⟨hd_p0 b69 rfl (by have hc : ((0) : Int32).toInt = 0 := (by decide); omega), List.forall_mem_cons.mpr ⟨hd_p1 t71 rfl (by have hc : ((8) : Int32).toInt = 8 := (by decide); omega), List.forall_mem_cons.mpr ⟨hd_p1 t71 rfl (by have hc : ((9) : Int32).toInt = 9 := (by decide); omega), List.forall_mem_cons.mpr ⟨hd_p0 t71 rfl (by have hc : ((10) : Int32).toInt = 10 := (by decide); omega), List.forall_mem_cons.mpr ⟨hd_pb b15 (by first | exact h7 | exact h7), List.forall_mem_cons.mpr ⟨hd_pb b15 (by first | exact h8 | exact h8), fun _ h => absurd h List.not_mem_nil⟩⟩⟩⟩⟩⟩⟩⟩⟩, ?_⟩
  refine k _ ?_ ?_ ?_ ?_ ?_ ?_
  · exact fun j hj hn => (hd_keep hB' (Nat.lt_of_lt_of_le hj (by decide +kernel)) (by simp; omega)).trans (hF j (by omega))
  · exact hd_gi (x := .inr (.inl 75)) (by decide +kernel) t75
  · exact hd_gi (x := .inr (.inl 72)) (by decide +kernel) t72
  · exact hd_ga (a := .inr (.inl 73)) (by decide +kernel) t73
  · exact hd_ga (a := .inr (.inl 74)) (by decide +kernel) t74
  · exact hd_gi (x := .inr (.inl 69)) (by decide +kernel) b69
theorem co_0_p4 {Ls : Nat} {xs : Nat → Int32} {d : Nat} {Q : Option Value → jm_h → Prop} (hd : 2 ≤ d) (F : Nat → sy_d) (X1 X2 : List jm_c) (hB : iv_in F iv_B4)
    (h0 : 0 < (sy_i F 16).toInt)
    (h1 : 0 ≤ ((sy_i F 16) - ((1 : Int32))).toInt ∧ ((sy_i F 16) - ((1 : Int32))).toInt < 64)
    (h2 : ((sy_ai F 51).getD ((sy_i F 16) - ((1 : Int32))).toNatClampNeg 0).toInt ≠ 6)
    (h3 : (sy_i F 69).toInt = 0)
    (h4 : ((sy_ai F 51).getD ((sy_i F 16) - ((1 : Int32))).toNatClampNeg 0).toInt ≠ 8)
    (h5 : ((sy_ai F 51).getD ((sy_i F 16) - ((1 : Int32))).toNatClampNeg 0).toInt = 9)
    (h6 : 0 ≤ (sy_i F 15).toInt ∧ (sy_i F 15).toInt < 840)
    (h7 : 0 ≤ (sy_i F 15).toInt ∧ (sy_i F 15).toInt < 840)
    (k : ∀ F1 : Nat → sy_d, (∀ j, j < 69 → j ≠ 15 ∧ j ≠ 16 ∧ j ≠ 49 ∧ j ≠ 50 → F1 j = F j) → F1 15 = .inl (.int ((sy_i F 15) + ((1 : Int32)))) → F1 16 = .inl (.int ((sy_i F 16) - ((1 : Int32)))) → F1 49 = .inr (.inl (jm_upd (sy_ai F 49) (sy_i F 15).toNatClampNeg ((3 : Int32)))) → F1 50 = .inr (.inl (jm_upd (sy_ai F 50) (sy_i F 15).toNatClampNeg ((0 : Int32)))) → F1 69 = .inl (.int (sy_i F 69)) → hd_W Ls xs d jm_M163 Q (0, sy_dL F1 [some (.inl (.ref 1000)), some (.inr (.inl 69)), none], sy_dS F1 [], sy_dh F1 X1 X2 (iv_H 4), 0, 0)) :
    hd_W Ls xs d jm_M163 Q (0, sy_dL F [some (.inl (.ref 1000)), some (.inr (.inl 69)), none], sy_dS F [], sy_dh F X1 X2 (iv_H 4), 0, 0) := by
  refine hd_run (s := 4) (nv := 70) (pc := 0) (L := [some (.inl (.ref 1000)), some (.inr (.inl 69)), none]) (S := []) (uh := hd_ov (iv_id 0 iv_B4) [(15, .inl (.inr (.inl 75))), (16, .inl (.inr (.inl 72))), (49, .inr (.inr (.inl 73))), (50, .inr (.inr (.inl 74)))]) (ul := [.inl (.inr (.inl 69))]) (f := true) (sp := [0]) (d0 := 1) (O := [false, false, true, true, false]) (T := [(1, [.inr (.inl 16), .inl (.int 1)], []), (30, [.inr (.inl 70)], [.inr (.inl 51)]), (1, [.inr (.inl 16), .inl (.int 1)], []), (40, [.inr (.inl 15), .inl (.int 3)], [.inr (.inl 49)]), (40, [.inr (.inl 15), .inl (.int 0)], [.inr (.inl 50)]), (0, [.inr (.inl 15), .inl (.int 1)], [])]) (P := [(5, .inr (.inl 16), .inl (.int 0)), (6, .inr (.inl 70), .inl (.ref 64)), (1, .inr (.inl 71), .inl (.int 6)), (0, .inr (.inl 69), .inl (.int 0)), (1, .inr (.inl 71), .inl (.int 8)), (0, .inr (.inl 71), .inl (.int 9)), (6, .inr (.inl 15), .inl (.ref 840)), (6, .inr (.inl 15), .inl (.ref 840))]) jm_ok163 (by decide +kernel) (by decide +kernel) hd F X1 X2 (fun F' hF hs => ?_)
  have b16 := hd_b (F := F) (F' := F') (k := 16) (hF 16 (by decide))
  have t70 : sy_dv F' (.inr (.inl 70)) = .int ((sy_i F 16) - ((1 : Int32))) := hd_o (hs 0 _ rfl) b16 rfl rfl
  have a51 := hd_ba (F := F) (F' := F') (k := 51) (hF 51 (by decide))
  have t71 : sy_dv F' (.inr (.inl 71)) = .int ((sy_ai F 51).getD ((sy_i F 16) - ((1 : Int32))).toNatClampNeg 0) := hd_rd (hs 1 _ rfl) t70 a51
  have b69 := hd_b (F := F) (F' := F') (k := 69) (hF 69 (by decide))
  have b15 := hd_b (F := F) (F' := F') (k := 15) (hF 15 (by decide))
  have t75 : sy_dv F' (.inr (.inl 75)) = .int ((sy_i F 15) + ((1 : Int32))) := hd_o (hs 5 _ rfl) b15 rfl rfl
  have t72 : sy_dv F' (.inr (.inl 72)) = .int ((sy_i F 16) - ((1 : Int32))) := hd_o (hs 2 _ rfl) b16 rfl rfl
  have a49 := hd_ba (F := F) (F' := F') (k := 49) (hF 49 (by decide))
  have t73 : sy_da F' (.inr (.inl 73)) = .inl (jm_upd (sy_ai F 49) (sy_i F 15).toNatClampNeg ((3 : Int32))) := hd_up (hs 3 _ rfl) b15 rfl a49
  have a50 := hd_ba (F := F) (F' := F') (k := 50) (hF 50 (by decide))
  have t74 : sy_da F' (.inr (.inl 74)) = .inl (jm_upd (sy_ai F 50) (sy_i F 15).toNatClampNeg ((0 : Int32))) := hd_up (hs 4 _ rfl) b15 rfl a50
  have hB' : iv_in F' iv_B4 := iv_in_eq hB (fun j hj => hF j (Nat.lt_of_lt_of_le hj (by decide +kernel)))
  refine ⟨List.forall_mem_cons.mpr ⟨hd_p5 b16 rfl (by have hc : ((0) : Int32).toInt = 0 := (by decide); omega), List.forall_mem_cons.mpr ⟨hd_pb t70 (by first | exact h1 | exact h1), List.forall_mem_cons.mpr ⟨hd_p1 t71 rfl (by have hc : ((6) : Int32).toInt = 6 := (by decide); omega), List.forall_mem_cons.mpr ⟨hd_p0 b69 rfl (by have hc : ((0) : Int32).toInt = 0 := (by decide); omega), List.forall_mem_cons.mpr ⟨hd_p1 t71 rfl (by have hc : ((8) : Int32).toInt = 8 := (by decide); omega), List.forall_mem_cons.mpr ⟨hd_p0 t71 rfl (by have hc : ((9) : Int32).toInt = 9 := (by decide); omega), List.forall_mem_cons.mpr ⟨hd_pb b15 (by first | exact h6 | exact h6), List.forall_mem_cons.mpr ⟨hd_pb b15 (by first | exact h7 | exact h7), fun _ h => absurd h List.not_mem_nil⟩⟩⟩⟩⟩⟩⟩⟩, ?_⟩
  refine k _ ?_ ?_ ?_ ?_ ?_ ?_
  · exact fun j hj hn => (hd_keep hB' (Nat.lt_of_lt_of_le hj (by decide +kernel)) (by simp; omega)).trans (hF j (by omega))
  · exact hd_gi (x := .inr (.inl 75)) (by decide +kernel) t75
  · exact hd_gi (x := .inr (.inl 72)) (by decide +kernel) t72
  · exact hd_ga (a := .inr (.inl 73)) (by decide +kernel) t73
  · exact hd_ga (a := .inr (.inl 74)) (by decide +kernel) t74
  · exact hd_gi (x := .inr (.inl 69)) (by decide +kernel) b69
theorem co_0_p5 {Ls : Nat} {xs : Nat → Int32} {d : Nat} {Q : Option Value → jm_h → Prop} (hd : 2 ≤ d) (F : Nat → sy_d) (X1 X2 : List jm_c) (hB : iv_in F iv_B4)
    (h0 : 0 < (sy_i F 16).toInt)
    (h1 : 0 ≤ ((sy_i F 16) - ((1 : Int32))).toInt ∧ ((sy_i F 16) - ((1 : Int32))).toInt < 64)
    (h2 : ((sy_ai F 51).getD ((sy_i F 16) - ((1 : Int32))).toNatClampNeg 0).toInt ≠ 6)
    (h3 : (sy_i F 69).toInt = 0)
    (h4 : ((sy_ai F 51).getD ((sy_i F 16) - ((1 : Int32))).toNatClampNeg 0).toInt = 8)
    (h5 : 0 ≤ (sy_i F 15).toInt ∧ (sy_i F 15).toInt < 840)
    (h6 : 0 ≤ (sy_i F 15).toInt ∧ (sy_i F 15).toInt < 840)
    (k : ∀ F1 : Nat → sy_d, (∀ j, j < 69 → j ≠ 15 ∧ j ≠ 16 ∧ j ≠ 49 ∧ j ≠ 50 → F1 j = F j) → F1 15 = .inl (.int ((sy_i F 15) + ((1 : Int32)))) → F1 16 = .inl (.int ((sy_i F 16) - ((1 : Int32)))) → F1 49 = .inr (.inl (jm_upd (sy_ai F 49) (sy_i F 15).toNatClampNeg ((2 : Int32)))) → F1 50 = .inr (.inl (jm_upd (sy_ai F 50) (sy_i F 15).toNatClampNeg ((0 : Int32)))) → F1 69 = .inl (.int (sy_i F 69)) → hd_W Ls xs d jm_M163 Q (0, sy_dL F1 [some (.inl (.ref 1000)), some (.inr (.inl 69)), none], sy_dS F1 [], sy_dh F1 X1 X2 (iv_H 4), 0, 0)) :
    hd_W Ls xs d jm_M163 Q (0, sy_dL F [some (.inl (.ref 1000)), some (.inr (.inl 69)), none], sy_dS F [], sy_dh F X1 X2 (iv_H 4), 0, 0) := by
  refine hd_run (s := 4) (nv := 70) (pc := 0) (L := [some (.inl (.ref 1000)), some (.inr (.inl 69)), none]) (S := []) (uh := hd_ov (iv_id 0 iv_B4) [(15, .inl (.inr (.inl 75))), (16, .inl (.inr (.inl 72))), (49, .inr (.inr (.inl 73))), (50, .inr (.inr (.inl 74)))]) (ul := [.inl (.inr (.inl 69))]) (f := true) (sp := [0]) (d0 := 1) (O := [false, false, true, false]) (T := [(1, [.inr (.inl 16), .inl (.int 1)], []), (30, [.inr (.inl 70)], [.inr (.inl 51)]), (1, [.inr (.inl 16), .inl (.int 1)], []), (40, [.inr (.inl 15), .inl (.int 2)], [.inr (.inl 49)]), (40, [.inr (.inl 15), .inl (.int 0)], [.inr (.inl 50)]), (0, [.inr (.inl 15), .inl (.int 1)], [])]) (P := [(5, .inr (.inl 16), .inl (.int 0)), (6, .inr (.inl 70), .inl (.ref 64)), (1, .inr (.inl 71), .inl (.int 6)), (0, .inr (.inl 69), .inl (.int 0)), (0, .inr (.inl 71), .inl (.int 8)), (6, .inr (.inl 15), .inl (.ref 840)), (6, .inr (.inl 15), .inl (.ref 840))]) jm_ok163 (by decide +kernel) (by decide +kernel) hd F X1 X2 (fun F' hF hs => ?_)
  have b16 := hd_b (F := F) (F' := F') (k := 16) (hF 16 (by decide))
  have t70 : sy_dv F' (.inr (.inl 70)) = .int ((sy_i F 16) - ((1 : Int32))) := hd_o (hs 0 _ rfl) b16 rfl rfl
  have a51 := hd_ba (F := F) (F' := F') (k := 51) (hF 51 (by decide))
  have t71 : sy_dv F' (.inr (.inl 71)) = .int ((sy_ai F 51).getD ((sy_i F 16) - ((1 : Int32))).toNatClampNeg 0) := hd_rd (hs 1 _ rfl) t70 a51
  have b69 := hd_b (F := F) (F' := F') (k := 69) (hF 69 (by decide))
  have b15 := hd_b (F := F) (F' := F') (k := 15) (hF 15 (by decide))
  have t75 : sy_dv F' (.inr (.inl 75)) = .int ((sy_i F 15) + ((1 : Int32))) := hd_o (hs 5 _ rfl) b15 rfl rfl
  have t72 : sy_dv F' (.inr (.inl 72)) = .int ((sy_i F 16) - ((1 : Int32))) := hd_o (hs 2 _ rfl) b16 rfl rfl
  have a49 := hd_ba (F := F) (F' := F') (k := 49) (hF 49 (by decide))
  have t73 : sy_da F' (.inr (.inl 73)) = .inl (jm_upd (sy_ai F 49) (sy_i F 15).toNatClampNeg ((2 : Int32))) := hd_up (hs 3 _ rfl) b15 rfl a49
  have a50 := hd_ba (F := F) (F' := F') (k := 50) (hF 50 (by decide))
  have t74 : sy_da F' (.inr (.inl 74)) = .inl (jm_upd (sy_ai F 50) (sy_i F 15).toNatClampNeg ((0 : Int32))) := hd_up (hs 4 _ rfl) b15 rfl a50
  have hB' : iv_in F' iv_B4 := iv_in_eq hB (fun j hj => hF j (Nat.lt_of_lt_of_le hj (by decide +kernel)))
  refine ⟨List.forall_mem_cons.mpr ⟨hd_p5 b16 rfl (by have hc : ((0) : Int32).toInt = 0 := (by decide); omega), List.forall_mem_cons.mpr ⟨hd_pb t70 (by first | exact h1 | exact h1), List.forall_mem_cons.mpr ⟨hd_p1 t71 rfl (by have hc : ((6) : Int32).toInt = 6 := (by decide); omega), List.forall_mem_cons.mpr ⟨hd_p0 b69 rfl (by have hc : ((0) : Int32).toInt = 0 := (by decide); omega), List.forall_mem_cons.mpr ⟨hd_p0 t71 rfl (by have hc : ((8) : Int32).toInt = 8 := (by decide); omega), List.forall_mem_cons.mpr ⟨hd_pb b15 (by first | exact h5 | exact h5), List.forall_mem_cons.mpr ⟨hd_pb b15 (by first | exact h6 | exact h6), fun _ h => absurd h List.not_mem_nil⟩⟩⟩⟩⟩⟩⟩, ?_⟩
  refine k _ ?_ ?_ ?_ ?_ ?_ ?_
  · exact fun j hj hn => (hd_keep hB' (Nat.lt_of_lt_of_le hj (by decide +kernel)) (by simp; omega)).trans (hF j (by omega))
  · exact hd_gi (x := .inr (.inl 75)) (by decide +kernel) t75
  · exact hd_gi (x := .inr (.inl 72)) (by decide +kernel) t72
  · exact hd_ga (a := .inr (.inl 73)) (by decide +kernel) t73
  · exact hd_ga (a := .inr (.inl 74)) (by decide +kernel) t74
  · exact hd_gi (x := .inr (.inl 69)) (by decide +kernel) b69
theorem co_0_p6 {Ls : Nat} {xs : Nat → Int32} {d : Nat} {Q : Option Value → jm_h → Prop} (hd : 2 ≤ d) (F : Nat → sy_d) (X1 X2 : List jm_c) (hB : iv_in F iv_B4)
    (h0 : 0 < (sy_i F 16).toInt)
    (h1 : 0 ≤ ((sy_i F 16) - ((1 : Int32))).toInt ∧ ((sy_i F 16) - ((1 : Int32))).toInt < 64)
    (h2 : ((sy_ai F 51).getD ((sy_i F 16) - ((1 : Int32))).toNatClampNeg 0).toInt ≠ 6)
    (h3 : (sy_i F 69).toInt ≠ 0)
    (h4 : ((sy_ai F 51).getD ((sy_i F 16) - ((1 : Int32))).toNatClampNeg 0).toInt = 8)
    (k : ∀ F1 : Nat → sy_d, (∀ j, j < 69 → True → F1 j = F j) → Q (none) (sy_dh F1 X1 X2 (iv_H 4))) :
    hd_W Ls xs d jm_M163 Q (0, sy_dL F [some (.inl (.ref 1000)), some (.inr (.inl 69)), none], sy_dS F [], sy_dh F X1 X2 (iv_H 4), 0, 0) := by
  refine hd_ret (s := 4) (nv := 70) (v := none) (uh := hd_ov (iv_id 0 iv_B4) []) (f := true) (sp := [0]) (d0 := 1) (O := [false, false, false, true]) (T := [(1, [.inr (.inl 16), .inl (.int 1)], []), (30, [.inr (.inl 70)], [.inr (.inl 51)])]) (P := [(5, .inr (.inl 16), .inl (.int 0)), (6, .inr (.inl 70), .inl (.ref 64)), (1, .inr (.inl 71), .inl (.int 6)), (1, .inr (.inl 69), .inl (.int 0)), (0, .inr (.inl 71), .inl (.int 8))]) jm_ok163 (by decide +kernel) (by decide +kernel) hd F X1 X2 (fun F' hF hs => ?_)
  have b16 := hd_b (F := F) (F' := F') (k := 16) (hF 16 (by decide))
  have t70 : sy_dv F' (.inr (.inl 70)) = .int ((sy_i F 16) - ((1 : Int32))) := hd_o (hs 0 _ rfl) b16 rfl rfl
  have a51 := hd_ba (F := F) (F' := F') (k := 51) (hF 51 (by decide))
  have t71 : sy_dv F' (.inr (.inl 71)) = .int ((sy_ai F 51).getD ((sy_i F 16) - ((1 : Int32))).toNatClampNeg 0) := hd_rd (hs 1 _ rfl) t70 a51
  have b69 := hd_b (F := F) (F' := F') (k := 69) (hF 69 (by decide))
  have hB' : iv_in F' iv_B4 := iv_in_eq hB (fun j hj => hF j (Nat.lt_of_lt_of_le hj (by decide +kernel)))
  refine ⟨List.forall_mem_cons.mpr ⟨hd_p5 b16 rfl (by have hc : ((0) : Int32).toInt = 0 := (by decide); omega), List.forall_mem_cons.mpr ⟨hd_pb t70 (by first | exact h1 | exact h1), List.forall_mem_cons.mpr ⟨hd_p1 t71 rfl (by have hc : ((6) : Int32).toInt = 6 := (by decide); omega), List.forall_mem_cons.mpr ⟨hd_p1 b69 rfl (by have hc : ((0) : Int32).toInt = 0 := (by decide); omega), List.forall_mem_cons.mpr ⟨hd_p0 t71 rfl (by have hc : ((8) : Int32).toInt = 8 := (by decide); omega), fun _ h => absurd h List.not_mem_nil⟩⟩⟩⟩⟩, ?_⟩
  refine k _ ?_
  · exact fun j hj _ => (hd_keep hB' (Nat.lt_of_lt_of_le hj (by decide +kernel)) (by simp)).trans (hF j (by omega))
theorem co_0_p7 {Ls : Nat} {xs : Nat → Int32} {d : Nat} {Q : Option Value → jm_h → Prop} (hd : 2 ≤ d) (F : Nat → sy_d) (X1 X2 : List jm_c) (hB : iv_in F iv_B4)
    (h0 : 0 < (sy_i F 16).toInt)
    (h1 : 0 ≤ ((sy_i F 16) - ((1 : Int32))).toInt ∧ ((sy_i F 16) - ((1 : Int32))).toInt < 64)
    (h2 : ((sy_ai F 51).getD ((sy_i F 16) - ((1 : Int32))).toNatClampNeg 0).toInt ≠ 6)
    (h3 : (sy_i F 69).toInt ≠ 0)
    (h4 : ((sy_ai F 51).getD ((sy_i F 16) - ((1 : Int32))).toNatClampNeg 0).toInt ≠ 8)
    (h5 : ((sy_ai F 51).getD ((sy_i F 16) - ((1 : Int32))).toNatClampNeg 0).toInt ≠ 9)
    (h6 : ((sy_ai F 51).getD ((sy_i F 16) - ((1 : Int32))).toNatClampNeg 0).toInt ≠ 8)
    (h7 : ((sy_ai F 51).getD ((sy_i F 16) - ((1 : Int32))).toNatClampNeg 0).toInt ≠ 9)
    (h8 : ((sy_ai F 51).getD ((sy_i F 16) - ((1 : Int32))).toNatClampNeg 0).toInt ≠ 10)
    (h9 : 0 ≤ (sy_i F 15).toInt ∧ (sy_i F 15).toInt < 840)
    (h10 : 0 ≤ (sy_i F 15).toInt ∧ (sy_i F 15).toInt < 840)
    (k : ∀ F1 : Nat → sy_d, (∀ j, j < 69 → j ≠ 15 ∧ j ≠ 16 ∧ j ≠ 49 ∧ j ≠ 50 → F1 j = F j) → F1 15 = .inl (.int ((sy_i F 15) + ((1 : Int32)))) → F1 16 = .inl (.int ((sy_i F 16) - ((1 : Int32)))) → F1 49 = .inr (.inl (jm_upd (sy_ai F 49) (sy_i F 15).toNatClampNeg ((5 : Int32)))) → F1 50 = .inr (.inl (jm_upd (sy_ai F 50) (sy_i F 15).toNatClampNeg ((0 : Int32)))) → F1 69 = .inl (.int (sy_i F 69)) → hd_W Ls xs d jm_M163 Q (0, sy_dL F1 [some (.inl (.ref 1000)), some (.inr (.inl 69)), none], sy_dS F1 [], sy_dh F1 X1 X2 (iv_H 4), 0, 0)) :
    hd_W Ls xs d jm_M163 Q (0, sy_dL F [some (.inl (.ref 1000)), some (.inr (.inl 69)), none], sy_dS F [], sy_dh F X1 X2 (iv_H 4), 0, 0) := by
  refine hd_run (s := 4) (nv := 70) (pc := 0) (L := [some (.inl (.ref 1000)), some (.inr (.inl 69)), none]) (S := []) (uh := hd_ov (iv_id 0 iv_B4) [(15, .inl (.inr (.inl 75))), (16, .inl (.inr (.inl 72))), (49, .inr (.inr (.inl 73))), (50, .inr (.inr (.inl 74)))]) (ul := [.inl (.inr (.inl 69))]) (f := true) (sp := [0]) (d0 := 1) (O := [false, false, false, false, true, true, true, true]) (T := [(1, [.inr (.inl 16), .inl (.int 1)], []), (30, [.inr (.inl 70)], [.inr (.inl 51)]), (1, [.inr (.inl 16), .inl (.int 1)], []), (40, [.inr (.inl 15), .inl (.int 5)], [.inr (.inl 49)]), (40, [.inr (.inl 15), .inl (.int 0)], [.inr (.inl 50)]), (0, [.inr (.inl 15), .inl (.int 1)], [])]) (P := [(5, .inr (.inl 16), .inl (.int 0)), (6, .inr (.inl 70), .inl (.ref 64)), (1, .inr (.inl 71), .inl (.int 6)), (1, .inr (.inl 69), .inl (.int 0)), (1, .inr (.inl 71), .inl (.int 8)), (1, .inr (.inl 71), .inl (.int 9)), (1, .inr (.inl 71), .inl (.int 8)), (1, .inr (.inl 71), .inl (.int 9)), (1, .inr (.inl 71), .inl (.int 10)), (6, .inr (.inl 15), .inl (.ref 840)), (6, .inr (.inl 15), .inl (.ref 840))]) jm_ok163 (by decide +kernel) (by decide +kernel) hd F X1 X2 (fun F' hF hs => ?_)
  have b16 := hd_b (F := F) (F' := F') (k := 16) (hF 16 (by decide))
  have t70 : sy_dv F' (.inr (.inl 70)) = .int ((sy_i F 16) - ((1 : Int32))) := hd_o (hs 0 _ rfl) b16 rfl rfl
  have a51 := hd_ba (F := F) (F' := F') (k := 51) (hF 51 (by decide))
  have t71 : sy_dv F' (.inr (.inl 71)) = .int ((sy_ai F 51).getD ((sy_i F 16) - ((1 : Int32))).toNatClampNeg 0) := hd_rd (hs 1 _ rfl) t70 a51
  have b69 := hd_b (F := F) (F' := F') (k := 69) (hF 69 (by decide))
  have b15 := hd_b (F := F) (F' := F') (k := 15) (hF 15 (by decide))
  have t75 : sy_dv F' (.inr (.inl 75)) = .int ((sy_i F 15) + ((1 : Int32))) := hd_o (hs 5 _ rfl) b15 rfl rfl
  have t72 : sy_dv F' (.inr (.inl 72)) = .int ((sy_i F 16) - ((1 : Int32))) := hd_o (hs 2 _ rfl) b16 rfl rfl
  have a49 := hd_ba (F := F) (F' := F') (k := 49) (hF 49 (by decide))
  have t73 : sy_da F' (.inr (.inl 73)) = .inl (jm_upd (sy_ai F 49) (sy_i F 15).toNatClampNeg ((5 : Int32))) := hd_up (hs 3 _ rfl) b15 rfl a49
  have a50 := hd_ba (F := F) (F' := F') (k := 50) (hF 50 (by decide))
  have t74 : sy_da F' (.inr (.inl 74)) = .inl (jm_upd (sy_ai F 50) (sy_i F 15).toNatClampNeg ((0 : Int32))) := hd_up (hs 4 _ rfl) b15 rfl a50
  have hB' : iv_in F' iv_B4 := iv_in_eq hB (fun j hj => hF j (Nat.lt_of_lt_of_le hj (by decide +kernel)))
  refine ⟨List.forall_mem_cons.mpr ⟨hd_p5 b16 rfl (by have hc : ((0) : Int32).toInt = 0 := (by decide); omega), List.forall_mem_cons.mpr ⟨hd_pb t70 (by first | exact h1 | exact h1), List.forall_mem_cons.mpr ⟨hd_p1 t71 rfl (by have hc : ((6) : Int32).toInt = 6 := (by decide); omega), List.forall_mem_cons.mpr ⟨hd_p1 b69 rfl (by have hc : ((0) : Int32).toInt = 0 := (by decide); omega), List.forall_mem_cons.mpr ⟨hd_p1 t71 rfl (by have hc : ((8) : Int32).toInt = 8 := (by decide); omega), List.forall_mem_cons.mpr ⟨hd_p1 t71 rfl (by have hc : ((9) : Int32).toInt = 9 := (by decide); omega), List.forall_mem_cons.mpr ⟨hd_p1 t71 rfl (by have hc : ((8) : Int32).toInt = 8 := (by decide); omega), List.forall_mem_cons.mpr ⟨hd_p1 t71 rfl (by have hc : ((9) : Int32).toInt = 9 := (by decide); omega), List.forall_mem_cons.mpr ⟨hd_p1 t71 rfl (by have hc : ((10) : Int32).toInt = 10 := (by decide); omega), List.forall_mem_cons.mpr ⟨hd_pb b15 (by first | exact h9 | exact h9), List.forall_mem_cons.mpr ⟨hd_pb b15 (by first | exact h10 | exact h10), fun _ h => absurd h List.not_mem_nil⟩⟩⟩⟩⟩⟩⟩⟩⟩⟩⟩, ?_⟩
  refine k _ ?_ ?_ ?_ ?_ ?_ ?_
  · exact fun j hj hn => (hd_keep hB' (Nat.lt_of_lt_of_le hj (by decide +kernel)) (by simp; omega)).trans (hF j (by omega))
  · exact hd_gi (x := .inr (.inl 75)) (by decide +kernel) t75
  · exact hd_gi (x := .inr (.inl 72)) (by decide +kernel) t72
  · exact hd_ga (a := .inr (.inl 73)) (by decide +kernel) t73
  · exact hd_ga (a := .inr (.inl 74)) (by decide +kernel) t74
  · exact hd_gi (x := .inr (.inl 69)) (by decide +kernel) b69
theorem co_0_p8 {Ls : Nat} {xs : Nat → Int32} {d : Nat} {Q : Option Value → jm_h → Prop} (hd : 2 ≤ d) (F : Nat → sy_d) (X1 X2 : List jm_c) (hB : iv_in F iv_B4)
    (h0 : 0 < (sy_i F 16).toInt)
    (h1 : 0 ≤ ((sy_i F 16) - ((1 : Int32))).toInt ∧ ((sy_i F 16) - ((1 : Int32))).toInt < 64)
    (h2 : ((sy_ai F 51).getD ((sy_i F 16) - ((1 : Int32))).toNatClampNeg 0).toInt ≠ 6)
    (h3 : (sy_i F 69).toInt ≠ 0)
    (h4 : ((sy_ai F 51).getD ((sy_i F 16) - ((1 : Int32))).toNatClampNeg 0).toInt ≠ 8)
    (h5 : ((sy_ai F 51).getD ((sy_i F 16) - ((1 : Int32))).toNatClampNeg 0).toInt ≠ 9)
    (h6 : ((sy_ai F 51).getD ((sy_i F 16) - ((1 : Int32))).toNatClampNeg 0).toInt ≠ 8)
    (h7 : ((sy_ai F 51).getD ((sy_i F 16) - ((1 : Int32))).toNatClampNeg 0).toInt ≠ 9)
    (h8 : ((sy_ai F 51).getD ((sy_i F 16) - ((1 : Int32))).toNatClampNeg 0).toInt = 10)
    (h9 : 0 ≤ (sy_i F 15).toInt ∧ (sy_i F 15).toInt < 840)
    (h10 : 0 ≤ (sy_i F 15).toInt ∧ (sy_i F 15).toInt < 840)
    (k : ∀ F1 : Nat → sy_d, (∀ j, j < 69 → j ≠ 15 ∧ j ≠ 16 ∧ j ≠ 49 ∧ j ≠ 50 → F1 j = F j) → F1 15 = .inl (.int ((sy_i F 15) + ((1 : Int32)))) → F1 16 = .inl (.int ((sy_i F 16) - ((1 : Int32)))) → F1 49 = .inr (.inl (jm_upd (sy_ai F 49) (sy_i F 15).toNatClampNeg ((4 : Int32)))) → F1 50 = .inr (.inl (jm_upd (sy_ai F 50) (sy_i F 15).toNatClampNeg ((0 : Int32)))) → F1 69 = .inl (.int (sy_i F 69)) → hd_W Ls xs d jm_M163 Q (0, sy_dL F1 [some (.inl (.ref 1000)), some (.inr (.inl 69)), none], sy_dS F1 [], sy_dh F1 X1 X2 (iv_H 4), 0, 0)) :
    hd_W Ls xs d jm_M163 Q (0, sy_dL F [some (.inl (.ref 1000)), some (.inr (.inl 69)), none], sy_dS F [], sy_dh F X1 X2 (iv_H 4), 0, 0) := by
  refine hd_run (s := 4) (nv := 70) (pc := 0) (L := [some (.inl (.ref 1000)), some (.inr (.inl 69)), none]) (S := []) (uh := hd_ov (iv_id 0 iv_B4) [(15, .inl (.inr (.inl 75))), (16, .inl (.inr (.inl 72))), (49, .inr (.inr (.inl 73))), (50, .inr (.inr (.inl 74)))]) (ul := [.inl (.inr (.inl 69))]) (f := true) (sp := [0]) (d0 := 1) (O := [false, false, false, false, true, true, true, false]) (T := [(1, [.inr (.inl 16), .inl (.int 1)], []), (30, [.inr (.inl 70)], [.inr (.inl 51)]), (1, [.inr (.inl 16), .inl (.int 1)], []), (40, [.inr (.inl 15), .inl (.int 4)], [.inr (.inl 49)]), (40, [.inr (.inl 15), .inl (.int 0)], [.inr (.inl 50)]), (0, [.inr (.inl 15), .inl (.int 1)], [])]) (P := [(5, .inr (.inl 16), .inl (.int 0)), (6, .inr (.inl 70), .inl (.ref 64)), (1, .inr (.inl 71), .inl (.int 6)), (1, .inr (.inl 69), .inl (.int 0)), (1, .inr (.inl 71), .inl (.int 8)), (1, .inr (.inl 71), .inl (.int 9)), (1, .inr (.inl 71), .inl (.int 8)), (1, .inr (.inl 71), .inl (.int 9)), (0, .inr (.inl 71), .inl (.int 10)), (6, .inr (.inl 15), .inl (.ref 840)), (6, .inr (.inl 15), .inl (.ref 840))]) jm_ok163 (by decide +kernel) (by decide +kernel) hd F X1 X2 (fun F' hF hs => ?_)
  have b16 := hd_b (F := F) (F' := F') (k := 16) (hF 16 (by decide))
  have t70 : sy_dv F' (.inr (.inl 70)) = .int ((sy_i F 16) - ((1 : Int32))) := hd_o (hs 0 _ rfl) b16 rfl rfl
  have a51 := hd_ba (F := F) (F' := F') (k := 51) (hF 51 (by decide))
  have t71 : sy_dv F' (.inr (.inl 71)) = .int ((sy_ai F 51).getD ((sy_i F 16) - ((1 : Int32))).toNatClampNeg 0) := hd_rd (hs 1 _ rfl) t70 a51
  have b69 := hd_b (F := F) (F' := F') (k := 69) (hF 69 (by decide))
  have b15 := hd_b (F := F) (F' := F') (k := 15) (hF 15 (by decide))
  have t75 : sy_dv F' (.inr (.inl 75)) = .int ((sy_i F 15) + ((1 : Int32))) := hd_o (hs 5 _ rfl) b15 rfl rfl
  have t72 : sy_dv F' (.inr (.inl 72)) = .int ((sy_i F 16) - ((1 : Int32))) := hd_o (hs 2 _ rfl) b16 rfl rfl
  have a49 := hd_ba (F := F) (F' := F') (k := 49) (hF 49 (by decide))
  have t73 : sy_da F' (.inr (.inl 73)) = .inl (jm_upd (sy_ai F 49) (sy_i F 15).toNatClampNeg ((4 : Int32))) := hd_up (hs 3 _ rfl) b15 rfl a49
  have a50 := hd_ba (F := F) (F' := F') (k := 50) (hF 50 (by decide))
  have t74 : sy_da F' (.inr (.inl 74)) = .inl (jm_upd (sy_ai F 50) (sy_i F 15).toNatClampNeg ((0 : Int32))) := hd_up (hs 4 _ rfl) b15 rfl a50
  have hB' : iv_in F' iv_B4 := iv_in_eq hB (fun j hj => hF j (Nat.lt_of_lt_of_le hj (by decide +kernel)))
  refine ⟨List.forall_mem_cons.mpr ⟨hd_p5 b16 rfl (by have hc : ((0) : Int32).toInt = 0 := (by decide); omega), List.forall_mem_cons.mpr ⟨hd_pb t70 (by first | exact h1 | exact h1), List.forall_mem_cons.mpr ⟨hd_p1 t71 rfl (by have hc : ((6) : Int32).toInt = 6 := (by decide); omega), List.forall_mem_cons.mpr ⟨hd_p1 b69 rfl (by have hc : ((0) : Int32).toInt = 0 := (by decide); omega), List.forall_mem_cons.mpr ⟨hd_p1 t71 rfl (by have hc : ((8) : Int32).toInt = 8 := (by decide); omega), List.forall_mem_cons.mpr ⟨hd_p1 t71 rfl (by have hc : ((9) : Int32).toInt = 9 := (by decide); omega), List.forall_mem_cons.mpr ⟨hd_p1 t71 rfl (by have hc : ((8) : Int32).toInt = 8 := (by decide); omega), List.forall_mem_cons.mpr ⟨hd_p1 t71 rfl (by have hc : ((9) : Int32).toInt = 9 := (by decide); omega), List.forall_mem_cons.mpr ⟨hd_p0 t71 rfl (by have hc : ((10) : Int32).toInt = 10 := (by decide); omega), List.forall_mem_cons.mpr ⟨hd_pb b15 (by first | exact h9 | exact h9), List.forall_mem_cons.mpr ⟨hd_pb b15 (by first | exact h10 | exact h10), fun _ h => absurd h List.not_mem_nil⟩⟩⟩⟩⟩⟩⟩⟩⟩⟩⟩, ?_⟩
  refine k _ ?_ ?_ ?_ ?_ ?_ ?_
  · exact fun j hj hn => (hd_keep hB' (Nat.lt_of_lt_of_le hj (by decide +kernel)) (by simp; omega)).trans (hF j (by omega))
  · exact hd_gi (x := .inr (.inl 75)) (by decide +kernel) t75
  · exact hd_gi (x := .inr (.inl 72)) (by decide +kernel) t72
  · exact hd_ga (a := .inr (.inl 73)) (by decide +kernel) t73
  · exact hd_ga (a := .inr (.inl 74)) (by decide +kernel) t74
  · exact hd_gi (x := .inr (.inl 69)) (by decide +kernel) b69
theorem co_0_p9 {Ls : Nat} {xs : Nat → Int32} {d : Nat} {Q : Option Value → jm_h → Prop} (hd : 2 ≤ d) (F : Nat → sy_d) (X1 X2 : List jm_c) (hB : iv_in F iv_B4)
    (h0 : 0 < (sy_i F 16).toInt)
    (h1 : 0 ≤ ((sy_i F 16) - ((1 : Int32))).toInt ∧ ((sy_i F 16) - ((1 : Int32))).toInt < 64)
    (h2 : ((sy_ai F 51).getD ((sy_i F 16) - ((1 : Int32))).toNatClampNeg 0).toInt ≠ 6)
    (h3 : (sy_i F 69).toInt ≠ 0)
    (h4 : ((sy_ai F 51).getD ((sy_i F 16) - ((1 : Int32))).toNatClampNeg 0).toInt ≠ 8)
    (h5 : ((sy_ai F 51).getD ((sy_i F 16) - ((1 : Int32))).toNatClampNeg 0).toInt = 9)
    (k : ∀ F1 : Nat → sy_d, (∀ j, j < 69 → True → F1 j = F j) → Q (none) (sy_dh F1 X1 X2 (iv_H 4))) :
    hd_W Ls xs d jm_M163 Q (0, sy_dL F [some (.inl (.ref 1000)), some (.inr (.inl 69)), none], sy_dS F [], sy_dh F X1 X2 (iv_H 4), 0, 0) := by
  refine hd_ret (s := 4) (nv := 70) (v := none) (uh := hd_ov (iv_id 0 iv_B4) []) (f := true) (sp := [0]) (d0 := 1) (O := [false, false, false, false, false]) (T := [(1, [.inr (.inl 16), .inl (.int 1)], []), (30, [.inr (.inl 70)], [.inr (.inl 51)])]) (P := [(5, .inr (.inl 16), .inl (.int 0)), (6, .inr (.inl 70), .inl (.ref 64)), (1, .inr (.inl 71), .inl (.int 6)), (1, .inr (.inl 69), .inl (.int 0)), (1, .inr (.inl 71), .inl (.int 8)), (0, .inr (.inl 71), .inl (.int 9))]) jm_ok163 (by decide +kernel) (by decide +kernel) hd F X1 X2 (fun F' hF hs => ?_)
  have b16 := hd_b (F := F) (F' := F') (k := 16) (hF 16 (by decide))
  have t70 : sy_dv F' (.inr (.inl 70)) = .int ((sy_i F 16) - ((1 : Int32))) := hd_o (hs 0 _ rfl) b16 rfl rfl
  have a51 := hd_ba (F := F) (F' := F') (k := 51) (hF 51 (by decide))
  have t71 : sy_dv F' (.inr (.inl 71)) = .int ((sy_ai F 51).getD ((sy_i F 16) - ((1 : Int32))).toNatClampNeg 0) := hd_rd (hs 1 _ rfl) t70 a51
  have b69 := hd_b (F := F) (F' := F') (k := 69) (hF 69 (by decide))
  have hB' : iv_in F' iv_B4 := iv_in_eq hB (fun j hj => hF j (Nat.lt_of_lt_of_le hj (by decide +kernel)))
  refine ⟨List.forall_mem_cons.mpr ⟨hd_p5 b16 rfl (by have hc : ((0) : Int32).toInt = 0 := (by decide); omega), List.forall_mem_cons.mpr ⟨hd_pb t70 (by first | exact h1 | exact h1), List.forall_mem_cons.mpr ⟨hd_p1 t71 rfl (by have hc : ((6) : Int32).toInt = 6 := (by decide); omega), List.forall_mem_cons.mpr ⟨hd_p1 b69 rfl (by have hc : ((0) : Int32).toInt = 0 := (by decide); omega), List.forall_mem_cons.mpr ⟨hd_p1 t71 rfl (by have hc : ((8) : Int32).toInt = 8 := (by decide); omega), List.forall_mem_cons.mpr ⟨hd_p0 t71 rfl (by have hc : ((9) : Int32).toInt = 9 := (by decide); omega), fun _ h => absurd h List.not_mem_nil⟩⟩⟩⟩⟩⟩, ?_⟩
  refine k _ ?_
  · exact fun j hj _ => (hd_keep hB' (Nat.lt_of_lt_of_le hj (by decide +kernel)) (by simp)).trans (hF j (by omega))
theorem co_0 {Ls : Nat} {xs : Nat → Int32} {d : Nat} {Q : Option Value → jm_h → Prop} (hd : 2 ≤ d) (F : Nat → sy_d) (X1 X2 : List jm_c) (hB : iv_in F iv_B4)
    (o0 : 0 < (sy_i F 16).toInt → ((sy_ai F 51).getD (((sy_i F 16).toInt - 1)).toNat 0).toInt ≠ 6 → (sy_i F 69).toInt = 0 → ((sy_ai F 51).getD (((sy_i F 16).toInt - 1)).toNat 0).toInt ≠ 8 → ((sy_ai F 51).getD (((sy_i F 16).toInt - 1)).toNat 0).toInt ≠ 9 → ((sy_ai F 51).getD (((sy_i F 16).toInt - 1)).toNat 0).toInt ≠ 10 → (0 ≤ (sy_i F 15).toInt ∧ (sy_i F 15).toInt < 840))
    (o1 : 0 < (sy_i F 16).toInt → ((sy_ai F 51).getD (((sy_i F 16).toInt - 1)).toNat 0).toInt ≠ 6 → (sy_i F 69).toInt = 0 → ((sy_ai F 51).getD (((sy_i F 16).toInt - 1)).toNat 0).toInt ≠ 8 → ((sy_ai F 51).getD (((sy_i F 16).toInt - 1)).toNat 0).toInt ≠ 9 → ((sy_ai F 51).getD (((sy_i F 16).toInt - 1)).toNat 0).toInt = 10 → (0 ≤ (sy_i F 15).toInt ∧ (sy_i F 15).toInt < 840))
    (o2 : 0 < (sy_i F 16).toInt → ((sy_ai F 51).getD (((sy_i F 16).toInt - 1)).toNat 0).toInt ≠ 6 → (sy_i F 69).toInt = 0 → ((sy_ai F 51).getD (((sy_i F 16).toInt - 1)).toNat 0).toInt ≠ 8 → ((sy_ai F 51).getD (((sy_i F 16).toInt - 1)).toNat 0).toInt = 9 → (0 ≤ (sy_i F 15).toInt ∧ (sy_i F 15).toInt < 840))
    (o3 : 0 < (sy_i F 16).toInt → ((sy_ai F 51).getD (((sy_i F 16).toInt - 1)).toNat 0).toInt ≠ 6 → (sy_i F 69).toInt = 0 → ((sy_ai F 51).getD (((sy_i F 16).toInt - 1)).toNat 0).toInt = 8 → (0 ≤ (sy_i F 15).toInt ∧ (sy_i F 15).toInt < 840))
    (o4 : 0 < (sy_i F 16).toInt → ((sy_ai F 51).getD (((sy_i F 16).toInt - 1)).toNat 0).toInt ≠ 6 → (sy_i F 69).toInt ≠ 0 → ((sy_ai F 51).getD (((sy_i F 16).toInt - 1)).toNat 0).toInt ≠ 8 → ((sy_ai F 51).getD (((sy_i F 16).toInt - 1)).toNat 0).toInt ≠ 9 → ((sy_ai F 51).getD (((sy_i F 16).toInt - 1)).toNat 0).toInt ≠ 8 → ((sy_ai F 51).getD (((sy_i F 16).toInt - 1)).toNat 0).toInt ≠ 9 → ((sy_ai F 51).getD (((sy_i F 16).toInt - 1)).toNat 0).toInt ≠ 10 → (0 ≤ (sy_i F 15).toInt ∧ (sy_i F 15).toInt < 840))
    (o5 : 0 < (sy_i F 16).toInt → ((sy_ai F 51).getD (((sy_i F 16).toInt - 1)).toNat 0).toInt ≠ 6 → (sy_i F 69).toInt ≠ 0 → ((sy_ai F 51).getD (((sy_i F 16).toInt - 1)).toNat 0).toInt ≠ 8 → ((sy_ai F 51).getD (((sy_i F 16).toInt - 1)).toNat 0).toInt ≠ 9 → ((sy_ai F 51).getD (((sy_i F 16).toInt - 1)).toNat 0).toInt ≠ 8 → ((sy_ai F 51).getD (((sy_i F 16).toInt - 1)).toNat 0).toInt ≠ 9 → ((sy_ai F 51).getD (((sy_i F 16).toInt - 1)).toNat 0).toInt = 10 → (0 ≤ (sy_i F 15).toInt ∧ (sy_i F 15).toInt < 840))
    (o6 : 0 < (sy_i F 16).toInt → ((sy_ai F 51).getD (((sy_i F 16).toInt - 1)).toNat 0).toInt ≠ 6 → (sy_i F 69).toInt = 0 → ((sy_ai F 51).getD (((sy_i F 16).toInt - 1)).toNat 0).toInt ≠ 8 → ((sy_ai F 51).getD (((sy_i F 16).toInt - 1)).toNat 0).toInt ≠ 9 → ((sy_ai F 51).getD (((sy_i F 16).toInt - 1)).toNat 0).toInt ≠ 10 → (0 ≤ ((sy_i F 15).toInt + 1) ∧ ((sy_i F 15).toInt + 1) ≤ 840))
    (o7 : 0 < (sy_i F 16).toInt → ((sy_ai F 51).getD (((sy_i F 16).toInt - 1)).toNat 0).toInt ≠ 6 → (sy_i F 69).toInt = 0 → ((sy_ai F 51).getD (((sy_i F 16).toInt - 1)).toNat 0).toInt ≠ 8 → ((sy_ai F 51).getD (((sy_i F 16).toInt - 1)).toNat 0).toInt ≠ 9 → ((sy_ai F 51).getD (((sy_i F 16).toInt - 1)).toNat 0).toInt = 10 → (0 ≤ ((sy_i F 15).toInt + 1) ∧ ((sy_i F 15).toInt + 1) ≤ 840))
    (o8 : 0 < (sy_i F 16).toInt → ((sy_ai F 51).getD (((sy_i F 16).toInt - 1)).toNat 0).toInt ≠ 6 → (sy_i F 69).toInt = 0 → ((sy_ai F 51).getD (((sy_i F 16).toInt - 1)).toNat 0).toInt ≠ 8 → ((sy_ai F 51).getD (((sy_i F 16).toInt - 1)).toNat 0).toInt = 9 → (0 ≤ ((sy_i F 15).toInt + 1) ∧ ((sy_i F 15).toInt + 1) ≤ 840))
    (o9 : 0 < (sy_i F 16).toInt → ((sy_ai F 51).getD (((sy_i F 16).toInt - 1)).toNat 0).toInt ≠ 6 → (sy_i F 69).toInt = 0 → ((sy_ai F 51).getD (((sy_i F 16).toInt - 1)).toNat 0).toInt = 8 → (0 ≤ ((sy_i F 15).toInt + 1) ∧ ((sy_i F 15).toInt + 1) ≤ 840))
    (o10 : 0 < (sy_i F 16).toInt → ((sy_ai F 51).getD (((sy_i F 16).toInt - 1)).toNat 0).toInt ≠ 6 → (sy_i F 69).toInt ≠ 0 → ((sy_ai F 51).getD (((sy_i F 16).toInt - 1)).toNat 0).toInt ≠ 8 → ((sy_ai F 51).getD (((sy_i F 16).toInt - 1)).toNat 0).toInt ≠ 9 → ((sy_ai F 51).getD (((sy_i F 16).toInt - 1)).toNat 0).toInt ≠ 8 → ((sy_ai F 51).getD (((sy_i F 16).toInt - 1)).toNat 0).toInt ≠ 9 → ((sy_ai F 51).getD (((sy_i F 16).toInt - 1)).toNat 0).toInt ≠ 10 → (0 ≤ ((sy_i F 15).toInt + 1) ∧ ((sy_i F 15).toInt + 1) ≤ 840))
    (o11 : 0 < (sy_i F 16).toInt → ((sy_ai F 51).getD (((sy_i F 16).toInt - 1)).toNat 0).toInt ≠ 6 → (sy_i F 69).toInt ≠ 0 → ((sy_ai F 51).getD (((sy_i F 16).toInt - 1)).toNat 0).toInt ≠ 8 → ((sy_ai F 51).getD (((sy_i F 16).toInt - 1)).toNat 0).toInt ≠ 9 → ((sy_ai F 51).getD (((sy_i F 16).toInt - 1)).toNat 0).toInt ≠ 8 → ((sy_ai F 51).getD (((sy_i F 16).toInt - 1)).toNat 0).toInt ≠ 9 → ((sy_ai F 51).getD (((sy_i F 16).toInt - 1)).toNat 0).toInt = 10 → (0 ≤ ((sy_i F 15).toInt + 1) ∧ ((sy_i F 15).toInt + 1) ≤ 840))
    (k0 : (sy_i F 16).toInt ≤ 0 → ∀ F1 : Nat → sy_d, iv_in F1 iv_B4 → (∀ j, j < 69 → j ∉ ([] : List Nat) → F1 j = F j) → (sy_i F1 15).toInt = (sy_i F 15).toInt → (sy_i F1 16).toInt = (sy_i F 16).toInt → sy_ai F1 49 = sy_ai F 49 → sy_ai F1 50 = sy_ai F 50 → sy_ai F1 51 = sy_ai F 51 → Q (none) (sy_dh F1 X1 X2 (iv_H 4)))
    (k1 : 0 < (sy_i F 16).toInt → ((sy_ai F 51).getD (((sy_i F 16).toInt - 1)).toNat 0).toInt = 6 → ∀ F1 : Nat → sy_d, iv_in F1 iv_B4 → (∀ j, j < 69 → j ∉ ([] : List Nat) → F1 j = F j) → (sy_i F1 15).toInt = (sy_i F 15).toInt → (sy_i F1 16).toInt = (sy_i F 16).toInt → sy_ai F1 49 = sy_ai F 49 → sy_ai F1 50 = sy_ai F 50 → sy_ai F1 51 = sy_ai F 51 → Q (none) (sy_dh F1 X1 X2 (iv_H 4)))
    (k2 : 0 < (sy_i F 16).toInt → ((sy_ai F 51).getD (((sy_i F 16).toInt - 1)).toNat 0).toInt ≠ 6 → (sy_i F 69).toInt = 0 → ((sy_ai F 51).getD (((sy_i F 16).toInt - 1)).toNat 0).toInt ≠ 8 → ((sy_ai F 51).getD (((sy_i F 16).toInt - 1)).toNat 0).toInt ≠ 9 → ((sy_ai F 51).getD (((sy_i F 16).toInt - 1)).toNat 0).toInt ≠ 10 → ∀ F1 : Nat → sy_d, iv_in F1 iv_B4 → (∀ j, j < 69 → j ∉ ([15, 16, 49, 50] : List Nat) → F1 j = F j) → (sy_i F1 15).toInt = ((sy_i F 15).toInt + 1) → (sy_i F1 16).toInt = ((sy_i F 16).toInt - 1) → sy_ai F1 49 = jm_upd (sy_ai F 49) ((sy_i F 15).toInt).toNat ((5 : Int32)) → sy_ai F1 50 = jm_upd (sy_ai F 50) ((sy_i F 15).toInt).toNat ((0 : Int32)) → sy_ai F1 51 = sy_ai F 51 → (sy_i F1 69).toInt = (sy_i F 69).toInt → hd_W Ls xs d jm_M163 Q (0, sy_dL F1 [some (.inl (.ref 1000)), some (.inr (.inl 69)), none], sy_dS F1 [], sy_dh F1 X1 X2 (iv_H 4), 0, 0))
    (k3 : 0 < (sy_i F 16).toInt → ((sy_ai F 51).getD (((sy_i F 16).toInt - 1)).toNat 0).toInt ≠ 6 → (sy_i F 69).toInt = 0 → ((sy_ai F 51).getD (((sy_i F 16).toInt - 1)).toNat 0).toInt ≠ 8 → ((sy_ai F 51).getD (((sy_i F 16).toInt - 1)).toNat 0).toInt ≠ 9 → ((sy_ai F 51).getD (((sy_i F 16).toInt - 1)).toNat 0).toInt = 10 → ∀ F1 : Nat → sy_d, iv_in F1 iv_B4 → (∀ j, j < 69 → j ∉ ([15, 16, 49, 50] : List Nat) → F1 j = F j) → (sy_i F1 15).toInt = ((sy_i F 15).toInt + 1) → (sy_i F1 16).toInt = ((sy_i F 16).toInt - 1) → sy_ai F1 49 = jm_upd (sy_ai F 49) ((sy_i F 15).toInt).toNat ((4 : Int32)) → sy_ai F1 50 = jm_upd (sy_ai F 50) ((sy_i F 15).toInt).toNat ((0 : Int32)) → sy_ai F1 51 = sy_ai F 51 → (sy_i F1 69).toInt = (sy_i F 69).toInt → hd_W Ls xs d jm_M163 Q (0, sy_dL F1 [some (.inl (.ref 1000)), some (.inr (.inl 69)), none], sy_dS F1 [], sy_dh F1 X1 X2 (iv_H 4), 0, 0))
    (k4 : 0 < (sy_i F 16).toInt → ((sy_ai F 51).getD (((sy_i F 16).toInt - 1)).toNat 0).toInt ≠ 6 → (sy_i F 69).toInt = 0 → ((sy_ai F 51).getD (((sy_i F 16).toInt - 1)).toNat 0).toInt ≠ 8 → ((sy_ai F 51).getD (((sy_i F 16).toInt - 1)).toNat 0).toInt = 9 → ∀ F1 : Nat → sy_d, iv_in F1 iv_B4 → (∀ j, j < 69 → j ∉ ([15, 16, 49, 50] : List Nat) → F1 j = F j) → (sy_i F1 15).toInt = ((sy_i F 15).toInt + 1) → (sy_i F1 16).toInt = ((sy_i F 16).toInt - 1) → sy_ai F1 49 = jm_upd (sy_ai F 49) ((sy_i F 15).toInt).toNat ((3 : Int32)) → sy_ai F1 50 = jm_upd (sy_ai F 50) ((sy_i F 15).toInt).toNat ((0 : Int32)) → sy_ai F1 51 = sy_ai F 51 → (sy_i F1 69).toInt = (sy_i F 69).toInt → hd_W Ls xs d jm_M163 Q (0, sy_dL F1 [some (.inl (.ref 1000)), some (.inr (.inl 69)), none], sy_dS F1 [], sy_dh F1 X1 X2 (iv_H 4), 0, 0))
    (k5 : 0 < (sy_i F 16).toInt → ((sy_ai F 51).getD (((sy_i F 16).toInt - 1)).toNat 0).toInt ≠ 6 → (sy_i F 69).toInt = 0 → ((sy_ai F 51).getD (((sy_i F 16).toInt - 1)).toNat 0).toInt = 8 → ∀ F1 : Nat → sy_d, iv_in F1 iv_B4 → (∀ j, j < 69 → j ∉ ([15, 16, 49, 50] : List Nat) → F1 j = F j) → (sy_i F1 15).toInt = ((sy_i F 15).toInt + 1) → (sy_i F1 16).toInt = ((sy_i F 16).toInt - 1) → sy_ai F1 49 = jm_upd (sy_ai F 49) ((sy_i F 15).toInt).toNat ((2 : Int32)) → sy_ai F1 50 = jm_upd (sy_ai F 50) ((sy_i F 15).toInt).toNat ((0 : Int32)) → sy_ai F1 51 = sy_ai F 51 → (sy_i F1 69).toInt = (sy_i F 69).toInt → hd_W Ls xs d jm_M163 Q (0, sy_dL F1 [some (.inl (.ref 1000)), some (.inr (.inl 69)), none], sy_dS F1 [], sy_dh F1 X1 X2 (iv_H 4), 0, 0))
    (k6 : 0 < (sy_i F 16).toInt → ((sy_ai F 51).getD (((sy_i F 16).toInt - 1)).toNat 0).toInt ≠ 6 → (sy_i F 69).toInt ≠ 0 → ((sy_ai F 51).getD (((sy_i F 16).toInt - 1)).toNat 0).toInt = 8 → ∀ F1 : Nat → sy_d, iv_in F1 iv_B4 → (∀ j, j < 69 → j ∉ ([] : List Nat) → F1 j = F j) → (sy_i F1 15).toInt = (sy_i F 15).toInt → (sy_i F1 16).toInt = (sy_i F 16).toInt → sy_ai F1 49 = sy_ai F 49 → sy_ai F1 50 = sy_ai F 50 → sy_ai F1 51 = sy_ai F 51 → Q (none) (sy_dh F1 X1 X2 (iv_H 4)))
    (k7 : 0 < (sy_i F 16).toInt → ((sy_ai F 51).getD (((sy_i F 16).toInt - 1)).toNat 0).toInt ≠ 6 → (sy_i F 69).toInt ≠ 0 → ((sy_ai F 51).getD (((sy_i F 16).toInt - 1)).toNat 0).toInt ≠ 8 → ((sy_ai F 51).getD (((sy_i F 16).toInt - 1)).toNat 0).toInt ≠ 9 → ((sy_ai F 51).getD (((sy_i F 16).toInt - 1)).toNat 0).toInt ≠ 8 → ((sy_ai F 51).getD (((sy_i F 16).toInt - 1)).toNat 0).toInt ≠ 9 → ((sy_ai F 51).getD (((sy_i F 16).toInt - 1)).toNat 0).toInt ≠ 10 → ∀ F1 : Nat → sy_d, iv_in F1 iv_B4 → (∀ j, j < 69 → j ∉ ([15, 16, 49, 50] : List Nat) → F1 j = F j) → (sy_i F1 15).toInt = ((sy_i F 15).toInt + 1) → (sy_i F1 16).toInt = ((sy_i F 16).toInt - 1) → sy_ai F1 49 = jm_upd (sy_ai F 49) ((sy_i F 15).toInt).toNat ((5 : Int32)) → sy_ai F1 50 = jm_upd (sy_ai F 50) ((sy_i F 15).toInt).toNat ((0 : Int32)) → sy_ai F1 51 = sy_ai F 51 → (sy_i F1 69).toInt = (sy_i F 69).toInt → hd_W Ls xs d jm_M163 Q (0, sy_dL F1 [some (.inl (.ref 1000)), some (.inr (.inl 69)), none], sy_dS F1 [], sy_dh F1 X1 X2 (iv_H 4), 0, 0))
    (k8 : 0 < (sy_i F 16).toInt → ((sy_ai F 51).getD (((sy_i F 16).toInt - 1)).toNat 0).toInt ≠ 6 → (sy_i F 69).toInt ≠ 0 → ((sy_ai F 51).getD (((sy_i F 16).toInt - 1)).toNat 0).toInt ≠ 8 → ((sy_ai F 51).getD (((sy_i F 16).toInt - 1)).toNat 0).toInt ≠ 9 → ((sy_ai F 51).getD (((sy_i F 16).toInt - 1)).toNat 0).toInt ≠ 8 → ((sy_ai F 51).getD (((sy_i F 16).toInt - 1)).toNat 0).toInt ≠ 9 → ((sy_ai F 51).getD (((sy_i F 16).toInt - 1)).toNat 0).toInt = 10 → ∀ F1 : Nat → sy_d, iv_in F1 iv_B4 → (∀ j, j < 69 → j ∉ ([15, 16, 49, 50] : List Nat) → F1 j = F j) → (sy_i F1 15).toInt = ((sy_i F 15).toInt + 1) → (sy_i F1 16).toInt = ((sy_i F 16).toInt - 1) → sy_ai F1 49 = jm_upd (sy_ai F 49) ((sy_i F 15).toInt).toNat ((4 : Int32)) → sy_ai F1 50 = jm_upd (sy_ai F 50) ((sy_i F 15).toInt).toNat ((0 : Int32)) → sy_ai F1 51 = sy_ai F 51 → (sy_i F1 69).toInt = (sy_i F 69).toInt → hd_W Ls xs d jm_M163 Q (0, sy_dL F1 [some (.inl (.ref 1000)), some (.inr (.inl 69)), none], sy_dS F1 [], sy_dh F1 X1 X2 (iv_H 4), 0, 0))
    (k9 : 0 < (sy_i F 16).toInt → ((sy_ai F 51).getD (((sy_i F 16).toInt - 1)).toNat 0).toInt ≠ 6 → (sy_i F 69).toInt ≠ 0 → ((sy_ai F 51).getD (((sy_i F 16).toInt - 1)).toNat 0).toInt ≠ 8 → ((sy_ai F 51).getD (((sy_i F 16).toInt - 1)).toNat 0).toInt = 9 → ∀ F1 : Nat → sy_d, iv_in F1 iv_B4 → (∀ j, j < 69 → j ∉ ([] : List Nat) → F1 j = F j) → (sy_i F1 15).toInt = (sy_i F 15).toInt → (sy_i F1 16).toInt = (sy_i F 16).toInt → sy_ai F1 49 = sy_ai F 49 → sy_ai F1 50 = sy_ai F 50 → sy_ai F1 51 = sy_ai F 51 → Q (none) (sy_dh F1 X1 X2 (iv_H 4))) :
    hd_W Ls xs d jm_M163 Q (0, sy_dL F [some (.inl (.ref 1000)), some (.inr (.inl 69)), none], sy_dS F [], sy_dh F X1 X2 (iv_H 4), 0, 0) := by
  by_cases g0 : (sy_i F 16).toInt ≤ 0
  · have c16 := nz_bx hB (k := 16) (lo := 0) (hi := 64) rfl
    exact co_0_p0 hd F X1 X2 hB (by first | exact g0 | (simp only [nz_c]; exact g0)) (fun F1 g  => k0 g0 F1 (nz_in hB [] (fun j hj hn => g j hj (by simp only [List.mem_cons, List.not_mem_nil, or_false, not_or] at hn; exact trivial)) (List.forall_mem_nil _)) (fun j hj hn => g j hj (by simp only [List.mem_cons, List.not_mem_nil, or_false, not_or] at hn; exact trivial)) (nz_fi (g 15 (by decide) (by decide))) (nz_fi (g 16 (by decide) (by decide))) (nz_fa (g 49 (by decide) (by decide))) (nz_fa (g 50 (by decide) (by decide))) (nz_fa (g 51 (by decide) (by decide))))
  replace g0 : 0 < (sy_i F 16).toInt := by omega
  by_cases g1 : ((sy_ai F 51).getD (((sy_i F 16).toInt - 1)).toNat 0).toInt = 6
  · have c16 := nz_bx hB (k := 16) (lo := 0) (hi := 64) rfl
    have n70 : ((sy_i F 16) - ((1 : Int32))).toInt = ((sy_i F 16).toInt - 1) := nz_sub (rfl : (sy_i F 16).toInt = (sy_i F 16).toInt) (by decide : ((1 : Int32)).toInt = 1) (by omega) (by omega)
    have q71 : (sy_ai F 51).getD ((sy_i F 16) - ((1 : Int32))).toNatClampNeg 0 = (sy_ai F 51).getD (((sy_i F 16).toInt - 1)).toNat 0 := by simp only [nz_c, n70, (by decide : ((1 : Int32)).toInt = 1)]
    have n71 : ((sy_ai F 51).getD ((sy_i F 16) - ((1 : Int32))).toNatClampNeg 0).toInt = ((sy_ai F 51).getD (((sy_i F 16).toInt - 1)).toNat 0).toInt := congrArg Int32.toInt q71
    exact co_0_p1 hd F X1 X2 hB (by first | exact g0 | (simp only [nz_c]; exact g0)) (by first | exact ⟨by omega, by omega⟩ | (simp only [nz_c, n70]; exact ⟨by omega, by omega⟩) | (rw [n70]; exact ⟨by omega, by omega⟩)) (by first | exact g1 | (simp only [nz_c, n70]; exact g1) | (rw [n71]; exact g1)) (fun F1 g  => k1 g0 g1 F1 (nz_in hB [] (fun j hj hn => g j hj (by simp only [List.mem_cons, List.not_mem_nil, or_false, not_or] at hn; exact trivial)) (List.forall_mem_nil _)) (fun j hj hn => g j hj (by simp only [List.mem_cons, List.not_mem_nil, or_false, not_or] at hn; exact trivial)) (nz_fi (g 15 (by decide) (by decide))) (nz_fi (g 16 (by decide) (by decide))) (nz_fa (g 49 (by decide) (by decide))) (nz_fa (g 50 (by decide) (by decide))) (nz_fa (g 51 (by decide) (by decide))))
  replace g1 : ((sy_ai F 51).getD (((sy_i F 16).toInt - 1)).toNat 0).toInt ≠ 6 := by omega
  by_cases g2 : (sy_i F 69).toInt = 0
  · by_cases g3 : ((sy_ai F 51).getD (((sy_i F 16).toInt - 1)).toNat 0).toInt ≠ 8
    · by_cases g4 : ((sy_ai F 51).getD (((sy_i F 16).toInt - 1)).toNat 0).toInt ≠ 9
      · by_cases g5 : ((sy_ai F 51).getD (((sy_i F 16).toInt - 1)).toNat 0).toInt ≠ 10
        · have c16 := nz_bx hB (k := 16) (lo := 0) (hi := 64) rfl
          have n70 : ((sy_i F 16) - ((1 : Int32))).toInt = ((sy_i F 16).toInt - 1) := nz_sub (rfl : (sy_i F 16).toInt = (sy_i F 16).toInt) (by decide : ((1 : Int32)).toInt = 1) (by omega) (by omega)
          have q71 : (sy_ai F 51).getD ((sy_i F 16) - ((1 : Int32))).toNatClampNeg 0 = (sy_ai F 51).getD (((sy_i F 16).toInt - 1)).toNat 0 := by simp only [nz_c, n70, (by decide : ((1 : Int32)).toInt = 1)]
          have n71 : ((sy_ai F 51).getD ((sy_i F 16) - ((1 : Int32))).toNatClampNeg 0).toInt = ((sy_ai F 51).getD (((sy_i F 16).toInt - 1)).toNat 0).toInt := congrArg Int32.toInt q71
          have c15 := nz_bx hB (k := 15) (lo := 0) (hi := 840) rfl
          have n75 : ((sy_i F 15) + ((1 : Int32))).toInt = ((sy_i F 15).toInt + 1) := nz_add (rfl : (sy_i F 15).toInt = (sy_i F 15).toInt) (by decide : ((1 : Int32)).toInt = 1) (by omega) (by omega)
          have n72 : ((sy_i F 16) - ((1 : Int32))).toInt = ((sy_i F 16).toInt - 1) := nz_sub (rfl : (sy_i F 16).toInt = (sy_i F 16).toInt) (by decide : ((1 : Int32)).toInt = 1) (by omega) (by omega)
          have w73 : jm_upd (sy_ai F 49) (sy_i F 15).toNatClampNeg ((5 : Int32)) = jm_upd (sy_ai F 49) ((sy_i F 15).toInt).toNat ((5 : Int32)) := by simp only [nz_c, (by decide : ((5 : Int32)).toInt = 5)]
          have w74 : jm_upd (sy_ai F 50) (sy_i F 15).toNatClampNeg ((0 : Int32)) = jm_upd (sy_ai F 50) ((sy_i F 15).toInt).toNat ((0 : Int32)) := by simp only [nz_c, (by decide : ((0 : Int32)).toInt = 0)]
          exact co_0_p2 hd F X1 X2 hB (by first | exact g0 | (simp only [nz_c]; exact g0)) (by first | exact ⟨by omega, by omega⟩ | (simp only [nz_c, n70]; exact ⟨by omega, by omega⟩) | (rw [n70]; exact ⟨by omega, by omega⟩)) (by first | exact g1 | (simp only [nz_c, n70]; exact g1) | (rw [n71]; exact g1)) (by first | exact g2 | (simp only [nz_c]; exact g2)) (by first | exact g3 | (simp only [nz_c, n70]; exact g3) | (rw [n71]; exact g3)) (by first | exact g4 | (simp only [nz_c, n70]; exact g4) | (rw [n71]; exact g4)) (by first | exact g5 | (simp only [nz_c, n70]; exact g5) | (rw [n71]; exact g5)) (by first | exact (o0 g0 g1 g2 g3 g4 g5) | (simp only [nz_c]; exact (o0 g0 g1 g2 g3 g4 g5))) (by first | exact (o0 g0 g1 g2 g3 g4 g5) | (simp only [nz_c]; exact (o0 g0 g1 g2 g3 g4 g5))) (fun F1 g e15 e16 e49 e50 e69 => k2 g0 g1 g2 g3 g4 g5 F1 (nz_in hB [15, 16, 49, 50] (fun j hj hn => g j hj (by simp only [List.mem_cons, List.not_mem_nil, or_false, not_or] at hn; omega)) (List.forall_mem_cons.mpr ⟨fun t ht => (Option.some.inj ht) ▸ (nz_hi e15 n75 (o6 g0 g1 g2 g3 g4 g5).1 (o6 g0 g1 g2 g3 g4 g5).2), List.forall_mem_cons.mpr ⟨fun t ht => (Option.some.inj ht) ▸ (nz_hi e16 n72 (by omega) (by omega)), List.forall_mem_cons.mpr ⟨fun t ht => (Option.some.inj ht) ▸ (nz_hA e49 (nz_up (nz_ba hB (k := 49) (lo := 0) (hi := 5) rfl) (by decide : ((5 : Int32)).toInt = 5) (by omega) (by omega))), List.forall_mem_cons.mpr ⟨fun t ht => (Option.some.inj ht) ▸ (nz_hz2 e50), List.forall_mem_nil _⟩⟩⟩⟩)) (fun j hj hn => g j hj (by simp only [List.mem_cons, List.not_mem_nil, or_false, not_or] at hn; omega)) ((congrArg Int32.toInt (zz_i e15)).trans n75) ((congrArg Int32.toInt (zz_i e16)).trans n72) ((zz_ai e49).trans w73) ((zz_ai e50).trans w74) (nz_fa (g 51 (by decide) (by decide))) ((congrArg Int32.toInt (zz_i e69)).trans (rfl : (sy_i F 69).toInt = (sy_i F 69).toInt)))
        replace g5 : ((sy_ai F 51).getD (((sy_i F 16).toInt - 1)).toNat 0).toInt = 10 := by omega
        have c16 := nz_bx hB (k := 16) (lo := 0) (hi := 64) rfl
        have n70 : ((sy_i F 16) - ((1 : Int32))).toInt = ((sy_i F 16).toInt - 1) := nz_sub (rfl : (sy_i F 16).toInt = (sy_i F 16).toInt) (by decide : ((1 : Int32)).toInt = 1) (by omega) (by omega)
        have q71 : (sy_ai F 51).getD ((sy_i F 16) - ((1 : Int32))).toNatClampNeg 0 = (sy_ai F 51).getD (((sy_i F 16).toInt - 1)).toNat 0 := by simp only [nz_c, n70, (by decide : ((1 : Int32)).toInt = 1)]
        have n71 : ((sy_ai F 51).getD ((sy_i F 16) - ((1 : Int32))).toNatClampNeg 0).toInt = ((sy_ai F 51).getD (((sy_i F 16).toInt - 1)).toNat 0).toInt := congrArg Int32.toInt q71
        have c15 := nz_bx hB (k := 15) (lo := 0) (hi := 840) rfl
        have n75 : ((sy_i F 15) + ((1 : Int32))).toInt = ((sy_i F 15).toInt + 1) := nz_add (rfl : (sy_i F 15).toInt = (sy_i F 15).toInt) (by decide : ((1 : Int32)).toInt = 1) (by omega) (by omega)
        have n72 : ((sy_i F 16) - ((1 : Int32))).toInt = ((sy_i F 16).toInt - 1) := nz_sub (rfl : (sy_i F 16).toInt = (sy_i F 16).toInt) (by decide : ((1 : Int32)).toInt = 1) (by omega) (by omega)
        have w73 : jm_upd (sy_ai F 49) (sy_i F 15).toNatClampNeg ((4 : Int32)) = jm_upd (sy_ai F 49) ((sy_i F 15).toInt).toNat ((4 : Int32)) := by simp only [nz_c, (by decide : ((4 : Int32)).toInt = 4)]
        have w74 : jm_upd (sy_ai F 50) (sy_i F 15).toNatClampNeg ((0 : Int32)) = jm_upd (sy_ai F 50) ((sy_i F 15).toInt).toNat ((0 : Int32)) := by simp only [nz_c, (by decide : ((0 : Int32)).toInt = 0)]
        exact co_0_p3 hd F X1 X2 hB (by first | exact g0 | (simp only [nz_c]; exact g0)) (by first | exact ⟨by omega, by omega⟩ | (simp only [nz_c, n70]; exact ⟨by omega, by omega⟩) | (rw [n70]; exact ⟨by omega, by omega⟩)) (by first | exact g1 | (simp only [nz_c, n70]; exact g1) | (rw [n71]; exact g1)) (by first | exact g2 | (simp only [nz_c]; exact g2)) (by first | exact g3 | (simp only [nz_c, n70]; exact g3) | (rw [n71]; exact g3)) (by first | exact g4 | (simp only [nz_c, n70]; exact g4) | (rw [n71]; exact g4)) (by first | exact g5 | (simp only [nz_c, n70]; exact g5) | (rw [n71]; exact g5)) (by first | exact (o1 g0 g1 g2 g3 g4 g5) | (simp only [nz_c]; exact (o1 g0 g1 g2 g3 g4 g5))) (by first | exact (o1 g0 g1 g2 g3 g4 g5) | (simp only [nz_c]; exact (o1 g0 g1 g2 g3 g4 g5))) (fun F1 g e15 e16 e49 e50 e69 => k3 g0 g1 g2 g3 g4 g5 F1 (nz_in hB [15, 16, 49, 50] (fun j hj hn => g j hj (by simp only [List.mem_cons, List.not_mem_nil, or_false, not_or] at hn; omega)) (List.forall_mem_cons.mpr ⟨fun t ht => (Option.some.inj ht) ▸ (nz_hi e15 n75 (o7 g0 g1 g2 g3 g4 g5).1 (o7 g0 g1 g2 g3 g4 g5).2), List.forall_mem_cons.mpr ⟨fun t ht => (Option.some.inj ht) ▸ (nz_hi e16 n72 (by omega) (by omega)), List.forall_mem_cons.mpr ⟨fun t ht => (Option.some.inj ht) ▸ (nz_hA e49 (nz_up (nz_ba hB (k := 49) (lo := 0) (hi := 5) rfl) (by decide : ((4 : Int32)).toInt = 4) (by omega) (by omega))), List.forall_mem_cons.mpr ⟨fun t ht => (Option.some.inj ht) ▸ (nz_hz2 e50), List.forall_mem_nil _⟩⟩⟩⟩)) (fun j hj hn => g j hj (by simp only [List.mem_cons, List.not_mem_nil, or_false, not_or] at hn; omega)) ((congrArg Int32.toInt (zz_i e15)).trans n75) ((congrArg Int32.toInt (zz_i e16)).trans n72) ((zz_ai e49).trans w73) ((zz_ai e50).trans w74) (nz_fa (g 51 (by decide) (by decide))) ((congrArg Int32.toInt (zz_i e69)).trans (rfl : (sy_i F 69).toInt = (sy_i F 69).toInt)))
      replace g4 : ((sy_ai F 51).getD (((sy_i F 16).toInt - 1)).toNat 0).toInt = 9 := by omega
      have c16 := nz_bx hB (k := 16) (lo := 0) (hi := 64) rfl
      have n70 : ((sy_i F 16) - ((1 : Int32))).toInt = ((sy_i F 16).toInt - 1) := nz_sub (rfl : (sy_i F 16).toInt = (sy_i F 16).toInt) (by decide : ((1 : Int32)).toInt = 1) (by omega) (by omega)
      have q71 : (sy_ai F 51).getD ((sy_i F 16) - ((1 : Int32))).toNatClampNeg 0 = (sy_ai F 51).getD (((sy_i F 16).toInt - 1)).toNat 0 := by simp only [nz_c, n70, (by decide : ((1 : Int32)).toInt = 1)]
      have n71 : ((sy_ai F 51).getD ((sy_i F 16) - ((1 : Int32))).toNatClampNeg 0).toInt = ((sy_ai F 51).getD (((sy_i F 16).toInt - 1)).toNat 0).toInt := congrArg Int32.toInt q71
      have c15 := nz_bx hB (k := 15) (lo := 0) (hi := 840) rfl
      have n75 : ((sy_i F 15) + ((1 : Int32))).toInt = ((sy_i F 15).toInt + 1) := nz_add (rfl : (sy_i F 15).toInt = (sy_i F 15).toInt) (by decide : ((1 : Int32)).toInt = 1) (by omega) (by omega)
      have n72 : ((sy_i F 16) - ((1 : Int32))).toInt = ((sy_i F 16).toInt - 1) := nz_sub (rfl : (sy_i F 16).toInt = (sy_i F 16).toInt) (by decide : ((1 : Int32)).toInt = 1) (by omega) (by omega)
      have w73 : jm_upd (sy_ai F 49) (sy_i F 15).toNatClampNeg ((3 : Int32)) = jm_upd (sy_ai F 49) ((sy_i F 15).toInt).toNat ((3 : Int32)) := by simp only [nz_c, (by decide : ((3 : Int32)).toInt = 3)]
      have w74 : jm_upd (sy_ai F 50) (sy_i F 15).toNatClampNeg ((0 : Int32)) = jm_upd (sy_ai F 50) ((sy_i F 15).toInt).toNat ((0 : Int32)) := by simp only [nz_c, (by decide : ((0 : Int32)).toInt = 0)]
      exact co_0_p4 hd F X1 X2 hB (by first | exact g0 | (simp only [nz_c]; exact g0)) (by first | exact ⟨by omega, by omega⟩ | (simp only [nz_c, n70]; exact ⟨by omega, by omega⟩) | (rw [n70]; exact ⟨by omega, by omega⟩)) (by first | exact g1 | (simp only [nz_c, n70]; exact g1) | (rw [n71]; exact g1)) (by first | exact g2 | (simp only [nz_c]; exact g2)) (by first | exact g3 | (simp only [nz_c, n70]; exact g3) | (rw [n71]; exact g3)) (by first | exact g4 | (simp only [nz_c, n70]; exact g4) | (rw [n71]; exact g4)) (by first | exact (o2 g0 g1 g2 g3 g4) | (simp only [nz_c]; exact (o2 g0 g1 g2 g3 g4))) (by first | exact (o2 g0 g1 g2 g3 g4) | (simp only [nz_c]; exact (o2 g0 g1 g2 g3 g4))) (fun F1 g e15 e16 e49 e50 e69 => k4 g0 g1 g2 g3 g4 F1 (nz_in hB [15, 16, 49, 50] (fun j hj hn => g j hj (by simp only [List.mem_cons, List.not_mem_nil, or_false, not_or] at hn; omega)) (List.forall_mem_cons.mpr ⟨fun t ht => (Option.some.inj ht) ▸ (nz_hi e15 n75 (o8 g0 g1 g2 g3 g4).1 (o8 g0 g1 g2 g3 g4).2), List.forall_mem_cons.mpr ⟨fun t ht => (Option.some.inj ht) ▸ (nz_hi e16 n72 (by omega) (by omega)), List.forall_mem_cons.mpr ⟨fun t ht => (Option.some.inj ht) ▸ (nz_hA e49 (nz_up (nz_ba hB (k := 49) (lo := 0) (hi := 5) rfl) (by decide : ((3 : Int32)).toInt = 3) (by omega) (by omega))), List.forall_mem_cons.mpr ⟨fun t ht => (Option.some.inj ht) ▸ (nz_hz2 e50), List.forall_mem_nil _⟩⟩⟩⟩)) (fun j hj hn => g j hj (by simp only [List.mem_cons, List.not_mem_nil, or_false, not_or] at hn; omega)) ((congrArg Int32.toInt (zz_i e15)).trans n75) ((congrArg Int32.toInt (zz_i e16)).trans n72) ((zz_ai e49).trans w73) ((zz_ai e50).trans w74) (nz_fa (g 51 (by decide) (by decide))) ((congrArg Int32.toInt (zz_i e69)).trans (rfl : (sy_i F 69).toInt = (sy_i F 69).toInt)))
    replace g3 : ((sy_ai F 51).getD (((sy_i F 16).toInt - 1)).toNat 0).toInt = 8 := by omega
    have c16 := nz_bx hB (k := 16) (lo := 0) (hi := 64) rfl
    have n70 : ((sy_i F 16) - ((1 : Int32))).toInt = ((sy_i F 16).toInt - 1) := nz_sub (rfl : (sy_i F 16).toInt = (sy_i F 16).toInt) (by decide : ((1 : Int32)).toInt = 1) (by omega) (by omega)
    have q71 : (sy_ai F 51).getD ((sy_i F 16) - ((1 : Int32))).toNatClampNeg 0 = (sy_ai F 51).getD (((sy_i F 16).toInt - 1)).toNat 0 := by simp only [nz_c, n70, (by decide : ((1 : Int32)).toInt = 1)]
    have n71 : ((sy_ai F 51).getD ((sy_i F 16) - ((1 : Int32))).toNatClampNeg 0).toInt = ((sy_ai F 51).getD (((sy_i F 16).toInt - 1)).toNat 0).toInt := congrArg Int32.toInt q71
    have c15 := nz_bx hB (k := 15) (lo := 0) (hi := 840) rfl
    have n75 : ((sy_i F 15) + ((1 : Int32))).toInt = ((sy_i F 15).toInt + 1) := nz_add (rfl : (sy_i F 15).toInt = (sy_i F 15).toInt) (by decide : ((1 : Int32)).toInt = 1) (by omega) (by omega)
    have n72 : ((sy_i F 16) - ((1 : Int32))).toInt = ((sy_i F 16).toInt - 1) := nz_sub (rfl : (sy_i F 16).toInt = (sy_i F 16).toInt) (by decide : ((1 : Int32)).toInt = 1) (by omega) (by omega)
    have w73 : jm_upd (sy_ai F 49) (sy_i F 15).toNatClampNeg ((2 : Int32)) = jm_upd (sy_ai F 49) ((sy_i F 15).toInt).toNat ((2 : Int32)) := by simp only [nz_c, (by decide : ((2 : Int32)).toInt = 2)]
    have w74 : jm_upd (sy_ai F 50) (sy_i F 15).toNatClampNeg ((0 : Int32)) = jm_upd (sy_ai F 50) ((sy_i F 15).toInt).toNat ((0 : Int32)) := by simp only [nz_c, (by decide : ((0 : Int32)).toInt = 0)]
    exact co_0_p5 hd F X1 X2 hB (by first | exact g0 | (simp only [nz_c]; exact g0)) (by first | exact ⟨by omega, by omega⟩ | (simp only [nz_c, n70]; exact ⟨by omega, by omega⟩) | (rw [n70]; exact ⟨by omega, by omega⟩)) (by first | exact g1 | (simp only [nz_c, n70]; exact g1) | (rw [n71]; exact g1)) (by first | exact g2 | (simp only [nz_c]; exact g2)) (by first | exact g3 | (simp only [nz_c, n70]; exact g3) | (rw [n71]; exact g3)) (by first | exact (o3 g0 g1 g2 g3) | (simp only [nz_c]; exact (o3 g0 g1 g2 g3))) (by first | exact (o3 g0 g1 g2 g3) | (simp only [nz_c]; exact (o3 g0 g1 g2 g3))) (fun F1 g e15 e16 e49 e50 e69 => k5 g0 g1 g2 g3 F1 (nz_in hB [15, 16, 49, 50] (fun j hj hn => g j hj (by simp only [List.mem_cons, List.not_mem_nil, or_false, not_or] at hn; omega)) (List.forall_mem_cons.mpr ⟨fun t ht => (Option.some.inj ht) ▸ (nz_hi e15 n75 (o9 g0 g1 g2 g3).1 (o9 g0 g1 g2 g3).2), List.forall_mem_cons.mpr ⟨fun t ht => (Option.some.inj ht) ▸ (nz_hi e16 n72 (by omega) (by omega)), List.forall_mem_cons.mpr ⟨fun t ht => (Option.some.inj ht) ▸ (nz_hA e49 (nz_up (nz_ba hB (k := 49) (lo := 0) (hi := 5) rfl) (by decide : ((2 : Int32)).toInt = 2) (by omega) (by omega))), List.forall_mem_cons.mpr ⟨fun t ht => (Option.some.inj ht) ▸ (nz_hz2 e50), List.forall_mem_nil _⟩⟩⟩⟩)) (fun j hj hn => g j hj (by simp only [List.mem_cons, List.not_mem_nil, or_false, not_or] at hn; omega)) ((congrArg Int32.toInt (zz_i e15)).trans n75) ((congrArg Int32.toInt (zz_i e16)).trans n72) ((zz_ai e49).trans w73) ((zz_ai e50).trans w74) (nz_fa (g 51 (by decide) (by decide))) ((congrArg Int32.toInt (zz_i e69)).trans (rfl : (sy_i F 69).toInt = (sy_i F 69).toInt)))
  replace g2 : (sy_i F 69).toInt ≠ 0 := by omega
  by_cases g3 : ((sy_ai F 51).getD (((sy_i F 16).toInt - 1)).toNat 0).toInt = 8
  · have c16 := nz_bx hB (k := 16) (lo := 0) (hi := 64) rfl
    have n70 : ((sy_i F 16) - ((1 : Int32))).toInt = ((sy_i F 16).toInt - 1) := nz_sub (rfl : (sy_i F 16).toInt = (sy_i F 16).toInt) (by decide : ((1 : Int32)).toInt = 1) (by omega) (by omega)
    have q71 : (sy_ai F 51).getD ((sy_i F 16) - ((1 : Int32))).toNatClampNeg 0 = (sy_ai F 51).getD (((sy_i F 16).toInt - 1)).toNat 0 := by simp only [nz_c, n70, (by decide : ((1 : Int32)).toInt = 1)]
    have n71 : ((sy_ai F 51).getD ((sy_i F 16) - ((1 : Int32))).toNatClampNeg 0).toInt = ((sy_ai F 51).getD (((sy_i F 16).toInt - 1)).toNat 0).toInt := congrArg Int32.toInt q71
    exact co_0_p6 hd F X1 X2 hB (by first | exact g0 | (simp only [nz_c]; exact g0)) (by first | exact ⟨by omega, by omega⟩ | (simp only [nz_c, n70]; exact ⟨by omega, by omega⟩) | (rw [n70]; exact ⟨by omega, by omega⟩)) (by first | exact g1 | (simp only [nz_c, n70]; exact g1) | (rw [n71]; exact g1)) (by first | exact g2 | (simp only [nz_c]; exact g2)) (by first | exact g3 | (simp only [nz_c, n70]; exact g3) | (rw [n71]; exact g3)) (fun F1 g  => k6 g0 g1 g2 g3 F1 (nz_in hB [] (fun j hj hn => g j hj (by simp only [List.mem_cons, List.not_mem_nil, or_false, not_or] at hn; exact trivial)) (List.forall_mem_nil _)) (fun j hj hn => g j hj (by simp only [List.mem_cons, List.not_mem_nil, or_false, not_or] at hn; exact trivial)) (nz_fi (g 15 (by decide) (by decide))) (nz_fi (g 16 (by decide) (by decide))) (nz_fa (g 49 (by decide) (by decide))) (nz_fa (g 50 (by decide) (by decide))) (nz_fa (g 51 (by decide) (by decide))))
  replace g3 : ((sy_ai F 51).getD (((sy_i F 16).toInt - 1)).toNat 0).toInt ≠ 8 := by omega
  by_cases g4 : ((sy_ai F 51).getD (((sy_i F 16).toInt - 1)).toNat 0).toInt ≠ 9
  · by_cases g5 : ((sy_ai F 51).getD (((sy_i F 16).toInt - 1)).toNat 0).toInt ≠ 8
    · by_cases g6 : ((sy_ai F 51).getD (((sy_i F 16).toInt - 1)).toNat 0).toInt ≠ 9
      · by_cases g7 : ((sy_ai F 51).getD (((sy_i F 16).toInt - 1)).toNat 0).toInt ≠ 10
        · have c16 := nz_bx hB (k := 16) (lo := 0) (hi := 64) rfl
          have n70 : ((sy_i F 16) - ((1 : Int32))).toInt = ((sy_i F 16).toInt - 1) := nz_sub (rfl : (sy_i F 16).toInt = (sy_i F 16).toInt) (by decide : ((1 : Int32)).toInt = 1) (by omega) (by omega)
          have q71 : (sy_ai F 51).getD ((sy_i F 16) - ((1 : Int32))).toNatClampNeg 0 = (sy_ai F 51).getD (((sy_i F 16).toInt - 1)).toNat 0 := by simp only [nz_c, n70, (by decide : ((1 : Int32)).toInt = 1)]
          have n71 : ((sy_ai F 51).getD ((sy_i F 16) - ((1 : Int32))).toNatClampNeg 0).toInt = ((sy_ai F 51).getD (((sy_i F 16).toInt - 1)).toNat 0).toInt := congrArg Int32.toInt q71
          have c15 := nz_bx hB (k := 15) (lo := 0) (hi := 840) rfl
          have n75 : ((sy_i F 15) + ((1 : Int32))).toInt = ((sy_i F 15).toInt + 1) := nz_add (rfl : (sy_i F 15).toInt = (sy_i F 15).toInt) (by decide : ((1 : Int32)).toInt = 1) (by omega) (by omega)
          have n72 : ((sy_i F 16) - ((1 : Int32))).toInt = ((sy_i F 16).toInt - 1) := nz_sub (rfl : (sy_i F 16).toInt = (sy_i F 16).toInt) (by decide : ((1 : Int32)).toInt = 1) (by omega) (by omega)
          have w73 : jm_upd (sy_ai F 49) (sy_i F 15).toNatClampNeg ((5 : Int32)) = jm_upd (sy_ai F 49) ((sy_i F 15).toInt).toNat ((5 : Int32)) := by simp only [nz_c, (by decide : ((5 : Int32)).toInt = 5)]
          have w74 : jm_upd (sy_ai F 50) (sy_i F 15).toNatClampNeg ((0 : Int32)) = jm_upd (sy_ai F 50) ((sy_i F 15).toInt).toNat ((0 : Int32)) := by simp only [nz_c, (by decide : ((0 : Int32)).toInt = 0)]
          exact co_0_p7 hd F X1 X2 hB (by first | exact g0 | (simp only [nz_c]; exact g0)) (by first | exact ⟨by omega, by omega⟩ | (simp only [nz_c, n70]; exact ⟨by omega, by omega⟩) | (rw [n70]; exact ⟨by omega, by omega⟩)) (by first | exact g1 | (simp only [nz_c, n70]; exact g1) | (rw [n71]; exact g1)) (by first | exact g2 | (simp only [nz_c]; exact g2)) (by first | exact g3 | (simp only [nz_c, n70]; exact g3) | (rw [n71]; exact g3)) (by first | exact g4 | (simp only [nz_c, n70]; exact g4) | (rw [n71]; exact g4)) (by first | exact g5 | (simp only [nz_c, n70]; exact g5) | (rw [n71]; exact g5)) (by first | exact g6 | (simp only [nz_c, n70]; exact g6) | (rw [n71]; exact g6)) (by first | exact g7 | (simp only [nz_c, n70]; exact g7) | (rw [n71]; exact g7)) (by first | exact (o4 g0 g1 g2 g3 g4 g5 g6 g7) | (simp only [nz_c]; exact (o4 g0 g1 g2 g3 g4 g5 g6 g7))) (by first | exact (o4 g0 g1 g2 g3 g4 g5 g6 g7) | (simp only [nz_c]; exact (o4 g0 g1 g2 g3 g4 g5 g6 g7))) (fun F1 g e15 e16 e49 e50 e69 => k7 g0 g1 g2 g3 g4 g5 g6 g7 F1 (nz_in hB [15, 16, 49, 50] (fun j hj hn => g j hj (by simp only [List.mem_cons, List.not_mem_nil, or_false, not_or] at hn; omega)) (List.forall_mem_cons.mpr ⟨fun t ht => (Option.some.inj ht) ▸ (nz_hi e15 n75 (o10 g0 g1 g2 g3 g4 g5 g6 g7).1 (o10 g0 g1 g2 g3 g4 g5 g6 g7).2), List.forall_mem_cons.mpr ⟨fun t ht => (Option.some.inj ht) ▸ (nz_hi e16 n72 (by omega) (by omega)), List.forall_mem_cons.mpr ⟨fun t ht => (Option.some.inj ht) ▸ (nz_hA e49 (nz_up (nz_ba hB (k := 49) (lo := 0) (hi := 5) rfl) (by decide : ((5 : Int32)).toInt = 5) (by omega) (by omega))), List.forall_mem_cons.mpr ⟨fun t ht => (Option.some.inj ht) ▸ (nz_hz2 e50), List.forall_mem_nil _⟩⟩⟩⟩)) (fun j hj hn => g j hj (by simp only [List.mem_cons, List.not_mem_nil, or_false, not_or] at hn; omega)) ((congrArg Int32.toInt (zz_i e15)).trans n75) ((congrArg Int32.toInt (zz_i e16)).trans n72) ((zz_ai e49).trans w73) ((zz_ai e50).trans w74) (nz_fa (g 51 (by decide) (by decide))) ((congrArg Int32.toInt (zz_i e69)).trans (rfl : (sy_i F 69).toInt = (sy_i F 69).toInt)))
        replace g7 : ((sy_ai F 51).getD (((sy_i F 16).toInt - 1)).toNat 0).toInt = 10 := by omega
        have c16 := nz_bx hB (k := 16) (lo := 0) (hi := 64) rfl
        have n70 : ((sy_i F 16) - ((1 : Int32))).toInt = ((sy_i F 16).toInt - 1) := nz_sub (rfl : (sy_i F 16).toInt = (sy_i F 16).toInt) (by decide : ((1 : Int32)).toInt = 1) (by omega) (by omega)
        have q71 : (sy_ai F 51).getD ((sy_i F 16) - ((1 : Int32))).toNatClampNeg 0 = (sy_ai F 51).getD (((sy_i F 16).toInt - 1)).toNat 0 := by simp only [nz_c, n70, (by decide : ((1 : Int32)).toInt = 1)]
        have n71 : ((sy_ai F 51).getD ((sy_i F 16) - ((1 : Int32))).toNatClampNeg 0).toInt = ((sy_ai F 51).getD (((sy_i F 16).toInt - 1)).toNat 0).toInt := congrArg Int32.toInt q71
        have c15 := nz_bx hB (k := 15) (lo := 0) (hi := 840) rfl
        have n75 : ((sy_i F 15) + ((1 : Int32))).toInt = ((sy_i F 15).toInt + 1) := nz_add (rfl : (sy_i F 15).toInt = (sy_i F 15).toInt) (by decide : ((1 : Int32)).toInt = 1) (by omega) (by omega)
        have n72 : ((sy_i F 16) - ((1 : Int32))).toInt = ((sy_i F 16).toInt - 1) := nz_sub (rfl : (sy_i F 16).toInt = (sy_i F 16).toInt) (by decide : ((1 : Int32)).toInt = 1) (by omega) (by omega)
        have w73 : jm_upd (sy_ai F 49) (sy_i F 15).toNatClampNeg ((4 : Int32)) = jm_upd (sy_ai F 49) ((sy_i F 15).toInt).toNat ((4 : Int32)) := by simp only [nz_c, (by decide : ((4 : Int32)).toInt = 4)]
        have w74 : jm_upd (sy_ai F 50) (sy_i F 15).toNatClampNeg ((0 : Int32)) = jm_upd (sy_ai F 50) ((sy_i F 15).toInt).toNat ((0 : Int32)) := by simp only [nz_c, (by decide : ((0 : Int32)).toInt = 0)]
        exact co_0_p8 hd F X1 X2 hB (by first | exact g0 | (simp only [nz_c]; exact g0)) (by first | exact ⟨by omega, by omega⟩ | (simp only [nz_c, n70]; exact ⟨by omega, by omega⟩) | (rw [n70]; exact ⟨by omega, by omega⟩)) (by first | exact g1 | (simp only [nz_c, n70]; exact g1) | (rw [n71]; exact g1)) (by first | exact g2 | (simp only [nz_c]; exact g2)) (by first | exact g3 | (simp only [nz_c, n70]; exact g3) | (rw [n71]; exact g3)) (by first | exact g4 | (simp only [nz_c, n70]; exact g4) | (rw [n71]; exact g4)) (by first | exact g5 | (simp only [nz_c, n70]; exact g5) | (rw [n71]; exact g5)) (by first | exact g6 | (simp only [nz_c, n70]; exact g6) | (rw [n71]; exact g6)) (by first | exact g7 | (simp only [nz_c, n70]; exact g7) | (rw [n71]; exact g7)) (by first | exact (o5 g0 g1 g2 g3 g4 g5 g6 g7) | (simp only [nz_c]; exact (o5 g0 g1 g2 g3 g4 g5 g6 g7))) (by first | exact (o5 g0 g1 g2 g3 g4 g5 g6 g7) | (simp only [nz_c]; exact (o5 g0 g1 g2 g3 g4 g5 g6 g7))) (fun F1 g e15 e16 e49 e50 e69 => k8 g0 g1 g2 g3 g4 g5 g6 g7 F1 (nz_in hB [15, 16, 49, 50] (fun j hj hn => g j hj (by simp only [List.mem_cons, List.not_mem_nil, or_false, not_or] at hn; omega)) (List.forall_mem_cons.mpr ⟨fun t ht => (Option.some.inj ht) ▸ (nz_hi e15 n75 (o11 g0 g1 g2 g3 g4 g5 g6 g7).1 (o11 g0 g1 g2 g3 g4 g5 g6 g7).2), List.forall_mem_cons.mpr ⟨fun t ht => (Option.some.inj ht) ▸ (nz_hi e16 n72 (by omega) (by omega)), List.forall_mem_cons.mpr ⟨fun t ht => (Option.some.inj ht) ▸ (nz_hA e49 (nz_up (nz_ba hB (k := 49) (lo := 0) (hi := 5) rfl) (by decide : ((4 : Int32)).toInt = 4) (by omega) (by omega))), List.forall_mem_cons.mpr ⟨fun t ht => (Option.some.inj ht) ▸ (nz_hz2 e50), List.forall_mem_nil _⟩⟩⟩⟩)) (fun j hj hn => g j hj (by simp only [List.mem_cons, List.not_mem_nil, or_false, not_or] at hn; omega)) ((congrArg Int32.toInt (zz_i e15)).trans n75) ((congrArg Int32.toInt (zz_i e16)).trans n72) ((zz_ai e49).trans w73) ((zz_ai e50).trans w74) (nz_fa (g 51 (by decide) (by decide))) ((congrArg Int32.toInt (zz_i e69)).trans (rfl : (sy_i F 69).toInt = (sy_i F 69).toInt)))
      replace g6 : ((sy_ai F 51).getD (((sy_i F 16).toInt - 1)).toNat 0).toInt = 9 := by omega
      have c16 := nz_bx hB (k := 16) (lo := 0) (hi := 64) rfl
      have n70 : ((sy_i F 16) - ((1 : Int32))).toInt = ((sy_i F 16).toInt - 1) := nz_sub (rfl : (sy_i F 16).toInt = (sy_i F 16).toInt) (by decide : ((1 : Int32)).toInt = 1) (by omega) (by omega)
      have q71 : (sy_ai F 51).getD ((sy_i F 16) - ((1 : Int32))).toNatClampNeg 0 = (sy_ai F 51).getD (((sy_i F 16).toInt - 1)).toNat 0 := by simp only [nz_c, n70, (by decide : ((1 : Int32)).toInt = 1)]
      have n71 : ((sy_ai F 51).getD ((sy_i F 16) - ((1 : Int32))).toNatClampNeg 0).toInt = ((sy_ai F 51).getD (((sy_i F 16).toInt - 1)).toNat 0).toInt := congrArg Int32.toInt q71
      exfalso
      omega
    replace g5 : ((sy_ai F 51).getD (((sy_i F 16).toInt - 1)).toNat 0).toInt = 8 := by omega
    have c16 := nz_bx hB (k := 16) (lo := 0) (hi := 64) rfl
    have n70 : ((sy_i F 16) - ((1 : Int32))).toInt = ((sy_i F 16).toInt - 1) := nz_sub (rfl : (sy_i F 16).toInt = (sy_i F 16).toInt) (by decide : ((1 : Int32)).toInt = 1) (by omega) (by omega)
    have q71 : (sy_ai F 51).getD ((sy_i F 16) - ((1 : Int32))).toNatClampNeg 0 = (sy_ai F 51).getD (((sy_i F 16).toInt - 1)).toNat 0 := by simp only [nz_c, n70, (by decide : ((1 : Int32)).toInt = 1)]
    have n71 : ((sy_ai F 51).getD ((sy_i F 16) - ((1 : Int32))).toNatClampNeg 0).toInt = ((sy_ai F 51).getD (((sy_i F 16).toInt - 1)).toNat 0).toInt := congrArg Int32.toInt q71
    exfalso
    omega
  replace g4 : ((sy_ai F 51).getD (((sy_i F 16).toInt - 1)).toNat 0).toInt = 9 := by omega
  have c16 := nz_bx hB (k := 16) (lo := 0) (hi := 64) rfl
  have n70 : ((sy_i F 16) - ((1 : Int32))).toInt = ((sy_i F 16).toInt - 1) := nz_sub (rfl : (sy_i F 16).toInt = (sy_i F 16).toInt) (by decide : ((1 : Int32)).toInt = 1) (by omega) (by omega)
  have q71 : (sy_ai F 51).getD ((sy_i F 16) - ((1 : Int32))).toNatClampNeg 0 = (sy_ai F 51).getD (((sy_i F 16).toInt - 1)).toNat 0 := by simp only [nz_c, n70, (by decide : ((1 : Int32)).toInt = 1)]
  have n71 : ((sy_ai F 51).getD ((sy_i F 16) - ((1 : Int32))).toNatClampNeg 0).toInt = ((sy_ai F 51).getD (((sy_i F 16).toInt - 1)).toNat 0).toInt := congrArg Int32.toInt q71
  exact co_0_p9 hd F X1 X2 hB (by first | exact g0 | (simp only [nz_c]; exact g0)) (by first | exact ⟨by omega, by omega⟩ | (simp only [nz_c, n70]; exact ⟨by omega, by omega⟩) | (rw [n70]; exact ⟨by omega, by omega⟩)) (by first | exact g1 | (simp only [nz_c, n70]; exact g1) | (rw [n71]; exact g1)) (by first | exact g2 | (simp only [nz_c]; exact g2)) (by first | exact g3 | (simp only [nz_c, n70]; exact g3) | (rw [n71]; exact g3)) (by first | exact g4 | (simp only [nz_c, n70]; exact g4) | (rw [n71]; exact g4)) (fun F1 g  => k9 g0 g1 g2 g3 g4 F1 (nz_in hB [] (fun j hj hn => g j hj (by simp only [List.mem_cons, List.not_mem_nil, or_false, not_or] at hn; exact trivial)) (List.forall_mem_nil _)) (fun j hj hn => g j hj (by simp only [List.mem_cons, List.not_mem_nil, or_false, not_or] at hn; exact trivial)) (nz_fi (g 15 (by decide) (by decide))) (nz_fi (g 16 (by decide) (by decide))) (nz_fa (g 49 (by decide) (by decide))) (nz_fa (g 50 (by decide) (by decide))) (nz_fa (g 51 (by decide) (by decide))))
theorem ex_0_p0 {Ls : Nat} {xs : Nat → Int32} {d : Nat} {Q : Option Value → jm_h → Prop} (hd : 4 ≤ d) (F : Nat → sy_d) (X1 X2 : List jm_c) (hB : iv_in F iv_B4)
    (k : ∀ F1 : Nat → sy_d, (∀ j, j < 69 → j ≠ 16 → F1 j = F j) → F1 16 = .inl (.int ((0 : Int32))) → F1 69 = .inl (.int (sy_i F 5)) → hd_W Ls xs d jm_M164 Q (12, sy_dL F1 [some (.inl (.ref 1000)), some (.inr (.inl 69)), some (.inl (.int 1))], sy_dS F1 [], sy_dh F1 X1 X2 (iv_H 4), 0, 0)) :
    hd_W Ls xs d jm_M164 Q (0, sy_dL F [some (.inl (.ref 1000)), none, none], sy_dS F [], sy_dh F X1 X2 (iv_H 4), 0, 0) := by
  refine hd_run (s := 4) (nv := 69) (pc := 12) (L := [some (.inl (.ref 1000)), some (.inr (.inl 69)), some (.inl (.int 1))]) (S := []) (uh := hd_ov (iv_id 0 iv_B4) [(16, .inl (.inl (.int 0)))]) (ul := [.inl (.inr (.inl 5))]) (f := true) (sp := [12]) (d0 := 3) (O := []) (T := []) (P := []) jm_ok164 (by decide +kernel) (by decide +kernel) hd F X1 X2 (fun F' hF hs => ?_)
  have b5 := hd_b (F := F) (F' := F') (k := 5) (hF 5 (by decide))
  have hB' : iv_in F' iv_B4 := iv_in_eq hB (fun j hj => hF j (Nat.lt_of_lt_of_le hj (by decide +kernel)))
  refine ⟨fun _ h => absurd h List.not_mem_nil, ?_⟩
  refine k _ ?_ ?_ ?_
  · exact fun j hj hn => (hd_keep hB' (Nat.lt_of_lt_of_le hj (by decide +kernel)) (by simp; omega)).trans (hF j (by omega))
  · exact hd_gi (x := .inl (.int 0)) (by decide +kernel) rfl
  · exact hd_gi (x := .inr (.inl 5)) (by decide +kernel) b5
theorem ex_12_p0 {Ls : Nat} {xs : Nat → Int32} {d : Nat} {Q : Option Value → jm_h → Prop} (hd : 4 ≤ d) (F : Nat → sy_d) (X1 X2 : List jm_c) (hB : iv_in F iv_B4)
    (h0 : (sy_i F 6).toInt ≠ 0)
    (k : ∀ F1 : Nat → sy_d, (∀ j, j < 69 → True → F1 j = F j) → Q (none) (sy_dh F1 X1 X2 (iv_H 4))) :
    hd_W Ls xs d jm_M164 Q (12, sy_dL F [some (.inl (.ref 1000)), some (.inr (.inl 69)), some (.inl (.int 1))], sy_dS F [], sy_dh F X1 X2 (iv_H 4), 0, 0) := by
  refine hd_ret (s := 4) (nv := 70) (v := none) (uh := hd_ov (iv_id 0 iv_B4) []) (f := true) (sp := [23]) (d0 := 3) (O := [true]) (T := []) (P := [(1, .inr (.inl 6), .inl (.int 0))]) jm_ok164 (by decide +kernel) (by decide +kernel) hd F X1 X2 (fun F' hF hs => ?_)
  have b6 := hd_b (F := F) (F' := F') (k := 6) (hF 6 (by decide))
  have hB' : iv_in F' iv_B4 := iv_in_eq hB (fun j hj => hF j (Nat.lt_of_lt_of_le hj (by decide +kernel)))
  refine ⟨List.forall_mem_cons.mpr ⟨hd_p1 b6 rfl (by have hc : ((0) : Int32).toInt = 0 := (by decide); omega), fun _ h => absurd h List.not_mem_nil⟩, ?_⟩
  refine k _ ?_
  · exact fun j hj _ => (hd_keep hB' (Nat.lt_of_lt_of_le hj (by decide +kernel)) (by simp)).trans (hF j (by omega))
theorem ex_12_p1 {Ls : Nat} {xs : Nat → Int32} {d : Nat} {Q : Option Value → jm_h → Prop} (hd : 4 ≤ d) (F : Nat → sy_d) (X1 X2 : List jm_c) (hB : iv_in F iv_B4)
    (h0 : (sy_i F 6).toInt = 0)
    (k : ∀ F1 : Nat → sy_d, (∀ j, j < 69 → True → F1 j = F j) → F1 69 = .inl (.int (sy_i F 69)) → hd_W Ls xs d jm_M164 Q (23, sy_dL F1 [some (.inl (.ref 1000)), some (.inr (.inl 69)), some (.inl (.int 1))], sy_dS F1 [], sy_dh F1 X1 X2 (iv_H 4), 0, 0)) :
    hd_W Ls xs d jm_M164 Q (12, sy_dL F [some (.inl (.ref 1000)), some (.inr (.inl 69)), some (.inl (.int 1))], sy_dS F [], sy_dh F X1 X2 (iv_H 4), 0, 0) := by
  refine hd_run (s := 4) (nv := 70) (pc := 23) (L := [some (.inl (.ref 1000)), some (.inr (.inl 69)), some (.inl (.int 1))]) (S := []) (uh := hd_ov (iv_id 0 iv_B4) []) (ul := [.inl (.inr (.inl 69))]) (f := true) (sp := [23]) (d0 := 3) (O := [false]) (T := []) (P := [(0, .inr (.inl 6), .inl (.int 0))]) jm_ok164 (by decide +kernel) (by decide +kernel) hd F X1 X2 (fun F' hF hs => ?_)
  have b6 := hd_b (F := F) (F' := F') (k := 6) (hF 6 (by decide))
  have b69 := hd_b (F := F) (F' := F') (k := 69) (hF 69 (by decide))
  have hB' : iv_in F' iv_B4 := iv_in_eq hB (fun j hj => hF j (Nat.lt_of_lt_of_le hj (by decide +kernel)))
  refine ⟨List.forall_mem_cons.mpr ⟨hd_p0 b6 rfl (by have hc : ((0) : Int32).toInt = 0 := (by decide); omega), fun _ h => absurd h List.not_mem_nil⟩, ?_⟩
  refine k _ ?_ ?_
  · exact fun j hj _ => (hd_keep hB' (Nat.lt_of_lt_of_le hj (by decide +kernel)) (by simp)).trans (hF j (by omega))
  · exact hd_gi (x := .inr (.inl 69)) (by decide +kernel) b69
theorem ex_23_p0 {Ls : Nat} {xs : Nat → Int32} {d : Nat} {Q : Option Value → jm_h → Prop} (hd : 4 ≤ d) (F : Nat → sy_d) (X1 X2 : List jm_c) (hB : iv_in F iv_B4)
    (h0 : (sy_i F 6).toInt ≠ 0)
    (h1 : (sy_i F 6).toInt ≠ 0)
    (h2 : (sy_i F 6).toInt ≠ 0)
    (h3 : 0 < (sy_i F 6).toInt)
    (h4 : 0 < (sy_i F 6).toInt)
    (k : ∀ F1 : Nat → sy_d, (∀ j, j < 69 → True → F1 j = F j) → Q (none) (sy_dh F1 X1 X2 (iv_H 4))) :
    hd_W Ls xs d jm_M164 Q (23, sy_dL F [some (.inl (.ref 1000)), some (.inr (.inl 69)), some (.inl (.int 1))], sy_dS F [], sy_dh F X1 X2 (iv_H 4), 0, 0) := by
  refine hd_ret (s := 4) (nv := 70) (v := none) (uh := hd_ov (iv_id 0 iv_B4) []) (f := true) (sp := [23, 96]) (d0 := 3) (O := [true, true, true, false, false]) (T := []) (P := [(1, .inr (.inl 6), .inl (.int 0)), (1, .inr (.inl 6), .inl (.int 0)), (1, .inr (.inl 6), .inl (.int 0)), (5, .inr (.inl 6), .inl (.int 0)), (5, .inr (.inl 6), .inl (.int 0))]) jm_ok164 (by decide +kernel) (by decide +kernel) hd F X1 X2 (fun F' hF hs => ?_)
  have b6 := hd_b (F := F) (F' := F') (k := 6) (hF 6 (by decide))
  have hB' : iv_in F' iv_B4 := iv_in_eq hB (fun j hj => hF j (Nat.lt_of_lt_of_le hj (by decide +kernel)))
  refine ⟨List.forall_mem_cons.mpr ⟨hd_p1 b6 rfl (by have hc : ((0) : Int32).toInt = 0 := (by decide); omega), List.forall_mem_cons.mpr ⟨hd_p1 b6 rfl (by have hc : ((0) : Int32).toInt = 0 := (by decide); omega), List.forall_mem_cons.mpr ⟨hd_p1 b6 rfl (by have hc : ((0) : Int32).toInt = 0 := (by decide); omega), List.forall_mem_cons.mpr ⟨hd_p5 b6 rfl (by have hc : ((0) : Int32).toInt = 0 := (by decide); omega), List.forall_mem_cons.mpr ⟨hd_p5 b6 rfl (by have hc : ((0) : Int32).toInt = 0 := (by decide); omega), fun _ h => absurd h List.not_mem_nil⟩⟩⟩⟩⟩, ?_⟩
  refine k _ ?_
  · exact fun j hj _ => (hd_keep hB' (Nat.lt_of_lt_of_le hj (by decide +kernel)) (by simp)).trans (hF j (by omega))
theorem ex_23_p1 {Ls : Nat} {xs : Nat → Int32} {d : Nat} {Q : Option Value → jm_h → Prop} (hd : 4 ≤ d) (F : Nat → sy_d) (X1 X2 : List jm_c) (hB : iv_in F iv_B4)
    (h0 : (sy_i F 6).toInt = 0)
    (h1 : 0 ≤ (sy_i F 4).toInt ∧ (sy_i F 4).toInt < 403)
    (h2 : ((sy_ai F 25).getD (sy_i F 4).toNatClampNeg 0).toInt ≠ 6)
    (h3 : (sy_i F 6).toInt = 0)
    (h4 : 0 ≤ (sy_i F 4).toInt ∧ (sy_i F 4).toInt < 403)
    (h5 : ((sy_ai F 25).getD (sy_i F 4).toNatClampNeg 0).toInt ≠ 2)
    (h6 : (sy_i F 6).toInt = 0)
    (h7 : 0 ≤ (sy_i F 4).toInt ∧ (sy_i F 4).toInt < 403)
    (h8 : ((sy_ai F 25).getD (sy_i F 4).toNatClampNeg 0).toInt < 34)
    (h9 : (sy_i F 6).toInt ≤ 0)
    (h10 : 0 ≤ (sy_i F 4).toInt ∧ (sy_i F 4).toInt < 403)
    (k : ∀ F1 : Nat → sy_d, (∀ j, j < 69 → j ≠ 6 ∧ j ≠ 7 → F1 j = F j) → F1 6 = .inl (.int ((1 : Int32))) → F1 7 = .inl (.int ((sy_ai F 26).getD (sy_i F 4).toNatClampNeg 0)) → Q (none) (sy_dh F1 X1 X2 (iv_H 4))) :
    hd_W Ls xs d jm_M164 Q (23, sy_dL F [some (.inl (.ref 1000)), some (.inr (.inl 69)), some (.inl (.int 1))], sy_dS F [], sy_dh F X1 X2 (iv_H 4), 0, 0) := by
  refine hd_ret (s := 4) (nv := 70) (v := none) (uh := hd_ov (iv_id 0 iv_B4) [(6, .inl (.inl (.int 1))), (7, .inl (.inr (.inl 73)))]) (f := true) (sp := [23, 96]) (d0 := 3) (O := [false, true, false, true, false, true, true]) (T := [(30, [.inr (.inl 4)], [.inr (.inl 25)]), (30, [.inr (.inl 4)], [.inr (.inl 25)]), (30, [.inr (.inl 4)], [.inr (.inl 25)]), (30, [.inr (.inl 4)], [.inr (.inl 26)])]) (P := [(0, .inr (.inl 6), .inl (.int 0)), (6, .inr (.inl 4), .inl (.ref 403)), (1, .inr (.inl 70), .inl (.int 6)), (0, .inr (.inl 6), .inl (.int 0)), (6, .inr (.inl 4), .inl (.ref 403)), (1, .inr (.inl 71), .inl (.int 2)), (0, .inr (.inl 6), .inl (.int 0)), (6, .inr (.inl 4), .inl (.ref 403)), (2, .inr (.inl 72), .inl (.int 34)), (4, .inr (.inl 6), .inl (.int 0)), (6, .inr (.inl 4), .inl (.ref 403))]) jm_ok164 (by decide +kernel) (by decide +kernel) hd F X1 X2 (fun F' hF hs => ?_)
  have b6 := hd_b (F := F) (F' := F') (k := 6) (hF 6 (by decide))
  have b4 := hd_b (F := F) (F' := F') (k := 4) (hF 4 (by decide))
  have a25 := hd_ba (F := F) (F' := F') (k := 25) (hF 25 (by decide))
  have t70 : sy_dv F' (.inr (.inl 70)) = .int ((sy_ai F 25).getD (sy_i F 4).toNatClampNeg 0) := hd_rd (hs 0 _ rfl) b4 a25
  have t71 : sy_dv F' (.inr (.inl 71)) = .int ((sy_ai F 25).getD (sy_i F 4).toNatClampNeg 0) := hd_rd (hs 1 _ rfl) b4 a25
  have t72 : sy_dv F' (.inr (.inl 72)) = .int ((sy_ai F 25).getD (sy_i F 4).toNatClampNeg 0) := hd_rd (hs 2 _ rfl) b4 a25
  have a26 := hd_ba (F := F) (F' := F') (k := 26) (hF 26 (by decide))
  have t73 : sy_dv F' (.inr (.inl 73)) = .int ((sy_ai F 26).getD (sy_i F 4).toNatClampNeg 0) := hd_rd (hs 3 _ rfl) b4 a26
  have hB' : iv_in F' iv_B4 := iv_in_eq hB (fun j hj => hF j (Nat.lt_of_lt_of_le hj (by decide +kernel)))
  refine ⟨List.forall_mem_cons.mpr ⟨hd_p0 b6 rfl (by have hc : ((0) : Int32).toInt = 0 := (by decide); omega), List.forall_mem_cons.mpr ⟨hd_pb b4 (by first | exact h1 | exact h1), List.forall_mem_cons.mpr ⟨hd_p1 t70 rfl (by have hc : ((6) : Int32).toInt = 6 := (by decide); omega), List.forall_mem_cons.mpr ⟨hd_p0 b6 rfl (by have hc : ((0) : Int32).toInt = 0 := (by decide); omega), List.forall_mem_cons.mpr ⟨hd_pb b4 (by first | exact h4 | exact h4), List.forall_mem_cons.mpr ⟨hd_p1 t71 rfl (by have hc : ((2) : Int32).toInt = 2 := (by decide); omega), List.forall_mem_cons.mpr ⟨hd_p0 b6 rfl (by have hc : ((0) : Int32).toInt = 0 := (by decide); omega), List.forall_mem_cons.mpr ⟨hd_pb b4 (by first | exact h7 | exact h7), List.forall_mem_cons.mpr ⟨hd_p2 t72 rfl (by have hc : ((34) : Int32).toInt = 34 := (by decide); omega), List.forall_mem_cons.mpr ⟨hd_p4 b6 rfl (by have hc : ((0) : Int32).toInt = 0 := (by decide); omega), List.forall_mem_cons.mpr ⟨hd_pb b4 (by first | exact h10 | exact h10), fun _ h => absurd h List.not_mem_nil⟩⟩⟩⟩⟩⟩⟩⟩⟩⟩⟩, ?_⟩
  refine k _ ?_ ?_ ?_
  · exact fun j hj hn => (hd_keep hB' (Nat.lt_of_lt_of_le hj (by decide +kernel)) (by simp; omega)).trans (hF j (by omega))
  · exact hd_gi (x := .inl (.int 1)) (by decide +kernel) rfl
  · exact hd_gi (x := .inr (.inl 73)) (by decide +kernel) t73
theorem ex_23_p2 {Ls : Nat} {xs : Nat → Int32} {d : Nat} {Q : Option Value → jm_h → Prop} (hd : 4 ≤ d) (F : Nat → sy_d) (X1 X2 : List jm_c) (hB : iv_in F iv_B4)
    (h0 : (sy_i F 6).toInt = 0)
    (h1 : 0 ≤ (sy_i F 4).toInt ∧ (sy_i F 4).toInt < 403)
    (h2 : ((sy_ai F 25).getD (sy_i F 4).toNatClampNeg 0).toInt ≠ 6)
    (h3 : (sy_i F 6).toInt = 0)
    (h4 : 0 ≤ (sy_i F 4).toInt ∧ (sy_i F 4).toInt < 403)
    (h5 : ((sy_ai F 25).getD (sy_i F 4).toNatClampNeg 0).toInt ≠ 2)
    (h6 : (sy_i F 6).toInt = 0)
    (h7 : 0 ≤ (sy_i F 4).toInt ∧ (sy_i F 4).toInt < 403)
    (h8 : 34 ≤ ((sy_ai F 25).getD (sy_i F 4).toNatClampNeg 0).toInt)
    (h9 : 0 ≤ (sy_i F 4).toInt ∧ (sy_i F 4).toInt < 403)
    (h10 : ((sy_ai F 25).getD (sy_i F 4).toNatClampNeg 0).toInt ≤ 42)
    (h11 : 0 ≤ (sy_i F 4).toInt ∧ (sy_i F 4).toInt < 403)
    (h12 : 0 ≤ (sy_i F 15).toInt ∧ (sy_i F 15).toInt < 840)
    (h13 : 0 ≤ (sy_i F 15).toInt ∧ (sy_i F 15).toInt < 840)
    (h14 : (sy_i F 4).toInt ≠ 400)
    (h15 : (sy_i F 6).toInt ≤ 0)
    (k : ∀ F1 : Nat → sy_d, (∀ j, j < 69 → j ≠ 4 ∧ j ≠ 15 ∧ j ≠ 49 ∧ j ≠ 50 → F1 j = F j) → F1 4 = .inl (.int ((sy_i F 4) + ((1 : Int32)))) → F1 15 = .inl (.int ((sy_i F 15) + ((1 : Int32)))) → F1 49 = .inr (.inl (jm_upd (sy_ai F 49) (sy_i F 15).toNatClampNeg ((1 : Int32)))) → F1 50 = .inr (.inl (jm_upd (sy_ai F 50) (sy_i F 15).toNatClampNeg (((sy_ai F 25).getD (sy_i F 4).toNatClampNeg 0) - ((34 : Int32))))) → F1 69 = .inl (.int (sy_i F 69)) → hd_W Ls xs d jm_M164 Q (96, sy_dL F1 [some (.inl (.ref 1000)), some (.inr (.inl 69)), some (.inl (.int 1))], sy_dS F1 [], sy_dh F1 X1 X2 (iv_H 4), 0, 0)) :
    hd_W Ls xs d jm_M164 Q (23, sy_dL F [some (.inl (.ref 1000)), some (.inr (.inl 69)), some (.inl (.int 1))], sy_dS F [], sy_dh F X1 X2 (iv_H 4), 0, 0) := by
  refine hd_run (s := 4) (nv := 70) (pc := 96) (L := [some (.inl (.ref 1000)), some (.inr (.inl 69)), some (.inl (.int 1))]) (S := []) (uh := hd_ov (iv_id 0 iv_B4) [(4, .inl (.inr (.inl 79))), (15, .inl (.inr (.inl 78))), (49, .inr (.inr (.inl 76))), (50, .inr (.inr (.inl 77)))]) (ul := [.inl (.inr (.inl 69))]) (f := true) (sp := [23, 96]) (d0 := 3) (O := [false, true, false, true, false, false, false, true, true]) (T := [(30, [.inr (.inl 4)], [.inr (.inl 25)]), (30, [.inr (.inl 4)], [.inr (.inl 25)]), (30, [.inr (.inl 4)], [.inr (.inl 25)]), (30, [.inr (.inl 4)], [.inr (.inl 25)]), (30, [.inr (.inl 4)], [.inr (.inl 25)]), (1, [.inr (.inl 74), .inl (.int 34)], []), (40, [.inr (.inl 15), .inl (.int 1)], [.inr (.inl 49)]), (40, [.inr (.inl 15), .inr (.inl 75)], [.inr (.inl 50)]), (0, [.inr (.inl 15), .inl (.int 1)], []), (0, [.inr (.inl 4), .inl (.int 1)], [])]) (P := [(0, .inr (.inl 6), .inl (.int 0)), (6, .inr (.inl 4), .inl (.ref 403)), (1, .inr (.inl 70), .inl (.int 6)), (0, .inr (.inl 6), .inl (.int 0)), (6, .inr (.inl 4), .inl (.ref 403)), (1, .inr (.inl 71), .inl (.int 2)), (0, .inr (.inl 6), .inl (.int 0)), (6, .inr (.inl 4), .inl (.ref 403)), (3, .inr (.inl 72), .inl (.int 34)), (6, .inr (.inl 4), .inl (.ref 403)), (3, .inl (.int 42), .inr (.inl 73)), (6, .inr (.inl 4), .inl (.ref 403)), (6, .inr (.inl 15), .inl (.ref 840)), (6, .inr (.inl 15), .inl (.ref 840)), (1, .inr (.inl 4), .inl (.int 400)), (4, .inr (.inl 6), .inl (.int 0))]) jm_ok164 (by decide +kernel) (by decide +kernel) hd F X1 X2 (fun F' hF hs => ?_)
  have b6 := hd_b (F := F) (F' := F') (k := 6) (hF 6 (by decide))
  have b4 := hd_b (F := F) (F' := F') (k := 4) (hF 4 (by decide))
  have a25 := hd_ba (F := F) (F' := F') (k := 25) (hF 25 (by decide))
  have t70 : sy_dv F' (.inr (.inl 70)) = .int ((sy_ai F 25).getD (sy_i F 4).toNatClampNeg 0) := hd_rd (hs 0 _ rfl) b4 a25
  have t71 : sy_dv F' (.inr (.inl 71)) = .int ((sy_ai F 25).getD (sy_i F 4).toNatClampNeg 0) := hd_rd (hs 1 _ rfl) b4 a25
  have t72 : sy_dv F' (.inr (.inl 72)) = .int ((sy_ai F 25).getD (sy_i F 4).toNatClampNeg 0) := hd_rd (hs 2 _ rfl) b4 a25
  have t73 : sy_dv F' (.inr (.inl 73)) = .int ((sy_ai F 25).getD (sy_i F 4).toNatClampNeg 0) := hd_rd (hs 3 _ rfl) b4 a25
  have b15 := hd_b (F := F) (F' := F') (k := 15) (hF 15 (by decide))
  have t79 : sy_dv F' (.inr (.inl 79)) = .int ((sy_i F 4) + ((1 : Int32))) := hd_o (hs 9 _ rfl) b4 rfl rfl
  have t78 : sy_dv F' (.inr (.inl 78)) = .int ((sy_i F 15) + ((1 : Int32))) := hd_o (hs 8 _ rfl) b15 rfl rfl
  have a49 := hd_ba (F := F) (F' := F') (k := 49) (hF 49 (by decide))
  have t76 : sy_da F' (.inr (.inl 76)) = .inl (jm_upd (sy_ai F 49) (sy_i F 15).toNatClampNeg ((1 : Int32))) := hd_up (hs 6 _ rfl) b15 rfl a49
  have t74 : sy_dv F' (.inr (.inl 74)) = .int ((sy_ai F 25).getD (sy_i F 4).toNatClampNeg 0) := hd_rd (hs 4 _ rfl) b4 a25
  have t75 : sy_dv F' (.inr (.inl 75)) = .int (((sy_ai F 25).getD (sy_i F 4).toNatClampNeg 0) - ((34 : Int32))) := hd_o (hs 5 _ rfl) t74 rfl rfl
  have a50 := hd_ba (F := F) (F' := F') (k := 50) (hF 50 (by decide))
  have t77 : sy_da F' (.inr (.inl 77)) = .inl (jm_upd (sy_ai F 50) (sy_i F 15).toNatClampNeg (((sy_ai F 25).getD (sy_i F 4).toNatClampNeg 0) - ((34 : Int32)))) := hd_up (hs 7 _ rfl) b15 t75 a50
  have b69 := hd_b (F := F) (F' := F') (k := 69) (hF 69 (by decide))
  have hB' : iv_in F' iv_B4 := iv_in_eq hB (fun j hj => hF j (Nat.lt_of_lt_of_le hj (by decide +kernel)))
  refine ⟨List.forall_mem_cons.mpr ⟨hd_p0 b6 rfl (by have hc : ((0) : Int32).toInt = 0 := (by decide); omega), List.forall_mem_cons.mpr ⟨hd_pb b4 (by first | exact h1 | exact h1), List.forall_mem_cons.mpr ⟨hd_p1 t70 rfl (by have hc : ((6) : Int32).toInt = 6 := (by decide); omega), List.forall_mem_cons.mpr ⟨hd_p0 b6 rfl (by have hc : ((0) : Int32).toInt = 0 := (by decide); omega), List.forall_mem_cons.mpr ⟨hd_pb b4 (by first | exact h4 | exact h4), List.forall_mem_cons.mpr ⟨hd_p1 t71 rfl (by have hc : ((2) : Int32).toInt = 2 := (by decide); omega), List.forall_mem_cons.mpr ⟨hd_p0 b6 rfl (by have hc : ((0) : Int32).toInt = 0 := (by decide); omega), List.forall_mem_cons.mpr ⟨hd_pb b4 (by first | exact h7 | exact h7), List.forall_mem_cons.mpr ⟨hd_p3 t72 rfl (by have hc : ((34) : Int32).toInt = 34 := (by decide); omega), List.forall_mem_cons.mpr ⟨hd_pb b4 (by first | exact h9 | exact h9), List.forall_mem_cons.mpr ⟨hd_p3 rfl t73 (by have hc : ((42) : Int32).toInt = 42 := (by decide); omega), List.forall_mem_cons.mpr ⟨hd_pb b4 (by first | exact h11 | exact h11), List.forall_mem_cons.mpr ⟨hd_pb b15 (by first | exact h12 | exact h12), List.forall_mem_cons.mpr ⟨hd_pb b15 (by first | exact h13 | exact h13), List.forall_mem_cons.mpr ⟨hd_p1 b4 rfl (by have hc : ((400) : Int32).toInt = 400 := (by decide); omega), List.forall_mem_cons.mpr ⟨hd_p4 b6 rfl (by have hc : ((0) : Int32).toInt = 0 := (by decide); omega), fun _ h => absurd h List.not_mem_nil⟩⟩⟩⟩⟩⟩⟩⟩⟩⟩⟩⟩⟩⟩⟩⟩, ?_⟩
  refine k _ ?_ ?_ ?_ ?_ ?_ ?_
  · exact fun j hj hn => (hd_keep hB' (Nat.lt_of_lt_of_le hj (by decide +kernel)) (by simp; omega)).trans (hF j (by omega))
  · exact hd_gi (x := .inr (.inl 79)) (by decide +kernel) t79
  · exact hd_gi (x := .inr (.inl 78)) (by decide +kernel) t78
  · exact hd_ga (a := .inr (.inl 76)) (by decide +kernel) t76
  · exact hd_ga (a := .inr (.inl 77)) (by decide +kernel) t77
  · exact hd_gi (x := .inr (.inl 69)) (by decide +kernel) b69
theorem ex_23_p3 {Ls : Nat} {xs : Nat → Int32} {d : Nat} {Q : Option Value → jm_h → Prop} (hd : 4 ≤ d) (F : Nat → sy_d) (X1 X2 : List jm_c) (hB : iv_in F iv_B4)
    (h0 : (sy_i F 6).toInt = 0)
    (h1 : 0 ≤ (sy_i F 4).toInt ∧ (sy_i F 4).toInt < 403)
    (h2 : ((sy_ai F 25).getD (sy_i F 4).toNatClampNeg 0).toInt ≠ 6)
    (h3 : (sy_i F 6).toInt = 0)
    (h4 : 0 ≤ (sy_i F 4).toInt ∧ (sy_i F 4).toInt < 403)
    (h5 : ((sy_ai F 25).getD (sy_i F 4).toNatClampNeg 0).toInt ≠ 2)
    (h6 : (sy_i F 6).toInt = 0)
    (h7 : 0 ≤ (sy_i F 4).toInt ∧ (sy_i F 4).toInt < 403)
    (h8 : 34 ≤ ((sy_ai F 25).getD (sy_i F 4).toNatClampNeg 0).toInt)
    (h9 : 0 ≤ (sy_i F 4).toInt ∧ (sy_i F 4).toInt < 403)
    (h10 : ((sy_ai F 25).getD (sy_i F 4).toNatClampNeg 0).toInt ≤ 42)
    (h11 : 0 ≤ (sy_i F 4).toInt ∧ (sy_i F 4).toInt < 403)
    (h12 : 0 ≤ (sy_i F 15).toInt ∧ (sy_i F 15).toInt < 840)
    (h13 : 0 ≤ (sy_i F 15).toInt ∧ (sy_i F 15).toInt < 840)
    (h14 : (sy_i F 4).toInt = 400)
    (h15 : (sy_i F 6).toInt ≤ 0)
    (h16 : 0 ≤ (sy_i F 4).toInt ∧ (sy_i F 4).toInt < 403)
    (k : ∀ F1 : Nat → sy_d, (∀ j, j < 69 → j ≠ 6 ∧ j ≠ 7 ∧ j ≠ 15 ∧ j ≠ 49 ∧ j ≠ 50 → F1 j = F j) → F1 6 = .inl (.int ((2 : Int32))) → F1 7 = .inl (.int ((sy_ai F 26).getD (sy_i F 4).toNatClampNeg 0)) → F1 15 = .inl (.int ((sy_i F 15) + ((1 : Int32)))) → F1 49 = .inr (.inl (jm_upd (sy_ai F 49) (sy_i F 15).toNatClampNeg ((1 : Int32)))) → F1 50 = .inr (.inl (jm_upd (sy_ai F 50) (sy_i F 15).toNatClampNeg (((sy_ai F 25).getD (sy_i F 4).toNatClampNeg 0) - ((34 : Int32))))) → Q (none) (sy_dh F1 X1 X2 (iv_H 4))) :
    hd_W Ls xs d jm_M164 Q (23, sy_dL F [some (.inl (.ref 1000)), some (.inr (.inl 69)), some (.inl (.int 1))], sy_dS F [], sy_dh F X1 X2 (iv_H 4), 0, 0) := by
  refine hd_ret (s := 4) (nv := 70) (v := none) (uh := hd_ov (iv_id 0 iv_B4) [(6, .inl (.inl (.int 2))), (7, .inl (.inr (.inl 79))), (15, .inl (.inr (.inl 78))), (49, .inr (.inr (.inl 76))), (50, .inr (.inr (.inl 77)))]) (f := true) (sp := [23, 96]) (d0 := 3) (O := [false, true, false, true, false, false, false, false, true]) (T := [(30, [.inr (.inl 4)], [.inr (.inl 25)]), (30, [.inr (.inl 4)], [.inr (.inl 25)]), (30, [.inr (.inl 4)], [.inr (.inl 25)]), (30, [.inr (.inl 4)], [.inr (.inl 25)]), (30, [.inr (.inl 4)], [.inr (.inl 25)]), (1, [.inr (.inl 74), .inl (.int 34)], []), (40, [.inr (.inl 15), .inl (.int 1)], [.inr (.inl 49)]), (40, [.inr (.inl 15), .inr (.inl 75)], [.inr (.inl 50)]), (0, [.inr (.inl 15), .inl (.int 1)], []), (30, [.inr (.inl 4)], [.inr (.inl 26)])]) (P := [(0, .inr (.inl 6), .inl (.int 0)), (6, .inr (.inl 4), .inl (.ref 403)), (1, .inr (.inl 70), .inl (.int 6)), (0, .inr (.inl 6), .inl (.int 0)), (6, .inr (.inl 4), .inl (.ref 403)), (1, .inr (.inl 71), .inl (.int 2)), (0, .inr (.inl 6), .inl (.int 0)), (6, .inr (.inl 4), .inl (.ref 403)), (3, .inr (.inl 72), .inl (.int 34)), (6, .inr (.inl 4), .inl (.ref 403)), (3, .inl (.int 42), .inr (.inl 73)), (6, .inr (.inl 4), .inl (.ref 403)), (6, .inr (.inl 15), .inl (.ref 840)), (6, .inr (.inl 15), .inl (.ref 840)), (0, .inr (.inl 4), .inl (.int 400)), (4, .inr (.inl 6), .inl (.int 0)), (6, .inr (.inl 4), .inl (.ref 403))]) jm_ok164 (by decide +kernel) (by decide +kernel) hd F X1 X2 (fun F' hF hs => ?_)
  have b6 := hd_b (F := F) (F' := F') (k := 6) (hF 6 (by decide))
  have b4 := hd_b (F := F) (F' := F') (k := 4) (hF 4 (by decide))
  have a25 := hd_ba (F := F) (F' := F') (k := 25) (hF 25 (by decide))
  have t70 : sy_dv F' (.inr (.inl 70)) = .int ((sy_ai F 25).getD (sy_i F 4).toNatClampNeg 0) := hd_rd (hs 0 _ rfl) b4 a25
  have t71 : sy_dv F' (.inr (.inl 71)) = .int ((sy_ai F 25).getD (sy_i F 4).toNatClampNeg 0) := hd_rd (hs 1 _ rfl) b4 a25
  have t72 : sy_dv F' (.inr (.inl 72)) = .int ((sy_ai F 25).getD (sy_i F 4).toNatClampNeg 0) := hd_rd (hs 2 _ rfl) b4 a25
  have t73 : sy_dv F' (.inr (.inl 73)) = .int ((sy_ai F 25).getD (sy_i F 4).toNatClampNeg 0) := hd_rd (hs 3 _ rfl) b4 a25
  have b15 := hd_b (F := F) (F' := F') (k := 15) (hF 15 (by decide))
  have a26 := hd_ba (F := F) (F' := F') (k := 26) (hF 26 (by decide))
  have t79 : sy_dv F' (.inr (.inl 79)) = .int ((sy_ai F 26).getD (sy_i F 4).toNatClampNeg 0) := hd_rd (hs 9 _ rfl) b4 a26
  have t78 : sy_dv F' (.inr (.inl 78)) = .int ((sy_i F 15) + ((1 : Int32))) := hd_o (hs 8 _ rfl) b15 rfl rfl
  have a49 := hd_ba (F := F) (F' := F') (k := 49) (hF 49 (by decide))
  have t76 : sy_da F' (.inr (.inl 76)) = .inl (jm_upd (sy_ai F 49) (sy_i F 15).toNatClampNeg ((1 : Int32))) := hd_up (hs 6 _ rfl) b15 rfl a49
  have t74 : sy_dv F' (.inr (.inl 74)) = .int ((sy_ai F 25).getD (sy_i F 4).toNatClampNeg 0) := hd_rd (hs 4 _ rfl) b4 a25
  have t75 : sy_dv F' (.inr (.inl 75)) = .int (((sy_ai F 25).getD (sy_i F 4).toNatClampNeg 0) - ((34 : Int32))) := hd_o (hs 5 _ rfl) t74 rfl rfl
  have a50 := hd_ba (F := F) (F' := F') (k := 50) (hF 50 (by decide))
  have t77 : sy_da F' (.inr (.inl 77)) = .inl (jm_upd (sy_ai F 50) (sy_i F 15).toNatClampNeg (((sy_ai F 25).getD (sy_i F 4).toNatClampNeg 0) - ((34 : Int32)))) := hd_up (hs 7 _ rfl) b15 t75 a50
  have hB' : iv_in F' iv_B4 := iv_in_eq hB (fun j hj => hF j (Nat.lt_of_lt_of_le hj (by decide +kernel)))
  refine ⟨List.forall_mem_cons.mpr ⟨hd_p0 b6 rfl (by have hc : ((0) : Int32).toInt = 0 := (by decide); omega), List.forall_mem_cons.mpr ⟨hd_pb b4 (by first | exact h1 | exact h1), List.forall_mem_cons.mpr ⟨hd_p1 t70 rfl (by have hc : ((6) : Int32).toInt = 6 := (by decide); omega), List.forall_mem_cons.mpr ⟨hd_p0 b6 rfl (by have hc : ((0) : Int32).toInt = 0 := (by decide); omega), List.forall_mem_cons.mpr ⟨hd_pb b4 (by first | exact h4 | exact h4), List.forall_mem_cons.mpr ⟨hd_p1 t71 rfl (by have hc : ((2) : Int32).toInt = 2 := (by decide); omega), List.forall_mem_cons.mpr ⟨hd_p0 b6 rfl (by have hc : ((0) : Int32).toInt = 0 := (by decide); omega), List.forall_mem_cons.mpr ⟨hd_pb b4 (by first | exact h7 | exact h7), List.forall_mem_cons.mpr ⟨hd_p3 t72 rfl (by have hc : ((34) : Int32).toInt = 34 := (by decide); omega), List.forall_mem_cons.mpr ⟨hd_pb b4 (by first | exact h9 | exact h9), List.forall_mem_cons.mpr ⟨hd_p3 rfl t73 (by have hc : ((42) : Int32).toInt = 42 := (by decide); omega), List.forall_mem_cons.mpr ⟨hd_pb b4 (by first | exact h11 | exact h11), List.forall_mem_cons.mpr ⟨hd_pb b15 (by first | exact h12 | exact h12), List.forall_mem_cons.mpr ⟨hd_pb b15 (by first | exact h13 | exact h13), List.forall_mem_cons.mpr ⟨hd_p0 b4 rfl (by have hc : ((400) : Int32).toInt = 400 := (by decide); omega), List.forall_mem_cons.mpr ⟨hd_p4 b6 rfl (by have hc : ((0) : Int32).toInt = 0 := (by decide); omega), List.forall_mem_cons.mpr ⟨hd_pb b4 (by first | exact h16 | exact h16), fun _ h => absurd h List.not_mem_nil⟩⟩⟩⟩⟩⟩⟩⟩⟩⟩⟩⟩⟩⟩⟩⟩⟩, ?_⟩
  refine k _ ?_ ?_ ?_ ?_ ?_ ?_
  · exact fun j hj hn => (hd_keep hB' (Nat.lt_of_lt_of_le hj (by decide +kernel)) (by simp; omega)).trans (hF j (by omega))
  · exact hd_gi (x := .inl (.int 2)) (by decide +kernel) rfl
  · exact hd_gi (x := .inr (.inl 79)) (by decide +kernel) t79
  · exact hd_gi (x := .inr (.inl 78)) (by decide +kernel) t78
  · exact hd_ga (a := .inr (.inl 76)) (by decide +kernel) t76
  · exact hd_ga (a := .inr (.inl 77)) (by decide +kernel) t77
theorem ex_23_p4 {Ls : Nat} {xs : Nat → Int32} {d : Nat} {Q : Option Value → jm_h → Prop} (hd : 4 ≤ d) (F : Nat → sy_d) (X1 X2 : List jm_c) (hB : iv_in F iv_B4)
    (h0 : (sy_i F 6).toInt = 0)
    (h1 : 0 ≤ (sy_i F 4).toInt ∧ (sy_i F 4).toInt < 403)
    (h2 : ((sy_ai F 25).getD (sy_i F 4).toNatClampNeg 0).toInt ≠ 6)
    (h3 : (sy_i F 6).toInt = 0)
    (h4 : 0 ≤ (sy_i F 4).toInt ∧ (sy_i F 4).toInt < 403)
    (h5 : ((sy_ai F 25).getD (sy_i F 4).toNatClampNeg 0).toInt = 2)
    (h6 : 0 ≤ (sy_i F 4).toInt ∧ (sy_i F 4).toInt < 403)
    (h7 : 0 ≤ (sy_i F 15).toInt ∧ (sy_i F 15).toInt < 840)
    (h8 : 0 ≤ (sy_i F 15).toInt ∧ (sy_i F 15).toInt < 840)
    (h9 : (sy_i F 4).toInt ≠ 400)
    (h10 : (sy_i F 6).toInt ≤ 0)
    (k : ∀ F1 : Nat → sy_d, (∀ j, j < 69 → j ≠ 4 ∧ j ≠ 15 ∧ j ≠ 49 ∧ j ≠ 50 → F1 j = F j) → F1 4 = .inl (.int ((sy_i F 4) + ((1 : Int32)))) → F1 15 = .inl (.int ((sy_i F 15) + ((1 : Int32)))) → F1 49 = .inr (.inl (jm_upd (sy_ai F 49) (sy_i F 15).toNatClampNeg ((0 : Int32)))) → F1 50 = .inr (.inl (jm_upd (sy_ai F 50) (sy_i F 15).toNatClampNeg ((sy_ai F 27).getD (sy_i F 4).toNatClampNeg 0))) → F1 69 = .inl (.int (sy_i F 69)) → hd_W Ls xs d jm_M164 Q (96, sy_dL F1 [some (.inl (.ref 1000)), some (.inr (.inl 69)), some (.inl (.int 1))], sy_dS F1 [], sy_dh F1 X1 X2 (iv_H 4), 0, 0)) :
    hd_W Ls xs d jm_M164 Q (23, sy_dL F [some (.inl (.ref 1000)), some (.inr (.inl 69)), some (.inl (.int 1))], sy_dS F [], sy_dh F X1 X2 (iv_H 4), 0, 0) := by
  refine hd_run (s := 4) (nv := 70) (pc := 96) (L := [some (.inl (.ref 1000)), some (.inr (.inl 69)), some (.inl (.int 1))]) (S := []) (uh := hd_ov (iv_id 0 iv_B4) [(4, .inl (.inr (.inl 76))), (15, .inl (.inr (.inl 75))), (49, .inr (.inr (.inl 73))), (50, .inr (.inr (.inl 74)))]) (ul := [.inl (.inr (.inl 69))]) (f := true) (sp := [23, 96]) (d0 := 3) (O := [false, true, false, false, true, true]) (T := [(30, [.inr (.inl 4)], [.inr (.inl 25)]), (30, [.inr (.inl 4)], [.inr (.inl 25)]), (30, [.inr (.inl 4)], [.inr (.inl 27)]), (40, [.inr (.inl 15), .inl (.int 0)], [.inr (.inl 49)]), (40, [.inr (.inl 15), .inr (.inl 72)], [.inr (.inl 50)]), (0, [.inr (.inl 15), .inl (.int 1)], []), (0, [.inr (.inl 4), .inl (.int 1)], [])]) (P := [(0, .inr (.inl 6), .inl (.int 0)), (6, .inr (.inl 4), .inl (.ref 403)), (1, .inr (.inl 70), .inl (.int 6)), (0, .inr (.inl 6), .inl (.int 0)), (6, .inr (.inl 4), .inl (.ref 403)), (0, .inr (.inl 71), .inl (.int 2)), (6, .inr (.inl 4), .inl (.ref 403)), (6, .inr (.inl 15), .inl (.ref 840)), (6, .inr (.inl 15), .inl (.ref 840)), (1, .inr (.inl 4), .inl (.int 400)), (4, .inr (.inl 6), .inl (.int 0))]) jm_ok164 (by decide +kernel) (by decide +kernel) hd F X1 X2 (fun F' hF hs => ?_)
  have b6 := hd_b (F := F) (F' := F') (k := 6) (hF 6 (by decide))
  have b4 := hd_b (F := F) (F' := F') (k := 4) (hF 4 (by decide))
  have a25 := hd_ba (F := F) (F' := F') (k := 25) (hF 25 (by decide))
  have t70 : sy_dv F' (.inr (.inl 70)) = .int ((sy_ai F 25).getD (sy_i F 4).toNatClampNeg 0) := hd_rd (hs 0 _ rfl) b4 a25
  have t71 : sy_dv F' (.inr (.inl 71)) = .int ((sy_ai F 25).getD (sy_i F 4).toNatClampNeg 0) := hd_rd (hs 1 _ rfl) b4 a25
  have b15 := hd_b (F := F) (F' := F') (k := 15) (hF 15 (by decide))
  have t76 : sy_dv F' (.inr (.inl 76)) = .int ((sy_i F 4) + ((1 : Int32))) := hd_o (hs 6 _ rfl) b4 rfl rfl
  have t75 : sy_dv F' (.inr (.inl 75)) = .int ((sy_i F 15) + ((1 : Int32))) := hd_o (hs 5 _ rfl) b15 rfl rfl
  have a49 := hd_ba (F := F) (F' := F') (k := 49) (hF 49 (by decide))
  have t73 : sy_da F' (.inr (.inl 73)) = .inl (jm_upd (sy_ai F 49) (sy_i F 15).toNatClampNeg ((0 : Int32))) := hd_up (hs 3 _ rfl) b15 rfl a49
  have a27 := hd_ba (F := F) (F' := F') (k := 27) (hF 27 (by decide))
  have t72 : sy_dv F' (.inr (.inl 72)) = .int ((sy_ai F 27).getD (sy_i F 4).toNatClampNeg 0) := hd_rd (hs 2 _ rfl) b4 a27
  have a50 := hd_ba (F := F) (F' := F') (k := 50) (hF 50 (by decide))
  have t74 : sy_da F' (.inr (.inl 74)) = .inl (jm_upd (sy_ai F 50) (sy_i F 15).toNatClampNeg ((sy_ai F 27).getD (sy_i F 4).toNatClampNeg 0)) := hd_up (hs 4 _ rfl) b15 t72 a50
  have b69 := hd_b (F := F) (F' := F') (k := 69) (hF 69 (by decide))
  have hB' : iv_in F' iv_B4 := iv_in_eq hB (fun j hj => hF j (Nat.lt_of_lt_of_le hj (by decide +kernel)))
  refine ⟨List.forall_mem_cons.mpr ⟨hd_p0 b6 rfl (by have hc : ((0) : Int32).toInt = 0 := (by decide); omega), List.forall_mem_cons.mpr ⟨hd_pb b4 (by first | exact h1 | exact h1), List.forall_mem_cons.mpr ⟨hd_p1 t70 rfl (by have hc : ((6) : Int32).toInt = 6 := (by decide); omega), List.forall_mem_cons.mpr ⟨hd_p0 b6 rfl (by have hc : ((0) : Int32).toInt = 0 := (by decide); omega), List.forall_mem_cons.mpr ⟨hd_pb b4 (by first | exact h4 | exact h4), List.forall_mem_cons.mpr ⟨hd_p0 t71 rfl (by have hc : ((2) : Int32).toInt = 2 := (by decide); omega), List.forall_mem_cons.mpr ⟨hd_pb b4 (by first | exact h6 | exact h6), List.forall_mem_cons.mpr ⟨hd_pb b15 (by first | exact h7 | exact h7), List.forall_mem_cons.mpr ⟨hd_pb b15 (by first | exact h8 | exact h8), List.forall_mem_cons.mpr ⟨hd_p1 b4 rfl (by have hc : ((400) : Int32).toInt = 400 := (by decide); omega), List.forall_mem_cons.mpr ⟨hd_p4 b6 rfl (by have hc : ((0) : Int32).toInt = 0 := (by decide); omega), fun _ h => absurd h List.not_mem_nil⟩⟩⟩⟩⟩⟩⟩⟩⟩⟩⟩, ?_⟩
  refine k _ ?_ ?_ ?_ ?_ ?_ ?_
  · exact fun j hj hn => (hd_keep hB' (Nat.lt_of_lt_of_le hj (by decide +kernel)) (by simp; omega)).trans (hF j (by omega))
  · exact hd_gi (x := .inr (.inl 76)) (by decide +kernel) t76
  · exact hd_gi (x := .inr (.inl 75)) (by decide +kernel) t75
  · exact hd_ga (a := .inr (.inl 73)) (by decide +kernel) t73
  · exact hd_ga (a := .inr (.inl 74)) (by decide +kernel) t74
  · exact hd_gi (x := .inr (.inl 69)) (by decide +kernel) b69
theorem ex_23_p5 {Ls : Nat} {xs : Nat → Int32} {d : Nat} {Q : Option Value → jm_h → Prop} (hd : 4 ≤ d) (F : Nat → sy_d) (X1 X2 : List jm_c) (hB : iv_in F iv_B4)
    (h0 : (sy_i F 6).toInt = 0)
    (h1 : 0 ≤ (sy_i F 4).toInt ∧ (sy_i F 4).toInt < 403)
    (h2 : ((sy_ai F 25).getD (sy_i F 4).toNatClampNeg 0).toInt ≠ 6)
    (h3 : (sy_i F 6).toInt = 0)
    (h4 : 0 ≤ (sy_i F 4).toInt ∧ (sy_i F 4).toInt < 403)
    (h5 : ((sy_ai F 25).getD (sy_i F 4).toNatClampNeg 0).toInt = 2)
    (h6 : 0 ≤ (sy_i F 4).toInt ∧ (sy_i F 4).toInt < 403)
    (h7 : 0 ≤ (sy_i F 15).toInt ∧ (sy_i F 15).toInt < 840)
    (h8 : 0 ≤ (sy_i F 15).toInt ∧ (sy_i F 15).toInt < 840)
    (h9 : (sy_i F 4).toInt = 400)
    (h10 : (sy_i F 6).toInt ≤ 0)
    (h11 : 0 ≤ (sy_i F 4).toInt ∧ (sy_i F 4).toInt < 403)
    (k : ∀ F1 : Nat → sy_d, (∀ j, j < 69 → j ≠ 6 ∧ j ≠ 7 ∧ j ≠ 15 ∧ j ≠ 49 ∧ j ≠ 50 → F1 j = F j) → F1 6 = .inl (.int ((2 : Int32))) → F1 7 = .inl (.int ((sy_ai F 26).getD (sy_i F 4).toNatClampNeg 0)) → F1 15 = .inl (.int ((sy_i F 15) + ((1 : Int32)))) → F1 49 = .inr (.inl (jm_upd (sy_ai F 49) (sy_i F 15).toNatClampNeg ((0 : Int32)))) → F1 50 = .inr (.inl (jm_upd (sy_ai F 50) (sy_i F 15).toNatClampNeg ((sy_ai F 27).getD (sy_i F 4).toNatClampNeg 0))) → Q (none) (sy_dh F1 X1 X2 (iv_H 4))) :
    hd_W Ls xs d jm_M164 Q (23, sy_dL F [some (.inl (.ref 1000)), some (.inr (.inl 69)), some (.inl (.int 1))], sy_dS F [], sy_dh F X1 X2 (iv_H 4), 0, 0) := by
  refine hd_ret (s := 4) (nv := 70) (v := none) (uh := hd_ov (iv_id 0 iv_B4) [(6, .inl (.inl (.int 2))), (7, .inl (.inr (.inl 76))), (15, .inl (.inr (.inl 75))), (49, .inr (.inr (.inl 73))), (50, .inr (.inr (.inl 74)))]) (f := true) (sp := [23, 96]) (d0 := 3) (O := [false, true, false, false, false, true]) (T := [(30, [.inr (.inl 4)], [.inr (.inl 25)]), (30, [.inr (.inl 4)], [.inr (.inl 25)]), (30, [.inr (.inl 4)], [.inr (.inl 27)]), (40, [.inr (.inl 15), .inl (.int 0)], [.inr (.inl 49)]), (40, [.inr (.inl 15), .inr (.inl 72)], [.inr (.inl 50)]), (0, [.inr (.inl 15), .inl (.int 1)], []), (30, [.inr (.inl 4)], [.inr (.inl 26)])]) (P := [(0, .inr (.inl 6), .inl (.int 0)), (6, .inr (.inl 4), .inl (.ref 403)), (1, .inr (.inl 70), .inl (.int 6)), (0, .inr (.inl 6), .inl (.int 0)), (6, .inr (.inl 4), .inl (.ref 403)), (0, .inr (.inl 71), .inl (.int 2)), (6, .inr (.inl 4), .inl (.ref 403)), (6, .inr (.inl 15), .inl (.ref 840)), (6, .inr (.inl 15), .inl (.ref 840)), (0, .inr (.inl 4), .inl (.int 400)), (4, .inr (.inl 6), .inl (.int 0)), (6, .inr (.inl 4), .inl (.ref 403))]) jm_ok164 (by decide +kernel) (by decide +kernel) hd F X1 X2 (fun F' hF hs => ?_)
  have b6 := hd_b (F := F) (F' := F') (k := 6) (hF 6 (by decide))
  have b4 := hd_b (F := F) (F' := F') (k := 4) (hF 4 (by decide))
  have a25 := hd_ba (F := F) (F' := F') (k := 25) (hF 25 (by decide))
  have t70 : sy_dv F' (.inr (.inl 70)) = .int ((sy_ai F 25).getD (sy_i F 4).toNatClampNeg 0) := hd_rd (hs 0 _ rfl) b4 a25
  have t71 : sy_dv F' (.inr (.inl 71)) = .int ((sy_ai F 25).getD (sy_i F 4).toNatClampNeg 0) := hd_rd (hs 1 _ rfl) b4 a25
  have b15 := hd_b (F := F) (F' := F') (k := 15) (hF 15 (by decide))
  have a26 := hd_ba (F := F) (F' := F') (k := 26) (hF 26 (by decide))
  have t76 : sy_dv F' (.inr (.inl 76)) = .int ((sy_ai F 26).getD (sy_i F 4).toNatClampNeg 0) := hd_rd (hs 6 _ rfl) b4 a26
  have t75 : sy_dv F' (.inr (.inl 75)) = .int ((sy_i F 15) + ((1 : Int32))) := hd_o (hs 5 _ rfl) b15 rfl rfl
  have a49 := hd_ba (F := F) (F' := F') (k := 49) (hF 49 (by decide))
  have t73 : sy_da F' (.inr (.inl 73)) = .inl (jm_upd (sy_ai F 49) (sy_i F 15).toNatClampNeg ((0 : Int32))) := hd_up (hs 3 _ rfl) b15 rfl a49
  have a27 := hd_ba (F := F) (F' := F') (k := 27) (hF 27 (by decide))
  have t72 : sy_dv F' (.inr (.inl 72)) = .int ((sy_ai F 27).getD (sy_i F 4).toNatClampNeg 0) := hd_rd (hs 2 _ rfl) b4 a27
  have a50 := hd_ba (F := F) (F' := F') (k := 50) (hF 50 (by decide))
  have t74 : sy_da F' (.inr (.inl 74)) = .inl (jm_upd (sy_ai F 50) (sy_i F 15).toNatClampNeg ((sy_ai F 27).getD (sy_i F 4).toNatClampNeg 0)) := hd_up (hs 4 _ rfl) b15 t72 a50
  have hB' : iv_in F' iv_B4 := iv_in_eq hB (fun j hj => hF j (Nat.lt_of_lt_of_le hj (by decide +kernel)))
  refine ⟨List.forall_mem_cons.mpr ⟨hd_p0 b6 rfl (by have hc : ((0) : Int32).toInt = 0 := (by decide); omega), List.forall_mem_cons.mpr ⟨hd_pb b4 (by first | exact h1 | exact h1), List.forall_mem_cons.mpr ⟨hd_p1 t70 rfl (by have hc : ((6) : Int32).toInt = 6 := (by decide); omega), List.forall_mem_cons.mpr ⟨hd_p0 b6 rfl (by have hc : ((0) : Int32).toInt = 0 := (by decide); omega), List.forall_mem_cons.mpr ⟨hd_pb b4 (by first | exact h4 | exact h4), List.forall_mem_cons.mpr ⟨hd_p0 t71 rfl (by have hc : ((2) : Int32).toInt = 2 := (by decide); omega), List.forall_mem_cons.mpr ⟨hd_pb b4 (by first | exact h6 | exact h6), List.forall_mem_cons.mpr ⟨hd_pb b15 (by first | exact h7 | exact h7), List.forall_mem_cons.mpr ⟨hd_pb b15 (by first | exact h8 | exact h8), List.forall_mem_cons.mpr ⟨hd_p0 b4 rfl (by have hc : ((400) : Int32).toInt = 400 := (by decide); omega), List.forall_mem_cons.mpr ⟨hd_p4 b6 rfl (by have hc : ((0) : Int32).toInt = 0 := (by decide); omega), List.forall_mem_cons.mpr ⟨hd_pb b4 (by first | exact h11 | exact h11), fun _ h => absurd h List.not_mem_nil⟩⟩⟩⟩⟩⟩⟩⟩⟩⟩⟩⟩, ?_⟩
  refine k _ ?_ ?_ ?_ ?_ ?_ ?_
  · exact fun j hj hn => (hd_keep hB' (Nat.lt_of_lt_of_le hj (by decide +kernel)) (by simp; omega)).trans (hF j (by omega))
  · exact hd_gi (x := .inl (.int 2)) (by decide +kernel) rfl
  · exact hd_gi (x := .inr (.inl 76)) (by decide +kernel) t76
  · exact hd_gi (x := .inr (.inl 75)) (by decide +kernel) t75
  · exact hd_ga (a := .inr (.inl 73)) (by decide +kernel) t73
  · exact hd_ga (a := .inr (.inl 74)) (by decide +kernel) t74
theorem ex_23_p6 {Ls : Nat} {xs : Nat → Int32} {d : Nat} {Q : Option Value → jm_h → Prop} (hd : 4 ≤ d) (F : Nat → sy_d) (X1 X2 : List jm_c) (hB : iv_in F iv_B4)
    (h0 : (sy_i F 6).toInt = 0)
    (h1 : 0 ≤ (sy_i F 4).toInt ∧ (sy_i F 4).toInt < 403)
    (h2 : ((sy_ai F 25).getD (sy_i F 4).toNatClampNeg 0).toInt = 6)
    (h3 : (sy_i F 5).toInt ≠ 6)
    (h4 : (sy_i F 4).toInt ≠ 400)
    (h5 : 0 ≤ (sy_i F 16).toInt ∧ (sy_i F 16).toInt < 64)
    (k : ∀ F1 : Nat → sy_d, (∀ j, j < 69 → j ≠ 4 ∧ j ≠ 5 ∧ j ≠ 16 ∧ j ≠ 51 → F1 j = F j) → F1 4 = .inl (.int ((sy_i F 4) + ((1 : Int32)))) → F1 5 = .inl (.int ((sy_i F 5) + ((1 : Int32)))) → F1 16 = .inl (.int ((sy_i F 16) + ((1 : Int32)))) → F1 51 = .inr (.inl (jm_upd (sy_ai F 51) (sy_i F 16).toNatClampNeg ((6 : Int32)))) → F1 69 = .inl (.int (sy_i F 69)) → hd_W Ls xs d jm_M164 Q (23, sy_dL F1 [some (.inl (.ref 1000)), some (.inr (.inl 69)), some (.inl (.int 1))], sy_dS F1 [], sy_dh F1 X1 X2 (iv_H 4), 0, 0)) :
    hd_W Ls xs d jm_M164 Q (23, sy_dL F [some (.inl (.ref 1000)), some (.inr (.inl 69)), some (.inl (.int 1))], sy_dS F [], sy_dh F X1 X2 (iv_H 4), 0, 0) := by
  refine hd_run (s := 4) (nv := 70) (pc := 23) (L := [some (.inl (.ref 1000)), some (.inr (.inl 69)), some (.inl (.int 1))]) (S := []) (uh := hd_ov (iv_id 0 iv_B4) [(4, .inl (.inr (.inl 72))), (5, .inl (.inr (.inl 71))), (16, .inl (.inr (.inl 74))), (51, .inr (.inr (.inl 73)))]) (ul := [.inl (.inr (.inl 69))]) (f := true) (sp := [23, 96]) (d0 := 3) (O := [false, false, true, true]) (T := [(30, [.inr (.inl 4)], [.inr (.inl 25)]), (0, [.inr (.inl 5), .inl (.int 1)], []), (0, [.inr (.inl 4), .inl (.int 1)], []), (40, [.inr (.inl 16), .inl (.int 6)], [.inr (.inl 51)]), (0, [.inr (.inl 16), .inl (.int 1)], [])]) (P := [(0, .inr (.inl 6), .inl (.int 0)), (6, .inr (.inl 4), .inl (.ref 403)), (0, .inr (.inl 70), .inl (.int 6)), (1, .inr (.inl 5), .inl (.int 6)), (1, .inr (.inl 4), .inl (.int 400)), (6, .inr (.inl 16), .inl (.ref 64))]) jm_ok164 (by decide +kernel) (by decide +kernel) hd F X1 X2 (fun F' hF hs => ?_)
  have b6 := hd_b (F := F) (F' := F') (k := 6) (hF 6 (by decide))
  have b4 := hd_b (F := F) (F' := F') (k := 4) (hF 4 (by decide))
  have a25 := hd_ba (F := F) (F' := F') (k := 25) (hF 25 (by decide))
  have t70 : sy_dv F' (.inr (.inl 70)) = .int ((sy_ai F 25).getD (sy_i F 4).toNatClampNeg 0) := hd_rd (hs 0 _ rfl) b4 a25
  have b5 := hd_b (F := F) (F' := F') (k := 5) (hF 5 (by decide))
  have b16 := hd_b (F := F) (F' := F') (k := 16) (hF 16 (by decide))
  have t72 : sy_dv F' (.inr (.inl 72)) = .int ((sy_i F 4) + ((1 : Int32))) := hd_o (hs 2 _ rfl) b4 rfl rfl
  have t71 : sy_dv F' (.inr (.inl 71)) = .int ((sy_i F 5) + ((1 : Int32))) := hd_o (hs 1 _ rfl) b5 rfl rfl
  have t74 : sy_dv F' (.inr (.inl 74)) = .int ((sy_i F 16) + ((1 : Int32))) := hd_o (hs 4 _ rfl) b16 rfl rfl
  have a51 := hd_ba (F := F) (F' := F') (k := 51) (hF 51 (by decide))
  have t73 : sy_da F' (.inr (.inl 73)) = .inl (jm_upd (sy_ai F 51) (sy_i F 16).toNatClampNeg ((6 : Int32))) := hd_up (hs 3 _ rfl) b16 rfl a51
  have b69 := hd_b (F := F) (F' := F') (k := 69) (hF 69 (by decide))
  have hB' : iv_in F' iv_B4 := iv_in_eq hB (fun j hj => hF j (Nat.lt_of_lt_of_le hj (by decide +kernel)))
  refine ⟨List.forall_mem_cons.mpr ⟨hd_p0 b6 rfl (by have hc : ((0) : Int32).toInt = 0 := (by decide); omega), List.forall_mem_cons.mpr ⟨hd_pb b4 (by first | exact h1 | exact h1), List.forall_mem_cons.mpr ⟨hd_p0 t70 rfl (by have hc : ((6) : Int32).toInt = 6 := (by decide); omega), List.forall_mem_cons.mpr ⟨hd_p1 b5 rfl (by have hc : ((6) : Int32).toInt = 6 := (by decide); omega), List.forall_mem_cons.mpr ⟨hd_p1 b4 rfl (by have hc : ((400) : Int32).toInt = 400 := (by decide); omega), List.forall_mem_cons.mpr ⟨hd_pb b16 (by first | exact h5 | exact h5), fun _ h => absurd h List.not_mem_nil⟩⟩⟩⟩⟩⟩, ?_⟩
  refine k _ ?_ ?_ ?_ ?_ ?_ ?_
  · exact fun j hj hn => (hd_keep hB' (Nat.lt_of_lt_of_le hj (by decide +kernel)) (by simp; omega)).trans (hF j (by omega))
  · exact hd_gi (x := .inr (.inl 72)) (by decide +kernel) t72
  · exact hd_gi (x := .inr (.inl 71)) (by decide +kernel) t71
  · exact hd_gi (x := .inr (.inl 74)) (by decide +kernel) t74
  · exact hd_ga (a := .inr (.inl 73)) (by decide +kernel) t73
  · exact hd_gi (x := .inr (.inl 69)) (by decide +kernel) b69
theorem ex_23_p7 {Ls : Nat} {xs : Nat → Int32} {d : Nat} {Q : Option Value → jm_h → Prop} (hd : 4 ≤ d) (F : Nat → sy_d) (X1 X2 : List jm_c) (hB : iv_in F iv_B4)
    (h0 : (sy_i F 6).toInt = 0)
    (h1 : 0 ≤ (sy_i F 4).toInt ∧ (sy_i F 4).toInt < 403)
    (h2 : ((sy_ai F 25).getD (sy_i F 4).toNatClampNeg 0).toInt = 6)
    (h3 : (sy_i F 5).toInt ≠ 6)
    (h4 : (sy_i F 4).toInt = 400)
    (h5 : (sy_i F 6).toInt ≤ 0)
    (h6 : 0 ≤ (sy_i F 4).toInt ∧ (sy_i F 4).toInt < 403)
    (h7 : 0 ≤ (sy_i F 16).toInt ∧ (sy_i F 16).toInt < 64)
    (k : ∀ F1 : Nat → sy_d, (∀ j, j < 69 → j ≠ 5 ∧ j ≠ 6 ∧ j ≠ 7 ∧ j ≠ 16 ∧ j ≠ 51 → F1 j = F j) → F1 5 = .inl (.int ((sy_i F 5) + ((1 : Int32)))) → F1 6 = .inl (.int ((2 : Int32))) → F1 7 = .inl (.int ((sy_ai F 26).getD (sy_i F 4).toNatClampNeg 0)) → F1 16 = .inl (.int ((sy_i F 16) + ((1 : Int32)))) → F1 51 = .inr (.inl (jm_upd (sy_ai F 51) (sy_i F 16).toNatClampNeg ((6 : Int32)))) → F1 69 = .inl (.int (sy_i F 69)) → hd_W Ls xs d jm_M164 Q (23, sy_dL F1 [some (.inl (.ref 1000)), some (.inr (.inl 69)), some (.inl (.int 1))], sy_dS F1 [], sy_dh F1 X1 X2 (iv_H 4), 0, 0)) :
    hd_W Ls xs d jm_M164 Q (23, sy_dL F [some (.inl (.ref 1000)), some (.inr (.inl 69)), some (.inl (.int 1))], sy_dS F [], sy_dh F X1 X2 (iv_H 4), 0, 0) := by
  refine hd_run (s := 4) (nv := 70) (pc := 23) (L := [some (.inl (.ref 1000)), some (.inr (.inl 69)), some (.inl (.int 1))]) (S := []) (uh := hd_ov (iv_id 0 iv_B4) [(5, .inl (.inr (.inl 71))), (6, .inl (.inl (.int 2))), (7, .inl (.inr (.inl 72))), (16, .inl (.inr (.inl 74))), (51, .inr (.inr (.inl 73)))]) (ul := [.inl (.inr (.inl 69))]) (f := true) (sp := [23, 96]) (d0 := 3) (O := [false, false, true, false, true]) (T := [(30, [.inr (.inl 4)], [.inr (.inl 25)]), (0, [.inr (.inl 5), .inl (.int 1)], []), (30, [.inr (.inl 4)], [.inr (.inl 26)]), (40, [.inr (.inl 16), .inl (.int 6)], [.inr (.inl 51)]), (0, [.inr (.inl 16), .inl (.int 1)], [])]) (P := [(0, .inr (.inl 6), .inl (.int 0)), (6, .inr (.inl 4), .inl (.ref 403)), (0, .inr (.inl 70), .inl (.int 6)), (1, .inr (.inl 5), .inl (.int 6)), (0, .inr (.inl 4), .inl (.int 400)), (4, .inr (.inl 6), .inl (.int 0)), (6, .inr (.inl 4), .inl (.ref 403)), (6, .inr (.inl 16), .inl (.ref 64))]) jm_ok164 (by decide +kernel) (by decide +kernel) hd F X1 X2 (fun F' hF hs => ?_)
  have b6 := hd_b (F := F) (F' := F') (k := 6) (hF 6 (by decide))
  have b4 := hd_b (F := F) (F' := F') (k := 4) (hF 4 (by decide))
  have a25 := hd_ba (F := F) (F' := F') (k := 25) (hF 25 (by decide))
  have t70 : sy_dv F' (.inr (.inl 70)) = .int ((sy_ai F 25).getD (sy_i F 4).toNatClampNeg 0) := hd_rd (hs 0 _ rfl) b4 a25
  have b5 := hd_b (F := F) (F' := F') (k := 5) (hF 5 (by decide))
  have b16 := hd_b (F := F) (F' := F') (k := 16) (hF 16 (by decide))
  have t71 : sy_dv F' (.inr (.inl 71)) = .int ((sy_i F 5) + ((1 : Int32))) := hd_o (hs 1 _ rfl) b5 rfl rfl
  have a26 := hd_ba (F := F) (F' := F') (k := 26) (hF 26 (by decide))
  have t72 : sy_dv F' (.inr (.inl 72)) = .int ((sy_ai F 26).getD (sy_i F 4).toNatClampNeg 0) := hd_rd (hs 2 _ rfl) b4 a26
  have t74 : sy_dv F' (.inr (.inl 74)) = .int ((sy_i F 16) + ((1 : Int32))) := hd_o (hs 4 _ rfl) b16 rfl rfl
  have a51 := hd_ba (F := F) (F' := F') (k := 51) (hF 51 (by decide))
  have t73 : sy_da F' (.inr (.inl 73)) = .inl (jm_upd (sy_ai F 51) (sy_i F 16).toNatClampNeg ((6 : Int32))) := hd_up (hs 3 _ rfl) b16 rfl a51
  have b69 := hd_b (F := F) (F' := F') (k := 69) (hF 69 (by decide))
  have hB' : iv_in F' iv_B4 := iv_in_eq hB (fun j hj => hF j (Nat.lt_of_lt_of_le hj (by decide +kernel)))
  refine ⟨List.forall_mem_cons.mpr ⟨hd_p0 b6 rfl (by have hc : ((0) : Int32).toInt = 0 := (by decide); omega), List.forall_mem_cons.mpr ⟨hd_pb b4 (by first | exact h1 | exact h1), List.forall_mem_cons.mpr ⟨hd_p0 t70 rfl (by have hc : ((6) : Int32).toInt = 6 := (by decide); omega), List.forall_mem_cons.mpr ⟨hd_p1 b5 rfl (by have hc : ((6) : Int32).toInt = 6 := (by decide); omega), List.forall_mem_cons.mpr ⟨hd_p0 b4 rfl (by have hc : ((400) : Int32).toInt = 400 := (by decide); omega), List.forall_mem_cons.mpr ⟨hd_p4 b6 rfl (by have hc : ((0) : Int32).toInt = 0 := (by decide); omega), List.forall_mem_cons.mpr ⟨hd_pb b4 (by first | exact h6 | exact h6), List.forall_mem_cons.mpr ⟨hd_pb b16 (by first | exact h7 | exact h7), fun _ h => absurd h List.not_mem_nil⟩⟩⟩⟩⟩⟩⟩⟩, ?_⟩
  refine k _ ?_ ?_ ?_ ?_ ?_ ?_ ?_
  · exact fun j hj hn => (hd_keep hB' (Nat.lt_of_lt_of_le hj (by decide +kernel)) (by simp; omega)).trans (hF j (by omega))
  · exact hd_gi (x := .inr (.inl 71)) (by decide +kernel) t71
  · exact hd_gi (x := .inl (.int 2)) (by decide +kernel) rfl
  · exact hd_gi (x := .inr (.inl 72)) (by decide +kernel) t72
  · exact hd_gi (x := .inr (.inl 74)) (by decide +kernel) t74
  · exact hd_ga (a := .inr (.inl 73)) (by decide +kernel) t73
  · exact hd_gi (x := .inr (.inl 69)) (by decide +kernel) b69
theorem ex_23_p8 {Ls : Nat} {xs : Nat → Int32} {d : Nat} {Q : Option Value → jm_h → Prop} (hd : 4 ≤ d) (F : Nat → sy_d) (X1 X2 : List jm_c) (hB : iv_in F iv_B4)
    (h0 : (sy_i F 6).toInt = 0)
    (h1 : 0 ≤ (sy_i F 4).toInt ∧ (sy_i F 4).toInt < 403)
    (h2 : ((sy_ai F 25).getD (sy_i F 4).toNatClampNeg 0).toInt = 6)
    (h3 : (sy_i F 5).toInt = 6)
    (h4 : (sy_i F 6).toInt ≤ 0)
    (h5 : 0 ≤ (sy_i F 4).toInt ∧ (sy_i F 4).toInt < 403)
    (h6 : (sy_i F 4).toInt ≠ 400)
    (h7 : 0 ≤ (sy_i F 16).toInt ∧ (sy_i F 16).toInt < 64)
    (k : ∀ F1 : Nat → sy_d, (∀ j, j < 69 → j ≠ 4 ∧ j ≠ 5 ∧ j ≠ 6 ∧ j ≠ 7 ∧ j ≠ 16 ∧ j ≠ 51 → F1 j = F j) → F1 4 = .inl (.int ((sy_i F 4) + ((1 : Int32)))) → F1 5 = .inl (.int ((sy_i F 5) + ((1 : Int32)))) → F1 6 = .inl (.int ((2 : Int32))) → F1 7 = .inl (.int ((sy_ai F 26).getD (sy_i F 4).toNatClampNeg 0)) → F1 16 = .inl (.int ((sy_i F 16) + ((1 : Int32)))) → F1 51 = .inr (.inl (jm_upd (sy_ai F 51) (sy_i F 16).toNatClampNeg ((6 : Int32)))) → F1 69 = .inl (.int (sy_i F 69)) → hd_W Ls xs d jm_M164 Q (23, sy_dL F1 [some (.inl (.ref 1000)), some (.inr (.inl 69)), some (.inl (.int 1))], sy_dS F1 [], sy_dh F1 X1 X2 (iv_H 4), 0, 0)) :
    hd_W Ls xs d jm_M164 Q (23, sy_dL F [some (.inl (.ref 1000)), some (.inr (.inl 69)), some (.inl (.int 1))], sy_dS F [], sy_dh F X1 X2 (iv_H 4), 0, 0) := by
  refine hd_run (s := 4) (nv := 70) (pc := 23) (L := [some (.inl (.ref 1000)), some (.inr (.inl 69)), some (.inl (.int 1))]) (S := []) (uh := hd_ov (iv_id 0 iv_B4) [(4, .inl (.inr (.inl 73))), (5, .inl (.inr (.inl 72))), (6, .inl (.inl (.int 2))), (7, .inl (.inr (.inl 71))), (16, .inl (.inr (.inl 75))), (51, .inr (.inr (.inl 74)))]) (ul := [.inl (.inr (.inl 69))]) (f := true) (sp := [23, 96]) (d0 := 3) (O := [false, false, false, true, true]) (T := [(30, [.inr (.inl 4)], [.inr (.inl 25)]), (30, [.inr (.inl 4)], [.inr (.inl 26)]), (0, [.inr (.inl 5), .inl (.int 1)], []), (0, [.inr (.inl 4), .inl (.int 1)], []), (40, [.inr (.inl 16), .inl (.int 6)], [.inr (.inl 51)]), (0, [.inr (.inl 16), .inl (.int 1)], [])]) (P := [(0, .inr (.inl 6), .inl (.int 0)), (6, .inr (.inl 4), .inl (.ref 403)), (0, .inr (.inl 70), .inl (.int 6)), (0, .inr (.inl 5), .inl (.int 6)), (4, .inr (.inl 6), .inl (.int 0)), (6, .inr (.inl 4), .inl (.ref 403)), (1, .inr (.inl 4), .inl (.int 400)), (6, .inr (.inl 16), .inl (.ref 64))]) jm_ok164 (by decide +kernel) (by decide +kernel) hd F X1 X2 (fun F' hF hs => ?_)
  have b6 := hd_b (F := F) (F' := F') (k := 6) (hF 6 (by decide))
  have b4 := hd_b (F := F) (F' := F') (k := 4) (hF 4 (by decide))
  have a25 := hd_ba (F := F) (F' := F') (k := 25) (hF 25 (by decide))
  have t70 : sy_dv F' (.inr (.inl 70)) = .int ((sy_ai F 25).getD (sy_i F 4).toNatClampNeg 0) := hd_rd (hs 0 _ rfl) b4 a25
  have b5 := hd_b (F := F) (F' := F') (k := 5) (hF 5 (by decide))
  have b16 := hd_b (F := F) (F' := F') (k := 16) (hF 16 (by decide))
  have t73 : sy_dv F' (.inr (.inl 73)) = .int ((sy_i F 4) + ((1 : Int32))) := hd_o (hs 3 _ rfl) b4 rfl rfl
  have t72 : sy_dv F' (.inr (.inl 72)) = .int ((sy_i F 5) + ((1 : Int32))) := hd_o (hs 2 _ rfl) b5 rfl rfl
  have a26 := hd_ba (F := F) (F' := F') (k := 26) (hF 26 (by decide))
  have t71 : sy_dv F' (.inr (.inl 71)) = .int ((sy_ai F 26).getD (sy_i F 4).toNatClampNeg 0) := hd_rd (hs 1 _ rfl) b4 a26
  have t75 : sy_dv F' (.inr (.inl 75)) = .int ((sy_i F 16) + ((1 : Int32))) := hd_o (hs 5 _ rfl) b16 rfl rfl
  have a51 := hd_ba (F := F) (F' := F') (k := 51) (hF 51 (by decide))
  have t74 : sy_da F' (.inr (.inl 74)) = .inl (jm_upd (sy_ai F 51) (sy_i F 16).toNatClampNeg ((6 : Int32))) := hd_up (hs 4 _ rfl) b16 rfl a51
  have b69 := hd_b (F := F) (F' := F') (k := 69) (hF 69 (by decide))
  have hB' : iv_in F' iv_B4 := iv_in_eq hB (fun j hj => hF j (Nat.lt_of_lt_of_le hj (by decide +kernel)))
  refine ⟨List.forall_mem_cons.mpr ⟨hd_p0 b6 rfl (by have hc : ((0) : Int32).toInt = 0 := (by decide); omega), List.forall_mem_cons.mpr ⟨hd_pb b4 (by first | exact h1 | exact h1), List.forall_mem_cons.mpr ⟨hd_p0 t70 rfl (by have hc : ((6) : Int32).toInt = 6 := (by decide); omega), List.forall_mem_cons.mpr ⟨hd_p0 b5 rfl (by have hc : ((6) : Int32).toInt = 6 := (by decide); omega), List.forall_mem_cons.mpr ⟨hd_p4 b6 rfl (by have hc : ((0) : Int32).toInt = 0 := (by decide); omega), List.forall_mem_cons.mpr ⟨hd_pb b4 (by first | exact h5 | exact h5), List.forall_mem_cons.mpr ⟨hd_p1 b4 rfl (by have hc : ((400) : Int32).toInt = 400 := (by decide); omega), List.forall_mem_cons.mpr ⟨hd_pb b16 (by first | exact h7 | exact h7), fun _ h => absurd h List.not_mem_nil⟩⟩⟩⟩⟩⟩⟩⟩, ?_⟩
  refine k _ ?_ ?_ ?_ ?_ ?_ ?_ ?_ ?_
  · exact fun j hj hn => (hd_keep hB' (Nat.lt_of_lt_of_le hj (by decide +kernel)) (by simp; omega)).trans (hF j (by omega))
  · exact hd_gi (x := .inr (.inl 73)) (by decide +kernel) t73
  · exact hd_gi (x := .inr (.inl 72)) (by decide +kernel) t72
  · exact hd_gi (x := .inl (.int 2)) (by decide +kernel) rfl
  · exact hd_gi (x := .inr (.inl 71)) (by decide +kernel) t71
  · exact hd_gi (x := .inr (.inl 75)) (by decide +kernel) t75
  · exact hd_ga (a := .inr (.inl 74)) (by decide +kernel) t74
  · exact hd_gi (x := .inr (.inl 69)) (by decide +kernel) b69
theorem ex_23_p9 {Ls : Nat} {xs : Nat → Int32} {d : Nat} {Q : Option Value → jm_h → Prop} (hd : 4 ≤ d) (F : Nat → sy_d) (X1 X2 : List jm_c) (hB : iv_in F iv_B4)
    (h0 : (sy_i F 6).toInt = 0)
    (h1 : 0 ≤ (sy_i F 4).toInt ∧ (sy_i F 4).toInt < 403)
    (h2 : ((sy_ai F 25).getD (sy_i F 4).toNatClampNeg 0).toInt = 6)
    (h3 : (sy_i F 5).toInt = 6)
    (h4 : (sy_i F 6).toInt ≤ 0)
    (h5 : 0 ≤ (sy_i F 4).toInt ∧ (sy_i F 4).toInt < 403)
    (h6 : (sy_i F 4).toInt = 400)
    (h7 : 0 ≤ (sy_i F 16).toInt ∧ (sy_i F 16).toInt < 64)
    (k : ∀ F1 : Nat → sy_d, (∀ j, j < 69 → j ≠ 5 ∧ j ≠ 6 ∧ j ≠ 7 ∧ j ≠ 16 ∧ j ≠ 51 → F1 j = F j) → F1 5 = .inl (.int ((sy_i F 5) + ((1 : Int32)))) → F1 6 = .inl (.int ((2 : Int32))) → F1 7 = .inl (.int ((sy_ai F 26).getD (sy_i F 4).toNatClampNeg 0)) → F1 16 = .inl (.int ((sy_i F 16) + ((1 : Int32)))) → F1 51 = .inr (.inl (jm_upd (sy_ai F 51) (sy_i F 16).toNatClampNeg ((6 : Int32)))) → F1 69 = .inl (.int (sy_i F 69)) → hd_W Ls xs d jm_M164 Q (23, sy_dL F1 [some (.inl (.ref 1000)), some (.inr (.inl 69)), some (.inl (.int 1))], sy_dS F1 [], sy_dh F1 X1 X2 (iv_H 4), 0, 0)) :
    hd_W Ls xs d jm_M164 Q (23, sy_dL F [some (.inl (.ref 1000)), some (.inr (.inl 69)), some (.inl (.int 1))], sy_dS F [], sy_dh F X1 X2 (iv_H 4), 0, 0) := by
  refine hd_run (s := 4) (nv := 70) (pc := 23) (L := [some (.inl (.ref 1000)), some (.inr (.inl 69)), some (.inl (.int 1))]) (S := []) (uh := hd_ov (iv_id 0 iv_B4) [(5, .inl (.inr (.inl 72))), (6, .inl (.inl (.int 2))), (7, .inl (.inr (.inl 71))), (16, .inl (.inr (.inl 74))), (51, .inr (.inr (.inl 73)))]) (ul := [.inl (.inr (.inl 69))]) (f := true) (sp := [23, 96]) (d0 := 3) (O := [false, false, false, true, false]) (T := [(30, [.inr (.inl 4)], [.inr (.inl 25)]), (30, [.inr (.inl 4)], [.inr (.inl 26)]), (0, [.inr (.inl 5), .inl (.int 1)], []), (40, [.inr (.inl 16), .inl (.int 6)], [.inr (.inl 51)]), (0, [.inr (.inl 16), .inl (.int 1)], [])]) (P := [(0, .inr (.inl 6), .inl (.int 0)), (6, .inr (.inl 4), .inl (.ref 403)), (0, .inr (.inl 70), .inl (.int 6)), (0, .inr (.inl 5), .inl (.int 6)), (4, .inr (.inl 6), .inl (.int 0)), (6, .inr (.inl 4), .inl (.ref 403)), (0, .inr (.inl 4), .inl (.int 400)), (6, .inr (.inl 16), .inl (.ref 64))]) jm_ok164 (by decide +kernel) (by decide +kernel) hd F X1 X2 (fun F' hF hs => ?_)
  have b6 := hd_b (F := F) (F' := F') (k := 6) (hF 6 (by decide))
  have b4 := hd_b (F := F) (F' := F') (k := 4) (hF 4 (by decide))
  have a25 := hd_ba (F := F) (F' := F') (k := 25) (hF 25 (by decide))
  have t70 : sy_dv F' (.inr (.inl 70)) = .int ((sy_ai F 25).getD (sy_i F 4).toNatClampNeg 0) := hd_rd (hs 0 _ rfl) b4 a25
  have b5 := hd_b (F := F) (F' := F') (k := 5) (hF 5 (by decide))
  have b16 := hd_b (F := F) (F' := F') (k := 16) (hF 16 (by decide))
  have t72 : sy_dv F' (.inr (.inl 72)) = .int ((sy_i F 5) + ((1 : Int32))) := hd_o (hs 2 _ rfl) b5 rfl rfl
  have a26 := hd_ba (F := F) (F' := F') (k := 26) (hF 26 (by decide))
  have t71 : sy_dv F' (.inr (.inl 71)) = .int ((sy_ai F 26).getD (sy_i F 4).toNatClampNeg 0) := hd_rd (hs 1 _ rfl) b4 a26
  have t74 : sy_dv F' (.inr (.inl 74)) = .int ((sy_i F 16) + ((1 : Int32))) := hd_o (hs 4 _ rfl) b16 rfl rfl
  have a51 := hd_ba (F := F) (F' := F') (k := 51) (hF 51 (by decide))
  have t73 : sy_da F' (.inr (.inl 73)) = .inl (jm_upd (sy_ai F 51) (sy_i F 16).toNatClampNeg ((6 : Int32))) := hd_up (hs 3 _ rfl) b16 rfl a51
  have b69 := hd_b (F := F) (F' := F') (k := 69) (hF 69 (by decide))
  have hB' : iv_in F' iv_B4 := iv_in_eq hB (fun j hj => hF j (Nat.lt_of_lt_of_le hj (by decide +kernel)))
  refine ⟨List.forall_mem_cons.mpr ⟨hd_p0 b6 rfl (by have hc : ((0) : Int32).toInt = 0 := (by decide); omega), List.forall_mem_cons.mpr ⟨hd_pb b4 (by first | exact h1 | exact h1), List.forall_mem_cons.mpr ⟨hd_p0 t70 rfl (by have hc : ((6) : Int32).toInt = 6 := (by decide); omega), List.forall_mem_cons.mpr ⟨hd_p0 b5 rfl (by have hc : ((6) : Int32).toInt = 6 := (by decide); omega), List.forall_mem_cons.mpr ⟨hd_p4 b6 rfl (by have hc : ((0) : Int32).toInt = 0 := (by decide); omega), List.forall_mem_cons.mpr ⟨hd_pb b4 (by first | exact h5 | exact h5), List.forall_mem_cons.mpr ⟨hd_p0 b4 rfl (by have hc : ((400) : Int32).toInt = 400 := (by decide); omega), List.forall_mem_cons.mpr ⟨hd_pb b16 (by first | exact h7 | exact h7), fun _ h => absurd h List.not_mem_nil⟩⟩⟩⟩⟩⟩⟩⟩, ?_⟩
  refine k _ ?_ ?_ ?_ ?_ ?_ ?_ ?_
  · exact fun j hj hn => (hd_keep hB' (Nat.lt_of_lt_of_le hj (by decide +kernel)) (by simp; omega)).trans (hF j (by omega))
  · exact hd_gi (x := .inr (.inl 72)) (by decide +kernel) t72
  · exact hd_gi (x := .inl (.int 2)) (by decide +kernel) rfl
  · exact hd_gi (x := .inr (.inl 71)) (by decide +kernel) t71
  · exact hd_gi (x := .inr (.inl 74)) (by decide +kernel) t74
  · exact hd_ga (a := .inr (.inl 73)) (by decide +kernel) t73
  · exact hd_gi (x := .inr (.inl 69)) (by decide +kernel) b69
theorem ex_96_p0 {Ls : Nat} {xs : Nat → Int32} {d : Nat} {Q : Option Value → jm_h → Prop} (hd : 4 ≤ d) (F : Nat → sy_d) (X1 X2 : List jm_c) (hB : iv_in F iv_B4)
    (h0 : (sy_i F 6).toInt ≠ 0)
    (h1 : (sy_i F 6).toInt ≠ 0)
    (h2 : (sy_i F 6).toInt ≠ 0)
    (h3 : (sy_i F 6).toInt ≠ 0)
    (h4 : (sy_i F 6).toInt ≠ 0)
    (h5 : (sy_i F 5).toInt ≤ (sy_i F 69).toInt)
    (k : ∀ F1 : Nat → sy_d, (∀ j, j < 69 → True → F1 j = F j) → hd_W Ls xs d jm_M164 Q (206, sy_dL F1 [some (.inl (.ref 1000)), none, none], sy_dS F1 [.inl (.int 0), .inl (.ref 1000)], sy_dh F1 X1 X2 (iv_H 4), 0, 0)) :
    hd_W Ls xs d jm_M164 Q (96, sy_dL F [some (.inl (.ref 1000)), some (.inr (.inl 69)), some (.inl (.int 1))], sy_dS F [], sy_dh F X1 X2 (iv_H 4), 0, 0) := by
  refine hd_run (s := 4) (nv := 70) (pc := 206) (L := [some (.inl (.ref 1000)), none, none]) (S := [.inl (.int 0), .inl (.ref 1000)]) (uh := hd_ov (iv_id 0 iv_B4) []) (ul := []) (f := true) (sp := [115, 206, 234]) (d0 := 3) (O := [true, true, true, true, true, true]) (T := []) (P := [(1, .inr (.inl 6), .inl (.int 0)), (1, .inr (.inl 6), .inl (.int 0)), (1, .inr (.inl 6), .inl (.int 0)), (1, .inr (.inl 6), .inl (.int 0)), (1, .inr (.inl 6), .inl (.int 0)), (4, .inr (.inl 5), .inr (.inl 69))]) jm_ok164 (by decide +kernel) (by decide +kernel) hd F X1 X2 (fun F' hF hs => ?_)
  have b6 := hd_b (F := F) (F' := F') (k := 6) (hF 6 (by decide))
  have b5 := hd_b (F := F) (F' := F') (k := 5) (hF 5 (by decide))
  have b69 := hd_b (F := F) (F' := F') (k := 69) (hF 69 (by decide))
  have hB' : iv_in F' iv_B4 := iv_in_eq hB (fun j hj => hF j (Nat.lt_of_lt_of_le hj (by decide +kernel)))
  refine ⟨List.forall_mem_cons.mpr ⟨hd_p1 b6 rfl (by have hc : ((0) : Int32).toInt = 0 := (by decide); omega), List.forall_mem_cons.mpr ⟨hd_p1 b6 rfl (by have hc : ((0) : Int32).toInt = 0 := (by decide); omega), List.forall_mem_cons.mpr ⟨hd_p1 b6 rfl (by have hc : ((0) : Int32).toInt = 0 := (by decide); omega), List.forall_mem_cons.mpr ⟨hd_p1 b6 rfl (by have hc : ((0) : Int32).toInt = 0 := (by decide); omega), List.forall_mem_cons.mpr ⟨hd_p1 b6 rfl (by have hc : ((0) : Int32).toInt = 0 := (by decide); omega), List.forall_mem_cons.mpr ⟨hd_p4 b5 b69 h5, fun _ h => absurd h List.not_mem_nil⟩⟩⟩⟩⟩⟩, ?_⟩
  refine k _ ?_
  · exact fun j hj _ => (hd_keep hB' (Nat.lt_of_lt_of_le hj (by decide +kernel)) (by simp)).trans (hF j (by omega))
theorem ex_96_p1 {Ls : Nat} {xs : Nat → Int32} {d : Nat} {Q : Option Value → jm_h → Prop} (hd : 4 ≤ d) (F : Nat → sy_d) (X1 X2 : List jm_c) (hB : iv_in F iv_B4)
    (h0 : (sy_i F 6).toInt ≠ 0)
    (h1 : (sy_i F 6).toInt ≠ 0)
    (h2 : (sy_i F 6).toInt ≠ 0)
    (h3 : (sy_i F 6).toInt ≠ 0)
    (h4 : (sy_i F 6).toInt ≠ 0)
    (h5 : (sy_i F 69).toInt < (sy_i F 5).toInt)
    (h6 : 0 < (sy_i F 6).toInt)
    (k : ∀ F1 : Nat → sy_d, (∀ j, j < 69 → True → F1 j = F j) → hd_W Ls xs d jm_M164 Q (206, sy_dL F1 [some (.inl (.ref 1000)), none, none], sy_dS F1 [.inl (.int 0), .inl (.ref 1000)], sy_dh F1 X1 X2 (iv_H 4), 0, 0)) :
    hd_W Ls xs d jm_M164 Q (96, sy_dL F [some (.inl (.ref 1000)), some (.inr (.inl 69)), some (.inl (.int 1))], sy_dS F [], sy_dh F X1 X2 (iv_H 4), 0, 0) := by
  refine hd_run (s := 4) (nv := 70) (pc := 206) (L := [some (.inl (.ref 1000)), none, none]) (S := [.inl (.int 0), .inl (.ref 1000)]) (uh := hd_ov (iv_id 0 iv_B4) []) (ul := []) (f := true) (sp := [115, 206, 234]) (d0 := 3) (O := [true, true, true, true, true, false, false]) (T := []) (P := [(1, .inr (.inl 6), .inl (.int 0)), (1, .inr (.inl 6), .inl (.int 0)), (1, .inr (.inl 6), .inl (.int 0)), (1, .inr (.inl 6), .inl (.int 0)), (1, .inr (.inl 6), .inl (.int 0)), (5, .inr (.inl 5), .inr (.inl 69)), (5, .inr (.inl 6), .inl (.int 0))]) jm_ok164 (by decide +kernel) (by decide +kernel) hd F X1 X2 (fun F' hF hs => ?_)
  have b6 := hd_b (F := F) (F' := F') (k := 6) (hF 6 (by decide))
  have b5 := hd_b (F := F) (F' := F') (k := 5) (hF 5 (by decide))
  have b69 := hd_b (F := F) (F' := F') (k := 69) (hF 69 (by decide))
  have hB' : iv_in F' iv_B4 := iv_in_eq hB (fun j hj => hF j (Nat.lt_of_lt_of_le hj (by decide +kernel)))
  refine ⟨List.forall_mem_cons.mpr ⟨hd_p1 b6 rfl (by have hc : ((0) : Int32).toInt = 0 := (by decide); omega), List.forall_mem_cons.mpr ⟨hd_p1 b6 rfl (by have hc : ((0) : Int32).toInt = 0 := (by decide); omega), List.forall_mem_cons.mpr ⟨hd_p1 b6 rfl (by have hc : ((0) : Int32).toInt = 0 := (by decide); omega), List.forall_mem_cons.mpr ⟨hd_p1 b6 rfl (by have hc : ((0) : Int32).toInt = 0 := (by decide); omega), List.forall_mem_cons.mpr ⟨hd_p1 b6 rfl (by have hc : ((0) : Int32).toInt = 0 := (by decide); omega), List.forall_mem_cons.mpr ⟨hd_p5 b5 b69 h5, List.forall_mem_cons.mpr ⟨hd_p5 b6 rfl (by have hc : ((0) : Int32).toInt = 0 := (by decide); omega), fun _ h => absurd h List.not_mem_nil⟩⟩⟩⟩⟩⟩⟩, ?_⟩
  refine k _ ?_
  · exact fun j hj _ => (hd_keep hB' (Nat.lt_of_lt_of_le hj (by decide +kernel)) (by simp)).trans (hF j (by omega))
theorem ex_96_p2 {Ls : Nat} {xs : Nat → Int32} {d : Nat} {Q : Option Value → jm_h → Prop} (hd : 4 ≤ d) (F : Nat → sy_d) (X1 X2 : List jm_c) (hB : iv_in F iv_B4)
    (h0 : (sy_i F 6).toInt = 0)
    (h1 : 0 ≤ (sy_i F 4).toInt ∧ (sy_i F 4).toInt < 403)
    (h2 : ((sy_ai F 25).getD (sy_i F 4).toNatClampNeg 0).toInt ≠ 7)
    (h3 : (sy_i F 6).toInt = 0)
    (h4 : 0 ≤ (sy_i F 4).toInt ∧ (sy_i F 4).toInt < 403)
    (h5 : ((sy_ai F 25).getD (sy_i F 4).toNatClampNeg 0).toInt ≠ 8)
    (h6 : (sy_i F 6).toInt = 0)
    (h7 : 0 ≤ (sy_i F 4).toInt ∧ (sy_i F 4).toInt < 403)
    (h8 : ((sy_ai F 25).getD (sy_i F 4).toNatClampNeg 0).toInt ≠ 9)
    (h9 : (sy_i F 6).toInt = 0)
    (h10 : 0 ≤ (sy_i F 4).toInt ∧ (sy_i F 4).toInt < 403)
    (h11 : ((sy_ai F 25).getD (sy_i F 4).toNatClampNeg 0).toInt ≠ 10)
    (h12 : (sy_i F 6).toInt = 0)
    (h13 : 0 ≤ (sy_i F 4).toInt ∧ (sy_i F 4).toInt < 403)
    (h14 : ((sy_ai F 25).getD (sy_i F 4).toNatClampNeg 0).toInt ≠ 15)
    (h15 : (sy_i F 5).toInt ≤ (sy_i F 69).toInt)
    (k : ∀ F1 : Nat → sy_d, (∀ j, j < 69 → True → F1 j = F j) → hd_W Ls xs d jm_M164 Q (206, sy_dL F1 [some (.inl (.ref 1000)), none, none], sy_dS F1 [.inl (.int 0), .inl (.ref 1000)], sy_dh F1 X1 X2 (iv_H 4), 0, 0)) :
    hd_W Ls xs d jm_M164 Q (96, sy_dL F [some (.inl (.ref 1000)), some (.inr (.inl 69)), some (.inl (.int 1))], sy_dS F [], sy_dh F X1 X2 (iv_H 4), 0, 0) := by
  refine hd_run (s := 4) (nv := 70) (pc := 206) (L := [some (.inl (.ref 1000)), none, none]) (S := [.inl (.int 0), .inl (.ref 1000)]) (uh := hd_ov (iv_id 0 iv_B4) []) (ul := []) (f := true) (sp := [115, 206, 234]) (d0 := 3) (O := [false, true, false, true, false, true, false, true, false, true, true]) (T := [(30, [.inr (.inl 4)], [.inr (.inl 25)]), (30, [.inr (.inl 4)], [.inr (.inl 25)]), (30, [.inr (.inl 4)], [.inr (.inl 25)]), (30, [.inr (.inl 4)], [.inr (.inl 25)]), (30, [.inr (.inl 4)], [.inr (.inl 25)])]) (P := [(0, .inr (.inl 6), .inl (.int 0)), (6, .inr (.inl 4), .inl (.ref 403)), (1, .inr (.inl 70), .inl (.int 7)), (0, .inr (.inl 6), .inl (.int 0)), (6, .inr (.inl 4), .inl (.ref 403)), (1, .inr (.inl 71), .inl (.int 8)), (0, .inr (.inl 6), .inl (.int 0)), (6, .inr (.inl 4), .inl (.ref 403)), (1, .inr (.inl 72), .inl (.int 9)), (0, .inr (.inl 6), .inl (.int 0)), (6, .inr (.inl 4), .inl (.ref 403)), (1, .inr (.inl 73), .inl (.int 10)), (0, .inr (.inl 6), .inl (.int 0)), (6, .inr (.inl 4), .inl (.ref 403)), (1, .inr (.inl 74), .inl (.int 15)), (4, .inr (.inl 5), .inr (.inl 69))]) jm_ok164 (by decide +kernel) (by decide +kernel) hd F X1 X2 (fun F' hF hs => ?_)
  have b6 := hd_b (F := F) (F' := F') (k := 6) (hF 6 (by decide))
  have b4 := hd_b (F := F) (F' := F') (k := 4) (hF 4 (by decide))
  have a25 := hd_ba (F := F) (F' := F') (k := 25) (hF 25 (by decide))
  have t70 : sy_dv F' (.inr (.inl 70)) = .int ((sy_ai F 25).getD (sy_i F 4).toNatClampNeg 0) := hd_rd (hs 0 _ rfl) b4 a25
  have t71 : sy_dv F' (.inr (.inl 71)) = .int ((sy_ai F 25).getD (sy_i F 4).toNatClampNeg 0) := hd_rd (hs 1 _ rfl) b4 a25
  have t72 : sy_dv F' (.inr (.inl 72)) = .int ((sy_ai F 25).getD (sy_i F 4).toNatClampNeg 0) := hd_rd (hs 2 _ rfl) b4 a25
  have t73 : sy_dv F' (.inr (.inl 73)) = .int ((sy_ai F 25).getD (sy_i F 4).toNatClampNeg 0) := hd_rd (hs 3 _ rfl) b4 a25
  have t74 : sy_dv F' (.inr (.inl 74)) = .int ((sy_ai F 25).getD (sy_i F 4).toNatClampNeg 0) := hd_rd (hs 4 _ rfl) b4 a25
  have b5 := hd_b (F := F) (F' := F') (k := 5) (hF 5 (by decide))
  have b69 := hd_b (F := F) (F' := F') (k := 69) (hF 69 (by decide))
  have hB' : iv_in F' iv_B4 := iv_in_eq hB (fun j hj => hF j (Nat.lt_of_lt_of_le hj (by decide +kernel)))
  refine ⟨List.forall_mem_cons.mpr ⟨hd_p0 b6 rfl (by have hc : ((0) : Int32).toInt = 0 := (by decide); omega), List.forall_mem_cons.mpr ⟨hd_pb b4 (by first | exact h1 | exact h1), List.forall_mem_cons.mpr ⟨hd_p1 t70 rfl (by have hc : ((7) : Int32).toInt = 7 := (by decide); omega), List.forall_mem_cons.mpr ⟨hd_p0 b6 rfl (by have hc : ((0) : Int32).toInt = 0 := (by decide); omega), List.forall_mem_cons.mpr ⟨hd_pb b4 (by first | exact h4 | exact h4), List.forall_mem_cons.mpr ⟨hd_p1 t71 rfl (by have hc : ((8) : Int32).toInt = 8 := (by decide); omega), List.forall_mem_cons.mpr ⟨hd_p0 b6 rfl (by have hc : ((0) : Int32).toInt = 0 := (by decide); omega), List.forall_mem_cons.mpr ⟨hd_pb b4 (by first | exact h7 | exact h7), List.forall_mem_cons.mpr ⟨hd_p1 t72 rfl (by have hc : ((9) : Int32).toInt = 9 := (by decide); omega), List.forall_mem_cons.mpr ⟨hd_p0 b6 rfl (by have hc : ((0) : Int32).toInt = 0 := (by decide); omega), List.forall_mem_cons.mpr ⟨hd_pb b4 (by first | exact h10 | exact h10), List.forall_mem_cons.mpr ⟨hd_p1 t73 rfl (by have hc : ((10) : Int32).toInt = 10 := (by decide); omega), List.forall_mem_cons.mpr ⟨hd_p0 b6 rfl (by have hc : ((0) : Int32).toInt = 0 := (by decide); omega), List.forall_mem_cons.mpr ⟨hd_pb b4 (by first | exact h13 | exact h13), List.forall_mem_cons.mpr ⟨hd_p1 t74 rfl (by have hc : ((15) : Int32).toInt = 15 := (by decide); omega), List.forall_mem_cons.mpr ⟨hd_p4 b5 b69 h15, fun _ h => absurd h List.not_mem_nil⟩⟩⟩⟩⟩⟩⟩⟩⟩⟩⟩⟩⟩⟩⟩⟩, ?_⟩
  refine k _ ?_
  · exact fun j hj _ => (hd_keep hB' (Nat.lt_of_lt_of_le hj (by decide +kernel)) (by simp)).trans (hF j (by omega))
theorem ex_96_p3 {Ls : Nat} {xs : Nat → Int32} {d : Nat} {Q : Option Value → jm_h → Prop} (hd : 4 ≤ d) (F : Nat → sy_d) (X1 X2 : List jm_c) (hB : iv_in F iv_B4)
    (h0 : (sy_i F 6).toInt = 0)
    (h1 : 0 ≤ (sy_i F 4).toInt ∧ (sy_i F 4).toInt < 403)
    (h2 : ((sy_ai F 25).getD (sy_i F 4).toNatClampNeg 0).toInt ≠ 7)
    (h3 : (sy_i F 6).toInt = 0)
    (h4 : 0 ≤ (sy_i F 4).toInt ∧ (sy_i F 4).toInt < 403)
    (h5 : ((sy_ai F 25).getD (sy_i F 4).toNatClampNeg 0).toInt ≠ 8)
    (h6 : (sy_i F 6).toInt = 0)
    (h7 : 0 ≤ (sy_i F 4).toInt ∧ (sy_i F 4).toInt < 403)
    (h8 : ((sy_ai F 25).getD (sy_i F 4).toNatClampNeg 0).toInt ≠ 9)
    (h9 : (sy_i F 6).toInt = 0)
    (h10 : 0 ≤ (sy_i F 4).toInt ∧ (sy_i F 4).toInt < 403)
    (h11 : ((sy_ai F 25).getD (sy_i F 4).toNatClampNeg 0).toInt ≠ 10)
    (h12 : (sy_i F 6).toInt = 0)
    (h13 : 0 ≤ (sy_i F 4).toInt ∧ (sy_i F 4).toInt < 403)
    (h14 : ((sy_ai F 25).getD (sy_i F 4).toNatClampNeg 0).toInt ≠ 15)
    (h15 : (sy_i F 69).toInt < (sy_i F 5).toInt)
    (h16 : (sy_i F 6).toInt ≤ 0)
    (h17 : 0 ≤ (sy_i F 4).toInt ∧ (sy_i F 4).toInt < 403)
    (k : ∀ F1 : Nat → sy_d, (∀ j, j < 69 → j ≠ 6 ∧ j ≠ 7 → F1 j = F j) → F1 6 = .inl (.int ((1 : Int32))) → F1 7 = .inl (.int ((sy_ai F 26).getD (sy_i F 4).toNatClampNeg 0)) → hd_W Ls xs d jm_M164 Q (206, sy_dL F1 [some (.inl (.ref 1000)), none, none], sy_dS F1 [.inl (.int 0), .inl (.ref 1000)], sy_dh F1 X1 X2 (iv_H 4), 0, 0)) :
    hd_W Ls xs d jm_M164 Q (96, sy_dL F [some (.inl (.ref 1000)), some (.inr (.inl 69)), some (.inl (.int 1))], sy_dS F [], sy_dh F X1 X2 (iv_H 4), 0, 0) := by
  refine hd_run (s := 4) (nv := 70) (pc := 206) (L := [some (.inl (.ref 1000)), none, none]) (S := [.inl (.int 0), .inl (.ref 1000)]) (uh := hd_ov (iv_id 0 iv_B4) [(6, .inl (.inl (.int 1))), (7, .inl (.inr (.inl 75)))]) (ul := []) (f := true) (sp := [115, 206, 234]) (d0 := 3) (O := [false, true, false, true, false, true, false, true, false, true, false, true]) (T := [(30, [.inr (.inl 4)], [.inr (.inl 25)]), (30, [.inr (.inl 4)], [.inr (.inl 25)]), (30, [.inr (.inl 4)], [.inr (.inl 25)]), (30, [.inr (.inl 4)], [.inr (.inl 25)]), (30, [.inr (.inl 4)], [.inr (.inl 25)]), (30, [.inr (.inl 4)], [.inr (.inl 26)])]) (P := [(0, .inr (.inl 6), .inl (.int 0)), (6, .inr (.inl 4), .inl (.ref 403)), (1, .inr (.inl 70), .inl (.int 7)), (0, .inr (.inl 6), .inl (.int 0)), (6, .inr (.inl 4), .inl (.ref 403)), (1, .inr (.inl 71), .inl (.int 8)), (0, .inr (.inl 6), .inl (.int 0)), (6, .inr (.inl 4), .inl (.ref 403)), (1, .inr (.inl 72), .inl (.int 9)), (0, .inr (.inl 6), .inl (.int 0)), (6, .inr (.inl 4), .inl (.ref 403)), (1, .inr (.inl 73), .inl (.int 10)), (0, .inr (.inl 6), .inl (.int 0)), (6, .inr (.inl 4), .inl (.ref 403)), (1, .inr (.inl 74), .inl (.int 15)), (5, .inr (.inl 5), .inr (.inl 69)), (4, .inr (.inl 6), .inl (.int 0)), (6, .inr (.inl 4), .inl (.ref 403))]) jm_ok164 (by decide +kernel) (by decide +kernel) hd F X1 X2 (fun F' hF hs => ?_)
  have b6 := hd_b (F := F) (F' := F') (k := 6) (hF 6 (by decide))
  have b4 := hd_b (F := F) (F' := F') (k := 4) (hF 4 (by decide))
  have a25 := hd_ba (F := F) (F' := F') (k := 25) (hF 25 (by decide))
  have t70 : sy_dv F' (.inr (.inl 70)) = .int ((sy_ai F 25).getD (sy_i F 4).toNatClampNeg 0) := hd_rd (hs 0 _ rfl) b4 a25
  have t71 : sy_dv F' (.inr (.inl 71)) = .int ((sy_ai F 25).getD (sy_i F 4).toNatClampNeg 0) := hd_rd (hs 1 _ rfl) b4 a25
  have t72 : sy_dv F' (.inr (.inl 72)) = .int ((sy_ai F 25).getD (sy_i F 4).toNatClampNeg 0) := hd_rd (hs 2 _ rfl) b4 a25
  have t73 : sy_dv F' (.inr (.inl 73)) = .int ((sy_ai F 25).getD (sy_i F 4).toNatClampNeg 0) := hd_rd (hs 3 _ rfl) b4 a25
  have t74 : sy_dv F' (.inr (.inl 74)) = .int ((sy_ai F 25).getD (sy_i F 4).toNatClampNeg 0) := hd_rd (hs 4 _ rfl) b4 a25
  have b5 := hd_b (F := F) (F' := F') (k := 5) (hF 5 (by decide))
  have b69 := hd_b (F := F) (F' := F') (k := 69) (hF 69 (by decide))
  have a26 := hd_ba (F := F) (F' := F') (k := 26) (hF 26 (by decide))
  have t75 : sy_dv F' (.inr (.inl 75)) = .int ((sy_ai F 26).getD (sy_i F 4).toNatClampNeg 0) := hd_rd (hs 5 _ rfl) b4 a26
  have hB' : iv_in F' iv_B4 := iv_in_eq hB (fun j hj => hF j (Nat.lt_of_lt_of_le hj (by decide +kernel)))
  refine ⟨List.forall_mem_cons.mpr ⟨hd_p0 b6 rfl (by have hc : ((0) : Int32).toInt = 0 := (by decide); omega), List.forall_mem_cons.mpr ⟨hd_pb b4 (by first | exact h1 | exact h1), List.forall_mem_cons.mpr ⟨hd_p1 t70 rfl (by have hc : ((7) : Int32).toInt = 7 := (by decide); omega), List.forall_mem_cons.mpr ⟨hd_p0 b6 rfl (by have hc : ((0) : Int32).toInt = 0 := (by decide); omega), List.forall_mem_cons.mpr ⟨hd_pb b4 (by first | exact h4 | exact h4), List.forall_mem_cons.mpr ⟨hd_p1 t71 rfl (by have hc : ((8) : Int32).toInt = 8 := (by decide); omega), List.forall_mem_cons.mpr ⟨hd_p0 b6 rfl (by have hc : ((0) : Int32).toInt = 0 := (by decide); omega), List.forall_mem_cons.mpr ⟨hd_pb b4 (by first | exact h7 | exact h7), List.forall_mem_cons.mpr ⟨hd_p1 t72 rfl (by have hc : ((9) : Int32).toInt = 9 := (by decide); omega), List.forall_mem_cons.mpr ⟨hd_p0 b6 rfl (by have hc : ((0) : Int32).toInt = 0 := (by decide); omega), List.forall_mem_cons.mpr ⟨hd_pb b4 (by first | exact h10 | exact h10), List.forall_mem_cons.mpr ⟨hd_p1 t73 rfl (by have hc : ((10) : Int32).toInt = 10 := (by decide); omega), List.forall_mem_cons.mpr ⟨hd_p0 b6 rfl (by have hc : ((0) : Int32).toInt = 0 := (by decide); omega), List.forall_mem_cons.mpr ⟨hd_pb b4 (by first | exact h13 | exact h13), List.forall_mem_cons.mpr ⟨hd_p1 t74 rfl (by have hc : ((15) : Int32).toInt = 15 := (by decide); omega), List.forall_mem_cons.mpr ⟨hd_p5 b5 b69 h15, List.forall_mem_cons.mpr ⟨hd_p4 b6 rfl (by have hc : ((0) : Int32).toInt = 0 := (by decide); omega), List.forall_mem_cons.mpr ⟨hd_pb b4 (by first | exact h17 | exact h17), fun _ h => absurd h List.not_mem_nil⟩⟩⟩⟩⟩⟩⟩⟩⟩⟩⟩⟩⟩⟩⟩⟩⟩⟩, ?_⟩
  refine k _ ?_ ?_ ?_
  · exact fun j hj hn => (hd_keep hB' (Nat.lt_of_lt_of_le hj (by decide +kernel)) (by simp; omega)).trans (hF j (by omega))
  · exact hd_gi (x := .inl (.int 1)) (by decide +kernel) rfl
  · exact hd_gi (x := .inr (.inl 75)) (by decide +kernel) t75
theorem ex_96_p4 {Ls : Nat} {xs : Nat → Int32} {d : Nat} {Q : Option Value → jm_h → Prop} (hd : 4 ≤ d) (F : Nat → sy_d) (X1 X2 : List jm_c) (hB : iv_in F iv_B4)
    (h0 : (sy_i F 6).toInt = 0)
    (h1 : 0 ≤ (sy_i F 4).toInt ∧ (sy_i F 4).toInt < 403)
    (h2 : ((sy_ai F 25).getD (sy_i F 4).toNatClampNeg 0).toInt ≠ 7)
    (h3 : (sy_i F 6).toInt = 0)
    (h4 : 0 ≤ (sy_i F 4).toInt ∧ (sy_i F 4).toInt < 403)
    (h5 : ((sy_ai F 25).getD (sy_i F 4).toNatClampNeg 0).toInt ≠ 8)
    (h6 : (sy_i F 6).toInt = 0)
    (h7 : 0 ≤ (sy_i F 4).toInt ∧ (sy_i F 4).toInt < 403)
    (h8 : ((sy_ai F 25).getD (sy_i F 4).toNatClampNeg 0).toInt ≠ 9)
    (h9 : (sy_i F 6).toInt = 0)
    (h10 : 0 ≤ (sy_i F 4).toInt ∧ (sy_i F 4).toInt < 403)
    (h11 : ((sy_ai F 25).getD (sy_i F 4).toNatClampNeg 0).toInt ≠ 10)
    (h12 : (sy_i F 6).toInt = 0)
    (h13 : 0 ≤ (sy_i F 4).toInt ∧ (sy_i F 4).toInt < 403)
    (h14 : ((sy_ai F 25).getD (sy_i F 4).toNatClampNeg 0).toInt = 15)
    (h15 : (sy_i F 6).toInt = 0)
    (h16 : 0 ≤ (sy_i F 4).toInt ∧ (sy_i F 4).toInt < 403)
    (h17 : ((sy_ai F 25).getD (sy_i F 4).toNatClampNeg 0).toInt ≠ 10)
    (h18 : (sy_i F 6).toInt = 0)
    (h19 : 0 ≤ (sy_i F 4).toInt ∧ (sy_i F 4).toInt < 403)
    (h20 : ((sy_ai F 25).getD (sy_i F 4).toNatClampNeg 0).toInt = 15)
    (k : ∀ F1 : Nat → sy_d, (∀ j, j < 69 → True → F1 j = F j) → F1 69 = .inl (.int (sy_i F 69)) → F1 70 = .inl (.int ((1 : Int32))) → hd_W Ls xs d jm_M164 Q (234, sy_dL F1 [some (.inl (.ref 1000)), some (.inr (.inl 69)), some (.inl (.int 1))], sy_dS F1 [.inr (.inl 70), .inl (.ref 1000)], sy_dh F1 X1 X2 (iv_H 4), 0, 0)) :
    hd_W Ls xs d jm_M164 Q (96, sy_dL F [some (.inl (.ref 1000)), some (.inr (.inl 69)), some (.inl (.int 1))], sy_dS F [], sy_dh F X1 X2 (iv_H 4), 0, 0) := by
  refine hd_run (s := 4) (nv := 70) (pc := 234) (L := [some (.inl (.ref 1000)), some (.inr (.inl 69)), some (.inl (.int 1))]) (S := [.inr (.inl 70), .inl (.ref 1000)]) (uh := hd_ov (iv_id 0 iv_B4) []) (ul := [.inl (.inr (.inl 69)), .inl (.inl (.int 1))]) (f := true) (sp := [115, 206, 234]) (d0 := 3) (O := [false, true, false, true, false, true, false, true, false, false, false, true, false, false]) (T := [(30, [.inr (.inl 4)], [.inr (.inl 25)]), (30, [.inr (.inl 4)], [.inr (.inl 25)]), (30, [.inr (.inl 4)], [.inr (.inl 25)]), (30, [.inr (.inl 4)], [.inr (.inl 25)]), (30, [.inr (.inl 4)], [.inr (.inl 25)]), (30, [.inr (.inl 4)], [.inr (.inl 25)]), (30, [.inr (.inl 4)], [.inr (.inl 25)])]) (P := [(0, .inr (.inl 6), .inl (.int 0)), (6, .inr (.inl 4), .inl (.ref 403)), (1, .inr (.inl 70), .inl (.int 7)), (0, .inr (.inl 6), .inl (.int 0)), (6, .inr (.inl 4), .inl (.ref 403)), (1, .inr (.inl 71), .inl (.int 8)), (0, .inr (.inl 6), .inl (.int 0)), (6, .inr (.inl 4), .inl (.ref 403)), (1, .inr (.inl 72), .inl (.int 9)), (0, .inr (.inl 6), .inl (.int 0)), (6, .inr (.inl 4), .inl (.ref 403)), (1, .inr (.inl 73), .inl (.int 10)), (0, .inr (.inl 6), .inl (.int 0)), (6, .inr (.inl 4), .inl (.ref 403)), (0, .inr (.inl 74), .inl (.int 15)), (0, .inr (.inl 6), .inl (.int 0)), (6, .inr (.inl 4), .inl (.ref 403)), (1, .inr (.inl 75), .inl (.int 10)), (0, .inr (.inl 6), .inl (.int 0)), (6, .inr (.inl 4), .inl (.ref 403)), (0, .inr (.inl 76), .inl (.int 15))]) jm_ok164 (by decide +kernel) (by decide +kernel) hd F X1 X2 (fun F' hF hs => ?_)
  have b6 := hd_b (F := F) (F' := F') (k := 6) (hF 6 (by decide))
  have b4 := hd_b (F := F) (F' := F') (k := 4) (hF 4 (by decide))
  have a25 := hd_ba (F := F) (F' := F') (k := 25) (hF 25 (by decide))
  have t70 : sy_dv F' (.inr (.inl 70)) = .int ((sy_ai F 25).getD (sy_i F 4).toNatClampNeg 0) := hd_rd (hs 0 _ rfl) b4 a25
  have t71 : sy_dv F' (.inr (.inl 71)) = .int ((sy_ai F 25).getD (sy_i F 4).toNatClampNeg 0) := hd_rd (hs 1 _ rfl) b4 a25
  have t72 : sy_dv F' (.inr (.inl 72)) = .int ((sy_ai F 25).getD (sy_i F 4).toNatClampNeg 0) := hd_rd (hs 2 _ rfl) b4 a25
  have t73 : sy_dv F' (.inr (.inl 73)) = .int ((sy_ai F 25).getD (sy_i F 4).toNatClampNeg 0) := hd_rd (hs 3 _ rfl) b4 a25
  have t74 : sy_dv F' (.inr (.inl 74)) = .int ((sy_ai F 25).getD (sy_i F 4).toNatClampNeg 0) := hd_rd (hs 4 _ rfl) b4 a25
  have t75 : sy_dv F' (.inr (.inl 75)) = .int ((sy_ai F 25).getD (sy_i F 4).toNatClampNeg 0) := hd_rd (hs 5 _ rfl) b4 a25
  have t76 : sy_dv F' (.inr (.inl 76)) = .int ((sy_ai F 25).getD (sy_i F 4).toNatClampNeg 0) := hd_rd (hs 6 _ rfl) b4 a25
  have b69 := hd_b (F := F) (F' := F') (k := 69) (hF 69 (by decide))
  have hB' : iv_in F' iv_B4 := iv_in_eq hB (fun j hj => hF j (Nat.lt_of_lt_of_le hj (by decide +kernel)))
  refine ⟨List.forall_mem_cons.mpr ⟨hd_p0 b6 rfl (by have hc : ((0) : Int32).toInt = 0 := (by decide); omega), List.forall_mem_cons.mpr ⟨hd_pb b4 (by first | exact h1 | exact h1), List.forall_mem_cons.mpr ⟨hd_p1 t70 rfl (by have hc : ((7) : Int32).toInt = 7 := (by decide); omega), List.forall_mem_cons.mpr ⟨hd_p0 b6 rfl (by have hc : ((0) : Int32).toInt = 0 := (by decide); omega), List.forall_mem_cons.mpr ⟨hd_pb b4 (by first | exact h4 | exact h4), List.forall_mem_cons.mpr ⟨hd_p1 t71 rfl (by have hc : ((8) : Int32).toInt = 8 := (by decide); omega), List.forall_mem_cons.mpr ⟨hd_p0 b6 rfl (by have hc : ((0) : Int32).toInt = 0 := (by decide); omega), List.forall_mem_cons.mpr ⟨hd_pb b4 (by first | exact h7 | exact h7), List.forall_mem_cons.mpr ⟨hd_p1 t72 rfl (by have hc : ((9) : Int32).toInt = 9 := (by decide); omega), List.forall_mem_cons.mpr ⟨hd_p0 b6 rfl (by have hc : ((0) : Int32).toInt = 0 := (by decide); omega), List.forall_mem_cons.mpr ⟨hd_pb b4 (by first | exact h10 | exact h10), List.forall_mem_cons.mpr ⟨hd_p1 t73 rfl (by have hc : ((10) : Int32).toInt = 10 := (by decide); omega), List.forall_mem_cons.mpr ⟨hd_p0 b6 rfl (by have hc : ((0) : Int32).toInt = 0 := (by decide); omega), List.forall_mem_cons.mpr ⟨hd_pb b4 (by first | exact h13 | exact h13), List.forall_mem_cons.mpr ⟨hd_p0 t74 rfl (by have hc : ((15) : Int32).toInt = 15 := (by decide); omega), List.forall_mem_cons.mpr ⟨hd_p0 b6 rfl (by have hc : ((0) : Int32).toInt = 0 := (by decide); omega), List.forall_mem_cons.mpr ⟨hd_pb b4 (by first | exact h16 | exact h16), List.forall_mem_cons.mpr ⟨hd_p1 t75 rfl (by have hc : ((10) : Int32).toInt = 10 := (by decide); omega), List.forall_mem_cons.mpr ⟨hd_p0 b6 rfl (by have hc : ((0) : Int32).toInt = 0 := (by decide); omega), List.forall_mem_cons.mpr ⟨hd_pb b4 (by first | exact h19 | exact h19), List.forall_mem_cons.mpr ⟨hd_p0 t76 rfl (by have hc : ((15) : Int32).toInt = 15 := (by decide); omega), fun _ h => absurd h List.not_mem_nil⟩⟩⟩⟩⟩⟩⟩⟩⟩⟩⟩⟩⟩⟩⟩⟩⟩⟩⟩⟩⟩, ?_⟩
  refine k _ ?_ ?_ ?_
  · exact fun j hj _ => (hd_keep hB' (Nat.lt_of_lt_of_le hj (by decide +kernel)) (by simp)).trans (hF j (by omega))
  · exact hd_gi (x := .inr (.inl 69)) (by decide +kernel) b69
  · exact hd_gi (x := .inl (.int 1)) (by decide +kernel) rfl
theorem ex_96_p5 {Ls : Nat} {xs : Nat → Int32} {d : Nat} {Q : Option Value → jm_h → Prop} (hd : 4 ≤ d) (F : Nat → sy_d) (X1 X2 : List jm_c) (hB : iv_in F iv_B4)
    (h0 : (sy_i F 6).toInt = 0)
    (h1 : 0 ≤ (sy_i F 4).toInt ∧ (sy_i F 4).toInt < 403)
    (h2 : ((sy_ai F 25).getD (sy_i F 4).toNatClampNeg 0).toInt ≠ 7)
    (h3 : (sy_i F 6).toInt = 0)
    (h4 : 0 ≤ (sy_i F 4).toInt ∧ (sy_i F 4).toInt < 403)
    (h5 : ((sy_ai F 25).getD (sy_i F 4).toNatClampNeg 0).toInt ≠ 8)
    (h6 : (sy_i F 6).toInt = 0)
    (h7 : 0 ≤ (sy_i F 4).toInt ∧ (sy_i F 4).toInt < 403)
    (h8 : ((sy_ai F 25).getD (sy_i F 4).toNatClampNeg 0).toInt ≠ 9)
    (h9 : (sy_i F 6).toInt = 0)
    (h10 : 0 ≤ (sy_i F 4).toInt ∧ (sy_i F 4).toInt < 403)
    (h11 : ((sy_ai F 25).getD (sy_i F 4).toNatClampNeg 0).toInt = 10)
    (h12 : (sy_i F 6).toInt = 0)
    (h13 : 0 ≤ (sy_i F 4).toInt ∧ (sy_i F 4).toInt < 403)
    (h14 : ((sy_ai F 25).getD (sy_i F 4).toNatClampNeg 0).toInt = 10)
    (k : ∀ F1 : Nat → sy_d, (∀ j, j < 69 → True → F1 j = F j) → F1 69 = .inl (.int (sy_i F 69)) → F1 70 = .inl (.int ((1 : Int32))) → hd_W Ls xs d jm_M164 Q (234, sy_dL F1 [some (.inl (.ref 1000)), some (.inr (.inl 69)), some (.inl (.int 1))], sy_dS F1 [.inr (.inl 70), .inl (.ref 1000)], sy_dh F1 X1 X2 (iv_H 4), 0, 0)) :
    hd_W Ls xs d jm_M164 Q (96, sy_dL F [some (.inl (.ref 1000)), some (.inr (.inl 69)), some (.inl (.int 1))], sy_dS F [], sy_dh F X1 X2 (iv_H 4), 0, 0) := by
  refine hd_run (s := 4) (nv := 70) (pc := 234) (L := [some (.inl (.ref 1000)), some (.inr (.inl 69)), some (.inl (.int 1))]) (S := [.inr (.inl 70), .inl (.ref 1000)]) (uh := hd_ov (iv_id 0 iv_B4) []) (ul := [.inl (.inr (.inl 69)), .inl (.inl (.int 1))]) (f := true) (sp := [115, 206, 234]) (d0 := 3) (O := [false, true, false, true, false, true, false, false, false, false]) (T := [(30, [.inr (.inl 4)], [.inr (.inl 25)]), (30, [.inr (.inl 4)], [.inr (.inl 25)]), (30, [.inr (.inl 4)], [.inr (.inl 25)]), (30, [.inr (.inl 4)], [.inr (.inl 25)]), (30, [.inr (.inl 4)], [.inr (.inl 25)])]) (P := [(0, .inr (.inl 6), .inl (.int 0)), (6, .inr (.inl 4), .inl (.ref 403)), (1, .inr (.inl 70), .inl (.int 7)), (0, .inr (.inl 6), .inl (.int 0)), (6, .inr (.inl 4), .inl (.ref 403)), (1, .inr (.inl 71), .inl (.int 8)), (0, .inr (.inl 6), .inl (.int 0)), (6, .inr (.inl 4), .inl (.ref 403)), (1, .inr (.inl 72), .inl (.int 9)), (0, .inr (.inl 6), .inl (.int 0)), (6, .inr (.inl 4), .inl (.ref 403)), (0, .inr (.inl 73), .inl (.int 10)), (0, .inr (.inl 6), .inl (.int 0)), (6, .inr (.inl 4), .inl (.ref 403)), (0, .inr (.inl 74), .inl (.int 10))]) jm_ok164 (by decide +kernel) (by decide +kernel) hd F X1 X2 (fun F' hF hs => ?_)
  have b6 := hd_b (F := F) (F' := F') (k := 6) (hF 6 (by decide))
  have b4 := hd_b (F := F) (F' := F') (k := 4) (hF 4 (by decide))
  have a25 := hd_ba (F := F) (F' := F') (k := 25) (hF 25 (by decide))
  have t70 : sy_dv F' (.inr (.inl 70)) = .int ((sy_ai F 25).getD (sy_i F 4).toNatClampNeg 0) := hd_rd (hs 0 _ rfl) b4 a25
  have t71 : sy_dv F' (.inr (.inl 71)) = .int ((sy_ai F 25).getD (sy_i F 4).toNatClampNeg 0) := hd_rd (hs 1 _ rfl) b4 a25
  have t72 : sy_dv F' (.inr (.inl 72)) = .int ((sy_ai F 25).getD (sy_i F 4).toNatClampNeg 0) := hd_rd (hs 2 _ rfl) b4 a25
  have t73 : sy_dv F' (.inr (.inl 73)) = .int ((sy_ai F 25).getD (sy_i F 4).toNatClampNeg 0) := hd_rd (hs 3 _ rfl) b4 a25
  have t74 : sy_dv F' (.inr (.inl 74)) = .int ((sy_ai F 25).getD (sy_i F 4).toNatClampNeg 0) := hd_rd (hs 4 _ rfl) b4 a25
  have b69 := hd_b (F := F) (F' := F') (k := 69) (hF 69 (by decide))
  have hB' : iv_in F' iv_B4 := iv_in_eq hB (fun j hj => hF j (Nat.lt_of_lt_of_le hj (by decide +kernel)))
  refine ⟨List.forall_mem_cons.mpr ⟨hd_p0 b6 rfl (by have hc : ((0) : Int32).toInt = 0 := (by decide); omega), List.forall_mem_cons.mpr ⟨hd_pb b4 (by first | exact h1 | exact h1), List.forall_mem_cons.mpr ⟨hd_p1 t70 rfl (by have hc : ((7) : Int32).toInt = 7 := (by decide); omega), List.forall_mem_cons.mpr ⟨hd_p0 b6 rfl (by have hc : ((0) : Int32).toInt = 0 := (by decide); omega), List.forall_mem_cons.mpr ⟨hd_pb b4 (by first | exact h4 | exact h4), List.forall_mem_cons.mpr ⟨hd_p1 t71 rfl (by have hc : ((8) : Int32).toInt = 8 := (by decide); omega), List.forall_mem_cons.mpr ⟨hd_p0 b6 rfl (by have hc : ((0) : Int32).toInt = 0 := (by decide); omega), List.forall_mem_cons.mpr ⟨hd_pb b4 (by first | exact h7 | exact h7), List.forall_mem_cons.mpr ⟨hd_p1 t72 rfl (by have hc : ((9) : Int32).toInt = 9 := (by decide); omega), List.forall_mem_cons.mpr ⟨hd_p0 b6 rfl (by have hc : ((0) : Int32).toInt = 0 := (by decide); omega), List.forall_mem_cons.mpr ⟨hd_pb b4 (by first | exact h10 | exact h10), List.forall_mem_cons.mpr ⟨hd_p0 t73 rfl (by have hc : ((10) : Int32).toInt = 10 := (by decide); omega), List.forall_mem_cons.mpr ⟨hd_p0 b6 rfl (by have hc : ((0) : Int32).toInt = 0 := (by decide); omega), List.forall_mem_cons.mpr ⟨hd_pb b4 (by first | exact h13 | exact h13), List.forall_mem_cons.mpr ⟨hd_p0 t74 rfl (by have hc : ((10) : Int32).toInt = 10 := (by decide); omega), fun _ h => absurd h List.not_mem_nil⟩⟩⟩⟩⟩⟩⟩⟩⟩⟩⟩⟩⟩⟩⟩, ?_⟩
  refine k _ ?_ ?_ ?_
  · exact fun j hj _ => (hd_keep hB' (Nat.lt_of_lt_of_le hj (by decide +kernel)) (by simp)).trans (hF j (by omega))
  · exact hd_gi (x := .inr (.inl 69)) (by decide +kernel) b69
  · exact hd_gi (x := .inl (.int 1)) (by decide +kernel) rfl
theorem ex_96_p6 {Ls : Nat} {xs : Nat → Int32} {d : Nat} {Q : Option Value → jm_h → Prop} (hd : 4 ≤ d) (F : Nat → sy_d) (X1 X2 : List jm_c) (hB : iv_in F iv_B4)
    (h0 : (sy_i F 6).toInt = 0)
    (h1 : 0 ≤ (sy_i F 4).toInt ∧ (sy_i F 4).toInt < 403)
    (h2 : ((sy_ai F 25).getD (sy_i F 4).toNatClampNeg 0).toInt ≠ 7)
    (h3 : (sy_i F 6).toInt = 0)
    (h4 : 0 ≤ (sy_i F 4).toInt ∧ (sy_i F 4).toInt < 403)
    (h5 : ((sy_ai F 25).getD (sy_i F 4).toNatClampNeg 0).toInt ≠ 8)
    (h6 : (sy_i F 6).toInt = 0)
    (h7 : 0 ≤ (sy_i F 4).toInt ∧ (sy_i F 4).toInt < 403)
    (h8 : ((sy_ai F 25).getD (sy_i F 4).toNatClampNeg 0).toInt = 9)
    (h9 : (sy_i F 6).toInt = 0)
    (h10 : 0 ≤ (sy_i F 4).toInt ∧ (sy_i F 4).toInt < 403)
    (h11 : ((sy_ai F 25).getD (sy_i F 4).toNatClampNeg 0).toInt ≠ 10)
    (h12 : (sy_i F 6).toInt = 0)
    (h13 : 0 ≤ (sy_i F 4).toInt ∧ (sy_i F 4).toInt < 403)
    (h14 : ((sy_ai F 25).getD (sy_i F 4).toNatClampNeg 0).toInt ≠ 15)
    (k : ∀ F1 : Nat → sy_d, (∀ j, j < 69 → True → F1 j = F j) → F1 69 = .inl (.int (sy_i F 69)) → F1 70 = .inl (.int ((0 : Int32))) → hd_W Ls xs d jm_M164 Q (234, sy_dL F1 [some (.inl (.ref 1000)), some (.inr (.inl 69)), some (.inl (.int 1))], sy_dS F1 [.inr (.inl 70), .inl (.ref 1000)], sy_dh F1 X1 X2 (iv_H 4), 0, 0)) :
    hd_W Ls xs d jm_M164 Q (96, sy_dL F [some (.inl (.ref 1000)), some (.inr (.inl 69)), some (.inl (.int 1))], sy_dS F [], sy_dh F X1 X2 (iv_H 4), 0, 0) := by
  refine hd_run (s := 4) (nv := 70) (pc := 234) (L := [some (.inl (.ref 1000)), some (.inr (.inl 69)), some (.inl (.int 1))]) (S := [.inr (.inl 70), .inl (.ref 1000)]) (uh := hd_ov (iv_id 0 iv_B4) []) (ul := [.inl (.inr (.inl 69)), .inl (.inl (.int 0))]) (f := true) (sp := [115, 206, 234]) (d0 := 3) (O := [false, true, false, true, false, false, false, true, false, true]) (T := [(30, [.inr (.inl 4)], [.inr (.inl 25)]), (30, [.inr (.inl 4)], [.inr (.inl 25)]), (30, [.inr (.inl 4)], [.inr (.inl 25)]), (30, [.inr (.inl 4)], [.inr (.inl 25)]), (30, [.inr (.inl 4)], [.inr (.inl 25)])]) (P := [(0, .inr (.inl 6), .inl (.int 0)), (6, .inr (.inl 4), .inl (.ref 403)), (1, .inr (.inl 70), .inl (.int 7)), (0, .inr (.inl 6), .inl (.int 0)), (6, .inr (.inl 4), .inl (.ref 403)), (1, .inr (.inl 71), .inl (.int 8)), (0, .inr (.inl 6), .inl (.int 0)), (6, .inr (.inl 4), .inl (.ref 403)), (0, .inr (.inl 72), .inl (.int 9)), (0, .inr (.inl 6), .inl (.int 0)), (6, .inr (.inl 4), .inl (.ref 403)), (1, .inr (.inl 73), .inl (.int 10)), (0, .inr (.inl 6), .inl (.int 0)), (6, .inr (.inl 4), .inl (.ref 403)), (1, .inr (.inl 74), .inl (.int 15))]) jm_ok164 (by decide +kernel) (by decide +kernel) hd F X1 X2 (fun F' hF hs => ?_)
  have b6 := hd_b (F := F) (F' := F') (k := 6) (hF 6 (by decide))
  have b4 := hd_b (F := F) (F' := F') (k := 4) (hF 4 (by decide))
  have a25 := hd_ba (F := F) (F' := F') (k := 25) (hF 25 (by decide))
  have t70 : sy_dv F' (.inr (.inl 70)) = .int ((sy_ai F 25).getD (sy_i F 4).toNatClampNeg 0) := hd_rd (hs 0 _ rfl) b4 a25
  have t71 : sy_dv F' (.inr (.inl 71)) = .int ((sy_ai F 25).getD (sy_i F 4).toNatClampNeg 0) := hd_rd (hs 1 _ rfl) b4 a25
  have t72 : sy_dv F' (.inr (.inl 72)) = .int ((sy_ai F 25).getD (sy_i F 4).toNatClampNeg 0) := hd_rd (hs 2 _ rfl) b4 a25
  have t73 : sy_dv F' (.inr (.inl 73)) = .int ((sy_ai F 25).getD (sy_i F 4).toNatClampNeg 0) := hd_rd (hs 3 _ rfl) b4 a25
  have t74 : sy_dv F' (.inr (.inl 74)) = .int ((sy_ai F 25).getD (sy_i F 4).toNatClampNeg 0) := hd_rd (hs 4 _ rfl) b4 a25
  have b69 := hd_b (F := F) (F' := F') (k := 69) (hF 69 (by decide))
  have hB' : iv_in F' iv_B4 := iv_in_eq hB (fun j hj => hF j (Nat.lt_of_lt_of_le hj (by decide +kernel)))
  refine ⟨List.forall_mem_cons.mpr ⟨hd_p0 b6 rfl (by have hc : ((0) : Int32).toInt = 0 := (by decide); omega), List.forall_mem_cons.mpr ⟨hd_pb b4 (by first | exact h1 | exact h1), List.forall_mem_cons.mpr ⟨hd_p1 t70 rfl (by have hc : ((7) : Int32).toInt = 7 := (by decide); omega), List.forall_mem_cons.mpr ⟨hd_p0 b6 rfl (by have hc : ((0) : Int32).toInt = 0 := (by decide); omega), List.forall_mem_cons.mpr ⟨hd_pb b4 (by first | exact h4 | exact h4), List.forall_mem_cons.mpr ⟨hd_p1 t71 rfl (by have hc : ((8) : Int32).toInt = 8 := (by decide); omega), List.forall_mem_cons.mpr ⟨hd_p0 b6 rfl (by have hc : ((0) : Int32).toInt = 0 := (by decide); omega), List.forall_mem_cons.mpr ⟨hd_pb b4 (by first | exact h7 | exact h7), List.forall_mem_cons.mpr ⟨hd_p0 t72 rfl (by have hc : ((9) : Int32).toInt = 9 := (by decide); omega), List.forall_mem_cons.mpr ⟨hd_p0 b6 rfl (by have hc : ((0) : Int32).toInt = 0 := (by decide); omega), List.forall_mem_cons.mpr ⟨hd_pb b4 (by first | exact h10 | exact h10), List.forall_mem_cons.mpr ⟨hd_p1 t73 rfl (by have hc : ((10) : Int32).toInt = 10 := (by decide); omega), List.forall_mem_cons.mpr ⟨hd_p0 b6 rfl (by have hc : ((0) : Int32).toInt = 0 := (by decide); omega), List.forall_mem_cons.mpr ⟨hd_pb b4 (by first | exact h13 | exact h13), List.forall_mem_cons.mpr ⟨hd_p1 t74 rfl (by have hc : ((15) : Int32).toInt = 15 := (by decide); omega), fun _ h => absurd h List.not_mem_nil⟩⟩⟩⟩⟩⟩⟩⟩⟩⟩⟩⟩⟩⟩⟩, ?_⟩
  refine k _ ?_ ?_ ?_
  · exact fun j hj _ => (hd_keep hB' (Nat.lt_of_lt_of_le hj (by decide +kernel)) (by simp)).trans (hF j (by omega))
  · exact hd_gi (x := .inr (.inl 69)) (by decide +kernel) b69
  · exact hd_gi (x := .inl (.int 0)) (by decide +kernel) rfl
theorem ex_96_p7 {Ls : Nat} {xs : Nat → Int32} {d : Nat} {Q : Option Value → jm_h → Prop} (hd : 4 ≤ d) (F : Nat → sy_d) (X1 X2 : List jm_c) (hB : iv_in F iv_B4)
    (h0 : (sy_i F 6).toInt = 0)
    (h1 : 0 ≤ (sy_i F 4).toInt ∧ (sy_i F 4).toInt < 403)
    (h2 : ((sy_ai F 25).getD (sy_i F 4).toNatClampNeg 0).toInt ≠ 7)
    (h3 : (sy_i F 6).toInt = 0)
    (h4 : 0 ≤ (sy_i F 4).toInt ∧ (sy_i F 4).toInt < 403)
    (h5 : ((sy_ai F 25).getD (sy_i F 4).toNatClampNeg 0).toInt = 8)
    (h6 : (sy_i F 6).toInt = 0)
    (h7 : 0 ≤ (sy_i F 4).toInt ∧ (sy_i F 4).toInt < 403)
    (h8 : ((sy_ai F 25).getD (sy_i F 4).toNatClampNeg 0).toInt ≠ 10)
    (h9 : (sy_i F 6).toInt = 0)
    (h10 : 0 ≤ (sy_i F 4).toInt ∧ (sy_i F 4).toInt < 403)
    (h11 : ((sy_ai F 25).getD (sy_i F 4).toNatClampNeg 0).toInt ≠ 15)
    (k : ∀ F1 : Nat → sy_d, (∀ j, j < 69 → True → F1 j = F j) → F1 69 = .inl (.int (sy_i F 69)) → F1 70 = .inl (.int ((0 : Int32))) → hd_W Ls xs d jm_M164 Q (234, sy_dL F1 [some (.inl (.ref 1000)), some (.inr (.inl 69)), some (.inl (.int 1))], sy_dS F1 [.inr (.inl 70), .inl (.ref 1000)], sy_dh F1 X1 X2 (iv_H 4), 0, 0)) :
    hd_W Ls xs d jm_M164 Q (96, sy_dL F [some (.inl (.ref 1000)), some (.inr (.inl 69)), some (.inl (.int 1))], sy_dS F [], sy_dh F X1 X2 (iv_H 4), 0, 0) := by
  refine hd_run (s := 4) (nv := 70) (pc := 234) (L := [some (.inl (.ref 1000)), some (.inr (.inl 69)), some (.inl (.int 1))]) (S := [.inr (.inl 70), .inl (.ref 1000)]) (uh := hd_ov (iv_id 0 iv_B4) []) (ul := [.inl (.inr (.inl 69)), .inl (.inl (.int 0))]) (f := true) (sp := [115, 206, 234]) (d0 := 3) (O := [false, true, false, false, false, true, false, true]) (T := [(30, [.inr (.inl 4)], [.inr (.inl 25)]), (30, [.inr (.inl 4)], [.inr (.inl 25)]), (30, [.inr (.inl 4)], [.inr (.inl 25)]), (30, [.inr (.inl 4)], [.inr (.inl 25)])]) (P := [(0, .inr (.inl 6), .inl (.int 0)), (6, .inr (.inl 4), .inl (.ref 403)), (1, .inr (.inl 70), .inl (.int 7)), (0, .inr (.inl 6), .inl (.int 0)), (6, .inr (.inl 4), .inl (.ref 403)), (0, .inr (.inl 71), .inl (.int 8)), (0, .inr (.inl 6), .inl (.int 0)), (6, .inr (.inl 4), .inl (.ref 403)), (1, .inr (.inl 72), .inl (.int 10)), (0, .inr (.inl 6), .inl (.int 0)), (6, .inr (.inl 4), .inl (.ref 403)), (1, .inr (.inl 73), .inl (.int 15))]) jm_ok164 (by decide +kernel) (by decide +kernel) hd F X1 X2 (fun F' hF hs => ?_)
  have b6 := hd_b (F := F) (F' := F') (k := 6) (hF 6 (by decide))
  have b4 := hd_b (F := F) (F' := F') (k := 4) (hF 4 (by decide))
  have a25 := hd_ba (F := F) (F' := F') (k := 25) (hF 25 (by decide))
  have t70 : sy_dv F' (.inr (.inl 70)) = .int ((sy_ai F 25).getD (sy_i F 4).toNatClampNeg 0) := hd_rd (hs 0 _ rfl) b4 a25
  have t71 : sy_dv F' (.inr (.inl 71)) = .int ((sy_ai F 25).getD (sy_i F 4).toNatClampNeg 0) := hd_rd (hs 1 _ rfl) b4 a25
  have t72 : sy_dv F' (.inr (.inl 72)) = .int ((sy_ai F 25).getD (sy_i F 4).toNatClampNeg 0) := hd_rd (hs 2 _ rfl) b4 a25
  have t73 : sy_dv F' (.inr (.inl 73)) = .int ((sy_ai F 25).getD (sy_i F 4).toNatClampNeg 0) := hd_rd (hs 3 _ rfl) b4 a25
  have b69 := hd_b (F := F) (F' := F') (k := 69) (hF 69 (by decide))
  have hB' : iv_in F' iv_B4 := iv_in_eq hB (fun j hj => hF j (Nat.lt_of_lt_of_le hj (by decide +kernel)))
  refine ⟨List.forall_mem_cons.mpr ⟨hd_p0 b6 rfl (by have hc : ((0) : Int32).toInt = 0 := (by decide); omega), List.forall_mem_cons.mpr ⟨hd_pb b4 (by first | exact h1 | exact h1), List.forall_mem_cons.mpr ⟨hd_p1 t70 rfl (by have hc : ((7) : Int32).toInt = 7 := (by decide); omega), List.forall_mem_cons.mpr ⟨hd_p0 b6 rfl (by have hc : ((0) : Int32).toInt = 0 := (by decide); omega), List.forall_mem_cons.mpr ⟨hd_pb b4 (by first | exact h4 | exact h4), List.forall_mem_cons.mpr ⟨hd_p0 t71 rfl (by have hc : ((8) : Int32).toInt = 8 := (by decide); omega), List.forall_mem_cons.mpr ⟨hd_p0 b6 rfl (by have hc : ((0) : Int32).toInt = 0 := (by decide); omega), List.forall_mem_cons.mpr ⟨hd_pb b4 (by first | exact h7 | exact h7), List.forall_mem_cons.mpr ⟨hd_p1 t72 rfl (by have hc : ((10) : Int32).toInt = 10 := (by decide); omega), List.forall_mem_cons.mpr ⟨hd_p0 b6 rfl (by have hc : ((0) : Int32).toInt = 0 := (by decide); omega), List.forall_mem_cons.mpr ⟨hd_pb b4 (by first | exact h10 | exact h10), List.forall_mem_cons.mpr ⟨hd_p1 t73 rfl (by have hc : ((15) : Int32).toInt = 15 := (by decide); omega), fun _ h => absurd h List.not_mem_nil⟩⟩⟩⟩⟩⟩⟩⟩⟩⟩⟩⟩, ?_⟩
  refine k _ ?_ ?_ ?_
  · exact fun j hj _ => (hd_keep hB' (Nat.lt_of_lt_of_le hj (by decide +kernel)) (by simp)).trans (hF j (by omega))
  · exact hd_gi (x := .inr (.inl 69)) (by decide +kernel) b69
  · exact hd_gi (x := .inl (.int 0)) (by decide +kernel) rfl
theorem ex_96_p8 {Ls : Nat} {xs : Nat → Int32} {d : Nat} {Q : Option Value → jm_h → Prop} (hd : 4 ≤ d) (F : Nat → sy_d) (X1 X2 : List jm_c) (hB : iv_in F iv_B4)
    (h0 : (sy_i F 6).toInt = 0)
    (h1 : 0 ≤ (sy_i F 4).toInt ∧ (sy_i F 4).toInt < 403)
    (h2 : ((sy_ai F 25).getD (sy_i F 4).toNatClampNeg 0).toInt = 7)
    (h3 : (sy_i F 5).toInt ≤ (sy_i F 69).toInt)
    (h4 : (sy_i F 6).toInt = 0)
    (h5 : 0 ≤ (sy_i F 4).toInt ∧ (sy_i F 4).toInt < 403)
    (h6 : ((sy_ai F 25).getD (sy_i F 4).toNatClampNeg 0).toInt ≠ 8)
    (h7 : (sy_i F 6).toInt = 0)
    (h8 : 0 ≤ (sy_i F 4).toInt ∧ (sy_i F 4).toInt < 403)
    (h9 : ((sy_ai F 25).getD (sy_i F 4).toNatClampNeg 0).toInt ≠ 9)
    (h10 : (sy_i F 6).toInt = 0)
    (h11 : 0 ≤ (sy_i F 4).toInt ∧ (sy_i F 4).toInt < 403)
    (h12 : ((sy_ai F 25).getD (sy_i F 4).toNatClampNeg 0).toInt ≠ 10)
    (h13 : (sy_i F 6).toInt = 0)
    (h14 : 0 ≤ (sy_i F 4).toInt ∧ (sy_i F 4).toInt < 403)
    (h15 : ((sy_ai F 25).getD (sy_i F 4).toNatClampNeg 0).toInt ≠ 15)
    (h16 : (sy_i F 5).toInt ≤ (sy_i F 69).toInt)
    (k : ∀ F1 : Nat → sy_d, (∀ j, j < 69 → True → F1 j = F j) → hd_W Ls xs d jm_M164 Q (206, sy_dL F1 [some (.inl (.ref 1000)), none, none], sy_dS F1 [.inl (.int 0), .inl (.ref 1000)], sy_dh F1 X1 X2 (iv_H 4), 0, 0)) :
    hd_W Ls xs d jm_M164 Q (96, sy_dL F [some (.inl (.ref 1000)), some (.inr (.inl 69)), some (.inl (.int 1))], sy_dS F [], sy_dh F X1 X2 (iv_H 4), 0, 0) := by
  refine hd_run (s := 4) (nv := 70) (pc := 206) (L := [some (.inl (.ref 1000)), none, none]) (S := [.inl (.int 0), .inl (.ref 1000)]) (uh := hd_ov (iv_id 0 iv_B4) []) (ul := []) (f := true) (sp := [115, 206, 234]) (d0 := 3) (O := [false, false, true, false, true, false, true, false, true, false, true, true]) (T := [(30, [.inr (.inl 4)], [.inr (.inl 25)]), (30, [.inr (.inl 4)], [.inr (.inl 25)]), (30, [.inr (.inl 4)], [.inr (.inl 25)]), (30, [.inr (.inl 4)], [.inr (.inl 25)]), (30, [.inr (.inl 4)], [.inr (.inl 25)])]) (P := [(0, .inr (.inl 6), .inl (.int 0)), (6, .inr (.inl 4), .inl (.ref 403)), (0, .inr (.inl 70), .inl (.int 7)), (4, .inr (.inl 5), .inr (.inl 69)), (0, .inr (.inl 6), .inl (.int 0)), (6, .inr (.inl 4), .inl (.ref 403)), (1, .inr (.inl 71), .inl (.int 8)), (0, .inr (.inl 6), .inl (.int 0)), (6, .inr (.inl 4), .inl (.ref 403)), (1, .inr (.inl 72), .inl (.int 9)), (0, .inr (.inl 6), .inl (.int 0)), (6, .inr (.inl 4), .inl (.ref 403)), (1, .inr (.inl 73), .inl (.int 10)), (0, .inr (.inl 6), .inl (.int 0)), (6, .inr (.inl 4), .inl (.ref 403)), (1, .inr (.inl 74), .inl (.int 15)), (4, .inr (.inl 5), .inr (.inl 69))]) jm_ok164 (by decide +kernel) (by decide +kernel) hd F X1 X2 (fun F' hF hs => ?_)
  have b6 := hd_b (F := F) (F' := F') (k := 6) (hF 6 (by decide))
  have b4 := hd_b (F := F) (F' := F') (k := 4) (hF 4 (by decide))
  have a25 := hd_ba (F := F) (F' := F') (k := 25) (hF 25 (by decide))
  have t70 : sy_dv F' (.inr (.inl 70)) = .int ((sy_ai F 25).getD (sy_i F 4).toNatClampNeg 0) := hd_rd (hs 0 _ rfl) b4 a25
  have b5 := hd_b (F := F) (F' := F') (k := 5) (hF 5 (by decide))
  have b69 := hd_b (F := F) (F' := F') (k := 69) (hF 69 (by decide))
  have t71 : sy_dv F' (.inr (.inl 71)) = .int ((sy_ai F 25).getD (sy_i F 4).toNatClampNeg 0) := hd_rd (hs 1 _ rfl) b4 a25
  have t72 : sy_dv F' (.inr (.inl 72)) = .int ((sy_ai F 25).getD (sy_i F 4).toNatClampNeg 0) := hd_rd (hs 2 _ rfl) b4 a25
  have t73 : sy_dv F' (.inr (.inl 73)) = .int ((sy_ai F 25).getD (sy_i F 4).toNatClampNeg 0) := hd_rd (hs 3 _ rfl) b4 a25
  have t74 : sy_dv F' (.inr (.inl 74)) = .int ((sy_ai F 25).getD (sy_i F 4).toNatClampNeg 0) := hd_rd (hs 4 _ rfl) b4 a25
  have hB' : iv_in F' iv_B4 := iv_in_eq hB (fun j hj => hF j (Nat.lt_of_lt_of_le hj (by decide +kernel)))
  refine ⟨List.forall_mem_cons.mpr ⟨hd_p0 b6 rfl (by have hc : ((0) : Int32).toInt = 0 := (by decide); omega), List.forall_mem_cons.mpr ⟨hd_pb b4 (by first | exact h1 | exact h1), List.forall_mem_cons.mpr ⟨hd_p0 t70 rfl (by have hc : ((7) : Int32).toInt = 7 := (by decide); omega), List.forall_mem_cons.mpr ⟨hd_p4 b5 b69 h3, List.forall_mem_cons.mpr ⟨hd_p0 b6 rfl (by have hc : ((0) : Int32).toInt = 0 := (by decide); omega), List.forall_mem_cons.mpr ⟨hd_pb b4 (by first | exact h5 | exact h5), List.forall_mem_cons.mpr ⟨hd_p1 t71 rfl (by have hc : ((8) : Int32).toInt = 8 := (by decide); omega), List.forall_mem_cons.mpr ⟨hd_p0 b6 rfl (by have hc : ((0) : Int32).toInt = 0 := (by decide); omega), List.forall_mem_cons.mpr ⟨hd_pb b4 (by first | exact h8 | exact h8), List.forall_mem_cons.mpr ⟨hd_p1 t72 rfl (by have hc : ((9) : Int32).toInt = 9 := (by decide); omega), List.forall_mem_cons.mpr ⟨hd_p0 b6 rfl (by have hc : ((0) : Int32).toInt = 0 := (by decide); omega), List.forall_mem_cons.mpr ⟨hd_pb b4 (by first | exact h11 | exact h11), List.forall_mem_cons.mpr ⟨hd_p1 t73 rfl (by have hc : ((10) : Int32).toInt = 10 := (by decide); omega), List.forall_mem_cons.mpr ⟨hd_p0 b6 rfl (by have hc : ((0) : Int32).toInt = 0 := (by decide); omega), List.forall_mem_cons.mpr ⟨hd_pb b4 (by first | exact h14 | exact h14), List.forall_mem_cons.mpr ⟨hd_p1 t74 rfl (by have hc : ((15) : Int32).toInt = 15 := (by decide); omega), List.forall_mem_cons.mpr ⟨hd_p4 b5 b69 h16, fun _ h => absurd h List.not_mem_nil⟩⟩⟩⟩⟩⟩⟩⟩⟩⟩⟩⟩⟩⟩⟩⟩⟩, ?_⟩
  refine k _ ?_
  · exact fun j hj _ => (hd_keep hB' (Nat.lt_of_lt_of_le hj (by decide +kernel)) (by simp)).trans (hF j (by omega))
theorem ex_96_p9 {Ls : Nat} {xs : Nat → Int32} {d : Nat} {Q : Option Value → jm_h → Prop} (hd : 4 ≤ d) (F : Nat → sy_d) (X1 X2 : List jm_c) (hB : iv_in F iv_B4)
    (h0 : (sy_i F 6).toInt = 0)
    (h1 : 0 ≤ (sy_i F 4).toInt ∧ (sy_i F 4).toInt < 403)
    (h2 : ((sy_ai F 25).getD (sy_i F 4).toNatClampNeg 0).toInt = 7)
    (h3 : (sy_i F 5).toInt ≤ (sy_i F 69).toInt)
    (h4 : (sy_i F 6).toInt = 0)
    (h5 : 0 ≤ (sy_i F 4).toInt ∧ (sy_i F 4).toInt < 403)
    (h6 : ((sy_ai F 25).getD (sy_i F 4).toNatClampNeg 0).toInt ≠ 8)
    (h7 : (sy_i F 6).toInt = 0)
    (h8 : 0 ≤ (sy_i F 4).toInt ∧ (sy_i F 4).toInt < 403)
    (h9 : ((sy_ai F 25).getD (sy_i F 4).toNatClampNeg 0).toInt ≠ 9)
    (h10 : (sy_i F 6).toInt = 0)
    (h11 : 0 ≤ (sy_i F 4).toInt ∧ (sy_i F 4).toInt < 403)
    (h12 : ((sy_ai F 25).getD (sy_i F 4).toNatClampNeg 0).toInt ≠ 10)
    (h13 : (sy_i F 6).toInt = 0)
    (h14 : 0 ≤ (sy_i F 4).toInt ∧ (sy_i F 4).toInt < 403)
    (h15 : ((sy_ai F 25).getD (sy_i F 4).toNatClampNeg 0).toInt ≠ 15)
    (h16 : (sy_i F 69).toInt < (sy_i F 5).toInt)
    (h17 : (sy_i F 6).toInt ≤ 0)
    (h18 : 0 ≤ (sy_i F 4).toInt ∧ (sy_i F 4).toInt < 403)
    (k : ∀ F1 : Nat → sy_d, (∀ j, j < 69 → j ≠ 6 ∧ j ≠ 7 → F1 j = F j) → F1 6 = .inl (.int ((1 : Int32))) → F1 7 = .inl (.int ((sy_ai F 26).getD (sy_i F 4).toNatClampNeg 0)) → hd_W Ls xs d jm_M164 Q (206, sy_dL F1 [some (.inl (.ref 1000)), none, none], sy_dS F1 [.inl (.int 0), .inl (.ref 1000)], sy_dh F1 X1 X2 (iv_H 4), 0, 0)) :
    hd_W Ls xs d jm_M164 Q (96, sy_dL F [some (.inl (.ref 1000)), some (.inr (.inl 69)), some (.inl (.int 1))], sy_dS F [], sy_dh F X1 X2 (iv_H 4), 0, 0) := by
  refine hd_run (s := 4) (nv := 70) (pc := 206) (L := [some (.inl (.ref 1000)), none, none]) (S := [.inl (.int 0), .inl (.ref 1000)]) (uh := hd_ov (iv_id 0 iv_B4) [(6, .inl (.inl (.int 1))), (7, .inl (.inr (.inl 75)))]) (ul := []) (f := true) (sp := [115, 206, 234]) (d0 := 3) (O := [false, false, true, false, true, false, true, false, true, false, true, false, true]) (T := [(30, [.inr (.inl 4)], [.inr (.inl 25)]), (30, [.inr (.inl 4)], [.inr (.inl 25)]), (30, [.inr (.inl 4)], [.inr (.inl 25)]), (30, [.inr (.inl 4)], [.inr (.inl 25)]), (30, [.inr (.inl 4)], [.inr (.inl 25)]), (30, [.inr (.inl 4)], [.inr (.inl 26)])]) (P := [(0, .inr (.inl 6), .inl (.int 0)), (6, .inr (.inl 4), .inl (.ref 403)), (0, .inr (.inl 70), .inl (.int 7)), (4, .inr (.inl 5), .inr (.inl 69)), (0, .inr (.inl 6), .inl (.int 0)), (6, .inr (.inl 4), .inl (.ref 403)), (1, .inr (.inl 71), .inl (.int 8)), (0, .inr (.inl 6), .inl (.int 0)), (6, .inr (.inl 4), .inl (.ref 403)), (1, .inr (.inl 72), .inl (.int 9)), (0, .inr (.inl 6), .inl (.int 0)), (6, .inr (.inl 4), .inl (.ref 403)), (1, .inr (.inl 73), .inl (.int 10)), (0, .inr (.inl 6), .inl (.int 0)), (6, .inr (.inl 4), .inl (.ref 403)), (1, .inr (.inl 74), .inl (.int 15)), (5, .inr (.inl 5), .inr (.inl 69)), (4, .inr (.inl 6), .inl (.int 0)), (6, .inr (.inl 4), .inl (.ref 403))]) jm_ok164 (by decide +kernel) (by decide +kernel) hd F X1 X2 (fun F' hF hs => ?_)
  have b6 := hd_b (F := F) (F' := F') (k := 6) (hF 6 (by decide))
  have b4 := hd_b (F := F) (F' := F') (k := 4) (hF 4 (by decide))
  have a25 := hd_ba (F := F) (F' := F') (k := 25) (hF 25 (by decide))
  have t70 : sy_dv F' (.inr (.inl 70)) = .int ((sy_ai F 25).getD (sy_i F 4).toNatClampNeg 0) := hd_rd (hs 0 _ rfl) b4 a25
  have b5 := hd_b (F := F) (F' := F') (k := 5) (hF 5 (by decide))
  have b69 := hd_b (F := F) (F' := F') (k := 69) (hF 69 (by decide))
  have t71 : sy_dv F' (.inr (.inl 71)) = .int ((sy_ai F 25).getD (sy_i F 4).toNatClampNeg 0) := hd_rd (hs 1 _ rfl) b4 a25
  have t72 : sy_dv F' (.inr (.inl 72)) = .int ((sy_ai F 25).getD (sy_i F 4).toNatClampNeg 0) := hd_rd (hs 2 _ rfl) b4 a25
  have t73 : sy_dv F' (.inr (.inl 73)) = .int ((sy_ai F 25).getD (sy_i F 4).toNatClampNeg 0) := hd_rd (hs 3 _ rfl) b4 a25
  have t74 : sy_dv F' (.inr (.inl 74)) = .int ((sy_ai F 25).getD (sy_i F 4).toNatClampNeg 0) := hd_rd (hs 4 _ rfl) b4 a25
  have a26 := hd_ba (F := F) (F' := F') (k := 26) (hF 26 (by decide))
  have t75 : sy_dv F' (.inr (.inl 75)) = .int ((sy_ai F 26).getD (sy_i F 4).toNatClampNeg 0) := hd_rd (hs 5 _ rfl) b4 a26
  have hB' : iv_in F' iv_B4 := iv_in_eq hB (fun j hj => hF j (Nat.lt_of_lt_of_le hj (by decide +kernel)))
  refine ⟨List.forall_mem_cons.mpr ⟨hd_p0 b6 rfl (by have hc : ((0) : Int32).toInt = 0 := (by decide); omega), List.forall_mem_cons.mpr ⟨hd_pb b4 (by first | exact h1 | exact h1), List.forall_mem_cons.mpr ⟨hd_p0 t70 rfl (by have hc : ((7) : Int32).toInt = 7 := (by decide); omega), List.forall_mem_cons.mpr ⟨hd_p4 b5 b69 h3, List.forall_mem_cons.mpr ⟨hd_p0 b6 rfl (by have hc : ((0) : Int32).toInt = 0 := (by decide); omega), List.forall_mem_cons.mpr ⟨hd_pb b4 (by first | exact h5 | exact h5), List.forall_mem_cons.mpr ⟨hd_p1 t71 rfl (by have hc : ((8) : Int32).toInt = 8 := (by decide); omega), List.forall_mem_cons.mpr ⟨hd_p0 b6 rfl (by have hc : ((0) : Int32).toInt = 0 := (by decide); omega), List.forall_mem_cons.mpr ⟨hd_pb b4 (by first | exact h8 | exact h8), List.forall_mem_cons.mpr ⟨hd_p1 t72 rfl (by have hc : ((9) : Int32).toInt = 9 := (by decide); omega), List.forall_mem_cons.mpr ⟨hd_p0 b6 rfl (by have hc : ((0) : Int32).toInt = 0 := (by decide); omega), List.forall_mem_cons.mpr ⟨hd_pb b4 (by first | exact h11 | exact h11), List.forall_mem_cons.mpr ⟨hd_p1 t73 rfl (by have hc : ((10) : Int32).toInt = 10 := (by decide); omega), List.forall_mem_cons.mpr ⟨hd_p0 b6 rfl (by have hc : ((0) : Int32).toInt = 0 := (by decide); omega), List.forall_mem_cons.mpr ⟨hd_pb b4 (by first | exact h14 | exact h14), List.forall_mem_cons.mpr ⟨hd_p1 t74 rfl (by have hc : ((15) : Int32).toInt = 15 := (by decide); omega), List.forall_mem_cons.mpr ⟨hd_p5 b5 b69 h16, List.forall_mem_cons.mpr ⟨hd_p4 b6 rfl (by have hc : ((0) : Int32).toInt = 0 := (by decide); omega), List.forall_mem_cons.mpr ⟨hd_pb b4 (by first | exact h18 | exact h18), fun _ h => absurd h List.not_mem_nil⟩⟩⟩⟩⟩⟩⟩⟩⟩⟩⟩⟩⟩⟩⟩⟩⟩⟩⟩, ?_⟩
  refine k _ ?_ ?_ ?_
  · exact fun j hj hn => (hd_keep hB' (Nat.lt_of_lt_of_le hj (by decide +kernel)) (by simp; omega)).trans (hF j (by omega))
  · exact hd_gi (x := .inl (.int 1)) (by decide +kernel) rfl
  · exact hd_gi (x := .inr (.inl 75)) (by decide +kernel) t75
theorem ex_96_p10 {Ls : Nat} {xs : Nat → Int32} {d : Nat} {Q : Option Value → jm_h → Prop} (hd : 4 ≤ d) (F : Nat → sy_d) (X1 X2 : List jm_c) (hB : iv_in F iv_B4)
    (h0 : (sy_i F 6).toInt = 0)
    (h1 : 0 ≤ (sy_i F 4).toInt ∧ (sy_i F 4).toInt < 403)
    (h2 : ((sy_ai F 25).getD (sy_i F 4).toNatClampNeg 0).toInt = 7)
    (h3 : (sy_i F 69).toInt < (sy_i F 5).toInt)
    (k : ∀ F1 : Nat → sy_d, (∀ j, j < 69 → True → F1 j = F j) → F1 69 = .inl (.int (sy_i F 69)) → hd_W Ls xs d jm_M164 Q (115, sy_dL F1 [some (.inl (.ref 1000)), some (.inr (.inl 69)), some (.inl (.int 1))], sy_dS F1 [.inl (.int 0), .inl (.ref 1000)], sy_dh F1 X1 X2 (iv_H 4), 0, 0)) :
    hd_W Ls xs d jm_M164 Q (96, sy_dL F [some (.inl (.ref 1000)), some (.inr (.inl 69)), some (.inl (.int 1))], sy_dS F [], sy_dh F X1 X2 (iv_H 4), 0, 0) := by
  refine hd_run (s := 4) (nv := 70) (pc := 115) (L := [some (.inl (.ref 1000)), some (.inr (.inl 69)), some (.inl (.int 1))]) (S := [.inl (.int 0), .inl (.ref 1000)]) (uh := hd_ov (iv_id 0 iv_B4) []) (ul := [.inl (.inr (.inl 69))]) (f := true) (sp := [115, 206, 234]) (d0 := 3) (O := [false, false, false]) (T := [(30, [.inr (.inl 4)], [.inr (.inl 25)])]) (P := [(0, .inr (.inl 6), .inl (.int 0)), (6, .inr (.inl 4), .inl (.ref 403)), (0, .inr (.inl 70), .inl (.int 7)), (5, .inr (.inl 5), .inr (.inl 69))]) jm_ok164 (by decide +kernel) (by decide +kernel) hd F X1 X2 (fun F' hF hs => ?_)
  have b6 := hd_b (F := F) (F' := F') (k := 6) (hF 6 (by decide))
  have b4 := hd_b (F := F) (F' := F') (k := 4) (hF 4 (by decide))
  have a25 := hd_ba (F := F) (F' := F') (k := 25) (hF 25 (by decide))
  have t70 : sy_dv F' (.inr (.inl 70)) = .int ((sy_ai F 25).getD (sy_i F 4).toNatClampNeg 0) := hd_rd (hs 0 _ rfl) b4 a25
  have b5 := hd_b (F := F) (F' := F') (k := 5) (hF 5 (by decide))
  have b69 := hd_b (F := F) (F' := F') (k := 69) (hF 69 (by decide))
  have hB' : iv_in F' iv_B4 := iv_in_eq hB (fun j hj => hF j (Nat.lt_of_lt_of_le hj (by decide +kernel)))
  refine ⟨List.forall_mem_cons.mpr ⟨hd_p0 b6 rfl (by have hc : ((0) : Int32).toInt = 0 := (by decide); omega), List.forall_mem_cons.mpr ⟨hd_pb b4 (by first | exact h1 | exact h1), List.forall_mem_cons.mpr ⟨hd_p0 t70 rfl (by have hc : ((7) : Int32).toInt = 7 := (by decide); omega), List.forall_mem_cons.mpr ⟨hd_p5 b5 b69 h3, fun _ h => absurd h List.not_mem_nil⟩⟩⟩⟩, ?_⟩
  refine k _ ?_ ?_
  · exact fun j hj _ => (hd_keep hB' (Nat.lt_of_lt_of_le hj (by decide +kernel)) (by simp)).trans (hF j (by omega))
  · exact hd_gi (x := .inr (.inl 69)) (by decide +kernel) b69
theorem ex_118_p0 {Ls : Nat} {xs : Nat → Int32} {d : Nat} {Q : Option Value → jm_h → Prop} (hd : 4 ≤ d) (F : Nat → sy_d) (X1 X2 : List jm_c) (hB : iv_in F iv_B4)
    (h0 : (sy_i F 4).toInt ≠ 400)
    (k : ∀ F1 : Nat → sy_d, (∀ j, j < 69 → j ≠ 4 ∧ j ≠ 5 ∧ j ≠ 16 → F1 j = F j) → F1 4 = .inl (.int ((sy_i F 4) + ((1 : Int32)))) → F1 5 = .inl (.int ((sy_i F 5) - ((1 : Int32)))) → F1 16 = .inl (.int ((sy_i F 16) - ((1 : Int32)))) → F1 69 = .inl (.int (sy_i F 69)) → hd_W Ls xs d jm_M164 Q (96, sy_dL F1 [some (.inl (.ref 1000)), some (.inr (.inl 69)), some (.inl (.int 1))], sy_dS F1 [], sy_dh F1 X1 X2 (iv_H 4), 0, 0)) :
    hd_W Ls xs d jm_M164 Q (118, sy_dL F [some (.inl (.ref 1000)), some (.inr (.inl 69)), some (.inl (.int 1))], sy_dS F [], sy_dh F X1 X2 (iv_H 4), 0, 0) := by
  refine hd_run (s := 4) (nv := 70) (pc := 96) (L := [some (.inl (.ref 1000)), some (.inr (.inl 69)), some (.inl (.int 1))]) (S := []) (uh := hd_ov (iv_id 0 iv_B4) [(4, .inl (.inr (.inl 72))), (5, .inl (.inr (.inl 71))), (16, .inl (.inr (.inl 70)))]) (ul := [.inl (.inr (.inl 69))]) (f := false) (sp := [96]) (d0 := 3) (O := [true]) (T := [(1, [.inr (.inl 16), .inl (.int 1)], []), (1, [.inr (.inl 5), .inl (.int 1)], []), (0, [.inr (.inl 4), .inl (.int 1)], [])]) (P := [(1, .inr (.inl 4), .inl (.int 400))]) jm_ok164 (by decide +kernel) (by decide +kernel) hd F X1 X2 (fun F' hF hs => ?_)
  have b4 := hd_b (F := F) (F' := F') (k := 4) (hF 4 (by decide))
  have t72 : sy_dv F' (.inr (.inl 72)) = .int ((sy_i F 4) + ((1 : Int32))) := hd_o (hs 2 _ rfl) b4 rfl rfl
  have b5 := hd_b (F := F) (F' := F') (k := 5) (hF 5 (by decide))
  have t71 : sy_dv F' (.inr (.inl 71)) = .int ((sy_i F 5) - ((1 : Int32))) := hd_o (hs 1 _ rfl) b5 rfl rfl
  have b16 := hd_b (F := F) (F' := F') (k := 16) (hF 16 (by decide))
  have t70 : sy_dv F' (.inr (.inl 70)) = .int ((sy_i F 16) - ((1 : Int32))) := hd_o (hs 0 _ rfl) b16 rfl rfl
  have b69 := hd_b (F := F) (F' := F') (k := 69) (hF 69 (by decide))
  have hB' : iv_in F' iv_B4 := iv_in_eq hB (fun j hj => hF j (Nat.lt_of_lt_of_le hj (by decide +kernel)))
  refine ⟨List.forall_mem_cons.mpr ⟨hd_p1 b4 rfl (by have hc : ((400) : Int32).toInt = 400 := (by decide); omega), fun _ h => absurd h List.not_mem_nil⟩, ?_⟩
  refine k _ ?_ ?_ ?_ ?_ ?_
  · exact fun j hj hn => (hd_keep hB' (Nat.lt_of_lt_of_le hj (by decide +kernel)) (by simp; omega)).trans (hF j (by omega))
  · exact hd_gi (x := .inr (.inl 72)) (by decide +kernel) t72
  · exact hd_gi (x := .inr (.inl 71)) (by decide +kernel) t71
  · exact hd_gi (x := .inr (.inl 70)) (by decide +kernel) t70
  · exact hd_gi (x := .inr (.inl 69)) (by decide +kernel) b69
theorem ex_118_p1 {Ls : Nat} {xs : Nat → Int32} {d : Nat} {Q : Option Value → jm_h → Prop} (hd : 4 ≤ d) (F : Nat → sy_d) (X1 X2 : List jm_c) (hB : iv_in F iv_B4)
    (h0 : (sy_i F 4).toInt = 400)
    (h1 : (sy_i F 6).toInt ≤ 0)
    (h2 : 0 ≤ (sy_i F 4).toInt ∧ (sy_i F 4).toInt < 403)
    (k : ∀ F1 : Nat → sy_d, (∀ j, j < 69 → j ≠ 5 ∧ j ≠ 6 ∧ j ≠ 7 ∧ j ≠ 16 → F1 j = F j) → F1 5 = .inl (.int ((sy_i F 5) - ((1 : Int32)))) → F1 6 = .inl (.int ((2 : Int32))) → F1 7 = .inl (.int ((sy_ai F 26).getD (sy_i F 4).toNatClampNeg 0)) → F1 16 = .inl (.int ((sy_i F 16) - ((1 : Int32)))) → F1 69 = .inl (.int (sy_i F 69)) → hd_W Ls xs d jm_M164 Q (96, sy_dL F1 [some (.inl (.ref 1000)), some (.inr (.inl 69)), some (.inl (.int 1))], sy_dS F1 [], sy_dh F1 X1 X2 (iv_H 4), 0, 0)) :
    hd_W Ls xs d jm_M164 Q (118, sy_dL F [some (.inl (.ref 1000)), some (.inr (.inl 69)), some (.inl (.int 1))], sy_dS F [], sy_dh F X1 X2 (iv_H 4), 0, 0) := by
  refine hd_run (s := 4) (nv := 70) (pc := 96) (L := [some (.inl (.ref 1000)), some (.inr (.inl 69)), some (.inl (.int 1))]) (S := []) (uh := hd_ov (iv_id 0 iv_B4) [(5, .inl (.inr (.inl 71))), (6, .inl (.inl (.int 2))), (7, .inl (.inr (.inl 72))), (16, .inl (.inr (.inl 70)))]) (ul := [.inl (.inr (.inl 69))]) (f := false) (sp := [96]) (d0 := 3) (O := [false, true]) (T := [(1, [.inr (.inl 16), .inl (.int 1)], []), (1, [.inr (.inl 5), .inl (.int 1)], []), (30, [.inr (.inl 4)], [.inr (.inl 26)])]) (P := [(0, .inr (.inl 4), .inl (.int 400)), (4, .inr (.inl 6), .inl (.int 0)), (6, .inr (.inl 4), .inl (.ref 403))]) jm_ok164 (by decide +kernel) (by decide +kernel) hd F X1 X2 (fun F' hF hs => ?_)
  have b4 := hd_b (F := F) (F' := F') (k := 4) (hF 4 (by decide))
  have b6 := hd_b (F := F) (F' := F') (k := 6) (hF 6 (by decide))
  have b5 := hd_b (F := F) (F' := F') (k := 5) (hF 5 (by decide))
  have t71 : sy_dv F' (.inr (.inl 71)) = .int ((sy_i F 5) - ((1 : Int32))) := hd_o (hs 1 _ rfl) b5 rfl rfl
  have a26 := hd_ba (F := F) (F' := F') (k := 26) (hF 26 (by decide))
  have t72 : sy_dv F' (.inr (.inl 72)) = .int ((sy_ai F 26).getD (sy_i F 4).toNatClampNeg 0) := hd_rd (hs 2 _ rfl) b4 a26
  have b16 := hd_b (F := F) (F' := F') (k := 16) (hF 16 (by decide))
  have t70 : sy_dv F' (.inr (.inl 70)) = .int ((sy_i F 16) - ((1 : Int32))) := hd_o (hs 0 _ rfl) b16 rfl rfl
  have b69 := hd_b (F := F) (F' := F') (k := 69) (hF 69 (by decide))
  have hB' : iv_in F' iv_B4 := iv_in_eq hB (fun j hj => hF j (Nat.lt_of_lt_of_le hj (by decide +kernel)))
  refine ⟨List.forall_mem_cons.mpr ⟨hd_p0 b4 rfl (by have hc : ((400) : Int32).toInt = 400 := (by decide); omega), List.forall_mem_cons.mpr ⟨hd_p4 b6 rfl (by have hc : ((0) : Int32).toInt = 0 := (by decide); omega), List.forall_mem_cons.mpr ⟨hd_pb b4 (by first | exact h2 | exact h2), fun _ h => absurd h List.not_mem_nil⟩⟩⟩, ?_⟩
  refine k _ ?_ ?_ ?_ ?_ ?_ ?_
  · exact fun j hj hn => (hd_keep hB' (Nat.lt_of_lt_of_le hj (by decide +kernel)) (by simp; omega)).trans (hF j (by omega))
  · exact hd_gi (x := .inr (.inl 71)) (by decide +kernel) t71
  · exact hd_gi (x := .inl (.int 2)) (by decide +kernel) rfl
  · exact hd_gi (x := .inr (.inl 72)) (by decide +kernel) t72
  · exact hd_gi (x := .inr (.inl 70)) (by decide +kernel) t70
  · exact hd_gi (x := .inr (.inl 69)) (by decide +kernel) b69
theorem ex_118_p2 {Ls : Nat} {xs : Nat → Int32} {d : Nat} {Q : Option Value → jm_h → Prop} (hd : 4 ≤ d) (F : Nat → sy_d) (X1 X2 : List jm_c) (hB : iv_in F iv_B4)
    (h0 : (sy_i F 4).toInt = 400)
    (h1 : 0 < (sy_i F 6).toInt)
    (k : ∀ F1 : Nat → sy_d, (∀ j, j < 69 → j ≠ 5 ∧ j ≠ 16 → F1 j = F j) → F1 5 = .inl (.int ((sy_i F 5) - ((1 : Int32)))) → F1 16 = .inl (.int ((sy_i F 16) - ((1 : Int32)))) → F1 69 = .inl (.int (sy_i F 69)) → hd_W Ls xs d jm_M164 Q (96, sy_dL F1 [some (.inl (.ref 1000)), some (.inr (.inl 69)), some (.inl (.int 1))], sy_dS F1 [], sy_dh F1 X1 X2 (iv_H 4), 0, 0)) :
    hd_W Ls xs d jm_M164 Q (118, sy_dL F [some (.inl (.ref 1000)), some (.inr (.inl 69)), some (.inl (.int 1))], sy_dS F [], sy_dh F X1 X2 (iv_H 4), 0, 0) := by
  refine hd_run (s := 4) (nv := 70) (pc := 96) (L := [some (.inl (.ref 1000)), some (.inr (.inl 69)), some (.inl (.int 1))]) (S := []) (uh := hd_ov (iv_id 0 iv_B4) [(5, .inl (.inr (.inl 71))), (16, .inl (.inr (.inl 70)))]) (ul := [.inl (.inr (.inl 69))]) (f := false) (sp := [96]) (d0 := 3) (O := [false, false]) (T := [(1, [.inr (.inl 16), .inl (.int 1)], []), (1, [.inr (.inl 5), .inl (.int 1)], [])]) (P := [(0, .inr (.inl 4), .inl (.int 400)), (5, .inr (.inl 6), .inl (.int 0))]) jm_ok164 (by decide +kernel) (by decide +kernel) hd F X1 X2 (fun F' hF hs => ?_)
  have b4 := hd_b (F := F) (F' := F') (k := 4) (hF 4 (by decide))
  have b6 := hd_b (F := F) (F' := F') (k := 6) (hF 6 (by decide))
  have b5 := hd_b (F := F) (F' := F') (k := 5) (hF 5 (by decide))
  have t71 : sy_dv F' (.inr (.inl 71)) = .int ((sy_i F 5) - ((1 : Int32))) := hd_o (hs 1 _ rfl) b5 rfl rfl
  have b16 := hd_b (F := F) (F' := F') (k := 16) (hF 16 (by decide))
  have t70 : sy_dv F' (.inr (.inl 70)) = .int ((sy_i F 16) - ((1 : Int32))) := hd_o (hs 0 _ rfl) b16 rfl rfl
  have b69 := hd_b (F := F) (F' := F') (k := 69) (hF 69 (by decide))
  have hB' : iv_in F' iv_B4 := iv_in_eq hB (fun j hj => hF j (Nat.lt_of_lt_of_le hj (by decide +kernel)))
  refine ⟨List.forall_mem_cons.mpr ⟨hd_p0 b4 rfl (by have hc : ((400) : Int32).toInt = 400 := (by decide); omega), List.forall_mem_cons.mpr ⟨hd_p5 b6 rfl (by have hc : ((0) : Int32).toInt = 0 := (by decide); omega), fun _ h => absurd h List.not_mem_nil⟩⟩, ?_⟩
  refine k _ ?_ ?_ ?_ ?_
  · exact fun j hj hn => (hd_keep hB' (Nat.lt_of_lt_of_le hj (by decide +kernel)) (by simp; omega)).trans (hF j (by omega))
  · exact hd_gi (x := .inr (.inl 71)) (by decide +kernel) t71
  · exact hd_gi (x := .inr (.inl 70)) (by decide +kernel) t70
  · exact hd_gi (x := .inr (.inl 69)) (by decide +kernel) b69
theorem ex_209_p0 {Ls : Nat} {xs : Nat → Int32} {d : Nat} {Q : Option Value → jm_h → Prop} (hd : 4 ≤ d) (F : Nat → sy_d) (X1 X2 : List jm_c) (hB : iv_in F iv_B4)
    (k : ∀ F1 : Nat → sy_d, (∀ j, j < 69 → True → F1 j = F j) → Q (none) (sy_dh F1 X1 X2 (iv_H 4))) :
    hd_W Ls xs d jm_M164 Q (209, sy_dL F [some (.inl (.ref 1000)), none, none], sy_dS F [], sy_dh F X1 X2 (iv_H 4), 0, 0) := by
  refine hd_ret (s := 4) (nv := 69) (v := none) (uh := hd_ov (iv_id 0 iv_B4) []) (f := false) (sp := []) (d0 := 3) (O := []) (T := []) (P := []) jm_ok164 (by decide +kernel) (by decide +kernel) hd F X1 X2 (fun F' hF hs => ?_)
  have hB' : iv_in F' iv_B4 := iv_in_eq hB (fun j hj => hF j (Nat.lt_of_lt_of_le hj (by decide +kernel)))
  refine ⟨fun _ h => absurd h List.not_mem_nil, ?_⟩
  refine k _ ?_
  · exact fun j hj _ => (hd_keep hB' (Nat.lt_of_lt_of_le hj (by decide +kernel)) (by simp)).trans (hF j (by omega))
theorem ex_237_p0 {Ls : Nat} {xs : Nat → Int32} {d : Nat} {Q : Option Value → jm_h → Prop} (hd : 4 ≤ d) (F : Nat → sy_d) (X1 X2 : List jm_c) (hB : iv_in F iv_B4)
    (h0 : 0 ≤ (sy_i F 4).toInt ∧ (sy_i F 4).toInt < 403)
    (h1 : 0 ≤ (sy_i F 16).toInt ∧ (sy_i F 16).toInt < 64)
    (h2 : (sy_i F 4).toInt ≠ 400)
    (k : ∀ F1 : Nat → sy_d, (∀ j, j < 69 → j ≠ 4 ∧ j ≠ 16 ∧ j ≠ 51 → F1 j = F j) → F1 4 = .inl (.int ((sy_i F 4) + ((1 : Int32)))) → F1 16 = .inl (.int ((sy_i F 16) + ((1 : Int32)))) → F1 51 = .inr (.inl (jm_upd (sy_ai F 51) (sy_i F 16).toNatClampNeg ((sy_ai F 25).getD (sy_i F 4).toNatClampNeg 0))) → F1 69 = .inl (.int (sy_i F 69)) → hd_W Ls xs d jm_M164 Q (12, sy_dL F1 [some (.inl (.ref 1000)), some (.inr (.inl 69)), some (.inl (.int 1))], sy_dS F1 [], sy_dh F1 X1 X2 (iv_H 4), 0, 0)) :
    hd_W Ls xs d jm_M164 Q (237, sy_dL F [some (.inl (.ref 1000)), some (.inr (.inl 69)), some (.inl (.int 1))], sy_dS F [], sy_dh F X1 X2 (iv_H 4), 0, 0) := by
  refine hd_run (s := 4) (nv := 71) (pc := 12) (L := [some (.inl (.ref 1000)), some (.inr (.inl 69)), some (.inl (.int 1))]) (S := []) (uh := hd_ov (iv_id 0 iv_B4) [(4, .inl (.inr (.inl 74))), (16, .inl (.inr (.inl 73))), (51, .inr (.inr (.inl 72)))]) (ul := [.inl (.inr (.inl 69))]) (f := false) (sp := [12]) (d0 := 3) (O := [true]) (T := [(30, [.inr (.inl 4)], [.inr (.inl 25)]), (40, [.inr (.inl 16), .inr (.inl 71)], [.inr (.inl 51)]), (0, [.inr (.inl 16), .inl (.int 1)], []), (0, [.inr (.inl 4), .inl (.int 1)], [])]) (P := [(6, .inr (.inl 4), .inl (.ref 403)), (6, .inr (.inl 16), .inl (.ref 64)), (1, .inr (.inl 4), .inl (.int 400))]) jm_ok164 (by decide +kernel) (by decide +kernel) hd F X1 X2 (fun F' hF hs => ?_)
  have b4 := hd_b (F := F) (F' := F') (k := 4) (hF 4 (by decide))
  have b16 := hd_b (F := F) (F' := F') (k := 16) (hF 16 (by decide))
  have t74 : sy_dv F' (.inr (.inl 74)) = .int ((sy_i F 4) + ((1 : Int32))) := hd_o (hs 3 _ rfl) b4 rfl rfl
  have t73 : sy_dv F' (.inr (.inl 73)) = .int ((sy_i F 16) + ((1 : Int32))) := hd_o (hs 2 _ rfl) b16 rfl rfl
  have a25 := hd_ba (F := F) (F' := F') (k := 25) (hF 25 (by decide))
  have t71 : sy_dv F' (.inr (.inl 71)) = .int ((sy_ai F 25).getD (sy_i F 4).toNatClampNeg 0) := hd_rd (hs 0 _ rfl) b4 a25
  have a51 := hd_ba (F := F) (F' := F') (k := 51) (hF 51 (by decide))
  have t72 : sy_da F' (.inr (.inl 72)) = .inl (jm_upd (sy_ai F 51) (sy_i F 16).toNatClampNeg ((sy_ai F 25).getD (sy_i F 4).toNatClampNeg 0)) := hd_up (hs 1 _ rfl) b16 t71 a51
  have b69 := hd_b (F := F) (F' := F') (k := 69) (hF 69 (by decide))
  have hB' : iv_in F' iv_B4 := iv_in_eq hB (fun j hj => hF j (Nat.lt_of_lt_of_le hj (by decide +kernel)))
  refine ⟨List.forall_mem_cons.mpr ⟨hd_pb b4 (by first | exact h0 | exact h0), List.forall_mem_cons.mpr ⟨hd_pb b16 (by first | exact h1 | exact h1), List.forall_mem_cons.mpr ⟨hd_p1 b4 rfl (by have hc : ((400) : Int32).toInt = 400 := (by decide); omega), fun _ h => absurd h List.not_mem_nil⟩⟩⟩, ?_⟩
  refine k _ ?_ ?_ ?_ ?_ ?_
  · exact fun j hj hn => (hd_keep hB' (Nat.lt_of_lt_of_le hj (by decide +kernel)) (by simp; omega)).trans (hF j (by omega))
  · exact hd_gi (x := .inr (.inl 74)) (by decide +kernel) t74
  · exact hd_gi (x := .inr (.inl 73)) (by decide +kernel) t73
  · exact hd_ga (a := .inr (.inl 72)) (by decide +kernel) t72
  · exact hd_gi (x := .inr (.inl 69)) (by decide +kernel) b69
theorem ex_237_p1 {Ls : Nat} {xs : Nat → Int32} {d : Nat} {Q : Option Value → jm_h → Prop} (hd : 4 ≤ d) (F : Nat → sy_d) (X1 X2 : List jm_c) (hB : iv_in F iv_B4)
    (h0 : 0 ≤ (sy_i F 4).toInt ∧ (sy_i F 4).toInt < 403)
    (h1 : 0 ≤ (sy_i F 16).toInt ∧ (sy_i F 16).toInt < 64)
    (h2 : (sy_i F 4).toInt = 400)
    (h3 : (sy_i F 6).toInt ≤ 0)
    (h4 : 0 ≤ (sy_i F 4).toInt ∧ (sy_i F 4).toInt < 403)
    (k : ∀ F1 : Nat → sy_d, (∀ j, j < 69 → j ≠ 6 ∧ j ≠ 7 ∧ j ≠ 16 ∧ j ≠ 51 → F1 j = F j) → F1 6 = .inl (.int ((2 : Int32))) → F1 7 = .inl (.int ((sy_ai F 26).getD (sy_i F 4).toNatClampNeg 0)) → F1 16 = .inl (.int ((sy_i F 16) + ((1 : Int32)))) → F1 51 = .inr (.inl (jm_upd (sy_ai F 51) (sy_i F 16).toNatClampNeg ((sy_ai F 25).getD (sy_i F 4).toNatClampNeg 0))) → F1 69 = .inl (.int (sy_i F 69)) → hd_W Ls xs d jm_M164 Q (12, sy_dL F1 [some (.inl (.ref 1000)), some (.inr (.inl 69)), some (.inl (.int 1))], sy_dS F1 [], sy_dh F1 X1 X2 (iv_H 4), 0, 0)) :
    hd_W Ls xs d jm_M164 Q (237, sy_dL F [some (.inl (.ref 1000)), some (.inr (.inl 69)), some (.inl (.int 1))], sy_dS F [], sy_dh F X1 X2 (iv_H 4), 0, 0) := by
  refine hd_run (s := 4) (nv := 71) (pc := 12) (L := [some (.inl (.ref 1000)), some (.inr (.inl 69)), some (.inl (.int 1))]) (S := []) (uh := hd_ov (iv_id 0 iv_B4) [(6, .inl (.inl (.int 2))), (7, .inl (.inr (.inl 74))), (16, .inl (.inr (.inl 73))), (51, .inr (.inr (.inl 72)))]) (ul := [.inl (.inr (.inl 69))]) (f := false) (sp := [12]) (d0 := 3) (O := [false, true]) (T := [(30, [.inr (.inl 4)], [.inr (.inl 25)]), (40, [.inr (.inl 16), .inr (.inl 71)], [.inr (.inl 51)]), (0, [.inr (.inl 16), .inl (.int 1)], []), (30, [.inr (.inl 4)], [.inr (.inl 26)])]) (P := [(6, .inr (.inl 4), .inl (.ref 403)), (6, .inr (.inl 16), .inl (.ref 64)), (0, .inr (.inl 4), .inl (.int 400)), (4, .inr (.inl 6), .inl (.int 0)), (6, .inr (.inl 4), .inl (.ref 403))]) jm_ok164 (by decide +kernel) (by decide +kernel) hd F X1 X2 (fun F' hF hs => ?_)
  have b4 := hd_b (F := F) (F' := F') (k := 4) (hF 4 (by decide))
  have b16 := hd_b (F := F) (F' := F') (k := 16) (hF 16 (by decide))
  have b6 := hd_b (F := F) (F' := F') (k := 6) (hF 6 (by decide))
  have a26 := hd_ba (F := F) (F' := F') (k := 26) (hF 26 (by decide))
  have t74 : sy_dv F' (.inr (.inl 74)) = .int ((sy_ai F 26).getD (sy_i F 4).toNatClampNeg 0) := hd_rd (hs 3 _ rfl) b4 a26
  have t73 : sy_dv F' (.inr (.inl 73)) = .int ((sy_i F 16) + ((1 : Int32))) := hd_o (hs 2 _ rfl) b16 rfl rfl
  have a25 := hd_ba (F := F) (F' := F') (k := 25) (hF 25 (by decide))
  have t71 : sy_dv F' (.inr (.inl 71)) = .int ((sy_ai F 25).getD (sy_i F 4).toNatClampNeg 0) := hd_rd (hs 0 _ rfl) b4 a25
  have a51 := hd_ba (F := F) (F' := F') (k := 51) (hF 51 (by decide))
  have t72 : sy_da F' (.inr (.inl 72)) = .inl (jm_upd (sy_ai F 51) (sy_i F 16).toNatClampNeg ((sy_ai F 25).getD (sy_i F 4).toNatClampNeg 0)) := hd_up (hs 1 _ rfl) b16 t71 a51
  have b69 := hd_b (F := F) (F' := F') (k := 69) (hF 69 (by decide))
  have hB' : iv_in F' iv_B4 := iv_in_eq hB (fun j hj => hF j (Nat.lt_of_lt_of_le hj (by decide +kernel)))
  refine ⟨List.forall_mem_cons.mpr ⟨hd_pb b4 (by first | exact h0 | exact h0), List.forall_mem_cons.mpr ⟨hd_pb b16 (by first | exact h1 | exact h1), List.forall_mem_cons.mpr ⟨hd_p0 b4 rfl (by have hc : ((400) : Int32).toInt = 400 := (by decide); omega), List.forall_mem_cons.mpr ⟨hd_p4 b6 rfl (by have hc : ((0) : Int32).toInt = 0 := (by decide); omega), List.forall_mem_cons.mpr ⟨hd_pb b4 (by first | exact h4 | exact h4), fun _ h => absurd h List.not_mem_nil⟩⟩⟩⟩⟩, ?_⟩
  refine k _ ?_ ?_ ?_ ?_ ?_ ?_
  · exact fun j hj hn => (hd_keep hB' (Nat.lt_of_lt_of_le hj (by decide +kernel)) (by simp; omega)).trans (hF j (by omega))
  · exact hd_gi (x := .inl (.int 2)) (by decide +kernel) rfl
  · exact hd_gi (x := .inr (.inl 74)) (by decide +kernel) t74
  · exact hd_gi (x := .inr (.inl 73)) (by decide +kernel) t73
  · exact hd_ga (a := .inr (.inl 72)) (by decide +kernel) t72
  · exact hd_gi (x := .inr (.inl 69)) (by decide +kernel) b69
theorem ex_237_p2 {Ls : Nat} {xs : Nat → Int32} {d : Nat} {Q : Option Value → jm_h → Prop} (hd : 4 ≤ d) (F : Nat → sy_d) (X1 X2 : List jm_c) (hB : iv_in F iv_B4)
    (h0 : 0 ≤ (sy_i F 4).toInt ∧ (sy_i F 4).toInt < 403)
    (h1 : 0 ≤ (sy_i F 16).toInt ∧ (sy_i F 16).toInt < 64)
    (h2 : (sy_i F 4).toInt = 400)
    (h3 : 0 < (sy_i F 6).toInt)
    (k : ∀ F1 : Nat → sy_d, (∀ j, j < 69 → j ≠ 16 ∧ j ≠ 51 → F1 j = F j) → F1 16 = .inl (.int ((sy_i F 16) + ((1 : Int32)))) → F1 51 = .inr (.inl (jm_upd (sy_ai F 51) (sy_i F 16).toNatClampNeg ((sy_ai F 25).getD (sy_i F 4).toNatClampNeg 0))) → F1 69 = .inl (.int (sy_i F 69)) → hd_W Ls xs d jm_M164 Q (12, sy_dL F1 [some (.inl (.ref 1000)), some (.inr (.inl 69)), some (.inl (.int 1))], sy_dS F1 [], sy_dh F1 X1 X2 (iv_H 4), 0, 0)) :
    hd_W Ls xs d jm_M164 Q (237, sy_dL F [some (.inl (.ref 1000)), some (.inr (.inl 69)), some (.inl (.int 1))], sy_dS F [], sy_dh F X1 X2 (iv_H 4), 0, 0) := by
  refine hd_run (s := 4) (nv := 71) (pc := 12) (L := [some (.inl (.ref 1000)), some (.inr (.inl 69)), some (.inl (.int 1))]) (S := []) (uh := hd_ov (iv_id 0 iv_B4) [(16, .inl (.inr (.inl 73))), (51, .inr (.inr (.inl 72)))]) (ul := [.inl (.inr (.inl 69))]) (f := false) (sp := [12]) (d0 := 3) (O := [false, false]) (T := [(30, [.inr (.inl 4)], [.inr (.inl 25)]), (40, [.inr (.inl 16), .inr (.inl 71)], [.inr (.inl 51)]), (0, [.inr (.inl 16), .inl (.int 1)], [])]) (P := [(6, .inr (.inl 4), .inl (.ref 403)), (6, .inr (.inl 16), .inl (.ref 64)), (0, .inr (.inl 4), .inl (.int 400)), (5, .inr (.inl 6), .inl (.int 0))]) jm_ok164 (by decide +kernel) (by decide +kernel) hd F X1 X2 (fun F' hF hs => ?_)
  have b4 := hd_b (F := F) (F' := F') (k := 4) (hF 4 (by decide))
  have b16 := hd_b (F := F) (F' := F') (k := 16) (hF 16 (by decide))
  have b6 := hd_b (F := F) (F' := F') (k := 6) (hF 6 (by decide))
  have t73 : sy_dv F' (.inr (.inl 73)) = .int ((sy_i F 16) + ((1 : Int32))) := hd_o (hs 2 _ rfl) b16 rfl rfl
  have a25 := hd_ba (F := F) (F' := F') (k := 25) (hF 25 (by decide))
  have t71 : sy_dv F' (.inr (.inl 71)) = .int ((sy_ai F 25).getD (sy_i F 4).toNatClampNeg 0) := hd_rd (hs 0 _ rfl) b4 a25
  have a51 := hd_ba (F := F) (F' := F') (k := 51) (hF 51 (by decide))
  have t72 : sy_da F' (.inr (.inl 72)) = .inl (jm_upd (sy_ai F 51) (sy_i F 16).toNatClampNeg ((sy_ai F 25).getD (sy_i F 4).toNatClampNeg 0)) := hd_up (hs 1 _ rfl) b16 t71 a51
  have b69 := hd_b (F := F) (F' := F') (k := 69) (hF 69 (by decide))
  have hB' : iv_in F' iv_B4 := iv_in_eq hB (fun j hj => hF j (Nat.lt_of_lt_of_le hj (by decide +kernel)))
  refine ⟨List.forall_mem_cons.mpr ⟨hd_pb b4 (by first | exact h0 | exact h0), List.forall_mem_cons.mpr ⟨hd_pb b16 (by first | exact h1 | exact h1), List.forall_mem_cons.mpr ⟨hd_p0 b4 rfl (by have hc : ((400) : Int32).toInt = 400 := (by decide); omega), List.forall_mem_cons.mpr ⟨hd_p5 b6 rfl (by have hc : ((0) : Int32).toInt = 0 := (by decide); omega), fun _ h => absurd h List.not_mem_nil⟩⟩⟩⟩, ?_⟩
  refine k _ ?_ ?_ ?_ ?_
  · exact fun j hj hn => (hd_keep hB' (Nat.lt_of_lt_of_le hj (by decide +kernel)) (by simp; omega)).trans (hF j (by omega))
  · exact hd_gi (x := .inr (.inl 73)) (by decide +kernel) t73
  · exact hd_ga (a := .inr (.inl 72)) (by decide +kernel) t72
  · exact hd_gi (x := .inr (.inl 69)) (by decide +kernel) b69
