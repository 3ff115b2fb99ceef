/-! ===== the reference reads a text: small methods, way by way ===== -/
theorem bo_0_p0 {Ls : Nat} {xs : Nat → Int32} {d : Nat} {Q : Option Value → jm_h → Prop} (hd : 3 ≤ d) (F : Nat → sy_d) (X1 X2 : List jm_c) (hB : iv_in F iv_B4)
    (h0 : 0 < (sy_i F 6).toInt)
    (h1 : 0 < (sy_i F 6).toInt)
    (k : ∀ F1 : Nat → sy_d, (∀ j, j < 69 → True → F1 j = F j) → Q (some (.int (sy_i F 69))) (sy_dh F1 X1 X2 (iv_H 4))) :
    hd_W Ls xs d jm_M157 Q (0, sy_dL F [some (.inl (.ref 1000)), some (.inr (.inl 69)), some (.inr (.inl 70)), none], sy_dS F [], sy_dh F X1 X2 (iv_H 4), 0, 0) := by
  refine hd_ret (s := 4) (nv := 71) (v := some (.inr (.inl 69))) (uh := hd_ov (iv_id 0 iv_B4) []) (f := true) (sp := []) (d0 := 2) (O := [true, false]) (T := []) (P := [(2, .inl (.int 0), .inr (.inl 6)), (5, .inr (.inl 6), .inl (.int 0))]) jm_ok157 (by decide +kernel) (by decide +kernel) hd F X1 X2 (fun F' hF hs => ?_)
  have b6 := hd_b (F := F) (F' := F') (k := 6) (hF 6 (by decide))
  have b69 := hd_b (F := F) (F' := F') (k := 69) (hF 69 (by decide))
  have hB' : iv_in F' iv_B4 := iv_in_eq hB (fun j hj => hF j (Nat.lt_of_lt_of_le hj (by decide +kernel)))
  have hk := k (sy_cm F' (hd_ov (iv_id 0 iv_B4) [] ++ [])) (fun j hj _ => (hd_keep hB' (Nat.lt_of_lt_of_le hj (by decide +kernel)) (by simp)).trans (hF j (by omega)))
  refine ⟨List.forall_mem_cons.mpr ⟨hd_p2 rfl b6 (by have hc : ((0) : Int32).toInt = 0 := (by decide); omega), List.forall_mem_cons.mpr ⟨hd_p5 b6 rfl (by have hc : ((0) : Int32).toInt = 0 := (by decide); omega), fun _ h => absurd h List.not_mem_nil⟩⟩, ?_⟩
  show Q (some (sy_dv F' (.inr (.inl 69)))) _
  rw [b69]
  exact hk
theorem bo_0_p1 {Ls : Nat} {xs : Nat → Int32} {d : Nat} {Q : Option Value → jm_h → Prop} (hd : 3 ≤ d) (F : Nat → sy_d) (X1 X2 : List jm_c) (hB : iv_in F iv_B4)
    (h0 : (sy_i F 6).toInt ≤ 0)
    (h1 : (sy_i F 6).toInt = 0)
    (h2 : 0 ≤ (sy_i F 4).toInt ∧ (sy_i F 4).toInt < 403)
    (h3 : ((sy_ai F 25).getD (sy_i F 4).toNatClampNeg 0).toInt ≠ 2)
    (h4 : (sy_i F 6).toInt ≤ 0)
    (h5 : 0 ≤ (sy_i F 4).toInt ∧ (sy_i F 4).toInt < 403)
    (k : ∀ F1 : Nat → sy_d, (∀ j, j < 69 → j ≠ 6 ∧ j ≠ 7 → F1 j = F j) → F1 6 = .inl (.int ((1 : Int32))) → F1 7 = .inl (.int ((sy_ai F 26).getD (sy_i F 4).toNatClampNeg 0)) → Q (some (.int (sy_i F 69))) (sy_dh F1 X1 X2 (iv_H 4))) :
    hd_W Ls xs d jm_M157 Q (0, sy_dL F [some (.inl (.ref 1000)), some (.inr (.inl 69)), some (.inr (.inl 70)), none], sy_dS F [], sy_dh F X1 X2 (iv_H 4), 0, 0) := by
  refine hd_ret (s := 4) (nv := 71) (v := some (.inr (.inl 69))) (uh := hd_ov (iv_id 0 iv_B4) [(6, .inl (.inl (.int 1))), (7, .inl (.inr (.inl 72)))]) (f := true) (sp := []) (d0 := 2) (O := [false, false, true, true]) (T := [(30, [.inr (.inl 4)], [.inr (.inl 25)]), (30, [.inr (.inl 4)], [.inr (.inl 26)])]) (P := [(3, .inl (.int 0), .inr (.inl 6)), (0, .inr (.inl 6), .inl (.int 0)), (6, .inr (.inl 4), .inl (.ref 403)), (1, .inr (.inl 71), .inl (.int 2)), (4, .inr (.inl 6), .inl (.int 0)), (6, .inr (.inl 4), .inl (.ref 403))]) jm_ok157 (by decide +kernel) (by decide +kernel) hd F X1 X2 (fun F' hF hs => ?_)
  have b6 := hd_b (F := F) (F' := F') (k := 6) (hF 6 (by decide))
  have b4 := hd_b (F := F) (F' := F') (k := 4) (hF 4 (by decide))
  have a25 := hd_ba (F := F) (F' := F') (k := 25) (hF 25 (by decide))
  have t71 : sy_dv F' (.inr (.inl 71)) = .int ((sy_ai F 25).getD (sy_i F 4).toNatClampNeg 0) := hd_rd (hs 0 _ rfl) b4 a25
  have a26 := hd_ba (F := F) (F' := F') (k := 26) (hF 26 (by decide))
  have t72 : sy_dv F' (.inr (.inl 72)) = .int ((sy_ai F 26).getD (sy_i F 4).toNatClampNeg 0) := hd_rd (hs 1 _ rfl) b4 a26
  have b69 := hd_b (F := F) (F' := F') (k := 69) (hF 69 (by decide))
  have hB' : iv_in F' iv_B4 := iv_in_eq hB (fun j hj => hF j (Nat.lt_of_lt_of_le hj (by decide +kernel)))
  have hk := k (sy_cm F' (hd_ov (iv_id 0 iv_B4) [(6, .inl (.inl (.int 1))), (7, .inl (.inr (.inl 72)))] ++ [])) (fun j hj hn => (hd_keep hB' (Nat.lt_of_lt_of_le hj (by decide +kernel)) (by simp; omega)).trans (hF j (by omega))) (hd_gi (x := .inl (.int 1)) (by decide +kernel) rfl) (hd_gi (x := .inr (.inl 72)) (by decide +kernel) t72)
  refine ⟨List.forall_mem_cons.mpr ⟨hd_p3 rfl b6 (by have hc : ((0) : Int32).toInt = 0 := (by decide); omega), List.forall_mem_cons.mpr ⟨hd_p0 b6 rfl (by have hc : ((0) : Int32).toInt = 0 := (by decide); omega), List.forall_mem_cons.mpr ⟨hd_pb b4 (by first | exact h2 | exact h2), List.forall_mem_cons.mpr ⟨hd_p1 t71 rfl (by have hc : ((2) : Int32).toInt = 2 := (by decide); omega), List.forall_mem_cons.mpr ⟨hd_p4 b6 rfl (by have hc : ((0) : Int32).toInt = 0 := (by decide); omega), List.forall_mem_cons.mpr ⟨hd_pb b4 (by first | exact h5 | exact h5), fun _ h => absurd h List.not_mem_nil⟩⟩⟩⟩⟩⟩, ?_⟩
  show Q (some (sy_dv F' (.inr (.inl 69)))) _
  rw [b69]
  exact hk
theorem bo_0_p2 {Ls : Nat} {xs : Nat → Int32} {d : Nat} {Q : Option Value → jm_h → Prop} (hd : 3 ≤ d) (F : Nat → sy_d) (X1 X2 : List jm_c) (hB : iv_in F iv_B4)
    (h0 : (sy_i F 6).toInt ≤ 0)
    (h1 : (sy_i F 6).toInt = 0)
    (h2 : 0 ≤ (sy_i F 4).toInt ∧ (sy_i F 4).toInt < 403)
    (h3 : ((sy_ai F 25).getD (sy_i F 4).toNatClampNeg 0).toInt = 2)
    (h4 : 0 ≤ (sy_i F 4).toInt ∧ (sy_i F 4).toInt < 403)
    (h5 : ((sy_ai F 27).getD (sy_i F 4).toNatClampNeg 0).toInt < (sy_i F 69).toInt)
    (h6 : 0 ≤ (sy_i F 4).toInt ∧ (sy_i F 4).toInt < 403)
    (h7 : (sy_i F 6).toInt ≤ 0)
    (h8 : (sy_i F 8).toInt = 0)
    (h9 : (sy_i F 4).toInt ≠ 400)
    (k : ∀ F1 : Nat → sy_d, (∀ j, j < 69 → j ≠ 4 ∧ j ≠ 8 ∧ j ≠ 9 → F1 j = F j) → F1 4 = .inl (.int ((sy_i F 4) + ((1 : Int32)))) → F1 8 = .inl (.int ((5 : Int32))) → F1 9 = .inl (.int ((sy_ai F 26).getD (sy_i F 4).toNatClampNeg 0)) → Q (some (.int ((sy_ai F 27).getD (sy_i F 4).toNatClampNeg 0))) (sy_dh F1 X1 X2 (iv_H 4))) :
    hd_W Ls xs d jm_M157 Q (0, sy_dL F [some (.inl (.ref 1000)), some (.inr (.inl 69)), some (.inr (.inl 70)), none], sy_dS F [], sy_dh F X1 X2 (iv_H 4), 0, 0) := by
  refine hd_ret (s := 4) (nv := 71) (v := some (.inr (.inl 72))) (uh := hd_ov (iv_id 0 iv_B4) [(4, .inl (.inr (.inl 74))), (8, .inl (.inl (.int 5))), (9, .inl (.inr (.inl 73)))]) (f := true) (sp := []) (d0 := 2) (O := [false, false, false, true, false, true, true]) (T := [(30, [.inr (.inl 4)], [.inr (.inl 25)]), (30, [.inr (.inl 4)], [.inr (.inl 27)]), (30, [.inr (.inl 4)], [.inr (.inl 26)]), (0, [.inr (.inl 4), .inl (.int 1)], [])]) (P := [(3, .inl (.int 0), .inr (.inl 6)), (0, .inr (.inl 6), .inl (.int 0)), (6, .inr (.inl 4), .inl (.ref 403)), (0, .inr (.inl 71), .inl (.int 2)), (6, .inr (.inl 4), .inl (.ref 403)), (2, .inr (.inl 72), .inr (.inl 69)), (6, .inr (.inl 4), .inl (.ref 403)), (3, .inl (.int 0), .inr (.inl 6)), (0, .inr (.inl 8), .inl (.int 0)), (1, .inr (.inl 4), .inl (.int 400))]) jm_ok157 (by decide +kernel) (by decide +kernel) hd F X1 X2 (fun F' hF hs => ?_)
  have b6 := hd_b (F := F) (F' := F') (k := 6) (hF 6 (by decide))
  have b4 := hd_b (F := F) (F' := F') (k := 4) (hF 4 (by decide))
  have a25 := hd_ba (F := F) (F' := F') (k := 25) (hF 25 (by decide))
  have t71 : sy_dv F' (.inr (.inl 71)) = .int ((sy_ai F 25).getD (sy_i F 4).toNatClampNeg 0) := hd_rd (hs 0 _ rfl) b4 a25
  have a27 := hd_ba (F := F) (F' := F') (k := 27) (hF 27 (by decide))
  have t72 : sy_dv F' (.inr (.inl 72)) = .int ((sy_ai F 27).getD (sy_i F 4).toNatClampNeg 0) := hd_rd (hs 1 _ rfl) b4 a27
  have b69 := hd_b (F := F) (F' := F') (k := 69) (hF 69 (by decide))
  have b8 := hd_b (F := F) (F' := F') (k := 8) (hF 8 (by decide))
  have t74 : sy_dv F' (.inr (.inl 74)) = .int ((sy_i F 4) + ((1 : Int32))) := hd_o (hs 3 _ rfl) b4 rfl rfl
  have a26 := hd_ba (F := F) (F' := F') (k := 26) (hF 26 (by decide))
  have t73 : sy_dv F' (.inr (.inl 73)) = .int ((sy_ai F 26).getD (sy_i F 4).toNatClampNeg 0) := hd_rd (hs 2 _ rfl) b4 a26
  have hB' : iv_in F' iv_B4 := iv_in_eq hB (fun j hj => hF j (Nat.lt_of_lt_of_le hj (by decide +kernel)))
  have hk := k (sy_cm F' (hd_ov (iv_id 0 iv_B4) [(4, .inl (.inr (.inl 74))), (8, .inl (.inl (.int 5))), (9, .inl (.inr (.inl 73)))] ++ [])) (fun j hj hn => (hd_keep hB' (Nat.lt_of_lt_of_le hj (by decide +kernel)) (by simp; omega)).trans (hF j (by omega))) (hd_gi (x := .inr (.inl 74)) (by decide +kernel) t74) (hd_gi (x := .inl (.int 5)) (by decide +kernel) rfl) (hd_gi (x := .inr (.inl 73)) (by decide +kernel) t73)
  refine ⟨List.forall_mem_cons.mpr ⟨hd_p3 rfl b6 (by have hc : ((0) : Int32).toInt = 0 := (by decide); omega), List.forall_mem_cons.mpr ⟨hd_p0 b6 rfl (by have hc : ((0) : Int32).toInt = 0 := (by decide); omega), List.forall_mem_cons.mpr ⟨hd_pb b4 (by first | exact h2 | exact h2), List.forall_mem_cons.mpr ⟨hd_p0 t71 rfl (by have hc : ((2) : Int32).toInt = 2 := (by decide); omega), List.forall_mem_cons.mpr ⟨hd_pb b4 (by first | exact h4 | exact h4), List.forall_mem_cons.mpr ⟨hd_p2 t72 b69 h5, List.forall_mem_cons.mpr ⟨hd_pb b4 (by first | exact h6 | exact h6), List.forall_mem_cons.mpr ⟨hd_p3 rfl b6 (by have hc : ((0) : Int32).toInt = 0 := (by decide); omega), List.forall_mem_cons.mpr ⟨hd_p0 b8 rfl (by have hc : ((0) : Int32).toInt = 0 := (by decide); omega), List.forall_mem_cons.mpr ⟨hd_p1 b4 rfl (by have hc : ((400) : Int32).toInt = 400 := (by decide); omega), fun _ h => absurd h List.not_mem_nil⟩⟩⟩⟩⟩⟩⟩⟩⟩⟩, ?_⟩
  show Q (some (sy_dv F' (.inr (.inl 72)))) _
  rw [t72]
  exact hk
theorem bo_0_p3 {Ls : Nat} {xs : Nat → Int32} {d : Nat} {Q : Option Value → jm_h → Prop} (hd : 3 ≤ d) (F : Nat → sy_d) (X1 X2 : List jm_c) (hB : iv_in F iv_B4)
    (h0 : (sy_i F 6).toInt ≤ 0)
    (h1 : (sy_i F 6).toInt = 0)
    (h2 : 0 ≤ (sy_i F 4).toInt ∧ (sy_i F 4).toInt < 403)
    (h3 : ((sy_ai F 25).getD (sy_i F 4).toNatClampNeg 0).toInt = 2)
    (h4 : 0 ≤ (sy_i F 4).toInt ∧ (sy_i F 4).toInt < 403)
    (h5 : ((sy_ai F 27).getD (sy_i F 4).toNatClampNeg 0).toInt < (sy_i F 69).toInt)
    (h6 : 0 ≤ (sy_i F 4).toInt ∧ (sy_i F 4).toInt < 403)
    (h7 : (sy_i F 6).toInt ≤ 0)
    (h8 : (sy_i F 8).toInt = 0)
    (h9 : (sy_i F 4).toInt = 400)
    (h10 : (sy_i F 6).toInt ≤ 0)
    (h11 : 0 ≤ (sy_i F 4).toInt ∧ (sy_i F 4).toInt < 403)
    (k : ∀ F1 : Nat → sy_d, (∀ j, j < 69 → j ≠ 6 ∧ j ≠ 7 ∧ j ≠ 8 ∧ j ≠ 9 → F1 j = F j) → F1 6 = .inl (.int ((2 : Int32))) → F1 7 = .inl (.int ((sy_ai F 26).getD (sy_i F 4).toNatClampNeg 0)) → F1 8 = .inl (.int ((5 : Int32))) → F1 9 = .inl (.int ((sy_ai F 26).getD (sy_i F 4).toNatClampNeg 0)) → Q (some (.int ((sy_ai F 27).getD (sy_i F 4).toNatClampNeg 0))) (sy_dh F1 X1 X2 (iv_H 4))) :
    hd_W Ls xs d jm_M157 Q (0, sy_dL F [some (.inl (.ref 1000)), some (.inr (.inl 69)), some (.inr (.inl 70)), none], sy_dS F [], sy_dh F X1 X2 (iv_H 4), 0, 0) := by
  refine hd_ret (s := 4) (nv := 71) (v := some (.inr (.inl 72))) (uh := hd_ov (iv_id 0 iv_B4) [(6, .inl (.inl (.int 2))), (7, .inl (.inr (.inl 74))), (8, .inl (.inl (.int 5))), (9, .inl (.inr (.inl 73)))]) (f := true) (sp := []) (d0 := 2) (O := [false, false, false, true, false, true, false, true]) (T := [(30, [.inr (.inl 4)], [.inr (.inl 25)]), (30, [.inr (.inl 4)], [.inr (.inl 27)]), (30, [.inr (.inl 4)], [.inr (.inl 26)]), (30, [.inr (.inl 4)], [.inr (.inl 26)])]) (P := [(3, .inl (.int 0), .inr (.inl 6)), (0, .inr (.inl 6), .inl (.int 0)), (6, .inr (.inl 4), .inl (.ref 403)), (0, .inr (.inl 71), .inl (.int 2)), (6, .inr (.inl 4), .inl (.ref 403)), (2, .inr (.inl 72), .inr (.inl 69)), (6, .inr (.inl 4), .inl (.ref 403)), (3, .inl (.int 0), .inr (.inl 6)), (0, .inr (.inl 8), .inl (.int 0)), (0, .inr (.inl 4), .inl (.int 400)), (4, .inr (.inl 6), .inl (.int 0)), (6, .inr (.inl 4), .inl (.ref 403))]) jm_ok157 (by decide +kernel) (by decide +kernel) hd F X1 X2 (fun F' hF hs => ?_)
  have b6 := hd_b (F := F) (F' := F') (k := 6) (hF 6 (by decide))
  have b4 := hd_b (F := F) (F' := F') (k := 4) (hF 4 (by decide))
  have a25 := hd_ba (F := F) (F' := F') (k := 25) (hF 25 (by decide))
  have t71 : sy_dv F' (.inr (.inl 71)) = .int ((sy_ai F 25).getD (sy_i F 4).toNatClampNeg 0) := hd_rd (hs 0 _ rfl) b4 a25
  have a27 := hd_ba (F := F) (F' := F') (k := 27) (hF 27 (by decide))
  have t72 : sy_dv F' (.inr (.inl 72)) = .int ((sy_ai F 27).getD (sy_i F 4).toNatClampNeg 0) := hd_rd (hs 1 _ rfl) b4 a27
  have b69 := hd_b (F := F) (F' := F') (k := 69) (hF 69 (by decide))
  have b8 := hd_b (F := F) (F' := F') (k := 8) (hF 8 (by decide))
  have a26 := hd_ba (F := F) (F' := F') (k := 26) (hF 26 (by decide))
  have t74 : sy_dv F' (.inr (.inl 74)) = .int ((sy_ai F 26).getD (sy_i F 4).toNatClampNeg 0) := hd_rd (hs 3 _ rfl) b4 a26
  have t73 : sy_dv F' (.inr (.inl 73)) = .int ((sy_ai F 26).getD (sy_i F 4).toNatClampNeg 0) := hd_rd (hs 2 _ rfl) b4 a26
  have hB' : iv_in F' iv_B4 := iv_in_eq hB (fun j hj => hF j (Nat.lt_of_lt_of_le hj (by decide +kernel)))
  have hk := k (sy_cm F' (hd_ov (iv_id 0 iv_B4) [(6, .inl (.inl (.int 2))), (7, .inl (.inr (.inl 74))), (8, .inl (.inl (.int 5))), (9, .inl (.inr (.inl 73)))] ++ [])) (fun j hj hn => (hd_keep hB' (Nat.lt_of_lt_of_le hj (by decide +kernel)) (by simp; omega)).trans (hF j (by omega))) (hd_gi (x := .inl (.int 2)) (by decide +kernel) rfl) (hd_gi (x := .inr (.inl 74)) (by decide +kernel) t74) (hd_gi (x := .inl (.int 5)) (by decide +kernel) rfl) (hd_gi (x := .inr (.inl 73)) (by decide +kernel) t73)
  refine ⟨List.forall_mem_cons.mpr ⟨hd_p3 rfl b6 (by have hc : ((0) : Int32).toInt = 0 := (by decide); omega), List.forall_mem_cons.mpr ⟨hd_p0 b6 rfl (by have hc : ((0) : Int32).toInt = 0 := (by decide); omega), List.forall_mem_cons.mpr ⟨hd_pb b4 (by first | exact h2 | exact h2), List.forall_mem_cons.mpr ⟨hd_p0 t71 rfl (by have hc : ((2) : Int32).toInt = 2 := (by decide); omega), List.forall_mem_cons.mpr ⟨hd_pb b4 (by first | exact h4 | exact h4), List.forall_mem_cons.mpr ⟨hd_p2 t72 b69 h5, List.forall_mem_cons.mpr ⟨hd_pb b4 (by first | exact h6 | exact h6), List.forall_mem_cons.mpr ⟨hd_p3 rfl b6 (by have hc : ((0) : Int32).toInt = 0 := (by decide); omega), List.forall_mem_cons.mpr ⟨hd_p0 b8 rfl (by have hc : ((0) : Int32).toInt = 0 := (by decide); omega), List.forall_mem_cons.mpr ⟨hd_p0 b4 rfl (by have hc : ((400) : Int32).toInt = 400 := (by decide); omega), List.forall_mem_cons.mpr ⟨hd_p4 b6 rfl (by have hc : ((0) : Int32).toInt = 0 := (by decide); omega), List.forall_mem_cons.mpr ⟨hd_pb b4 (by first | exact h11 | exact h11), fun _ h => absurd h List.not_mem_nil⟩⟩⟩⟩⟩⟩⟩⟩⟩⟩⟩⟩, ?_⟩
  show Q (some (sy_dv F' (.inr (.inl 72)))) _
  rw [t72]
  exact hk
theorem bo_0_p4 {Ls : Nat} {xs : Nat → Int32} {d : Nat} {Q : Option Value → jm_h → Prop} (hd : 3 ≤ d) (F : Nat → sy_d) (X1 X2 : List jm_c) (hB : iv_in F iv_B4)
    (h0 : (sy_i F 6).toInt ≤ 0)
    (h1 : (sy_i F 6).toInt = 0)
    (h2 : 0 ≤ (sy_i F 4).toInt ∧ (sy_i F 4).toInt < 403)
    (h3 : ((sy_ai F 25).getD (sy_i F 4).toNatClampNeg 0).toInt = 2)
    (h4 : 0 ≤ (sy_i F 4).toInt ∧ (sy_i F 4).toInt < 403)
    (h5 : ((sy_ai F 27).getD (sy_i F 4).toNatClampNeg 0).toInt < (sy_i F 69).toInt)
    (h6 : 0 ≤ (sy_i F 4).toInt ∧ (sy_i F 4).toInt < 403)
    (h7 : (sy_i F 6).toInt ≤ 0)
    (h8 : (sy_i F 8).toInt ≠ 0)
    (h9 : (sy_i F 9).toInt < ((sy_ai F 26).getD (sy_i F 4).toNatClampNeg 0).toInt)
    (h10 : (sy_i F 4).toInt ≠ 400)
    (k : ∀ F1 : Nat → sy_d, (∀ j, j < 69 → j ≠ 4 → F1 j = F j) → F1 4 = .inl (.int ((sy_i F 4) + ((1 : Int32)))) → Q (some (.int ((sy_ai F 27).getD (sy_i F 4).toNatClampNeg 0))) (sy_dh F1 X1 X2 (iv_H 4))) :
    hd_W Ls xs d jm_M157 Q (0, sy_dL F [some (.inl (.ref 1000)), some (.inr (.inl 69)), some (.inr (.inl 70)), none], sy_dS F [], sy_dh F X1 X2 (iv_H 4), 0, 0) := by
  refine hd_ret (s := 4) (nv := 71) (v := some (.inr (.inl 72))) (uh := hd_ov (iv_id 0 iv_B4) [(4, .inl (.inr (.inl 74)))]) (f := true) (sp := []) (d0 := 2) (O := [false, false, false, true, false, false, true, true]) (T := [(30, [.inr (.inl 4)], [.inr (.inl 25)]), (30, [.inr (.inl 4)], [.inr (.inl 27)]), (30, [.inr (.inl 4)], [.inr (.inl 26)]), (0, [.inr (.inl 4), .inl (.int 1)], [])]) (P := [(3, .inl (.int 0), .inr (.inl 6)), (0, .inr (.inl 6), .inl (.int 0)), (6, .inr (.inl 4), .inl (.ref 403)), (0, .inr (.inl 71), .inl (.int 2)), (6, .inr (.inl 4), .inl (.ref 403)), (2, .inr (.inl 72), .inr (.inl 69)), (6, .inr (.inl 4), .inl (.ref 403)), (3, .inl (.int 0), .inr (.inl 6)), (1, .inr (.inl 8), .inl (.int 0)), (2, .inr (.inl 9), .inr (.inl 73)), (1, .inr (.inl 4), .inl (.int 400))]) jm_ok157 (by decide +kernel) (by decide +kernel) hd F X1 X2 (fun F' hF hs => ?_)
  have b6 := hd_b (F := F) (F' := F') (k := 6) (hF 6 (by decide))
  have b4 := hd_b (F := F) (F' := F') (k := 4) (hF 4 (by decide))
  have a25 := hd_ba (F := F) (F' := F') (k := 25) (hF 25 (by decide))
  have t71 : sy_dv F' (.inr (.inl 71)) = .int ((sy_ai F 25).getD (sy_i F 4).toNatClampNeg 0) := hd_rd (hs 0 _ rfl) b4 a25
  have a27 := hd_ba (F := F) (F' := F') (k := 27) (hF 27 (by decide))
  have t72 : sy_dv F' (.inr (.inl 72)) = .int ((sy_ai F 27).getD (sy_i F 4).toNatClampNeg 0) := hd_rd (hs 1 _ rfl) b4 a27
  have b69 := hd_b (F := F) (F' := F') (k := 69) (hF 69 (by decide))
  have b8 := hd_b (F := F) (F' := F') (k := 8) (hF 8 (by decide))
  have b9 := hd_b (F := F) (F' := F') (k := 9) (hF 9 (by decide))
  have a26 := hd_ba (F := F) (F' := F') (k := 26) (hF 26 (by decide))
  have t73 : sy_dv F' (.inr (.inl 73)) = .int ((sy_ai F 26).getD (sy_i F 4).toNatClampNeg 0) := hd_rd (hs 2 _ rfl) b4 a26
  have t74 : sy_dv F' (.inr (.inl 74)) = .int ((sy_i F 4) + ((1 : Int32))) := hd_o (hs 3 _ rfl) b4 rfl rfl
  have hB' : iv_in F' iv_B4 := iv_in_eq hB (fun j hj => hF j (Nat.lt_of_lt_of_le hj (by decide +kernel)))
  have hk := k (sy_cm F' (hd_ov (iv_id 0 iv_B4) [(4, .inl (.inr (.inl 74)))] ++ [])) (fun j hj hn => (hd_keep hB' (Nat.lt_of_lt_of_le hj (by decide +kernel)) (by simp; omega)).trans (hF j (by omega))) (hd_gi (x := .inr (.inl 74)) (by decide +kernel) t74)
  refine ⟨List.forall_mem_cons.mpr ⟨hd_p3 rfl b6 (by have hc : ((0) : Int32).toInt = 0 := (by decide); omega), List.forall_mem_cons.mpr ⟨hd_p0 b6 rfl (by have hc : ((0) : Int32).toInt = 0 := (by decide); omega), List.forall_mem_cons.mpr ⟨hd_pb b4 (by first | exact h2 | exact h2), List.forall_mem_cons.mpr ⟨hd_p0 t71 rfl (by have hc : ((2) : Int32).toInt = 2 := (by decide); omega), List.forall_mem_cons.mpr ⟨hd_pb b4 (by first | exact h4 | exact h4), List.forall_mem_cons.mpr ⟨hd_p2 t72 b69 h5, List.forall_mem_cons.mpr ⟨hd_pb b4 (by first | exact h6 | exact h6), List.forall_mem_cons.mpr ⟨hd_p3 rfl b6 (by have hc : ((0) : Int32).toInt = 0 := (by decide); omega), List.forall_mem_cons.mpr ⟨hd_p1 b8 rfl (by have hc : ((0) : Int32).toInt = 0 := (by decide); omega), List.forall_mem_cons.mpr ⟨hd_p2 b9 t73 h9, List.forall_mem_cons.mpr ⟨hd_p1 b4 rfl (by have hc : ((400) : Int32).toInt = 400 := (by decide); omega), fun _ h => absurd h List.not_mem_nil⟩⟩⟩⟩⟩⟩⟩⟩⟩⟩⟩, ?_⟩
  show Q (some (sy_dv F' (.inr (.inl 72)))) _
  rw [t72]
  exact hk
theorem bo_0_p5 {Ls : Nat} {xs : Nat → Int32} {d : Nat} {Q : Option Value → jm_h → Prop} (hd : 3 ≤ d) (F : Nat → sy_d) (X1 X2 : List jm_c) (hB : iv_in F iv_B4)
    (h0 : (sy_i F 6).toInt ≤ 0)
    (h1 : (sy_i F 6).toInt = 0)
    (h2 : 0 ≤ (sy_i F 4).toInt ∧ (sy_i F 4).toInt < 403)
    (h3 : ((sy_ai F 25).getD (sy_i F 4).toNatClampNeg 0).toInt = 2)
    (h4 : 0 ≤ (sy_i F 4).toInt ∧ (sy_i F 4).toInt < 403)
    (h5 : ((sy_ai F 27).getD (sy_i F 4).toNatClampNeg 0).toInt < (sy_i F 69).toInt)
    (h6 : 0 ≤ (sy_i F 4).toInt ∧ (sy_i F 4).toInt < 403)
    (h7 : (sy_i F 6).toInt ≤ 0)
    (h8 : (sy_i F 8).toInt ≠ 0)
    (h9 : (sy_i F 9).toInt < ((sy_ai F 26).getD (sy_i F 4).toNatClampNeg 0).toInt)
    (h10 : (sy_i F 4).toInt = 400)
    (h11 : (sy_i F 6).toInt ≤ 0)
    (h12 : 0 ≤ (sy_i F 4).toInt ∧ (sy_i F 4).toInt < 403)
    (k : ∀ F1 : Nat → sy_d, (∀ j, j < 69 → j ≠ 6 ∧ j ≠ 7 → F1 j = F j) → F1 6 = .inl (.int ((2 : Int32))) → F1 7 = .inl (.int ((sy_ai F 26).getD (sy_i F 4).toNatClampNeg 0)) → Q (some (.int ((sy_ai F 27).getD (sy_i F 4).toNatClampNeg 0))) (sy_dh F1 X1 X2 (iv_H 4))) :
    hd_W Ls xs d jm_M157 Q (0, sy_dL F [some (.inl (.ref 1000)), some (.inr (.inl 69)), some (.inr (.inl 70)), none], sy_dS F [], sy_dh F X1 X2 (iv_H 4), 0, 0) := by
  refine hd_ret (s := 4) (nv := 71) (v := some (.inr (.inl 72))) (uh := hd_ov (iv_id 0 iv_B4) [(6, .inl (.inl (.int 2))), (7, .inl (.inr (.inl 74)))]) (f := true) (sp := []) (d0 := 2) (O := [false, false, false, true, false, false, true, false, true]) (T := [(30, [.inr (.inl 4)], [.inr (.inl 25)]), (30, [.inr (.inl 4)], [.inr (.inl 27)]), (30, [.inr (.inl 4)], [.inr (.inl 26)]), (30, [.inr (.inl 4)], [.inr (.inl 26)])]) (P := [(3, .inl (.int 0), .inr (.inl 6)), (0, .inr (.inl 6), .inl (.int 0)), (6, .inr (.inl 4), .inl (.ref 403)), (0, .inr (.inl 71), .inl (.int 2)), (6, .inr (.inl 4), .inl (.ref 403)), (2, .inr (.inl 72), .inr (.inl 69)), (6, .inr (.inl 4), .inl (.ref 403)), (3, .inl (.int 0), .inr (.inl 6)), (1, .inr (.inl 8), .inl (.int 0)), (2, .inr (.inl 9), .inr (.inl 73)), (0, .inr (.inl 4), .inl (.int 400)), (4, .inr (.inl 6), .inl (.int 0)), (6, .inr (.inl 4), .inl (.ref 403))]) jm_ok157 (by decide +kernel) (by decide +kernel) hd F X1 X2 (fun F' hF hs => ?_)
  have b6 := hd_b (F := F) (F' := F') (k := 6) (hF 6 (by decide))
  have b4 := hd_b (F := F) (F' := F') (k := 4) (hF 4 (by decide))
  have a25 := hd_ba (F := F) (F' := F') (k := 25) (hF 25 (by decide))
  have t71 : sy_dv F' (.inr (.inl 71)) = .int ((sy_ai F 25).getD (sy_i F 4).toNatClampNeg 0) := hd_rd (hs 0 _ rfl) b4 a25
  have a27 := hd_ba (F := F) (F' := F') (k := 27) (hF 27 (by decide))
  have t72 : sy_dv F' (.inr (.inl 72)) = .int ((sy_ai F 27).getD (sy_i F 4).toNatClampNeg 0) := hd_rd (hs 1 _ rfl) b4 a27
  have b69 := hd_b (F := F) (F' := F') (k := 69) (hF 69 (by decide))
  have b8 := hd_b (F := F) (F' := F') (k := 8) (hF 8 (by decide))
  have b9 := hd_b (F := F) (F' := F') (k := 9) (hF 9 (by decide))
  have a26 := hd_ba (F := F) (F' := F') (k := 26) (hF 26 (by decide))
  have t73 : sy_dv F' (.inr (.inl 73)) = .int ((sy_ai F 26).getD (sy_i F 4).toNatClampNeg 0) := hd_rd (hs 2 _ rfl) b4 a26
  have t74 : sy_dv F' (.inr (.inl 74)) = .int ((sy_ai F 26).getD (sy_i F 4).toNatClampNeg 0) := hd_rd (hs 3 _ rfl) b4 a26
  have hB' : iv_in F' iv_B4 := iv_in_eq hB (fun j hj => hF j (Nat.lt_of_lt_of_le hj (by decide +kernel)))
  have hk := k (sy_cm F' (hd_ov (iv_id 0 iv_B4) [(6, .inl (.inl (.int 2))), (7, .inl (.inr (.inl 74)))] ++ [])) (fun j hj hn => (hd_keep hB' (Nat.lt_of_lt_of_le hj (by decide +kernel)) (by simp; omega)).trans (hF j (by omega))) (hd_gi (x := .inl (.int 2)) (by decide +kernel) rfl) (hd_gi (x := .inr (.inl 74)) (by decide +kernel) t74)
  refine ⟨List.forall_mem_cons.mpr ⟨hd_p3 rfl b6 (by have hc : ((0) : Int32).toInt = 0 := (by decide); omega), List.forall_mem_cons.mpr ⟨hd_p0 b6 rfl (by have hc : ((0) : Int32).toInt = 0 := (by decide); omega), List.forall_mem_cons.mpr ⟨hd_pb b4 (by first | exact h2 | exact h2), List.forall_mem_cons.mpr ⟨hd_p0 t71 rfl (by have hc : ((2) : Int32).toInt = 2 := (by decide); omega), List.forall_mem_cons.mpr ⟨hd_pb b4 (by first | exact h4 | exact h4), List.forall_mem_cons.mpr ⟨hd_p2 t72 b69 h5, List.forall_mem_cons.mpr ⟨hd_pb b4 (by first | exact h6 | exact h6), List.forall_mem_cons.mpr ⟨hd_p3 rfl b6 (by have hc : ((0) : Int32).toInt = 0 := (by decide); omega), List.forall_mem_cons.mpr ⟨hd_p1 b8 rfl (by have hc : ((0) : Int32).toInt = 0 := (by decide); omega), List.forall_mem_cons.mpr ⟨hd_p2 b9 t73 h9, List.forall_mem_cons.mpr ⟨hd_p0 b4 rfl (by have hc : ((400) : Int32).toInt = 400 := (by decide); omega), List.forall_mem_cons.mpr ⟨hd_p4 b6 rfl (by have hc : ((0) : Int32).toInt = 0 := (by decide); omega), List.forall_mem_cons.mpr ⟨hd_pb b4 (by first | exact h12 | exact h12), fun _ h => absurd h List.not_mem_nil⟩⟩⟩⟩⟩⟩⟩⟩⟩⟩⟩⟩⟩, ?_⟩
  show Q (some (sy_dv F' (.inr (.inl 72)))) _
  rw [t72]
  exact hk
theorem bo_0_p6 {Ls : Nat} {xs : Nat → Int32} {d : Nat} {Q : Option Value → jm_h → Prop} (hd : 3 ≤ d) (F : Nat → sy_d) (X1 X2 : List jm_c) (hB : iv_in F iv_B4)
    (h0 : (sy_i F 6).toInt ≤ 0)
    (h1 : (sy_i F 6).toInt = 0)
    (h2 : 0 ≤ (sy_i F 4).toInt ∧ (sy_i F 4).toInt < 403)
    (h3 : ((sy_ai F 25).getD (sy_i F 4).toNatClampNeg 0).toInt = 2)
    (h4 : 0 ≤ (sy_i F 4).toInt ∧ (sy_i F 4).toInt < 403)
    (h5 : ((sy_ai F 27).getD (sy_i F 4).toNatClampNeg 0).toInt < (sy_i F 69).toInt)
    (h6 : 0 ≤ (sy_i F 4).toInt ∧ (sy_i F 4).toInt < 403)
    (h7 : (sy_i F 6).toInt ≤ 0)
    (h8 : (sy_i F 8).toInt ≠ 0)
    (h9 : ((sy_ai F 26).getD (sy_i F 4).toNatClampNeg 0).toInt ≤ (sy_i F 9).toInt)
    (h10 : ((sy_ai F 26).getD (sy_i F 4).toNatClampNeg 0).toInt ≠ (sy_i F 9).toInt)
    (h11 : (sy_i F 4).toInt ≠ 400)
    (k : ∀ F1 : Nat → sy_d, (∀ j, j < 69 → j ≠ 4 ∧ j ≠ 8 ∧ j ≠ 9 → F1 j = F j) → F1 4 = .inl (.int ((sy_i F 4) + ((1 : Int32)))) → F1 8 = .inl (.int ((5 : Int32))) → F1 9 = .inl (.int ((sy_ai F 26).getD (sy_i F 4).toNatClampNeg 0)) → Q (some (.int ((sy_ai F 27).getD (sy_i F 4).toNatClampNeg 0))) (sy_dh F1 X1 X2 (iv_H 4))) :
    hd_W Ls xs d jm_M157 Q (0, sy_dL F [some (.inl (.ref 1000)), some (.inr (.inl 69)), some (.inr (.inl 70)), none], sy_dS F [], sy_dh F X1 X2 (iv_H 4), 0, 0) := by
  refine hd_ret (s := 4) (nv := 71) (v := some (.inr (.inl 72))) (uh := hd_ov (iv_id 0 iv_B4) [(4, .inl (.inr (.inl 74))), (8, .inl (.inl (.int 5))), (9, .inl (.inr (.inl 73)))]) (f := true) (sp := []) (d0 := 2) (O := [false, false, false, true, false, false, false, true, true]) (T := [(30, [.inr (.inl 4)], [.inr (.inl 25)]), (30, [.inr (.inl 4)], [.inr (.inl 27)]), (30, [.inr (.inl 4)], [.inr (.inl 26)]), (0, [.inr (.inl 4), .inl (.int 1)], [])]) (P := [(3, .inl (.int 0), .inr (.inl 6)), (0, .inr (.inl 6), .inl (.int 0)), (6, .inr (.inl 4), .inl (.ref 403)), (0, .inr (.inl 71), .inl (.int 2)), (6, .inr (.inl 4), .inl (.ref 403)), (2, .inr (.inl 72), .inr (.inl 69)), (6, .inr (.inl 4), .inl (.ref 403)), (3, .inl (.int 0), .inr (.inl 6)), (1, .inr (.inl 8), .inl (.int 0)), (3, .inr (.inl 9), .inr (.inl 73)), (1, .inr (.inl 73), .inr (.inl 9)), (1, .inr (.inl 4), .inl (.int 400))]) jm_ok157 (by decide +kernel) (by decide +kernel) hd F X1 X2 (fun F' hF hs => ?_)
  have b6 := hd_b (F := F) (F' := F') (k := 6) (hF 6 (by decide))
  have b4 := hd_b (F := F) (F' := F') (k := 4) (hF 4 (by decide))
  have a25 := hd_ba (F := F) (F' := F') (k := 25) (hF 25 (by decide))
  have t71 : sy_dv F' (.inr (.inl 71)) = .int ((sy_ai F 25).getD (sy_i F 4).toNatClampNeg 0) := hd_rd (hs 0 _ rfl) b4 a25
  have a27 := hd_ba (F := F) (F' := F') (k := 27) (hF 27 (by decide))
  have t72 : sy_dv F' (.inr (.inl 72)) = .int ((sy_ai F 27).getD (sy_i F 4).toNatClampNeg 0) := hd_rd (hs 1 _ rfl) b4 a27
  have b69 := hd_b (F := F) (F' := F') (k := 69) (hF 69 (by decide))
  have b8 := hd_b (F := F) (F' := F') (k := 8) (hF 8 (by decide))
  have b9 := hd_b (F := F) (F' := F') (k := 9) (hF 9 (by decide))
  have a26 := hd_ba (F := F) (F' := F') (k := 26) (hF 26 (by decide))
  have t73 : sy_dv F' (.inr (.inl 73)) = .int ((sy_ai F 26).getD (sy_i F 4).toNatClampNeg 0) := hd_rd (hs 2 _ rfl) b4 a26
  have t74 : sy_dv F' (.inr (.inl 74)) = .int ((sy_i F 4) + ((1 : Int32))) := hd_o (hs 3 _ rfl) b4 rfl rfl
  have hB' : iv_in F' iv_B4 := iv_in_eq hB (fun j hj => hF j (Nat.lt_of_lt_of_le hj (by decide +kernel)))
  have hk := k (sy_cm F' (hd_ov (iv_id 0 iv_B4) [(4, .inl (.inr (.inl 74))), (8, .inl (.inl (.int 5))), (9, .inl (.inr (.inl 73)))] ++ [])) (fun j hj hn => (hd_keep hB' (Nat.lt_of_lt_of_le hj (by decide +kernel)) (by simp; omega)).trans (hF j (by omega))) (hd_gi (x := .inr (.inl 74)) (by decide +kernel) t74) (hd_gi (x := .inl (.int 5)) (by decide +kernel) rfl) (hd_gi (x := .inr (.inl 73)) (by decide +kernel) t73)
  refine ⟨List.forall_mem_cons.mpr ⟨hd_p3 rfl b6 (by have hc : ((0) : Int32).toInt = 0 := (by decide); omega), List.forall_mem_cons.mpr ⟨hd_p0 b6 rfl (by have hc : ((0) : Int32).toInt = 0 := (by decide); omega), List.forall_mem_cons.mpr ⟨hd_pb b4 (by first | exact h2 | exact h2), List.forall_mem_cons.mpr ⟨hd_p0 t71 rfl (by have hc : ((2) : Int32).toInt = 2 := (by decide); omega), List.forall_mem_cons.mpr ⟨hd_pb b4 (by first | exact h4 | exact h4), List.forall_mem_cons.mpr ⟨hd_p2 t72 b69 h5, List.forall_mem_cons.mpr ⟨hd_pb b4 (by first | exact h6 | exact h6), List.forall_mem_cons.mpr ⟨hd_p3 rfl b6 (by have hc : ((0) : Int32).toInt = 0 := (by decide); omega), List.forall_mem_cons.mpr ⟨hd_p1 b8 rfl (by have hc : ((0) : Int32).toInt = 0 := (by decide); omega), List.forall_mem_cons.mpr ⟨hd_p3 b9 t73 h9, List.forall_mem_cons.mpr ⟨hd_p1 t73 b9 h10, List.forall_mem_cons.mpr ⟨hd_p1 b4 rfl (by have hc : ((400) : Int32).toInt = 400 := (by decide); omega), fun _ h => absurd h List.not_mem_nil⟩⟩⟩⟩⟩⟩⟩⟩⟩⟩⟩⟩, ?_⟩
  show Q (some (sy_dv F' (.inr (.inl 72)))) _
  rw [t72]
  exact hk
theorem bo_0_p7 {Ls : Nat} {xs : Nat → Int32} {d : Nat} {Q : Option Value → jm_h → Prop} (hd : 3 ≤ d) (F : Nat → sy_d) (X1 X2 : List jm_c) (hB : iv_in F iv_B4)
    (h0 : (sy_i F 6).toInt ≤ 0)
    (h1 : (sy_i F 6).toInt = 0)
    (h2 : 0 ≤ (sy_i F 4).toInt ∧ (sy_i F 4).toInt < 403)
    (h3 : ((sy_ai F 25).getD (sy_i F 4).toNatClampNeg 0).toInt = 2)
    (h4 : 0 ≤ (sy_i F 4).toInt ∧ (sy_i F 4).toInt < 403)
    (h5 : ((sy_ai F 27).getD (sy_i F 4).toNatClampNeg 0).toInt < (sy_i F 69).toInt)
    (h6 : 0 ≤ (sy_i F 4).toInt ∧ (sy_i F 4).toInt < 403)
    (h7 : (sy_i F 6).toInt ≤ 0)
    (h8 : (sy_i F 8).toInt ≠ 0)
    (h9 : ((sy_ai F 26).getD (sy_i F 4).toNatClampNeg 0).toInt ≤ (sy_i F 9).toInt)
    (h10 : ((sy_ai F 26).getD (sy_i F 4).toNatClampNeg 0).toInt ≠ (sy_i F 9).toInt)
    (h11 : (sy_i F 4).toInt = 400)
    (h12 : (sy_i F 6).toInt ≤ 0)
    (h13 : 0 ≤ (sy_i F 4).toInt ∧ (sy_i F 4).toInt < 403)
    (k : ∀ F1 : Nat → sy_d, (∀ j, j < 69 → j ≠ 6 ∧ j ≠ 7 ∧ j ≠ 8 ∧ j ≠ 9 → F1 j = F j) → F1 6 = .inl (.int ((2 : Int32))) → F1 7 = .inl (.int ((sy_ai F 26).getD (sy_i F 4).toNatClampNeg 0)) → F1 8 = .inl (.int ((5 : Int32))) → F1 9 = .inl (.int ((sy_ai F 26).getD (sy_i F 4).toNatClampNeg 0)) → Q (some (.int ((sy_ai F 27).getD (sy_i F 4).toNatClampNeg 0))) (sy_dh F1 X1 X2 (iv_H 4))) :
    hd_W Ls xs d jm_M157 Q (0, sy_dL F [some (.inl (.ref 1000)), some (.inr (.inl 69)), some (.inr (.inl 70)), none], sy_dS F [], sy_dh F X1 X2 (iv_H 4), 0, 0) := by
  refine hd_ret (s := 4) (nv := 71) (v := some (.inr (.inl 72))) (uh := hd_ov (iv_id 0 iv_B4) [(6, .inl (.inl (.int 2))), (7, .inl (.inr (.inl 74))), (8, .inl (.inl (.int 5))), (9, .inl (.inr (.inl 73)))]) (f := true) (sp := []) (d0 := 2) (O := [false, false, false, true, false, false, false, true, false, true]) (T := [(30, [.inr (.inl 4)], [.inr (.inl 25)]), (30, [.inr (.inl 4)], [.inr (.inl 27)]), (30, [.inr (.inl 4)], [.inr (.inl 26)]), (30, [.inr (.inl 4)], [.inr (.inl 26)])]) (P := [(3, .inl (.int 0), .inr (.inl 6)), (0, .inr (.inl 6), .inl (.int 0)), (6, .inr (.inl 4), .inl (.ref 403)), (0, .inr (.inl 71), .inl (.int 2)), (6, .inr (.inl 4), .inl (.ref 403)), (2, .inr (.inl 72), .inr (.inl 69)), (6, .inr (.inl 4), .inl (.ref 403)), (3, .inl (.int 0), .inr (.inl 6)), (1, .inr (.inl 8), .inl (.int 0)), (3, .inr (.inl 9), .inr (.inl 73)), (1, .inr (.inl 73), .inr (.inl 9)), (0, .inr (.inl 4), .inl (.int 400)), (4, .inr (.inl 6), .inl (.int 0)), (6, .inr (.inl 4), .inl (.ref 403))]) jm_ok157 (by decide +kernel) (by decide +kernel) hd F X1 X2 (fun F' hF hs => ?_)
  have b6 := hd_b (F := F) (F' := F') (k := 6) (hF 6 (by decide))
  have b4 := hd_b (F := F) (F' := F') (k := 4) (hF 4 (by decide))
  have a25 := hd_ba (F := F) (F' := F') (k := 25) (hF 25 (by decide))
  have t71 : sy_dv F' (.inr (.inl 71)) = .int ((sy_ai F 25).getD (sy_i F 4).toNatClampNeg 0) := hd_rd (hs 0 _ rfl) b4 a25
  have a27 := hd_ba (F := F) (F' := F') (k := 27) (hF 27 (by decide))
  have t72 : sy_dv F' (.inr (.inl 72)) = .int ((sy_ai F 27).getD (sy_i F 4).toNatClampNeg 0) := hd_rd (hs 1 _ rfl) b4 a27
  have b69 := hd_b (F := F) (F' := F') (k := 69) (hF 69 (by decide))
  have b8 := hd_b (F := F) (F' := F') (k := 8) (hF 8 (by decide))
  have b9 := hd_b (F := F) (F' := F') (k := 9) (hF 9 (by decide))
  have a26 := hd_ba (F := F) (F' := F') (k := 26) (hF 26 (by decide))
  have t73 : sy_dv F' (.inr (.inl 73)) = .int ((sy_ai F 26).getD (sy_i F 4).toNatClampNeg 0) := hd_rd (hs 2 _ rfl) b4 a26
  have t74 : sy_dv F' (.inr (.inl 74)) = .int ((sy_ai F 26).getD (sy_i F 4).toNatClampNeg 0) := hd_rd (hs 3 _ rfl) b4 a26
  have hB' : iv_in F' iv_B4 := iv_in_eq hB (fun j hj => hF j (Nat.lt_of_lt_of_le hj (by decide +kernel)))
  have hk := k (sy_cm F' (hd_ov (iv_id 0 iv_B4) [(6, .inl (.inl (.int 2))), (7, .inl (.inr (.inl 74))), (8, .inl (.inl (.int 5))), (9, .inl (.inr (.inl 73)))] ++ [])) (fun j hj hn => (hd_keep hB' (Nat.lt_of_lt_of_le hj (by decide +kernel)) (by simp; omega)).trans (hF j (by omega))) (hd_gi (x := .inl (.int 2)) (by decide +kernel) rfl) (hd_gi (x := .inr (.inl 74)) (by decide +kernel) t74) (hd_gi (x := .inl (.int 5)) (by decide +kernel) rfl) (hd_gi (x := .inr (.inl 73)) (by decide +kernel) t73)
  refine ⟨List.forall_mem_cons.mpr ⟨hd_p3 rfl b6 (by have hc : ((0) : Int32).toInt = 0 := (by decide); omega), List.forall_mem_cons.mpr ⟨hd_p0 b6 rfl (by have hc : ((0) : Int32).toInt = 0 := (by decide); omega), List.forall_mem_cons.mpr ⟨hd_pb b4 (by first | exact h2 | exact h2), List.forall_mem_cons.mpr ⟨hd_p0 t71 rfl (by have hc : ((2) : Int32).toInt = 2 := (by decide); omega), List.forall_mem_cons.mpr ⟨hd_pb b4 (by first | exact h4 | exact h4), List.forall_mem_cons.mpr ⟨hd_p2 t72 b69 h5, List.forall_mem_cons.mpr ⟨hd_pb b4 (by first | exact h6 | exact h6), List.forall_mem_cons.mpr ⟨hd_p3 rfl b6 (by have hc : ((0) : Int32).toInt = 0 := (by decide); omega), List.forall_mem_cons.mpr ⟨hd_p1 b8 rfl (by have hc : ((0) : Int32).toInt = 0 := (by decide); omega), List.forall_mem_cons.mpr ⟨hd_p3 b9 t73 h9, List.forall_mem_cons.mpr ⟨hd_p1 t73 b9 h10, List.forall_mem_cons.mpr ⟨hd_p0 b4 rfl (by have hc : ((400) : Int32).toInt = 400 := (by decide); omega), List.forall_mem_cons.mpr ⟨hd_p4 b6 rfl (by have hc : ((0) : Int32).toInt = 0 := (by decide); omega), List.forall_mem_cons.mpr ⟨hd_pb b4 (by first | exact h13 | exact h13), fun _ h => absurd h List.not_mem_nil⟩⟩⟩⟩⟩⟩⟩⟩⟩⟩⟩⟩⟩⟩, ?_⟩
  show Q (some (sy_dv F' (.inr (.inl 72)))) _
  rw [t72]
  exact hk
theorem bo_0_p8 {Ls : Nat} {xs : Nat → Int32} {d : Nat} {Q : Option Value → jm_h → Prop} (hd : 3 ≤ d) (F : Nat → sy_d) (X1 X2 : List jm_c) (hB : iv_in F iv_B4)
    (h0 : (sy_i F 6).toInt ≤ 0)
    (h1 : (sy_i F 6).toInt = 0)
    (h2 : 0 ≤ (sy_i F 4).toInt ∧ (sy_i F 4).toInt < 403)
    (h3 : ((sy_ai F 25).getD (sy_i F 4).toNatClampNeg 0).toInt = 2)
    (h4 : 0 ≤ (sy_i F 4).toInt ∧ (sy_i F 4).toInt < 403)
    (h5 : ((sy_ai F 27).getD (sy_i F 4).toNatClampNeg 0).toInt < (sy_i F 69).toInt)
    (h6 : 0 ≤ (sy_i F 4).toInt ∧ (sy_i F 4).toInt < 403)
    (h7 : (sy_i F 6).toInt ≤ 0)
    (h8 : (sy_i F 8).toInt ≠ 0)
    (h9 : ((sy_ai F 26).getD (sy_i F 4).toNatClampNeg 0).toInt ≤ (sy_i F 9).toInt)
    (h10 : ((sy_ai F 26).getD (sy_i F 4).toNatClampNeg 0).toInt = (sy_i F 9).toInt)
    (h11 : 5 < (sy_i F 8).toInt)
    (h12 : (sy_i F 4).toInt ≠ 400)
    (k : ∀ F1 : Nat → sy_d, (∀ j, j < 69 → j ≠ 4 ∧ j ≠ 8 ∧ j ≠ 9 → F1 j = F j) → F1 4 = .inl (.int ((sy_i F 4) + ((1 : Int32)))) → F1 8 = .inl (.int ((5 : Int32))) → F1 9 = .inl (.int ((sy_ai F 26).getD (sy_i F 4).toNatClampNeg 0)) → Q (some (.int ((sy_ai F 27).getD (sy_i F 4).toNatClampNeg 0))) (sy_dh F1 X1 X2 (iv_H 4))) :
    hd_W Ls xs d jm_M157 Q (0, sy_dL F [some (.inl (.ref 1000)), some (.inr (.inl 69)), some (.inr (.inl 70)), none], sy_dS F [], sy_dh F X1 X2 (iv_H 4), 0, 0) := by
  refine hd_ret (s := 4) (nv := 71) (v := some (.inr (.inl 72))) (uh := hd_ov (iv_id 0 iv_B4) [(4, .inl (.inr (.inl 74))), (8, .inl (.inl (.int 5))), (9, .inl (.inr (.inl 73)))]) (f := true) (sp := []) (d0 := 2) (O := [false, false, false, true, false, false, false, false, true, true]) (T := [(30, [.inr (.inl 4)], [.inr (.inl 25)]), (30, [.inr (.inl 4)], [.inr (.inl 27)]), (30, [.inr (.inl 4)], [.inr (.inl 26)]), (0, [.inr (.inl 4), .inl (.int 1)], [])]) (P := [(3, .inl (.int 0), .inr (.inl 6)), (0, .inr (.inl 6), .inl (.int 0)), (6, .inr (.inl 4), .inl (.ref 403)), (0, .inr (.inl 71), .inl (.int 2)), (6, .inr (.inl 4), .inl (.ref 403)), (2, .inr (.inl 72), .inr (.inl 69)), (6, .inr (.inl 4), .inl (.ref 403)), (3, .inl (.int 0), .inr (.inl 6)), (1, .inr (.inl 8), .inl (.int 0)), (3, .inr (.inl 9), .inr (.inl 73)), (0, .inr (.inl 73), .inr (.inl 9)), (2, .inl (.int 5), .inr (.inl 8)), (1, .inr (.inl 4), .inl (.int 400))]) jm_ok157 (by decide +kernel) (by decide +kernel) hd F X1 X2 (fun F' hF hs => ?_)
  have b6 := hd_b (F := F) (F' := F') (k := 6) (hF 6 (by decide))
  have b4 := hd_b (F := F) (F' := F') (k := 4) (hF 4 (by decide))
  have a25 := hd_ba (F := F) (F' := F') (k := 25) (hF 25 (by decide))
  have t71 : sy_dv F' (.inr (.inl 71)) = .int ((sy_ai F 25).getD (sy_i F 4).toNatClampNeg 0) := hd_rd (hs 0 _ rfl) b4 a25
  have a27 := hd_ba (F := F) (F' := F') (k := 27) (hF 27 (by decide))
  have t72 : sy_dv F' (.inr (.inl 72)) = .int ((sy_ai F 27).getD (sy_i F 4).toNatClampNeg 0) := hd_rd (hs 1 _ rfl) b4 a27
  have b69 := hd_b (F := F) (F' := F') (k := 69) (hF 69 (by decide))
  have b8 := hd_b (F := F) (F' := F') (k := 8) (hF 8 (by decide))
  have b9 := hd_b (F := F) (F' := F') (k := 9) (hF 9 (by decide))
  have a26 := hd_ba (F := F) (F' := F') (k := 26) (hF 26 (by decide))
  have t73 : sy_dv F' (.inr (.inl 73)) = .int ((sy_ai F 26).getD (sy_i F 4).toNatClampNeg 0) := hd_rd (hs 2 _ rfl) b4 a26
  have t74 : sy_dv F' (.inr (.inl 74)) = .int ((sy_i F 4) + ((1 : Int32))) := hd_o (hs 3 _ rfl) b4 rfl rfl
  have hB' : iv_in F' iv_B4 := iv_in_eq hB (fun j hj => hF j (Nat.lt_of_lt_of_le hj (by decide +kernel)))
  have hk := k (sy_cm F' (hd_ov (iv_id 0 iv_B4) [(4, .inl (.inr (.inl 74))), (8, .inl (.inl (.int 5))), (9, .inl (.inr (.inl 73)))] ++ [])) (fun j hj hn => (hd_keep hB' (Nat.lt_of_lt_of_le hj (by decide +kernel)) (by simp; omega)).trans (hF j (by omega))) (hd_gi (x := .inr (.inl 74)) (by decide +kernel) t74) (hd_gi (x := .inl (.int 5)) (by decide +kernel) rfl) (hd_gi (x := .inr (.inl 73)) (by decide +kernel) t73)
  refine ⟨List.forall_mem_cons.mpr ⟨hd_p3 rfl b6 (by have hc : ((0) : Int32).toInt = 0 := (by decide); omega), List.forall_mem_cons.mpr ⟨hd_p0 b6 rfl (by have hc : ((0) : Int32).toInt = 0 := (by decide); omega), List.forall_mem_cons.mpr ⟨hd_pb b4 (by first | exact h2 | exact h2), List.forall_mem_cons.mpr ⟨hd_p0 t71 rfl (by have hc : ((2) : Int32).toInt = 2 := (by decide); omega), List.forall_mem_cons.mpr ⟨hd_pb b4 (by first | exact h4 | exact h4), List.forall_mem_cons.mpr ⟨hd_p2 t72 b69 h5, List.forall_mem_cons.mpr ⟨hd_pb b4 (by first | exact h6 | exact h6), List.forall_mem_cons.mpr ⟨hd_p3 rfl b6 (by have hc : ((0) : Int32).toInt = 0 := (by decide); omega), List.forall_mem_cons.mpr ⟨hd_p1 b8 rfl (by have hc : ((0) : Int32).toInt = 0 := (by decide); omega), List.forall_mem_cons.mpr ⟨hd_p3 b9 t73 h9, List.forall_mem_cons.mpr ⟨hd_p0 t73 b9 h10, List.forall_mem_cons.mpr ⟨hd_p2 rfl b8 (by have hc : ((5) : Int32).toInt = 5 := (by decide); omega), List.forall_mem_cons.mpr ⟨hd_p1 b4 rfl (by have hc : ((400) : Int32).toInt = 400 := (by decide); omega), fun _ h => absurd h List.not_mem_nil⟩⟩⟩⟩⟩⟩⟩⟩⟩⟩⟩⟩⟩, ?_⟩
  show Q (some (sy_dv F' (.inr (.inl 72)))) _
  rw [t72]
  exact hk
theorem bo_0_p9 {Ls : Nat} {xs : Nat → Int32} {d : Nat} {Q : Option Value → jm_h → Prop} (hd : 3 ≤ d) (F : Nat → sy_d) (X1 X2 : List jm_c) (hB : iv_in F iv_B4)
    (h0 : (sy_i F 6).toInt ≤ 0)
    (h1 : (sy_i F 6).toInt = 0)
    (h2 : 0 ≤ (sy_i F 4).toInt ∧ (sy_i F 4).toInt < 403)
    (h3 : ((sy_ai F 25).getD (sy_i F 4).toNatClampNeg 0).toInt = 2)
    (h4 : 0 ≤ (sy_i F 4).toInt ∧ (sy_i F 4).toInt < 403)
    (h5 : ((sy_ai F 27).getD (sy_i F 4).toNatClampNeg 0).toInt < (sy_i F 69).toInt)
    (h6 : 0 ≤ (sy_i F 4).toInt ∧ (sy_i F 4).toInt < 403)
    (h7 : (sy_i F 6).toInt ≤ 0)
    (h8 : (sy_i F 8).toInt ≠ 0)
    (h9 : ((sy_ai F 26).getD (sy_i F 4).toNatClampNeg 0).toInt ≤ (sy_i F 9).toInt)
    (h10 : ((sy_ai F 26).getD (sy_i F 4).toNatClampNeg 0).toInt = (sy_i F 9).toInt)
    (h11 : 5 < (sy_i F 8).toInt)
    (h12 : (sy_i F 4).toInt = 400)
    (h13 : (sy_i F 6).toInt ≤ 0)
    (h14 : 0 ≤ (sy_i F 4).toInt ∧ (sy_i F 4).toInt < 403)
    (k : ∀ F1 : Nat → sy_d, (∀ j, j < 69 → j ≠ 6 ∧ j ≠ 7 ∧ j ≠ 8 ∧ j ≠ 9 → F1 j = F j) → F1 6 = .inl (.int ((2 : Int32))) → F1 7 = .inl (.int ((sy_ai F 26).getD (sy_i F 4).toNatClampNeg 0)) → F1 8 = .inl (.int ((5 : Int32))) → F1 9 = .inl (.int ((sy_ai F 26).getD (sy_i F 4).toNatClampNeg 0)) → Q (some (.int ((sy_ai F 27).getD (sy_i F 4).toNatClampNeg 0))) (sy_dh F1 X1 X2 (iv_H 4))) :
    hd_W Ls xs d jm_M157 Q (0, sy_dL F [some (.inl (.ref 1000)), some (.inr (.inl 69)), some (.inr (.inl 70)), none], sy_dS F [], sy_dh F X1 X2 (iv_H 4), 0, 0) := by
  refine hd_ret (s := 4) (nv := 71) (v := some (.inr (.inl 72))) (uh := hd_ov (iv_id 0 iv_B4) [(6, .inl (.inl (.int 2))), (7, .inl (.inr (.inl 74))), (8, .inl (.inl (.int 5))), (9, .inl (.inr (.inl 73)))]) (f := true) (sp := []) (d0 := 2) (O := [false, false, false, true, false, false, false, false, true, false, true]) (T := [(30, [.inr (.inl 4)], [.inr (.inl 25)]), (30, [.inr (.inl 4)], [.inr (.inl 27)]), (30, [.inr (.inl 4)], [.inr (.inl 26)]), (30, [.inr (.inl 4)], [.inr (.inl 26)])]) (P := [(3, .inl (.int 0), .inr (.inl 6)), (0, .inr (.inl 6), .inl (.int 0)), (6, .inr (.inl 4), .inl (.ref 403)), (0, .inr (.inl 71), .inl (.int 2)), (6, .inr (.inl 4), .inl (.ref 403)), (2, .inr (.inl 72), .inr (.inl 69)), (6, .inr (.inl 4), .inl (.ref 403)), (3, .inl (.int 0), .inr (.inl 6)), (1, .inr (.inl 8), .inl (.int 0)), (3, .inr (.inl 9), .inr (.inl 73)), (0, .inr (.inl 73), .inr (.inl 9)), (2, .inl (.int 5), .inr (.inl 8)), (0, .inr (.inl 4), .inl (.int 400)), (4, .inr (.inl 6), .inl (.int 0)), (6, .inr (.inl 4), .inl (.ref 403))]) jm_ok157 (by decide +kernel) (by decide +kernel) hd F X1 X2 (fun F' hF hs => ?_)
  have b6 := hd_b (F := F) (F' := F') (k := 6) (hF 6 (by decide))
  have b4 := hd_b (F := F) (F' := F') (k := 4) (hF 4 (by decide))
  have a25 := hd_ba (F := F) (F' := F') (k := 25) (hF 25 (by decide))
  have t71 : sy_dv F' (.inr (.inl 71)) = .int ((sy_ai F 25).getD (sy_i F 4).toNatClampNeg 0) := hd_rd (hs 0 _ rfl) b4 a25
  have a27 := hd_ba (F := F) (F' := F') (k := 27) (hF 27 (by decide))
  have t72 : sy_dv F' (.inr (.inl 72)) = .int ((sy_ai F 27).getD (sy_i F 4).toNatClampNeg 0) := hd_rd (hs 1 _ rfl) b4 a27
  have b69 := hd_b (F := F) (F' := F') (k := 69) (hF 69 (by decide))
  have b8 := hd_b (F := F) (F' := F') (k := 8) (hF 8 (by decide))
  have b9 := hd_b (F := F) (F' := F') (k := 9) (hF 9 (by decide))
  have a26 := hd_ba (F := F) (F' := F') (k := 26) (hF 26 (by decide))
  have t73 : sy_dv F' (.inr (.inl 73)) = .int ((sy_ai F 26).getD (sy_i F 4).toNatClampNeg 0) := hd_rd (hs 2 _ rfl) b4 a26
  have t74 : sy_dv F' (.inr (.inl 74)) = .int ((sy_ai F 26).getD (sy_i F 4).toNatClampNeg 0) := hd_rd (hs 3 _ rfl) b4 a26
  have hB' : iv_in F' iv_B4 := iv_in_eq hB (fun j hj => hF j (Nat.lt_of_lt_of_le hj (by decide +kernel)))
  have hk := k (sy_cm F' (hd_ov (iv_id 0 iv_B4) [(6, .inl (.inl (.int 2))), (7, .inl (.inr (.inl 74))), (8, .inl (.inl (.int 5))), (9, .inl (.inr (.inl 73)))] ++ [])) (fun j hj hn => (hd_keep hB' (Nat.lt_of_lt_of_le hj (by decide +kernel)) (by simp; omega)).trans (hF j (by omega))) (hd_gi (x := .inl (.int 2)) (by decide +kernel) rfl) (hd_gi (x := .inr (.inl 74)) (by decide +kernel) t74) (hd_gi (x := .inl (.int 5)) (by decide +kernel) rfl) (hd_gi (x := .inr (.inl 73)) (by decide +kernel) t73)
  refine ⟨List.forall_mem_cons.mpr ⟨hd_p3 rfl b6 (by have hc : ((0) : Int32).toInt = 0 := (by decide); omega), List.forall_mem_cons.mpr ⟨hd_p0 b6 rfl (by have hc : ((0) : Int32).toInt = 0 := (by decide); omega), List.forall_mem_cons.mpr ⟨hd_pb b4 (by first | exact h2 | exact h2), List.forall_mem_cons.mpr ⟨hd_p0 t71 rfl (by have hc : ((2) : Int32).toInt = 2 := (by decide); omega), List.forall_mem_cons.mpr ⟨hd_pb b4 (by first | exact h4 | exact h4), List.forall_mem_cons.mpr ⟨hd_p2 t72 b69 h5, List.forall_mem_cons.mpr ⟨hd_pb b4 (by first | exact h6 | exact h6), List.forall_mem_cons.mpr ⟨hd_p3 rfl b6 (by have hc : ((0) : Int32).toInt = 0 := (by decide); omega), List.forall_mem_cons.mpr ⟨hd_p1 b8 rfl (by have hc : ((0) : Int32).toInt = 0 := (by decide); omega), List.forall_mem_cons.mpr ⟨hd_p3 b9 t73 h9, List.forall_mem_cons.mpr ⟨hd_p0 t73 b9 h10, List.forall_mem_cons.mpr ⟨hd_p2 rfl b8 (by have hc : ((5) : Int32).toInt = 5 := (by decide); omega), List.forall_mem_cons.mpr ⟨hd_p0 b4 rfl (by have hc : ((400) : Int32).toInt = 400 := (by decide); omega), List.forall_mem_cons.mpr ⟨hd_p4 b6 rfl (by have hc : ((0) : Int32).toInt = 0 := (by decide); omega), List.forall_mem_cons.mpr ⟨hd_pb b4 (by first | exact h14 | exact h14), fun _ h => absurd h List.not_mem_nil⟩⟩⟩⟩⟩⟩⟩⟩⟩⟩⟩⟩⟩⟩⟩, ?_⟩
  show Q (some (sy_dv F' (.inr (.inl 72)))) _
  rw [t72]
  exact hk
theorem bo_0_p10 {Ls : Nat} {xs : Nat → Int32} {d : Nat} {Q : Option Value → jm_h → Prop} (hd : 3 ≤ d) (F : Nat → sy_d) (X1 X2 : List jm_c) (hB : iv_in F iv_B4)
    (h0 : (sy_i F 6).toInt ≤ 0)
    (h1 : (sy_i F 6).toInt = 0)
    (h2 : 0 ≤ (sy_i F 4).toInt ∧ (sy_i F 4).toInt < 403)
    (h3 : ((sy_ai F 25).getD (sy_i F 4).toNatClampNeg 0).toInt = 2)
    (h4 : 0 ≤ (sy_i F 4).toInt ∧ (sy_i F 4).toInt < 403)
    (h5 : ((sy_ai F 27).getD (sy_i F 4).toNatClampNeg 0).toInt < (sy_i F 69).toInt)
    (h6 : 0 ≤ (sy_i F 4).toInt ∧ (sy_i F 4).toInt < 403)
    (h7 : (sy_i F 6).toInt ≤ 0)
    (h8 : (sy_i F 8).toInt ≠ 0)
    (h9 : ((sy_ai F 26).getD (sy_i F 4).toNatClampNeg 0).toInt ≤ (sy_i F 9).toInt)
    (h10 : ((sy_ai F 26).getD (sy_i F 4).toNatClampNeg 0).toInt = (sy_i F 9).toInt)
    (h11 : (sy_i F 8).toInt ≤ 5)
    (h12 : (sy_i F 4).toInt ≠ 400)
    (k : ∀ F1 : Nat → sy_d, (∀ j, j < 69 → j ≠ 4 → F1 j = F j) → F1 4 = .inl (.int ((sy_i F 4) + ((1 : Int32)))) → Q (some (.int ((sy_ai F 27).getD (sy_i F 4).toNatClampNeg 0))) (sy_dh F1 X1 X2 (iv_H 4))) :
    hd_W Ls xs d jm_M157 Q (0, sy_dL F [some (.inl (.ref 1000)), some (.inr (.inl 69)), some (.inr (.inl 70)), none], sy_dS F [], sy_dh F X1 X2 (iv_H 4), 0, 0) := by
  refine hd_ret (s := 4) (nv := 71) (v := some (.inr (.inl 72))) (uh := hd_ov (iv_id 0 iv_B4) [(4, .inl (.inr (.inl 74)))]) (f := true) (sp := []) (d0 := 2) (O := [false, false, false, true, false, false, false, false, false, true]) (T := [(30, [.inr (.inl 4)], [.inr (.inl 25)]), (30, [.inr (.inl 4)], [.inr (.inl 27)]), (30, [.inr (.inl 4)], [.inr (.inl 26)]), (0, [.inr (.inl 4), .inl (.int 1)], [])]) (P := [(3, .inl (.int 0), .inr (.inl 6)), (0, .inr (.inl 6), .inl (.int 0)), (6, .inr (.inl 4), .inl (.ref 403)), (0, .inr (.inl 71), .inl (.int 2)), (6, .inr (.inl 4), .inl (.ref 403)), (2, .inr (.inl 72), .inr (.inl 69)), (6, .inr (.inl 4), .inl (.ref 403)), (3, .inl (.int 0), .inr (.inl 6)), (1, .inr (.inl 8), .inl (.int 0)), (3, .inr (.inl 9), .inr (.inl 73)), (0, .inr (.inl 73), .inr (.inl 9)), (3, .inl (.int 5), .inr (.inl 8)), (1, .inr (.inl 4), .inl (.int 400))]) jm_ok157 (by decide +kernel) (by decide +kernel) hd F X1 X2 (fun F' hF hs => ?_)
  have b6 := hd_b (F := F) (F' := F') (k := 6) (hF 6 (by decide))
  have b4 := hd_b (F := F) (F' := F') (k := 4) (hF 4 (by decide))
  have a25 := hd_ba (F := F) (F' := F') (k := 25) (hF 25 (by decide))
  have t71 : sy_dv F' (.inr (.inl 71)) = .int ((sy_ai F 25).getD (sy_i F 4).toNatClampNeg 0) := hd_rd (hs 0 _ rfl) b4 a25
  have a27 := hd_ba (F := F) (F' := F') (k := 27) (hF 27 (by decide))
  have t72 : sy_dv F' (.inr (.inl 72)) = .int ((sy_ai F 27).getD (sy_i F 4).toNatClampNeg 0) := hd_rd (hs 1 _ rfl) b4 a27
  have b69 := hd_b (F := F) (F' := F') (k := 69) (hF 69 (by decide))
  have b8 := hd_b (F := F) (F' := F') (k := 8) (hF 8 (by decide))
  have b9 := hd_b (F := F) (F' := F') (k := 9) (hF 9 (by decide))
  have a26 := hd_ba (F := F) (F' := F') (k := 26) (hF 26 (by decide))
  have t73 : sy_dv F' (.inr (.inl 73)) = .int ((sy_ai F 26).getD (sy_i F 4).toNatClampNeg 0) := hd_rd (hs 2 _ rfl) b4 a26
  have t74 : sy_dv F' (.inr (.inl 74)) = .int ((sy_i F 4) + ((1 : Int32))) := hd_o (hs 3 _ rfl) b4 rfl rfl
  have hB' : iv_in F' iv_B4 := iv_in_eq hB (fun j hj => hF j (Nat.lt_of_lt_of_le hj (by decide +kernel)))
  have hk := k (sy_cm F' (hd_ov (iv_id 0 iv_B4) [(4, .inl (.inr (.inl 74)))] ++ [])) (fun j hj hn => (hd_keep hB' (Nat.lt_of_lt_of_le hj (by decide +kernel)) (by simp; omega)).trans (hF j (by omega))) (hd_gi (x := .inr (.inl 74)) (by decide +kernel) t74)
  refine ⟨List.forall_mem_cons.mpr ⟨hd_p3 rfl b6 (by have hc : ((0) : Int32).toInt = 0 := (by decide); omega), List.forall_mem_cons.mpr ⟨hd_p0 b6 rfl (by have hc : ((0) : Int32).toInt = 0 := (by decide); omega), List.forall_mem_cons.mpr ⟨hd_pb b4 (by first | exact h2 | exact h2), List.forall_mem_cons.mpr ⟨hd_p0 t71 rfl (by have hc : ((2) : Int32).toInt = 2 := (by decide); omega), List.forall_mem_cons.mpr ⟨hd_pb b4 (by first | exact h4 | exact h4), List.forall_mem_cons.mpr ⟨hd_p2 t72 b69 h5, List.forall_mem_cons.mpr ⟨hd_pb b4 (by first | exact h6 | exact h6), List.forall_mem_cons.mpr ⟨hd_p3 rfl b6 (by have hc : ((0) : Int32).toInt = 0 := (by decide); omega), List.forall_mem_cons.mpr ⟨hd_p1 b8 rfl (by have hc : ((0) : Int32).toInt = 0 := (by decide); omega), List.forall_mem_cons.mpr ⟨hd_p3 b9 t73 h9, List.forall_mem_cons.mpr ⟨hd_p0 t73 b9 h10, List.forall_mem_cons.mpr ⟨hd_p3 rfl b8 (by have hc : ((5) : Int32).toInt = 5 := (by decide); omega), List.forall_mem_cons.mpr ⟨hd_p1 b4 rfl (by have hc : ((400) : Int32).toInt = 400 := (by decide); omega), fun _ h => absurd h List.not_mem_nil⟩⟩⟩⟩⟩⟩⟩⟩⟩⟩⟩⟩⟩, ?_⟩
  show Q (some (sy_dv F' (.inr (.inl 72)))) _
  rw [t72]
  exact hk
theorem bo_0_p11 {Ls : Nat} {xs : Nat → Int32} {d : Nat} {Q : Option Value → jm_h → Prop} (hd : 3 ≤ d) (F : Nat → sy_d) (X1 X2 : List jm_c) (hB : iv_in F iv_B4)
    (h0 : (sy_i F 6).toInt ≤ 0)
    (h1 : (sy_i F 6).toInt = 0)
    (h2 : 0 ≤ (sy_i F 4).toInt ∧ (sy_i F 4).toInt < 403)
    (h3 : ((sy_ai F 25).getD (sy_i F 4).toNatClampNeg 0).toInt = 2)
    (h4 : 0 ≤ (sy_i F 4).toInt ∧ (sy_i F 4).toInt < 403)
    (h5 : ((sy_ai F 27).getD (sy_i F 4).toNatClampNeg 0).toInt < (sy_i F 69).toInt)
    (h6 : 0 ≤ (sy_i F 4).toInt ∧ (sy_i F 4).toInt < 403)
    (h7 : (sy_i F 6).toInt ≤ 0)
    (h8 : (sy_i F 8).toInt ≠ 0)
    (h9 : ((sy_ai F 26).getD (sy_i F 4).toNatClampNeg 0).toInt ≤ (sy_i F 9).toInt)
    (h10 : ((sy_ai F 26).getD (sy_i F 4).toNatClampNeg 0).toInt = (sy_i F 9).toInt)
    (h11 : (sy_i F 8).toInt ≤ 5)
    (h12 : (sy_i F 4).toInt = 400)
    (h13 : (sy_i F 6).toInt ≤ 0)
    (h14 : 0 ≤ (sy_i F 4).toInt ∧ (sy_i F 4).toInt < 403)
    (k : ∀ F1 : Nat → sy_d, (∀ j, j < 69 → j ≠ 6 ∧ j ≠ 7 → F1 j = F j) → F1 6 = .inl (.int ((2 : Int32))) → F1 7 = .inl (.int ((sy_ai F 26).getD (sy_i F 4).toNatClampNeg 0)) → Q (some (.int ((sy_ai F 27).getD (sy_i F 4).toNatClampNeg 0))) (sy_dh F1 X1 X2 (iv_H 4))) :
    hd_W Ls xs d jm_M157 Q (0, sy_dL F [some (.inl (.ref 1000)), some (.inr (.inl 69)), some (.inr (.inl 70)), none], sy_dS F [], sy_dh F X1 X2 (iv_H 4), 0, 0) := by
  refine hd_ret (s := 4) (nv := 71) (v := some (.inr (.inl 72))) (uh := hd_ov (iv_id 0 iv_B4) [(6, .inl (.inl (.int 2))), (7, .inl (.inr (.inl 74)))]) (f := true) (sp := []) (d0 := 2) (O := [false, false, false, true, false, false, false, false, false, false, true]) (T := [(30, [.inr (.inl 4)], [.inr (.inl 25)]), (30, [.inr (.inl 4)], [.inr (.inl 27)]), (30, [.inr (.inl 4)], [.inr (.inl 26)]), (30, [.inr (.inl 4)], [.inr (.inl 26)])]) (P := [(3, .inl (.int 0), .inr (.inl 6)), (0, .inr (.inl 6), .inl (.int 0)), (6, .inr (.inl 4), .inl (.ref 403)), (0, .inr (.inl 71), .inl (.int 2)), (6, .inr (.inl 4), .inl (.ref 403)), (2, .inr (.inl 72), .inr (.inl 69)), (6, .inr (.inl 4), .inl (.ref 403)), (3, .inl (.int 0), .inr (.inl 6)), (1, .inr (.inl 8), .inl (.int 0)), (3, .inr (.inl 9), .inr (.inl 73)), (0, .inr (.inl 73), .inr (.inl 9)), (3, .inl (.int 5), .inr (.inl 8)), (0, .inr (.inl 4), .inl (.int 400)), (4, .inr (.inl 6), .inl (.int 0)), (6, .inr (.inl 4), .inl (.ref 403))]) jm_ok157 (by decide +kernel) (by decide +kernel) hd F X1 X2 (fun F' hF hs => ?_)
  have b6 := hd_b (F := F) (F' := F') (k := 6) (hF 6 (by decide))
  have b4 := hd_b (F := F) (F' := F') (k := 4) (hF 4 (by decide))
  have a25 := hd_ba (F := F) (F' := F') (k := 25) (hF 25 (by decide))
  have t71 : sy_dv F' (.inr (.inl 71)) = .int ((sy_ai F 25).getD (sy_i F 4).toNatClampNeg 0) := hd_rd (hs 0 _ rfl) b4 a25
  have a27 := hd_ba (F := F) (F' := F') (k := 27) (hF 27 (by decide))
  have t72 : sy_dv F' (.inr (.inl 72)) = .int ((sy_ai F 27).getD (sy_i F 4).toNatClampNeg 0) := hd_rd (hs 1 _ rfl) b4 a27
  have b69 := hd_b (F := F) (F' := F') (k := 69) (hF 69 (by decide))
  have b8 := hd_b (F := F) (F' := F') (k := 8) (hF 8 (by decide))
  have b9 := hd_b (F := F) (F' := F') (k := 9) (hF 9 (by decide))
  have a26 := hd_ba (F := F) (F' := F') (k := 26) (hF 26 (by decide))
  have t73 : sy_dv F' (.inr (.inl 73)) = .int ((sy_ai F 26).getD (sy_i F 4).toNatClampNeg 0) := hd_rd (hs 2 _ rfl) b4 a26
  have t74 : sy_dv F' (.inr (.inl 74)) = .int ((sy_ai F 26).getD (sy_i F 4).toNatClampNeg 0) := hd_rd (hs 3 _ rfl) b4 a26
  have hB' : iv_in F' iv_B4 := iv_in_eq hB (fun j hj => hF j (Nat.lt_of_lt_of_le hj (by decide +kernel)))
  have hk := k (sy_cm F' (hd_ov (iv_id 0 iv_B4) [(6, .inl (.inl (.int 2))), (7, .inl (.inr (.inl 74)))] ++ [])) (fun j hj hn => (hd_keep hB' (Nat.lt_of_lt_of_le hj (by decide +kernel)) (by simp; omega)).trans (hF j (by omega))) (hd_gi (x := .inl (.int 2)) (by decide +kernel) rfl) (hd_gi (x := .inr (.inl 74)) (by decide +kernel) t74)
  refine ⟨List.forall_mem_cons.mpr ⟨hd_p3 rfl b6 (by have hc : ((0) : Int32).toInt = 0 := (by decide); omega), List.forall_mem_cons.mpr ⟨hd_p0 b6 rfl (by have hc : ((0) : Int32).toInt = 0 := (by decide); omega), List.forall_mem_cons.mpr ⟨hd_pb b4 (by first | exact h2 | exact h2), List.forall_mem_cons.mpr ⟨hd_p0 t71 rfl (by have hc : ((2) : Int32).toInt = 2 := (by decide); omega), List.forall_mem_cons.mpr ⟨hd_pb b4 (by first | exact h4 | exact h4), List.forall_mem_cons.mpr ⟨hd_p2 t72 b69 h5, List.forall_mem_cons.mpr ⟨hd_pb b4 (by first | exact h6 | exact h6), List.forall_mem_cons.mpr ⟨hd_p3 rfl b6 (by have hc : ((0) : Int32).toInt = 0 := (by decide); omega), List.forall_mem_cons.mpr ⟨hd_p1 b8 rfl (by have hc : ((0) : Int32).toInt = 0 := (by decide); omega), List.forall_mem_cons.mpr ⟨hd_p3 b9 t73 h9, List.forall_mem_cons.mpr ⟨hd_p0 t73 b9 h10, List.forall_mem_cons.mpr ⟨hd_p3 rfl b8 (by have hc : ((5) : Int32).toInt = 5 := (by decide); omega), List.forall_mem_cons.mpr ⟨hd_p0 b4 rfl (by have hc : ((400) : Int32).toInt = 400 := (by decide); omega), List.forall_mem_cons.mpr ⟨hd_p4 b6 rfl (by have hc : ((0) : Int32).toInt = 0 := (by decide); omega), List.forall_mem_cons.mpr ⟨hd_pb b4 (by first | exact h14 | exact h14), fun _ h => absurd h List.not_mem_nil⟩⟩⟩⟩⟩⟩⟩⟩⟩⟩⟩⟩⟩⟩⟩, ?_⟩
  show Q (some (sy_dv F' (.inr (.inl 72)))) _
  rw [t72]
  exact hk
theorem bo_0_p12 {Ls : Nat} {xs : Nat → Int32} {d : Nat} {Q : Option Value → jm_h → Prop} (hd : 3 ≤ d) (F : Nat → sy_d) (X1 X2 : List jm_c) (hB : iv_in F iv_B4)
    (h0 : (sy_i F 6).toInt ≤ 0)
    (h1 : (sy_i F 6).toInt = 0)
    (h2 : 0 ≤ (sy_i F 4).toInt ∧ (sy_i F 4).toInt < 403)
    (h3 : ((sy_ai F 25).getD (sy_i F 4).toNatClampNeg 0).toInt = 2)
    (h4 : 0 ≤ (sy_i F 4).toInt ∧ (sy_i F 4).toInt < 403)
    (h5 : (sy_i F 69).toInt ≤ ((sy_ai F 27).getD (sy_i F 4).toNatClampNeg 0).toInt)
    (h6 : ((sy_ai F 27).getD (sy_i F 4).toNatClampNeg 0).toInt ≤ (sy_i F 70).toInt)
    (h7 : (sy_i F 4).toInt ≠ 400)
    (k : ∀ F1 : Nat → sy_d, (∀ j, j < 69 → j ≠ 4 → F1 j = F j) → F1 4 = .inl (.int ((sy_i F 4) + ((1 : Int32)))) → Q (some (.int ((sy_ai F 27).getD (sy_i F 4).toNatClampNeg 0))) (sy_dh F1 X1 X2 (iv_H 4))) :
    hd_W Ls xs d jm_M157 Q (0, sy_dL F [some (.inl (.ref 1000)), some (.inr (.inl 69)), some (.inr (.inl 70)), none], sy_dS F [], sy_dh F X1 X2 (iv_H 4), 0, 0) := by
  refine hd_ret (s := 4) (nv := 71) (v := some (.inr (.inl 72))) (uh := hd_ov (iv_id 0 iv_B4) [(4, .inl (.inr (.inl 73)))]) (f := true) (sp := []) (d0 := 2) (O := [false, false, false, false, true, true]) (T := [(30, [.inr (.inl 4)], [.inr (.inl 25)]), (30, [.inr (.inl 4)], [.inr (.inl 27)]), (0, [.inr (.inl 4), .inl (.int 1)], [])]) (P := [(3, .inl (.int 0), .inr (.inl 6)), (0, .inr (.inl 6), .inl (.int 0)), (6, .inr (.inl 4), .inl (.ref 403)), (0, .inr (.inl 71), .inl (.int 2)), (6, .inr (.inl 4), .inl (.ref 403)), (3, .inr (.inl 72), .inr (.inl 69)), (4, .inr (.inl 72), .inr (.inl 70)), (1, .inr (.inl 4), .inl (.int 400))]) jm_ok157 (by decide +kernel) (by decide +kernel) hd F X1 X2 (fun F' hF hs => ?_)
  have b6 := hd_b (F := F) (F' := F') (k := 6) (hF 6 (by decide))
  have b4 := hd_b (F := F) (F' := F') (k := 4) (hF 4 (by decide))
  have a25 := hd_ba (F := F) (F' := F') (k := 25) (hF 25 (by decide))
  have t71 : sy_dv F' (.inr (.inl 71)) = .int ((sy_ai F 25).getD (sy_i F 4).toNatClampNeg 0) := hd_rd (hs 0 _ rfl) b4 a25
  have a27 := hd_ba (F := F) (F' := F') (k := 27) (hF 27 (by decide))
  have t72 : sy_dv F' (.inr (.inl 72)) = .int ((sy_ai F 27).getD (sy_i F 4).toNatClampNeg 0) := hd_rd (hs 1 _ rfl) b4 a27
  have b69 := hd_b (F := F) (F' := F') (k := 69) (hF 69 (by decide))
  have b70 := hd_b (F := F) (F' := F') (k := 70) (hF 70 (by decide))
  have t73 : sy_dv F' (.inr (.inl 73)) = .int ((sy_i F 4) + ((1 : Int32))) := hd_o (hs 2 _ rfl) b4 rfl rfl
  have hB' : iv_in F' iv_B4 := iv_in_eq hB (fun j hj => hF j (Nat.lt_of_lt_of_le hj (by decide +kernel)))
  have hk := k (sy_cm F' (hd_ov (iv_id 0 iv_B4) [(4, .inl (.inr (.inl 73)))] ++ [])) (fun j hj hn => (hd_keep hB' (Nat.lt_of_lt_of_le hj (by decide +kernel)) (by simp; omega)).trans (hF j (by omega))) (hd_gi (x := .inr (.inl 73)) (by decide +kernel) t73)
  refine ⟨List.forall_mem_cons.mpr ⟨hd_p3 rfl b6 (by have hc : ((0) : Int32).toInt = 0 := (by decide); omega), List.forall_mem_cons.mpr ⟨hd_p0 b6 rfl (by have hc : ((0) : Int32).toInt = 0 := (by decide); omega), List.forall_mem_cons.mpr ⟨hd_pb b4 (by first | exact h2 | exact h2), List.forall_mem_cons.mpr ⟨hd_p0 t71 rfl (by have hc : ((2) : Int32).toInt = 2 := (by decide); omega), List.forall_mem_cons.mpr ⟨hd_pb b4 (by first | exact h4 | exact h4), List.forall_mem_cons.mpr ⟨hd_p3 t72 b69 h5, List.forall_mem_cons.mpr ⟨hd_p4 t72 b70 h6, List.forall_mem_cons.mpr ⟨hd_p1 b4 rfl (by have hc : ((400) : Int32).toInt = 400 := (by decide); omega), fun _ h => absurd h List.not_mem_nil⟩⟩⟩⟩⟩⟩⟩⟩, ?_⟩
  show Q (some (sy_dv F' (.inr (.inl 72)))) _
  rw [t72]
  exact hk
theorem bo_0_p13 {Ls : Nat} {xs : Nat → Int32} {d : Nat} {Q : Option Value → jm_h → Prop} (hd : 3 ≤ d) (F : Nat → sy_d) (X1 X2 : List jm_c) (hB : iv_in F iv_B4)
    (h0 : (sy_i F 6).toInt ≤ 0)
    (h1 : (sy_i F 6).toInt = 0)
    (h2 : 0 ≤ (sy_i F 4).toInt ∧ (sy_i F 4).toInt < 403)
    (h3 : ((sy_ai F 25).getD (sy_i F 4).toNatClampNeg 0).toInt = 2)
    (h4 : 0 ≤ (sy_i F 4).toInt ∧ (sy_i F 4).toInt < 403)
    (h5 : (sy_i F 69).toInt ≤ ((sy_ai F 27).getD (sy_i F 4).toNatClampNeg 0).toInt)
    (h6 : ((sy_ai F 27).getD (sy_i F 4).toNatClampNeg 0).toInt ≤ (sy_i F 70).toInt)
    (h7 : (sy_i F 4).toInt = 400)
    (h8 : (sy_i F 6).toInt ≤ 0)
    (h9 : 0 ≤ (sy_i F 4).toInt ∧ (sy_i F 4).toInt < 403)
    (k : ∀ F1 : Nat → sy_d, (∀ j, j < 69 → j ≠ 6 ∧ j ≠ 7 → F1 j = F j) → F1 6 = .inl (.int ((2 : Int32))) → F1 7 = .inl (.int ((sy_ai F 26).getD (sy_i F 4).toNatClampNeg 0)) → Q (some (.int ((sy_ai F 27).getD (sy_i F 4).toNatClampNeg 0))) (sy_dh F1 X1 X2 (iv_H 4))) :
    hd_W Ls xs d jm_M157 Q (0, sy_dL F [some (.inl (.ref 1000)), some (.inr (.inl 69)), some (.inr (.inl 70)), none], sy_dS F [], sy_dh F X1 X2 (iv_H 4), 0, 0) := by
  refine hd_ret (s := 4) (nv := 71) (v := some (.inr (.inl 72))) (uh := hd_ov (iv_id 0 iv_B4) [(6, .inl (.inl (.int 2))), (7, .inl (.inr (.inl 73)))]) (f := true) (sp := []) (d0 := 2) (O := [false, false, false, false, true, false, true]) (T := [(30, [.inr (.inl 4)], [.inr (.inl 25)]), (30, [.inr (.inl 4)], [.inr (.inl 27)]), (30, [.inr (.inl 4)], [.inr (.inl 26)])]) (P := [(3, .inl (.int 0), .inr (.inl 6)), (0, .inr (.inl 6), .inl (.int 0)), (6, .inr (.inl 4), .inl (.ref 403)), (0, .inr (.inl 71), .inl (.int 2)), (6, .inr (.inl 4), .inl (.ref 403)), (3, .inr (.inl 72), .inr (.inl 69)), (4, .inr (.inl 72), .inr (.inl 70)), (0, .inr (.inl 4), .inl (.int 400)), (4, .inr (.inl 6), .inl (.int 0)), (6, .inr (.inl 4), .inl (.ref 403))]) jm_ok157 (by decide +kernel) (by decide +kernel) hd F X1 X2 (fun F' hF hs => ?_)
  have b6 := hd_b (F := F) (F' := F') (k := 6) (hF 6 (by decide))
  have b4 := hd_b (F := F) (F' := F') (k := 4) (hF 4 (by decide))
  have a25 := hd_ba (F := F) (F' := F') (k := 25) (hF 25 (by decide))
  have t71 : sy_dv F' (.inr (.inl 71)) = .int ((sy_ai F 25).getD (sy_i F 4).toNatClampNeg 0) := hd_rd (hs 0 _ rfl) b4 a25
  have a27 := hd_ba (F := F) (F' := F') (k := 27) (hF 27 (by decide))
  have t72 : sy_dv F' (.inr (.inl 72)) = .int ((sy_ai F 27).getD (sy_i F 4).toNatClampNeg 0) := hd_rd (hs 1 _ rfl) b4 a27
  have b69 := hd_b (F := F) (F' := F') (k := 69) (hF 69 (by decide))
  have b70 := hd_b (F := F) (F' := F') (k := 70) (hF 70 (by decide))
  have a26 := hd_ba (F := F) (F' := F') (k := 26) (hF 26 (by decide))
  have t73 : sy_dv F' (.inr (.inl 73)) = .int ((sy_ai F 26).getD (sy_i F 4).toNatClampNeg 0) := hd_rd (hs 2 _ rfl) b4 a26
  have hB' : iv_in F' iv_B4 := iv_in_eq hB (fun j hj => hF j (Nat.lt_of_lt_of_le hj (by decide +kernel)))
  have hk := k (sy_cm F' (hd_ov (iv_id 0 iv_B4) [(6, .inl (.inl (.int 2))), (7, .inl (.inr (.inl 73)))] ++ [])) (fun j hj hn => (hd_keep hB' (Nat.lt_of_lt_of_le hj (by decide +kernel)) (by simp; omega)).trans (hF j (by omega))) (hd_gi (x := .inl (.int 2)) (by decide +kernel) rfl) (hd_gi (x := .inr (.inl 73)) (by decide +kernel) t73)
  refine ⟨List.forall_mem_cons.mpr ⟨hd_p3 rfl b6 (by have hc : ((0) : Int32).toInt = 0 := (by decide); omega), List.forall_mem_cons.mpr ⟨hd_p0 b6 rfl (by have hc : ((0) : Int32).toInt = 0 := (by decide); omega), List.forall_mem_cons.mpr ⟨hd_pb b4 (by first | exact h2 | exact h2), List.forall_mem_cons.mpr ⟨hd_p0 t71 rfl (by have hc : ((2) : Int32).toInt = 2 := (by decide); omega), List.forall_mem_cons.mpr ⟨hd_pb b4 (by first | exact h4 | exact h4), List.forall_mem_cons.mpr ⟨hd_p3 t72 b69 h5, List.forall_mem_cons.mpr ⟨hd_p4 t72 b70 h6, List.forall_mem_cons.mpr ⟨hd_p0 b4 rfl (by have hc : ((400) : Int32).toInt = 400 := (by decide); omega), List.forall_mem_cons.mpr ⟨hd_p4 b6 rfl (by have hc : ((0) : Int32).toInt = 0 := (by decide); omega), List.forall_mem_cons.mpr ⟨hd_pb b4 (by first | exact h9 | exact h9), fun _ h => absurd h List.not_mem_nil⟩⟩⟩⟩⟩⟩⟩⟩⟩⟩, ?_⟩
  show Q (some (sy_dv F' (.inr (.inl 72)))) _
  rw [t72]
  exact hk
theorem bo_0_p14 {Ls : Nat} {xs : Nat → Int32} {d : Nat} {Q : Option Value → jm_h → Prop} (hd : 3 ≤ d) (F : Nat → sy_d) (X1 X2 : List jm_c) (hB : iv_in F iv_B4)
    (h0 : (sy_i F 6).toInt ≤ 0)
    (h1 : (sy_i F 6).toInt = 0)
    (h2 : 0 ≤ (sy_i F 4).toInt ∧ (sy_i F 4).toInt < 403)
    (h3 : ((sy_ai F 25).getD (sy_i F 4).toNatClampNeg 0).toInt = 2)
    (h4 : 0 ≤ (sy_i F 4).toInt ∧ (sy_i F 4).toInt < 403)
    (h5 : (sy_i F 69).toInt ≤ ((sy_ai F 27).getD (sy_i F 4).toNatClampNeg 0).toInt)
    (h6 : (sy_i F 70).toInt < ((sy_ai F 27).getD (sy_i F 4).toNatClampNeg 0).toInt)
    (h7 : 0 ≤ (sy_i F 4).toInt ∧ (sy_i F 4).toInt < 403)
    (h8 : (sy_i F 6).toInt ≤ 0)
    (h9 : (sy_i F 8).toInt = 0)
    (h10 : (sy_i F 4).toInt ≠ 400)
    (k : ∀ F1 : Nat → sy_d, (∀ j, j < 69 → j ≠ 4 ∧ j ≠ 8 ∧ j ≠ 9 → F1 j = F j) → F1 4 = .inl (.int ((sy_i F 4) + ((1 : Int32)))) → F1 8 = .inl (.int ((5 : Int32))) → F1 9 = .inl (.int ((sy_ai F 26).getD (sy_i F 4).toNatClampNeg 0)) → Q (some (.int ((sy_ai F 27).getD (sy_i F 4).toNatClampNeg 0))) (sy_dh F1 X1 X2 (iv_H 4))) :
    hd_W Ls xs d jm_M157 Q (0, sy_dL F [some (.inl (.ref 1000)), some (.inr (.inl 69)), some (.inr (.inl 70)), none], sy_dS F [], sy_dh F X1 X2 (iv_H 4), 0, 0) := by
  refine hd_ret (s := 4) (nv := 71) (v := some (.inr (.inl 72))) (uh := hd_ov (iv_id 0 iv_B4) [(4, .inl (.inr (.inl 74))), (8, .inl (.inl (.int 5))), (9, .inl (.inr (.inl 73)))]) (f := true) (sp := []) (d0 := 2) (O := [false, false, false, false, false, false, true, true]) (T := [(30, [.inr (.inl 4)], [.inr (.inl 25)]), (30, [.inr (.inl 4)], [.inr (.inl 27)]), (30, [.inr (.inl 4)], [.inr (.inl 26)]), (0, [.inr (.inl 4), .inl (.int 1)], [])]) (P := [(3, .inl (.int 0), .inr (.inl 6)), (0, .inr (.inl 6), .inl (.int 0)), (6, .inr (.inl 4), .inl (.ref 403)), (0, .inr (.inl 71), .inl (.int 2)), (6, .inr (.inl 4), .inl (.ref 403)), (3, .inr (.inl 72), .inr (.inl 69)), (5, .inr (.inl 72), .inr (.inl 70)), (6, .inr (.inl 4), .inl (.ref 403)), (3, .inl (.int 0), .inr (.inl 6)), (0, .inr (.inl 8), .inl (.int 0)), (1, .inr (.inl 4), .inl (.int 400))]) jm_ok157 (by decide +kernel) (by decide +kernel) hd F X1 X2 (fun F' hF hs => ?_)
  have b6 := hd_b (F := F) (F' := F') (k := 6) (hF 6 (by decide))
  have b4 := hd_b (F := F) (F' := F') (k := 4) (hF 4 (by decide))
  have a25 := hd_ba (F := F) (F' := F') (k := 25) (hF 25 (by decide))
  have t71 : sy_dv F' (.inr (.inl 71)) = .int ((sy_ai F 25).getD (sy_i F 4).toNatClampNeg 0) := hd_rd (hs 0 _ rfl) b4 a25
  have a27 := hd_ba (F := F) (F' := F') (k := 27) (hF 27 (by decide))
  have t72 : sy_dv F' (.inr (.inl 72)) = .int ((sy_ai F 27).getD (sy_i F 4).toNatClampNeg 0) := hd_rd (hs 1 _ rfl) b4 a27
  have b69 := hd_b (F := F) (F' := F') (k := 69) (hF 69 (by decide))
  have b70 := hd_b (F := F) (F' := F') (k := 70) (hF 70 (by decide))
  have b8 := hd_b (F := F) (F' := F') (k := 8) (hF 8 (by decide))
  have t74 : sy_dv F' (.inr (.inl 74)) = .int ((sy_i F 4) + ((1 : Int32))) := hd_o (hs 3 _ rfl) b4 rfl rfl
  have a26 := hd_ba (F := F) (F' := F') (k := 26) (hF 26 (by decide))
  have t73 : sy_dv F' (.inr (.inl 73)) = .int ((sy_ai F 26).getD (sy_i F 4).toNatClampNeg 0) := hd_rd (hs 2 _ rfl) b4 a26
  have hB' : iv_in F' iv_B4 := iv_in_eq hB (fun j hj => hF j (Nat.lt_of_lt_of_le hj (by decide +kernel)))
  have hk := k (sy_cm F' (hd_ov (iv_id 0 iv_B4) [(4, .inl (.inr (.inl 74))), (8, .inl (.inl (.int 5))), (9, .inl (.inr (.inl 73)))] ++ [])) (fun j hj hn => (hd_keep hB' (Nat.lt_of_lt_of_le hj (by decide +kernel)) (by simp; omega)).trans (hF j (by omega))) (hd_gi (x := .inr (.inl 74)) (by decide +kernel) t74) (hd_gi (x := .inl (.int 5)) (by decide +kernel) rfl) (hd_gi (x := .inr (.inl 73)) (by decide +kernel) t73)
  refine ⟨List.forall_mem_cons.mpr ⟨hd_p3 rfl b6 (by have hc : ((0) : Int32).toInt = 0 := (by decide); omega), List.forall_mem_cons.mpr ⟨hd_p0 b6 rfl (by have hc : ((0) : Int32).toInt = 0 := (by decide); omega), List.forall_mem_cons.mpr ⟨hd_pb b4 (by first | exact h2 | exact h2), List.forall_mem_cons.mpr ⟨hd_p0 t71 rfl (by have hc : ((2) : Int32).toInt = 2 := (by decide); omega), List.forall_mem_cons.mpr ⟨hd_pb b4 (by first | exact h4 | exact h4), List.forall_mem_cons.mpr ⟨hd_p3 t72 b69 h5, List.forall_mem_cons.mpr ⟨hd_p5 t72 b70 h6, List.forall_mem_cons.mpr ⟨hd_pb b4 (by first | exact h7 | exact h7), List.forall_mem_cons.mpr ⟨hd_p3 rfl b6 (by have hc : ((0) : Int32).toInt = 0 := (by decide); omega), List.forall_mem_cons.mpr ⟨hd_p0 b8 rfl (by have hc : ((0) : Int32).toInt = 0 := (by decide); omega), List.forall_mem_cons.mpr ⟨hd_p1 b4 rfl (by have hc : ((400) : Int32).toInt = 400 := (by decide); omega), fun _ h => absurd h List.not_mem_nil⟩⟩⟩⟩⟩⟩⟩⟩⟩⟩⟩, ?_⟩
  show Q (some (sy_dv F' (.inr (.inl 72)))) _
  rw [t72]
  exact hk
theorem bo_0_p15 {Ls : Nat} {xs : Nat → Int32} {d : Nat} {Q : Option Value → jm_h → Prop} (hd : 3 ≤ d) (F : Nat → sy_d) (X1 X2 : List jm_c) (hB : iv_in F iv_B4)
    (h0 : (sy_i F 6).toInt ≤ 0)
    (h1 : (sy_i F 6).toInt = 0)
    (h2 : 0 ≤ (sy_i F 4).toInt ∧ (sy_i F 4).toInt < 403)
    (h3 : ((sy_ai F 25).getD (sy_i F 4).toNatClampNeg 0).toInt = 2)
    (h4 : 0 ≤ (sy_i F 4).toInt ∧ (sy_i F 4).toInt < 403)
    (h5 : (sy_i F 69).toInt ≤ ((sy_ai F 27).getD (sy_i F 4).toNatClampNeg 0).toInt)
    (h6 : (sy_i F 70).toInt < ((sy_ai F 27).getD (sy_i F 4).toNatClampNeg 0).toInt)
    (h7 : 0 ≤ (sy_i F 4).toInt ∧ (sy_i F 4).toInt < 403)
    (h8 : (sy_i F 6).toInt ≤ 0)
    (h9 : (sy_i F 8).toInt = 0)
    (h10 : (sy_i F 4).toInt = 400)
    (h11 : (sy_i F 6).toInt ≤ 0)
    (h12 : 0 ≤ (sy_i F 4).toInt ∧ (sy_i F 4).toInt < 403)
    (k : ∀ F1 : Nat → sy_d, (∀ j, j < 69 → j ≠ 6 ∧ j ≠ 7 ∧ j ≠ 8 ∧ j ≠ 9 → F1 j = F j) → F1 6 = .inl (.int ((2 : Int32))) → F1 7 = .inl (.int ((sy_ai F 26).getD (sy_i F 4).toNatClampNeg 0)) → F1 8 = .inl (.int ((5 : Int32))) → F1 9 = .inl (.int ((sy_ai F 26).getD (sy_i F 4).toNatClampNeg 0)) → Q (some (.int ((sy_ai F 27).getD (sy_i F 4).toNatClampNeg 0))) (sy_dh F1 X1 X2 (iv_H 4))) :
    hd_W Ls xs d jm_M157 Q (0, sy_dL F [some (.inl (.ref 1000)), some (.inr (.inl 69)), some (.inr (.inl 70)), none], sy_dS F [], sy_dh F X1 X2 (iv_H 4), 0, 0) := by
  refine hd_ret (s := 4) (nv := 71) (v := some (.inr (.inl 72))) (uh := hd_ov (iv_id 0 iv_B4) [(6, .inl (.inl (.int 2))), (7, .inl (.inr (.inl 74))), (8, .inl (.inl (.int 5))), (9, .inl (.inr (.inl 73)))]) (f := true) (sp := []) (d0 := 2) (O := [false, false, false, false, false, false, true, false, true]) (T := [(30, [.inr (.inl 4)], [.inr (.inl 25)]), (30, [.inr (.inl 4)], [.inr (.inl 27)]), (30, [.inr (.inl 4)], [.inr (.inl 26)]), (30, [.inr (.inl 4)], [.inr (.inl 26)])]) (P := [(3, .inl (.int 0), .inr (.inl 6)), (0, .inr (.inl 6), .inl (.int 0)), (6, .inr (.inl 4), .inl (.ref 403)), (0, .inr (.inl 71), .inl (.int 2)), (6, .inr (.inl 4), .inl (.ref 403)), (3, .inr (.inl 72), .inr (.inl 69)), (5, .inr (.inl 72), .inr (.inl 70)), (6, .inr (.inl 4), .inl (.ref 403)), (3, .inl (.int 0), .inr (.inl 6)), (0, .inr (.inl 8), .inl (.int 0)), (0, .inr (.inl 4), .inl (.int 400)), (4, .inr (.inl 6), .inl (.int 0)), (6, .inr (.inl 4), .inl (.ref 403))]) jm_ok157 (by decide +kernel) (by decide +kernel) hd F X1 X2 (fun F' hF hs => ?_)
  have b6 := hd_b (F := F) (F' := F') (k := 6) (hF 6 (by decide))
  have b4 := hd_b (F := F) (F' := F') (k := 4) (hF 4 (by decide))
  have a25 := hd_ba (F := F) (F' := F') (k := 25) (hF 25 (by decide))
  have t71 : sy_dv F' (.inr (.inl 71)) = .int ((sy_ai F 25).getD (sy_i F 4).toNatClampNeg 0) := hd_rd (hs 0 _ rfl) b4 a25
  have a27 := hd_ba (F := F) (F' := F') (k := 27) (hF 27 (by decide))
  have t72 : sy_dv F' (.inr (.inl 72)) = .int ((sy_ai F 27).getD (sy_i F 4).toNatClampNeg 0) := hd_rd (hs 1 _ rfl) b4 a27
  have b69 := hd_b (F := F) (F' := F') (k := 69) (hF 69 (by decide))
  have b70 := hd_b (F := F) (F' := F') (k := 70) (hF 70 (by decide))
  have b8 := hd_b (F := F) (F' := F') (k := 8) (hF 8 (by decide))
  have a26 := hd_ba (F := F) (F' := F') (k := 26) (hF 26 (by decide))
  have t74 : sy_dv F' (.inr (.inl 74)) = .int ((sy_ai F 26).getD (sy_i F 4).toNatClampNeg 0) := hd_rd (hs 3 _ rfl) b4 a26
  have t73 : sy_dv F' (.inr (.inl 73)) = .int ((sy_ai F 26).getD (sy_i F 4).toNatClampNeg 0) := hd_rd (hs 2 _ rfl) b4 a26
  have hB' : iv_in F' iv_B4 := iv_in_eq hB (fun j hj => hF j (Nat.lt_of_lt_of_le hj (by decide +kernel)))
  have hk := k (sy_cm F' (hd_ov (iv_id 0 iv_B4) [(6, .inl (.inl (.int 2))), (7, .inl (.inr (.inl 74))), (8, .inl (.inl (.int 5))), (9, .inl (.inr (.inl 73)))] ++ [])) (fun j hj hn => (hd_keep hB' (Nat.lt_of_lt_of_le hj (by decide +kernel)) (by simp; omega)).trans (hF j (by omega))) (hd_gi (x := .inl (.int 2)) (by decide +kernel) rfl) (hd_gi (x := .inr (.inl 74)) (by decide +kernel) t74) (hd_gi (x := .inl (.int 5)) (by decide +kernel) rfl) (hd_gi (x := .inr (.inl 73)) (by decide +kernel) t73)
  refine ⟨List.forall_mem_cons.mpr ⟨hd_p3 rfl b6 (by have hc : ((0) : Int32).toInt = 0 := (by decide); omega), List.forall_mem_cons.mpr ⟨hd_p0 b6 rfl (by have hc : ((0) : Int32).toInt = 0 := (by decide); omega), List.forall_mem_cons.mpr ⟨hd_pb b4 (by first | exact h2 | exact h2), List.forall_mem_cons.mpr ⟨hd_p0 t71 rfl (by have hc : ((2) : Int32).toInt = 2 := (by decide); omega), List.forall_mem_cons.mpr ⟨hd_pb b4 (by first | exact h4 | exact h4), List.forall_mem_cons.mpr ⟨hd_p3 t72 b69 h5, List.forall_mem_cons.mpr ⟨hd_p5 t72 b70 h6, List.forall_mem_cons.mpr ⟨hd_pb b4 (by first | exact h7 | exact h7), List.forall_mem_cons.mpr ⟨hd_p3 rfl b6 (by have hc : ((0) : Int32).toInt = 0 := (by decide); omega), List.forall_mem_cons.mpr ⟨hd_p0 b8 rfl (by have hc : ((0) : Int32).toInt = 0 := (by decide); omega), List.forall_mem_cons.mpr ⟨hd_p0 b4 rfl (by have hc : ((400) : Int32).toInt = 400 := (by decide); omega), List.forall_mem_cons.mpr ⟨hd_p4 b6 rfl (by have hc : ((0) : Int32).toInt = 0 := (by decide); omega), List.forall_mem_cons.mpr ⟨hd_pb b4 (by first | exact h12 | exact h12), fun _ h => absurd h List.not_mem_nil⟩⟩⟩⟩⟩⟩⟩⟩⟩⟩⟩⟩⟩, ?_⟩
  show Q (some (sy_dv F' (.inr (.inl 72)))) _
  rw [t72]
  exact hk
theorem bo_0_p16 {Ls : Nat} {xs : Nat → Int32} {d : Nat} {Q : Option Value → jm_h → Prop} (hd : 3 ≤ d) (F : Nat → sy_d) (X1 X2 : List jm_c) (hB : iv_in F iv_B4)
    (h0 : (sy_i F 6).toInt ≤ 0)
    (h1 : (sy_i F 6).toInt = 0)
    (h2 : 0 ≤ (sy_i F 4).toInt ∧ (sy_i F 4).toInt < 403)
    (h3 : ((sy_ai F 25).getD (sy_i F 4).toNatClampNeg 0).toInt = 2)
    (h4 : 0 ≤ (sy_i F 4).toInt ∧ (sy_i F 4).toInt < 403)
    (h5 : (sy_i F 69).toInt ≤ ((sy_ai F 27).getD (sy_i F 4).toNatClampNeg 0).toInt)
    (h6 : (sy_i F 70).toInt < ((sy_ai F 27).getD (sy_i F 4).toNatClampNeg 0).toInt)
    (h7 : 0 ≤ (sy_i F 4).toInt ∧ (sy_i F 4).toInt < 403)
    (h8 : (sy_i F 6).toInt ≤ 0)
    (h9 : (sy_i F 8).toInt ≠ 0)
    (h10 : (sy_i F 9).toInt < ((sy_ai F 26).getD (sy_i F 4).toNatClampNeg 0).toInt)
    (h11 : (sy_i F 4).toInt ≠ 400)
    (k : ∀ F1 : Nat → sy_d, (∀ j, j < 69 → j ≠ 4 → F1 j = F j) → F1 4 = .inl (.int ((sy_i F 4) + ((1 : Int32)))) → Q (some (.int ((sy_ai F 27).getD (sy_i F 4).toNatClampNeg 0))) (sy_dh F1 X1 X2 (iv_H 4))) :
    hd_W Ls xs d jm_M157 Q (0, sy_dL F [some (.inl (.ref 1000)), some (.inr (.inl 69)), some (.inr (.inl 70)), none], sy_dS F [], sy_dh F X1 X2 (iv_H 4), 0, 0) := by
  refine hd_ret (s := 4) (nv := 71) (v := some (.inr (.inl 72))) (uh := hd_ov (iv_id 0 iv_B4) [(4, .inl (.inr (.inl 74)))]) (f := true) (sp := []) (d0 := 2) (O := [false, false, false, false, false, false, false, true, true]) (T := [(30, [.inr (.inl 4)], [.inr (.inl 25)]), (30, [.inr (.inl 4)], [.inr (.inl 27)]), (30, [.inr (.inl 4)], [.inr (.inl 26)]), (0, [.inr (.inl 4), .inl (.int 1)], [])]) (P := [(3, .inl (.int 0), .inr (.inl 6)), (0, .inr (.inl 6), .inl (.int 0)), (6, .inr (.inl 4), .inl (.ref 403)), (0, .inr (.inl 71), .inl (.int 2)), (6, .inr (.inl 4), .inl (.ref 403)), (3, .inr (.inl 72), .inr (.inl 69)), (5, .inr (.inl 72), .inr (.inl 70)), (6, .inr (.inl 4), .inl (.ref 403)), (3, .inl (.int 0), .inr (.inl 6)), (1, .inr (.inl 8), .inl (.int 0)), (2, .inr (.inl 9), .inr (.inl 73)), (1, .inr (.inl 4), .inl (.int 400))]) jm_ok157 (by decide +kernel) (by decide +kernel) hd F X1 X2 (fun F' hF hs => ?_)
  have b6 := hd_b (F := F) (F' := F') (k := 6) (hF 6 (by decide))
  have b4 := hd_b (F := F) (F' := F') (k := 4) (hF 4 (by decide))
  have a25 := hd_ba (F := F) (F' := F') (k := 25) (hF 25 (by decide))
  have t71 : sy_dv F' (.inr (.inl 71)) = .int ((sy_ai F 25).getD (sy_i F 4).toNatClampNeg 0) := hd_rd (hs 0 _ rfl) b4 a25
  have a27 := hd_ba (F := F) (F' := F') (k := 27) (hF 27 (by decide))
  have t72 : sy_dv F' (.inr (.inl 72)) = .int ((sy_ai F 27).getD (sy_i F 4).toNatClampNeg 0) := hd_rd (hs 1 _ rfl) b4 a27
  have b69 := hd_b (F := F) (F' := F') (k := 69) (hF 69 (by decide))
  have b70 := hd_b (F := F) (F' := F') (k := 70) (hF 70 (by decide))
  have b8 := hd_b (F := F) (F' := F') (k := 8) (hF 8 (by decide))
  have b9 := hd_b (F := F) (F' := F') (k := 9) (hF 9 (by decide))
  have a26 := hd_ba (F := F) (F' := F') (k := 26) (hF 26 (by decide))
  have t73 : sy_dv F' (.inr (.inl 73)) = .int ((sy_ai F 26).getD (sy_i F 4).toNatClampNeg 0) := hd_rd (hs 2 _ rfl) b4 a26
  have t74 : sy_dv F' (.inr (.inl 74)) = .int ((sy_i F 4) + ((1 : Int32))) := hd_o (hs 3 _ rfl) b4 rfl rfl
  have hB' : iv_in F' iv_B4 := iv_in_eq hB (fun j hj => hF j (Nat.lt_of_lt_of_le hj (by decide +kernel)))
  have hk := k (sy_cm F' (hd_ov (iv_id 0 iv_B4) [(4, .inl (.inr (.inl 74)))] ++ [])) (fun j hj hn => (hd_keep hB' (Nat.lt_of_lt_of_le hj (by decide +kernel)) (by simp; omega)).trans (hF j (by omega))) (hd_gi (x := .inr (.inl 74)) (by decide +kernel) t74)
  refine ⟨List.forall_mem_cons.mpr ⟨hd_p3 rfl b6 (by have hc : ((0) : Int32).toInt = 0 := (by decide); omega), List.forall_mem_cons.mpr ⟨hd_p0 b6 rfl (by have hc : ((0) : Int32).toInt = 0 := (by decide); omega), List.forall_mem_cons.mpr ⟨hd_pb b4 (by first | exact h2 | exact h2), List.forall_mem_cons.mpr ⟨hd_p0 t71 rfl (by have hc : ((2) : Int32).toInt = 2 := (by decide); omega), List.forall_mem_cons.mpr ⟨hd_pb b4 (by first | exact h4 | exact h4), List.forall_mem_cons.mpr ⟨hd_p3 t72 b69 h5, List.forall_mem_cons.mpr ⟨hd_p5 t72 b70 h6, List.forall_mem_cons.mpr ⟨hd_pb b4 (by first | exact h7 | exact h7), List.forall_mem_cons.mpr ⟨hd_p3 rfl b6 (by have hc : ((0) : Int32).toInt = 0 := (by decide); omega), List.forall_mem_cons.mpr ⟨hd_p1 b8 rfl (by have hc : ((0) : Int32).toInt = 0 := (by decide); omega), List.forall_mem_cons.mpr ⟨hd_p2 b9 t73 h10, List.forall_mem_cons.mpr ⟨hd_p1 b4 rfl (by have hc : ((400) : Int32).toInt = 400 := (by decide); omega), fun _ h => absurd h List.not_mem_nil⟩⟩⟩⟩⟩⟩⟩⟩⟩⟩⟩⟩, ?_⟩
  show Q (some (sy_dv F' (.inr (.inl 72)))) _
  rw [t72]
  exact hk
theorem bo_0_p17 {Ls : Nat} {xs : Nat → Int32} {d : Nat} {Q : Option Value → jm_h → Prop} (hd : 3 ≤ d) (F : Nat → sy_d) (X1 X2 : List jm_c) (hB : iv_in F iv_B4)
    (h0 : (sy_i F 6).toInt ≤ 0)
    (h1 : (sy_i F 6).toInt = 0)
    (h2 : 0 ≤ (sy_i F 4).toInt ∧ (sy_i F 4).toInt < 403)
    (h3 : ((sy_ai F 25).getD (sy_i F 4).toNatClampNeg 0).toInt = 2)
    (h4 : 0 ≤ (sy_i F 4).toInt ∧ (sy_i F 4).toInt < 403)
    (h5 : (sy_i F 69).toInt ≤ ((sy_ai F 27).getD (sy_i F 4).toNatClampNeg 0).toInt)
    (h6 : (sy_i F 70).toInt < ((sy_ai F 27).getD (sy_i F 4).toNatClampNeg 0).toInt)
    (h7 : 0 ≤ (sy_i F 4).toInt ∧ (sy_i F 4).toInt < 403)
    (h8 : (sy_i F 6).toInt ≤ 0)
    (h9 : (sy_i F 8).toInt ≠ 0)
    (h10 : (sy_i F 9).toInt < ((sy_ai F 26).getD (sy_i F 4).toNatClampNeg 0).toInt)
    (h11 : (sy_i F 4).toInt = 400)
    (h12 : (sy_i F 6).toInt ≤ 0)
    (h13 : 0 ≤ (sy_i F 4).toInt ∧ (sy_i F 4).toInt < 403)
    (k : ∀ F1 : Nat → sy_d, (∀ j, j < 69 → j ≠ 6 ∧ j ≠ 7 → F1 j = F j) → F1 6 = .inl (.int ((2 : Int32))) → F1 7 = .inl (.int ((sy_ai F 26).getD (sy_i F 4).toNatClampNeg 0)) → Q (some (.int ((sy_ai F 27).getD (sy_i F 4).toNatClampNeg 0))) (sy_dh F1 X1 X2 (iv_H 4))) :
    hd_W Ls xs d jm_M157 Q (0, sy_dL F [some (.inl (.ref 1000)), some (.inr (.inl 69)), some (.inr (.inl 70)), none], sy_dS F [], sy_dh F X1 X2 (iv_H 4), 0, 0) := by
  refine hd_ret (s := 4) (nv := 71) (v := some (.inr (.inl 72))) (uh := hd_ov (iv_id 0 iv_B4) [(6, .inl (.inl (.int 2))), (7, .inl (.inr (.inl 74)))]) (f := true) (sp := []) (d0 := 2) (O := [false, false, false, false, false, false, false, true, false, true]) (T := [(30, [.inr (.inl 4)], [.inr (.inl 25)]), (30, [.inr (.inl 4)], [.inr (.inl 27)]), (30, [.inr (.inl 4)], [.inr (.inl 26)]), (30, [.inr (.inl 4)], [.inr (.inl 26)])]) (P := [(3, .inl (.int 0), .inr (.inl 6)), (0, .inr (.inl 6), .inl (.int 0)), (6, .inr (.inl 4), .inl (.ref 403)), (0, .inr (.inl 71), .inl (.int 2)), (6, .inr (.inl 4), .inl (.ref 403)), (3, .inr (.inl 72), .inr (.inl 69)), (5, .inr (.inl 72), .inr (.inl 70)), (6, .inr (.inl 4), .inl (.ref 403)), (3, .inl (.int 0), .inr (.inl 6)), (1, .inr (.inl 8), .inl (.int 0)), (2, .inr (.inl 9), .inr (.inl 73)), (0, .inr (.inl 4), .inl (.int 400)), (4, .inr (.inl 6), .inl (.int 0)), (6, .inr (.inl 4), .inl (.ref 403))]) jm_ok157 (by decide +kernel) (by decide +kernel) hd F X1 X2 (fun F' hF hs => ?_)
  have b6 := hd_b (F := F) (F' := F') (k := 6) (hF 6 (by decide))
  have b4 := hd_b (F := F) (F' := F') (k := 4) (hF 4 (by decide))
  have a25 := hd_ba (F := F) (F' := F') (k := 25) (hF 25 (by decide))
  have t71 : sy_dv F' (.inr (.inl 71)) = .int ((sy_ai F 25).getD (sy_i F 4).toNatClampNeg 0) := hd_rd (hs 0 _ rfl) b4 a25
  have a27 := hd_ba (F := F) (F' := F') (k := 27) (hF 27 (by decide))
  have t72 : sy_dv F' (.inr (.inl 72)) = .int ((sy_ai F 27).getD (sy_i F 4).toNatClampNeg 0) := hd_rd (hs 1 _ rfl) b4 a27
  have b69 := hd_b (F := F) (F' := F') (k := 69) (hF 69 (by decide))
  have b70 := hd_b (F := F) (F' := F') (k := 70) (hF 70 (by decide))
  have b8 := hd_b (F := F) (F' := F') (k := 8) (hF 8 (by decide))
  have b9 := hd_b (F := F) (F' := F') (k := 9) (hF 9 (by decide))
  have a26 := hd_ba (F := F) (F' := F') (k := 26) (hF 26 (by decide))
  have t73 : sy_dv F' (.inr (.inl 73)) = .int ((sy_ai F 26).getD (sy_i F 4).toNatClampNeg 0) := hd_rd (hs 2 _ rfl) b4 a26
  have t74 : sy_dv F' (.inr (.inl 74)) = .int ((sy_ai F 26).getD (sy_i F 4).toNatClampNeg 0) := hd_rd (hs 3 _ rfl) b4 a26
  have hB' : iv_in F' iv_B4 := iv_in_eq hB (fun j hj => hF j (Nat.lt_of_lt_of_le hj (by decide +kernel)))
  have hk := k (sy_cm F' (hd_ov (iv_id 0 iv_B4) [(6, .inl (.inl (.int 2))), (7, .inl (.inr (.inl 74)))] ++ [])) (fun j hj hn => (hd_keep hB' (Nat.lt_of_lt_of_le hj (by decide +kernel)) (by simp; omega)).trans (hF j (by omega))) (hd_gi (x := .inl (.int 2)) (by decide +kernel) rfl) (hd_gi (x := .inr (.inl 74)) (by decide +kernel) t74)
  refine ⟨List.forall_mem_cons.mpr ⟨hd_p3 rfl b6 (by have hc : ((0) : Int32).toInt = 0 := (by decide); omega), List.forall_mem_cons.mpr ⟨hd_p0 b6 rfl (by have hc : ((0) : Int32).toInt = 0 := (by decide); omega), List.forall_mem_cons.mpr ⟨hd_pb b4 (by first | exact h2 | exact h2), List.forall_mem_cons.mpr ⟨hd_p0 t71 rfl (by have hc : ((2) : Int32).toInt = 2 := (by decide); omega), List.forall_mem_cons.mpr ⟨hd_pb b4 (by first | exact h4 | exact h4), List.forall_mem_cons.mpr ⟨hd_p3 t72 b69 h5, List.forall_mem_cons.mpr ⟨hd_p5 t72 b70 h6, List.forall_mem_cons.mpr ⟨hd_pb b4 (by first | exact h7 | exact h7), List.forall_mem_cons.mpr ⟨hd_p3 rfl b6 (by have hc : ((0) : Int32).toInt = 0 := (by decide); omega), List.forall_mem_cons.mpr ⟨hd_p1 b8 rfl (by have hc : ((0) : Int32).toInt = 0 := (by decide); omega), List.forall_mem_cons.mpr ⟨hd_p2 b9 t73 h10, List.forall_mem_cons.mpr ⟨hd_p0 b4 rfl (by have hc : ((400) : Int32).toInt = 400 := (by decide); omega), List.forall_mem_cons.mpr ⟨hd_p4 b6 rfl (by have hc : ((0) : Int32).toInt = 0 := (by decide); omega), List.forall_mem_cons.mpr ⟨hd_pb b4 (by first | exact h13 | exact h13), fun _ h => absurd h List.not_mem_nil⟩⟩⟩⟩⟩⟩⟩⟩⟩⟩⟩⟩⟩⟩, ?_⟩
  show Q (some (sy_dv F' (.inr (.inl 72)))) _
  rw [t72]
  exact hk
theorem bo_0_p18 {Ls : Nat} {xs : Nat → Int32} {d : Nat} {Q : Option Value → jm_h → Prop} (hd : 3 ≤ d) (F : Nat → sy_d) (X1 X2 : List jm_c) (hB : iv_in F iv_B4)
    (h0 : (sy_i F 6).toInt ≤ 0)
    (h1 : (sy_i F 6).toInt = 0)
    (h2 : 0 ≤ (sy_i F 4).toInt ∧ (sy_i F 4).toInt < 403)
    (h3 : ((sy_ai F 25).getD (sy_i F 4).toNatClampNeg 0).toInt = 2)
    (h4 : 0 ≤ (sy_i F 4).toInt ∧ (sy_i F 4).toInt < 403)
    (h5 : (sy_i F 69).toInt ≤ ((sy_ai F 27).getD (sy_i F 4).toNatClampNeg 0).toInt)
    (h6 : (sy_i F 70).toInt < ((sy_ai F 27).getD (sy_i F 4).toNatClampNeg 0).toInt)
    (h7 : 0 ≤ (sy_i F 4).toInt ∧ (sy_i F 4).toInt < 403)
    (h8 : (sy_i F 6).toInt ≤ 0)
    (h9 : (sy_i F 8).toInt ≠ 0)
    (h10 : ((sy_ai F 26).getD (sy_i F 4).toNatClampNeg 0).toInt ≤ (sy_i F 9).toInt)
    (h11 : ((sy_ai F 26).getD (sy_i F 4).toNatClampNeg 0).toInt ≠ (sy_i F 9).toInt)
    (h12 : (sy_i F 4).toInt ≠ 400)
    (k : ∀ F1 : Nat → sy_d, (∀ j, j < 69 → j ≠ 4 ∧ j ≠ 8 ∧ j ≠ 9 → F1 j = F j) → F1 4 = .inl (.int ((sy_i F 4) + ((1 : Int32)))) → F1 8 = .inl (.int ((5 : Int32))) → F1 9 = .inl (.int ((sy_ai F 26).getD (sy_i F 4).toNatClampNeg 0)) → Q (some (.int ((sy_ai F 27).getD (sy_i F 4).toNatClampNeg 0))) (sy_dh F1 X1 X2 (iv_H 4))) :
    hd_W Ls xs d jm_M157 Q (0, sy_dL F [some (.inl (.ref 1000)), some (.inr (.inl 69)), some (.inr (.inl 70)), none], sy_dS F [], sy_dh F X1 X2 (iv_H 4), 0, 0) := by
  refine hd_ret (s := 4) (nv := 71) (v := some (.inr (.inl 72))) (uh := hd_ov (iv_id 0 iv_B4) [(4, .inl (.inr (.inl 74))), (8, .inl (.inl (.int 5))), (9, .inl (.inr (.inl 73)))]) (f := true) (sp := []) (d0 := 2) (O := [false, false, false, false, false, false, false, false, true, true]) (T := [(30, [.inr (.inl 4)], [.inr (.inl 25)]), (30, [.inr (.inl 4)], [.inr (.inl 27)]), (30, [.inr (.inl 4)], [.inr (.inl 26)]), (0, [.inr (.inl 4), .inl (.int 1)], [])]) (P := [(3, .inl (.int 0), .inr (.inl 6)), (0, .inr (.inl 6), .inl (.int 0)), (6, .inr (.inl 4), .inl (.ref 403)), (0, .inr (.inl 71), .inl (.int 2)), (6, .inr (.inl 4), .inl (.ref 403)), (3, .inr (.inl 72), .inr (.inl 69)), (5, .inr (.inl 72), .inr (.inl 70)), (6, .inr (.inl 4), .inl (.ref 403)), (3, .inl (.int 0), .inr (.inl 6)), (1, .inr (.inl 8), .inl (.int 0)), (3, .inr (.inl 9), .inr (.inl 73)), (1, .inr (.inl 73), .inr (.inl 9)), (1, .inr (.inl 4), .inl (.int 400))]) jm_ok157 (by decide +kernel) (by decide +kernel) hd F X1 X2 (fun F' hF hs => ?_)
  have b6 := hd_b (F := F) (F' := F') (k := 6) (hF 6 (by decide))
  have b4 := hd_b (F := F) (F' := F') (k := 4) (hF 4 (by decide))
  have a25 := hd_ba (F := F) (F' := F') (k := 25) (hF 25 (by decide))
  have t71 : sy_dv F' (.inr (.inl 71)) = .int ((sy_ai F 25).getD (sy_i F 4).toNatClampNeg 0) := hd_rd (hs 0 _ rfl) b4 a25
  have a27 := hd_ba (F := F) (F' := F') (k := 27) (hF 27 (by decide))
  have t72 : sy_dv F' (.inr (.inl 72)) = .int ((sy_ai F 27).getD (sy_i F 4).toNatClampNeg 0) := hd_rd (hs 1 _ rfl) b4 a27
  have b69 := hd_b (F := F) (F' := F') (k := 69) (hF 69 (by decide))
  have b70 := hd_b (F := F) (F' := F') (k := 70) (hF 70 (by decide))
  have b8 := hd_b (F := F) (F' := F') (k := 8) (hF 8 (by decide))
  have b9 := hd_b (F := F) (F' := F') (k := 9) (hF 9 (by decide))
  have a26 := hd_ba (F := F) (F' := F') (k := 26) (hF 26 (by decide))
  have t73 : sy_dv F' (.inr (.inl 73)) = .int ((sy_ai F 26).getD (sy_i F 4).toNatClampNeg 0) := hd_rd (hs 2 _ rfl) b4 a26
  have t74 : sy_dv F' (.inr (.inl 74)) = .int ((sy_i F 4) + ((1 : Int32))) := hd_o (hs 3 _ rfl) b4 rfl rfl
  have hB' : iv_in F' iv_B4 := iv_in_eq hB (fun j hj => hF j (Nat.lt_of_lt_of_le hj (by decide +kernel)))
  have hk := k (sy_cm F' (hd_ov (iv_id 0 iv_B4) [(4, .inl (.inr (.inl 74))), (8, .inl (.inl (.int 5))), (9, .inl (.inr (.inl 73)))] ++ [])) (fun j hj hn => (hd_keep hB' (Nat.lt_of_lt_of_le hj (by decide +kernel)) (by simp; omega)).trans (hF j (by omega))) (hd_gi (x := .inr (.inl 74)) (by decide +kernel) t74) (hd_gi (x := .inl (.int 5)) (by decide +kernel) rfl) (hd_gi (x := .inr (.inl 73)) (by decide +kernel) t73)
  refine ⟨List.forall_mem_cons.mpr ⟨hd_p3 rfl b6 (by have hc : ((0) : Int32).toInt = 0 := (by decide); omega), List.forall_mem_cons.mpr ⟨hd_p0 b6 rfl (by have hc : ((0) : Int32).toInt = 0 := (by decide); omega), List.forall_mem_cons.mpr ⟨hd_pb b4 (by first | exact h2 | exact h2), List.forall_mem_cons.mpr ⟨hd_p0 t71 rfl (by have hc : ((2) : Int32).toInt = 2 := (by decide); omega), List.forall_mem_cons.mpr ⟨hd_pb b4 (by first | exact h4 | exact h4), List.forall_mem_cons.mpr ⟨hd_p3 t72 b69 h5, List.forall_mem_cons.mpr ⟨hd_p5 t72 b70 h6, List.forall_mem_cons.mpr ⟨hd_pb b4 (by first | exact h7 | exact h7), List.forall_mem_cons.mpr ⟨hd_p3 rfl b6 (by have hc : ((0) : Int32).toInt = 0 := (by decide); omega), List.forall_mem_cons.mpr ⟨hd_p1 b8 rfl (by have hc : ((0) : Int32).toInt = 0 := (by decide); omega), List.forall_mem_cons.mpr ⟨hd_p3 b9 t73 h10, List.forall_mem_cons.mpr ⟨hd_p1 t73 b9 h11, List.forall_mem_cons.mpr ⟨hd_p1 b4 rfl (by have hc : ((400) : Int32).toInt = 400 := (by decide); omega), fun _ h => absurd h List.not_mem_nil⟩⟩⟩⟩⟩⟩⟩⟩⟩⟩⟩⟩⟩, ?_⟩
  show Q (some (sy_dv F' (.inr (.inl 72)))) _
  rw [t72]
  exact hk
theorem bo_0_p19 {Ls : Nat} {xs : Nat → Int32} {d : Nat} {Q : Option Value → jm_h → Prop} (hd : 3 ≤ d) (F : Nat → sy_d) (X1 X2 : List jm_c) (hB : iv_in F iv_B4)
    (h0 : (sy_i F 6).toInt ≤ 0)
    (h1 : (sy_i F 6).toInt = 0)
    (h2 : 0 ≤ (sy_i F 4).toInt ∧ (sy_i F 4).toInt < 403)
    (h3 : ((sy_ai F 25).getD (sy_i F 4).toNatClampNeg 0).toInt = 2)
    (h4 : 0 ≤ (sy_i F 4).toInt ∧ (sy_i F 4).toInt < 403)
    (h5 : (sy_i F 69).toInt ≤ ((sy_ai F 27).getD (sy_i F 4).toNatClampNeg 0).toInt)
    (h6 : (sy_i F 70).toInt < ((sy_ai F 27).getD (sy_i F 4).toNatClampNeg 0).toInt)
    (h7 : 0 ≤ (sy_i F 4).toInt ∧ (sy_i F 4).toInt < 403)
    (h8 : (sy_i F 6).toInt ≤ 0)
    (h9 : (sy_i F 8).toInt ≠ 0)
    (h10 : ((sy_ai F 26).getD (sy_i F 4).toNatClampNeg 0).toInt ≤ (sy_i F 9).toInt)
    (h11 : ((sy_ai F 26).getD (sy_i F 4).toNatClampNeg 0).toInt ≠ (sy_i F 9).toInt)
    (h12 : (sy_i F 4).toInt = 400)
    (h13 : (sy_i F 6).toInt ≤ 0)
    (h14 : 0 ≤ (sy_i F 4).toInt ∧ (sy_i F 4).toInt < 403)
    (k : ∀ F1 : Nat → sy_d, (∀ j, j < 69 → j ≠ 6 ∧ j ≠ 7 ∧ j ≠ 8 ∧ j ≠ 9 → F1 j = F j) → F1 6 = .inl (.int ((2 : Int32))) → F1 7 = .inl (.int ((sy_ai F 26).getD (sy_i F 4).toNatClampNeg 0)) → F1 8 = .inl (.int ((5 : Int32))) → F1 9 = .inl (.int ((sy_ai F 26).getD (sy_i F 4).toNatClampNeg 0)) → Q (some (.int ((sy_ai F 27).getD (sy_i F 4).toNatClampNeg 0))) (sy_dh F1 X1 X2 (iv_H 4))) :
    hd_W Ls xs d jm_M157 Q (0, sy_dL F [some (.inl (.ref 1000)), some (.inr (.inl 69)), some (.inr (.inl 70)), none], sy_dS F [], sy_dh F X1 X2 (iv_H 4), 0, 0) := by
  refine hd_ret (s := 4) (nv := 71) (v := some (.inr (.inl 72))) (uh := hd_ov (iv_id 0 iv_B4) [(6, .inl (.inl (.int 2))), (7, .inl (.inr (.inl 74))), (8, .inl (.inl (.int 5))), (9, .inl (.inr (.inl 73)))]) (f := true) (sp := []) (d0 := 2) (O := [false, false, false, false, false, false, false, false, true, false, true]) (T := [(30, [.inr (.inl 4)], [.inr (.inl 25)]), (30, [.inr (.inl 4)], [.inr (.inl 27)]), (30, [.inr (.inl 4)], [.inr (.inl 26)]), (30, [.inr (.inl 4)], [.inr (.inl 26)])]) (P := [(3, .inl (.int 0), .inr (.inl 6)), (0, .inr (.inl 6), .inl (.int 0)), (6, .inr (.inl 4), .inl (.ref 403)), (0, .inr (.inl 71), .inl (.int 2)), (6, .inr (.inl 4), .inl (.ref 403)), (3, .inr (.inl 72), .inr (.inl 69)), (5, .inr (.inl 72), .inr (.inl 70)), (6, .inr (.inl 4), .inl (.ref 403)), (3, .inl (.int 0), .inr (.inl 6)), (1, .inr (.inl 8), .inl (.int 0)), (3, .inr (.inl 9), .inr (.inl 73)), (1, .inr (.inl 73), .inr (.inl 9)), (0, .inr (.inl 4), .inl (.int 400)), (4, .inr (.inl 6), .inl (.int 0)), (6, .inr (.inl 4), .inl (.ref 403))]) jm_ok157 (by decide +kernel) (by decide +kernel) hd F X1 X2 (fun F' hF hs => ?_)
  have b6 := hd_b (F := F) (F' := F') (k := 6) (hF 6 (by decide))
  have b4 := hd_b (F := F) (F' := F') (k := 4) (hF 4 (by decide))
  have a25 := hd_ba (F := F) (F' := F') (k := 25) (hF 25 (by decide))
  have t71 : sy_dv F' (.inr (.inl 71)) = .int ((sy_ai F 25).getD (sy_i F 4).toNatClampNeg 0) := hd_rd (hs 0 _ rfl) b4 a25
  have a27 := hd_ba (F := F) (F' := F') (k := 27) (hF 27 (by decide))
  have t72 : sy_dv F' (.inr (.inl 72)) = .int ((sy_ai F 27).getD (sy_i F 4).toNatClampNeg 0) := hd_rd (hs 1 _ rfl) b4 a27
  have b69 := hd_b (F := F) (F' := F') (k := 69) (hF 69 (by decide))
  have b70 := hd_b (F := F) (F' := F') (k := 70) (hF 70 (by decide))
  have b8 := hd_b (F := F) (F' := F') (k := 8) (hF 8 (by decide))
  have b9 := hd_b (F := F) (F' := F') (k := 9) (hF 9 (by decide))
  have a26 := hd_ba (F := F) (F' := F') (k := 26) (hF 26 (by decide))
  have t73 : sy_dv F' (.inr (.inl 73)) = .int ((sy_ai F 26).getD (sy_i F 4).toNatClampNeg 0) := hd_rd (hs 2 _ rfl) b4 a26
  have t74 : sy_dv F' (.inr (.inl 74)) = .int ((sy_ai F 26).getD (sy_i F 4).toNatClampNeg 0) := hd_rd (hs 3 _ rfl) b4 a26
  have hB' : iv_in F' iv_B4 := iv_in_eq hB (fun j hj => hF j (Nat.lt_of_lt_of_le hj (by decide +kernel)))
  have hk := k (sy_cm F' (hd_ov (iv_id 0 iv_B4) [(6, .inl (.inl (.int 2))), (7, .inl (.inr (.inl 74))), (8, .inl (.inl (.int 5))), (9, .inl (.inr (.inl 73)))] ++ [])) (fun j hj hn => (hd_keep hB' (Nat.lt_of_lt_of_le hj (by decide +kernel)) (by simp; omega)).trans (hF j (by omega))) (hd_gi (x := .inl (.int 2)) (by decide +kernel) rfl) (hd_gi (x := .inr (.inl 74)) (by decide +kernel) t74) (hd_gi (x := .inl (.int 5)) (by decide +kernel) rfl) (hd_gi (x := .inr (.inl 73)) (by decide +kernel) t73)
  refine ⟨List.forall_mem_cons.mpr ⟨hd_p3 rfl b6 (by have hc : ((0) : Int32).toInt = 0 := (by decide); omega), List.forall_mem_cons.mpr ⟨hd_p0 b6 rfl (by have hc : ((0) : Int32).toInt = 0 := (by decide); omega), List.forall_mem_cons.mpr ⟨hd_pb b4 (by first | exact h2 | exact h2), List.forall_mem_cons.mpr ⟨hd_p0 t71 rfl (by have hc : ((2) : Int32).toInt = 2 := (by decide); omega), List.forall_mem_cons.mpr ⟨hd_pb b4 (by first | exact h4 | exact h4), List.forall_mem_cons.mpr ⟨hd_p3 t72 b69 h5, List.forall_mem_cons.mpr ⟨hd_p5 t72 b70 h6, List.forall_mem_cons.mpr ⟨hd_pb b4 (by first | exact h7 | exact h7), List.forall_mem_cons.mpr ⟨hd_p3 rfl b6 (by have hc : ((0) : Int32).toInt = 0 := (by decide); omega), List.forall_mem_cons.mpr ⟨hd_p1 b8 rfl (by have hc : ((0) : Int32).toInt = 0 := (by decide); omega), List.forall_mem_cons.mpr ⟨hd_p3 b9 t73 h10, List.forall_mem_cons.mpr ⟨hd_p1 t73 b9 h11, List.forall_mem_cons.mpr ⟨hd_p0 b4 rfl (by have hc : ((400) : Int32).toInt = 400 := (by decide); omega), List.forall_mem_cons.mpr ⟨hd_p4 b6 rfl (by have hc : ((0) : Int32).toInt = 0 := (by decide); omega), List.forall_mem_cons.mpr ⟨hd_pb b4 (by first | exact h14 | exact h14), fun _ h => absurd h List.not_mem_nil⟩⟩⟩⟩⟩⟩⟩⟩⟩⟩⟩⟩⟩⟩⟩, ?_⟩
  show Q (some (sy_dv F' (.inr (.inl 72)))) _
  rw [t72]
  exact hk
theorem bo_0_p20 {Ls : Nat} {xs : Nat → Int32} {d : Nat} {Q : Option Value → jm_h → Prop} (hd : 3 ≤ d) (F : Nat → sy_d) (X1 X2 : List jm_c) (hB : iv_in F iv_B4)
    (h0 : (sy_i F 6).toInt ≤ 0)
    (h1 : (sy_i F 6).toInt = 0)
    (h2 : 0 ≤ (sy_i F 4).toInt ∧ (sy_i F 4).toInt < 403)
    (h3 : ((sy_ai F 25).getD (sy_i F 4).toNatClampNeg 0).toInt = 2)
    (h4 : 0 ≤ (sy_i F 4).toInt ∧ (sy_i F 4).toInt < 403)
    (h5 : (sy_i F 69).toInt ≤ ((sy_ai F 27).getD (sy_i F 4).toNatClampNeg 0).toInt)
    (h6 : (sy_i F 70).toInt < ((sy_ai F 27).getD (sy_i F 4).toNatClampNeg 0).toInt)
    (h7 : 0 ≤ (sy_i F 4).toInt ∧ (sy_i F 4).toInt < 403)
    (h8 : (sy_i F 6).toInt ≤ 0)
    (h9 : (sy_i F 8).toInt ≠ 0)
    (h10 : ((sy_ai F 26).getD (sy_i F 4).toNatClampNeg 0).toInt ≤ (sy_i F 9).toInt)
    (h11 : ((sy_ai F 26).getD (sy_i F 4).toNatClampNeg 0).toInt = (sy_i F 9).toInt)
    (h12 : 5 < (sy_i F 8).toInt)
    (h13 : (sy_i F 4).toInt ≠ 400)
    (k : ∀ F1 : Nat → sy_d, (∀ j, j < 69 → j ≠ 4 ∧ j ≠ 8 ∧ j ≠ 9 → F1 j = F j) → F1 4 = .inl (.int ((sy_i F 4) + ((1 : Int32)))) → F1 8 = .inl (.int ((5 : Int32))) → F1 9 = .inl (.int ((sy_ai F 26).getD (sy_i F 4).toNatClampNeg 0)) → Q (some (.int ((sy_ai F 27).getD (sy_i F 4).toNatClampNeg 0))) (sy_dh F1 X1 X2 (iv_H 4))) :
    hd_W Ls xs d jm_M157 Q (0, sy_dL F [some (.inl (.ref 1000)), some (.inr (.inl 69)), some (.inr (.inl 70)), none], sy_dS F [], sy_dh F X1 X2 (iv_H 4), 0, 0) := by
  refine hd_ret (s := 4) (nv := 71) (v := some (.inr (.inl 72))) (uh := hd_ov (iv_id 0 iv_B4) [(4, .inl (.inr (.inl 74))), (8, .inl (.inl (.int 5))), (9, .inl (.inr (.inl 73)))]) (f := true) (sp := []) (d0 := 2) (O := [false, false, false, false, false, false, false, false, false, true, true]) (T := [(30, [.inr (.inl 4)], [.inr (.inl 25)]), (30, [.inr (.inl 4)], [.inr (.inl 27)]), (30, [.inr (.inl 4)], [.inr (.inl 26)]), (0, [.inr (.inl 4), .inl (.int 1)], [])]) (P := [(3, .inl (.int 0), .inr (.inl 6)), (0, .inr (.inl 6), .inl (.int 0)), (6, .inr (.inl 4), .inl (.ref 403)), (0, .inr (.inl 71), .inl (.int 2)), (6, .inr (.inl 4), .inl (.ref 403)), (3, .inr (.inl 72), .inr (.inl 69)), (5, .inr (.inl 72), .inr (.inl 70)), (6, .inr (.inl 4), .inl (.ref 403)), (3, .inl (.int 0), .inr (.inl 6)), (1, .inr (.inl 8), .inl (.int 0)), (3, .inr (.inl 9), .inr (.inl 73)), (0, .inr (.inl 73), .inr (.inl 9)), (2, .inl (.int 5), .inr (.inl 8)), (1, .inr (.inl 4), .inl (.int 400))]) jm_ok157 (by decide +kernel) (by decide +kernel) hd F X1 X2 (fun F' hF hs => ?_)
  have b6 := hd_b (F := F) (F' := F') (k := 6) (hF 6 (by decide))
  have b4 := hd_b (F := F) (F' := F') (k := 4) (hF 4 (by decide))
  have a25 := hd_ba (F := F) (F' := F') (k := 25) (hF 25 (by decide))
  have t71 : sy_dv F' (.inr (.inl 71)) = .int ((sy_ai F 25).getD (sy_i F 4).toNatClampNeg 0) := hd_rd (hs 0 _ rfl) b4 a25
  have a27 := hd_ba (F := F) (F' := F') (k := 27) (hF 27 (by decide))
  have t72 : sy_dv F' (.inr (.inl 72)) = .int ((sy_ai F 27).getD (sy_i F 4).toNatClampNeg 0) := hd_rd (hs 1 _ rfl) b4 a27
  have b69 := hd_b (F := F) (F' := F') (k := 69) (hF 69 (by decide))
  have b70 := hd_b (F := F) (F' := F') (k := 70) (hF 70 (by decide))
  have b8 := hd_b (F := F) (F' := F') (k := 8) (hF 8 (by decide))
  have b9 := hd_b (F := F) (F' := F') (k := 9) (hF 9 (by decide))
  have a26 := hd_ba (F := F) (F' := F') (k := 26) (hF 26 (by decide))
  have t73 : sy_dv F' (.inr (.inl 73)) = .int ((sy_ai F 26).getD (sy_i F 4).toNatClampNeg 0) := hd_rd (hs 2 _ rfl) b4 a26
  have t74 : sy_dv F' (.inr (.inl 74)) = .int ((sy_i F 4) + ((1 : Int32))) := hd_o (hs 3 _ rfl) b4 rfl rfl
  have hB' : iv_in F' iv_B4 := iv_in_eq hB (fun j hj => hF j (Nat.lt_of_lt_of_le hj (by decide +kernel)))
  have hk := k (sy_cm F' (hd_ov (iv_id 0 iv_B4) [(4, .inl (.inr (.inl 74))), (8, .inl (.inl (.int 5))), (9, .inl (.inr (.inl 73)))] ++ [])) (fun j hj hn => (hd_keep hB' (Nat.lt_of_lt_of_le hj (by decide +kernel)) (by simp; omega)).trans (hF j (by omega))) (hd_gi (x := .inr (.inl 74)) (by decide +kernel) t74) (hd_gi (x := .inl (.int 5)) (by decide +kernel) rfl) (hd_gi (x := .inr (.inl 73)) (by decide +kernel) t73)
  refine ⟨List.forall_mem_cons.mpr ⟨hd_p3 rfl b6 (by have hc : ((0) : Int32).toInt = 0 := (by decide); omega), List.forall_mem_cons.mpr ⟨hd_p0 b6 rfl (by have hc : ((0) : Int32).toInt = 0 := (by decide); omega), List.forall_mem_cons.mpr ⟨hd_pb b4 (by first | exact h2 | exact h2), List.forall_mem_cons.mpr ⟨hd_p0 t71 rfl (by have hc : ((2) : Int32).toInt = 2 := (by decide); omega), List.forall_mem_cons.mpr ⟨hd_pb b4 (by first | exact h4 | exact h4), List.forall_mem_cons.mpr ⟨hd_p3 t72 b69 h5, List.forall_mem_cons.mpr ⟨hd_p5 t72 b70 h6, List.forall_mem_cons.mpr ⟨hd_pb b4 (by first | exact h7 | exact h7), List.forall_mem_cons.mpr ⟨hd_p3 rfl b6 (by have hc : ((0) : Int32).toInt = 0 := (by decide); omega), List.forall_mem_cons.mpr ⟨hd_p1 b8 rfl (by have hc : ((0) : Int32).toInt = 0 := (by decide); omega), List.forall_mem_cons.mpr ⟨hd_p3 b9 t73 h10, List.forall_mem_cons.mpr ⟨hd_p0 t73 b9 h11, List.forall_mem_cons.mpr ⟨hd_p2 rfl b8 (by have hc : ((5) : Int32).toInt = 5 := (by decide); omega), List.forall_mem_cons.mpr ⟨hd_p1 b4 rfl (by have hc : ((400) : Int32).toInt = 400 := (by decide); omega), fun _ h => absurd h List.not_mem_nil⟩⟩⟩⟩⟩⟩⟩⟩⟩⟩⟩⟩⟩⟩, ?_⟩
  show Q (some (sy_dv F' (.inr (.inl 72)))) _
  rw [t72]
  exact hk
theorem bo_0_p21 {Ls : Nat} {xs : Nat → Int32} {d : Nat} {Q : Option Value → jm_h → Prop} (hd : 3 ≤ d) (F : Nat → sy_d) (X1 X2 : List jm_c) (hB : iv_in F iv_B4)
    (h0 : (sy_i F 6).toInt ≤ 0)
    (h1 : (sy_i F 6).toInt = 0)
    (h2 : 0 ≤ (sy_i F 4).toInt ∧ (sy_i F 4).toInt < 403)
    (h3 : ((sy_ai F 25).getD (sy_i F 4).toNatClampNeg 0).toInt = 2)
    (h4 : 0 ≤ (sy_i F 4).toInt ∧ (sy_i F 4).toInt < 403)
    (h5 : (sy_i F 69).toInt ≤ ((sy_ai F 27).getD (sy_i F 4).toNatClampNeg 0).toInt)
    (h6 : (sy_i F 70).toInt < ((sy_ai F 27).getD (sy_i F 4).toNatClampNeg 0).toInt)
    (h7 : 0 ≤ (sy_i F 4).toInt ∧ (sy_i F 4).toInt < 403)
    (h8 : (sy_i F 6).toInt ≤ 0)
    (h9 : (sy_i F 8).toInt ≠ 0)
    (h10 : ((sy_ai F 26).getD (sy_i F 4).toNatClampNeg 0).toInt ≤ (sy_i F 9).toInt)
    (h11 : ((sy_ai F 26).getD (sy_i F 4).toNatClampNeg 0).toInt = (sy_i F 9).toInt)
    (h12 : 5 < (sy_i F 8).toInt)
    (h13 : (sy_i F 4).toInt = 400)
    (h14 : (sy_i F 6).toInt ≤ 0)
    (h15 : 0 ≤ (sy_i F 4).toInt ∧ (sy_i F 4).toInt < 403)
    (k : ∀ F1 : Nat → sy_d, (∀ j, j < 69 → j ≠ 6 ∧ j ≠ 7 ∧ j ≠ 8 ∧ j ≠ 9 → F1 j = F j) → F1 6 = .inl (.int ((2 : Int32))) → F1 7 = .inl (.int ((sy_ai F 26).getD (sy_i F 4).toNatClampNeg 0)) → F1 8 = .inl (.int ((5 : Int32))) → F1 9 = .inl (.int ((sy_ai F 26).getD (sy_i F 4).toNatClampNeg 0)) → Q (some (.int ((sy_ai F 27).getD (sy_i F 4).toNatClampNeg 0))) (sy_dh F1 X1 X2 (iv_H 4))) :
    hd_W Ls xs d jm_M157 Q (0, sy_dL F [some (.inl (.ref 1000)), some (.inr (.inl 69)), some (.inr (.inl 70)), none], sy_dS F [], sy_dh F X1 X2 (iv_H 4), 0, 0) := by
  refine hd_ret (s := 4) (nv := 71) (v := some (.inr (.inl 72))) (uh := hd_ov (iv_id 0 iv_B4) [(6, .inl (.inl (.int 2))), (7, .inl (.inr (.inl 74))), (8, .inl (.inl (.int 5))), (9, .inl (.inr (.inl 73)))]) (f := true) (sp := []) (d0 := 2) (O := [false, false, false, false, false, false, false, false, false, true, false, true]) (T := [(30, [.inr (.inl 4)], [.inr (.inl 25)]), (30, [.inr (.inl 4)], [.inr (.inl 27)]), (30, [.inr (.inl 4)], [.inr (.inl 26)]), (30, [.inr (.inl 4)], [.inr (.inl 26)])]) (P := [(3, .inl (.int 0), .inr (.inl 6)), (0, .inr (.inl 6), .inl (.int 0)), (6, .inr (.inl 4), .inl (.ref 403)), (0, .inr (.inl 71), .inl (.int 2)), (6, .inr (.inl 4), .inl (.ref 403)), (3, .inr (.inl 72), .inr (.inl 69)), (5, .inr (.inl 72), .inr (.inl 70)), (6, .inr (.inl 4), .inl (.ref 403)), (3, .inl (.int 0), .inr (.inl 6)), (1, .inr (.inl 8), .inl (.int 0)), (3, .inr (.inl 9), .inr (.inl 73)), (0, .inr (.inl 73), .inr (.inl 9)), (2, .inl (.int 5), .inr (.inl 8)), (0, .inr (.inl 4), .inl (.int 400)), (4, .inr (.inl 6), .inl (.int 0)), (6, .inr (.inl 4), .inl (.ref 403))]) jm_ok157 (by decide +kernel) (by decide +kernel) hd F X1 X2 (fun F' hF hs => ?_)
  have b6 := hd_b (F := F) (F' := F') (k := 6) (hF 6 (by decide))
  have b4 := hd_b (F := F) (F' := F') (k := 4) (hF 4 (by decide))
  have a25 := hd_ba (F := F) (F' := F') (k := 25) (hF 25 (by decide))
  have t71 : sy_dv F' (.inr (.inl 71)) = .int ((sy_ai F 25).getD (sy_i F 4).toNatClampNeg 0) := hd_rd (hs 0 _ rfl) b4 a25
  have a27 := hd_ba (F := F) (F' := F') (k := 27) (hF 27 (by decide))
  have t72 : sy_dv F' (.inr (.inl 72)) = .int ((sy_ai F 27).getD (sy_i F 4).toNatClampNeg 0) := hd_rd (hs 1 _ rfl) b4 a27
  have b69 := hd_b (F := F) (F' := F') (k := 69) (hF 69 (by decide))
  have b70 := hd_b (F := F) (F' := F') (k := 70) (hF 70 (by decide))
  have b8 := hd_b (F := F) (F' := F') (k := 8) (hF 8 (by decide))
  have b9 := hd_b (F := F) (F' := F') (k := 9) (hF 9 (by decide))
  have a26 := hd_ba (F := F) (F' := F') (k := 26) (hF 26 (by decide))
  have t73 : sy_dv F' (.inr (.inl 73)) = .int ((sy_ai F 26).getD (sy_i F 4).toNatClampNeg 0) := hd_rd (hs 2 _ rfl) b4 a26
  have t74 : sy_dv F' (.inr (.inl 74)) = .int ((sy_ai F 26).getD (sy_i F 4).toNatClampNeg 0) := hd_rd (hs 3 _ rfl) b4 a26
  have hB' : iv_in F' iv_B4 := iv_in_eq hB (fun j hj => hF j (Nat.lt_of_lt_of_le hj (by decide +kernel)))
  have hk := k (sy_cm F' (hd_ov (iv_id 0 iv_B4) [(6, .inl (.inl (.int 2))), (7, .inl (.inr (.inl 74))), (8, .inl (.inl (.int 5))), (9, .inl (.inr (.inl 73)))] ++ [])) (fun j hj hn => (hd_keep hB' (Nat.lt_of_lt_of_le hj (by decide +kernel)) (by simp; omega)).trans (hF j (by omega))) (hd_gi (x := .inl (.int 2)) (by decide +kernel) rfl) (hd_gi (x := .inr (.inl 74)) (by decide +kernel) t74) (hd_gi (x := .inl (.int 5)) (by decide +kernel) rfl) (hd_gi (x := .inr (.inl 73)) (by decide +kernel) t73)
  refine ⟨List.forall_mem_cons.mpr ⟨hd_p3 rfl b6 (by have hc : ((0) : Int32).toInt = 0 := (by decide); omega), List.forall_mem_cons.mpr ⟨hd_p0 b6 rfl (by have hc : ((0) : Int32).toInt = 0 := (by decide); omega), List.forall_mem_cons.mpr ⟨hd_pb b4 (by first | exact h2 | exact h2), List.forall_mem_cons.mpr ⟨hd_p0 t71 rfl (by have hc : ((2) : Int32).toInt = 2 := (by decide); omega), List.forall_mem_cons.mpr ⟨hd_pb b4 (by first | exact h4 | exact h4), List.forall_mem_cons.mpr ⟨hd_p3 t72 b69 h5, List.forall_mem_cons.mpr ⟨hd_p5 t72 b70 h6, List.forall_mem_cons.mpr ⟨hd_pb b4 (by first | exact h7 | exact h7), List.forall_mem_cons.mpr ⟨hd_p3 rfl b6 (by have hc : ((0) : Int32).toInt = 0 := (by decide); omega), List.forall_mem_cons.mpr ⟨hd_p1 b8 rfl (by have hc : ((0) : Int32).toInt = 0 := (by decide); omega), List.forall_mem_cons.mpr ⟨hd_p3 b9 t73 h10, List.forall_mem_cons.mpr ⟨hd_p0 t73 b9 h11, List.forall_mem_cons.mpr ⟨hd_p2 rfl b8 (by have hc : ((5) : Int32).toInt = 5 := (by decide); omega), List.forall_mem_cons.mpr ⟨hd_p0 b4 rfl (by have hc : ((400) : Int32).toInt = 400 := (by decide); omega), List.forall_mem_cons.mpr ⟨hd_p4 b6 rfl (by have hc : ((0) : Int32).toInt = 0 := (by decide); omega), List.forall_mem_cons.mpr ⟨hd_pb b4 (by first | exact h15 | exact h15), fun _ h => absurd h List.not_mem_nil⟩⟩⟩⟩⟩⟩⟩⟩⟩⟩⟩⟩⟩⟩⟩⟩, ?_⟩
  show Q (some (sy_dv F' (.inr (.inl 72)))) _
  rw [t72]
  exact hk
theorem bo_0_p22 {Ls : Nat} {xs : Nat → Int32} {d : Nat} {Q : Option Value → jm_h → Prop} (hd : 3 ≤ d) (F : Nat → sy_d) (X1 X2 : List jm_c) (hB : iv_in F iv_B4)
    (h0 : (sy_i F 6).toInt ≤ 0)
    (h1 : (sy_i F 6).toInt = 0)
    (h2 : 0 ≤ (sy_i F 4).toInt ∧ (sy_i F 4).toInt < 403)
    (h3 : ((sy_ai F 25).getD (sy_i F 4).toNatClampNeg 0).toInt = 2)
    (h4 : 0 ≤ (sy_i F 4).toInt ∧ (sy_i F 4).toInt < 403)
    (h5 : (sy_i F 69).toInt ≤ ((sy_ai F 27).getD (sy_i F 4).toNatClampNeg 0).toInt)
    (h6 : (sy_i F 70).toInt < ((sy_ai F 27).getD (sy_i F 4).toNatClampNeg 0).toInt)
    (h7 : 0 ≤ (sy_i F 4).toInt ∧ (sy_i F 4).toInt < 403)
    (h8 : (sy_i F 6).toInt ≤ 0)
    (h9 : (sy_i F 8).toInt ≠ 0)
    (h10 : ((sy_ai F 26).getD (sy_i F 4).toNatClampNeg 0).toInt ≤ (sy_i F 9).toInt)
    (h11 : ((sy_ai F 26).getD (sy_i F 4).toNatClampNeg 0).toInt = (sy_i F 9).toInt)
    (h12 : (sy_i F 8).toInt ≤ 5)
    (h13 : (sy_i F 4).toInt ≠ 400)
    (k : ∀ F1 : Nat → sy_d, (∀ j, j < 69 → j ≠ 4 → F1 j = F j) → F1 4 = .inl (.int ((sy_i F 4) + ((1 : Int32)))) → Q (some (.int ((sy_ai F 27).getD (sy_i F 4).toNatClampNeg 0))) (sy_dh F1 X1 X2 (iv_H 4))) :
    hd_W Ls xs d jm_M157 Q (0, sy_dL F [some (.inl (.ref 1000)), some (.inr (.inl 69)), some (.inr (.inl 70)), none], sy_dS F [], sy_dh F X1 X2 (iv_H 4), 0, 0) := by
  refine hd_ret (s := 4) (nv := 71) (v := some (.inr (.inl 72))) (uh := hd_ov (iv_id 0 iv_B4) [(4, .inl (.inr (.inl 74)))]) (f := true) (sp := []) (d0 := 2) (O := [false, false, false, false, false, false, false, false, false, false, true]) (T := [(30, [.inr (.inl 4)], [.inr (.inl 25)]), (30, [.inr (.inl 4)], [.inr (.inl 27)]), (30, [.inr (.inl 4)], [.inr (.inl 26)]), (0, [.inr (.inl 4), .inl (.int 1)], [])]) (P := [(3, .inl (.int 0), .inr (.inl 6)), (0, .inr (.inl 6), .inl (.int 0)), (6, .inr (.inl 4), .inl (.ref 403)), (0, .inr (.inl 71), .inl (.int 2)), (6, .inr (.inl 4), .inl (.ref 403)), (3, .inr (.inl 72), .inr (.inl 69)), (5, .inr (.inl 72), .inr (.inl 70)), (6, .inr (.inl 4), .inl (.ref 403)), (3, .inl (.int 0), .inr (.inl 6)), (1, .inr (.inl 8), .inl (.int 0)), (3, .inr (.inl 9), .inr (.inl 73)), (0, .inr (.inl 73), .inr (.inl 9)), (3, .inl (.int 5), .inr (.inl 8)), (1, .inr (.inl 4), .inl (.int 400))]) jm_ok157 (by decide +kernel) (by decide +kernel) hd F X1 X2 (fun F' hF hs => ?_)
  have b6 := hd_b (F := F) (F' := F') (k := 6) (hF 6 (by decide))
  have b4 := hd_b (F := F) (F' := F') (k := 4) (hF 4 (by decide))
  have a25 := hd_ba (F := F) (F' := F') (k := 25) (hF 25 (by decide))
  have t71 : sy_dv F' (.inr (.inl 71)) = .int ((sy_ai F 25).getD (sy_i F 4).toNatClampNeg 0) := hd_rd (hs 0 _ rfl) b4 a25
  have a27 := hd_ba (F := F) (F' := F') (k := 27) (hF 27 (by decide))
  have t72 : sy_dv F' (.inr (.inl 72)) = .int ((sy_ai F 27).getD (sy_i F 4).toNatClampNeg 0) := hd_rd (hs 1 _ rfl) b4 a27
  have b69 := hd_b (F := F) (F' := F') (k := 69) (hF 69 (by decide))
  have b70 := hd_b (F := F) (F' := F') (k := 70) (hF 70 (by decide))
  have b8 := hd_b (F := F) (F' := F') (k := 8) (hF 8 (by decide))
  have b9 := hd_b (F := F) (F' := F') (k := 9) (hF 9 (by decide))
  have a26 := hd_ba (F := F) (F' := F') (k := 26) (hF 26 (by decide))
  have t73 : sy_dv F' (.inr (.inl 73)) = .int ((sy_ai F 26).getD (sy_i F 4).toNatClampNeg 0) := hd_rd (hs 2 _ rfl) b4 a26
  have t74 : sy_dv F' (.inr (.inl 74)) = .int ((sy_i F 4) + ((1 : Int32))) := hd_o (hs 3 _ rfl) b4 rfl rfl
  have hB' : iv_in F' iv_B4 := iv_in_eq hB (fun j hj => hF j (Nat.lt_of_lt_of_le hj (by decide +kernel)))
  have hk := k (sy_cm F' (hd_ov (iv_id 0 iv_B4) [(4, .inl (.inr (.inl 74)))] ++ [])) (fun j hj hn => (hd_keep hB' (Nat.lt_of_lt_of_le hj (by decide +kernel)) (by simp; omega)).trans (hF j (by omega))) (hd_gi (x := .inr (.inl 74)) (by decide +kernel) t74)
  refine ⟨List.forall_mem_cons.mpr ⟨hd_p3 rfl b6 (by have hc : ((0) : Int32).toInt = 0 := (by decide); omega), List.forall_mem_cons.mpr ⟨hd_p0 b6 rfl (by have hc : ((0) : Int32).toInt = 0 := (by decide); omega), List.forall_mem_cons.mpr ⟨hd_pb b4 (by first | exact h2 | exact h2), List.forall_mem_cons.mpr ⟨hd_p0 t71 rfl (by have hc : ((2) : Int32).toInt = 2 := (by decide); omega), List.forall_mem_cons.mpr ⟨hd_pb b4 (by first | exact h4 | exact h4), List.forall_mem_cons.mpr ⟨hd_p3 t72 b69 h5, List.forall_mem_cons.mpr ⟨hd_p5 t72 b70 h6, List.forall_mem_cons.mpr ⟨hd_pb b4 (by first | exact h7 | exact h7), List.forall_mem_cons.mpr ⟨hd_p3 rfl b6 (by have hc : ((0) : Int32).toInt = 0 := (by decide); omega), List.forall_mem_cons.mpr ⟨hd_p1 b8 rfl (by have hc : ((0) : Int32).toInt = 0 := (by decide); omega), List.forall_mem_cons.mpr ⟨hd_p3 b9 t73 h10, List.forall_mem_cons.mpr ⟨hd_p0 t73 b9 h11, List.forall_mem_cons.mpr ⟨hd_p3 rfl b8 (by have hc : ((5) : Int32).toInt = 5 := (by decide); omega), List.forall_mem_cons.mpr ⟨hd_p1 b4 rfl (by have hc : ((400) : Int32).toInt = 400 := (by decide); omega), fun _ h => absurd h List.not_mem_nil⟩⟩⟩⟩⟩⟩⟩⟩⟩⟩⟩⟩⟩⟩, ?_⟩
  show Q (some (sy_dv F' (.inr (.inl 72)))) _
  rw [t72]
  exact hk
theorem bo_0_p23 {Ls : Nat} {xs : Nat → Int32} {d : Nat} {Q : Option Value → jm_h → Prop} (hd : 3 ≤ d) (F : Nat → sy_d) (X1 X2 : List jm_c) (hB : iv_in F iv_B4)
    (h0 : (sy_i F 6).toInt ≤ 0)
    (h1 : (sy_i F 6).toInt = 0)
    (h2 : 0 ≤ (sy_i F 4).toInt ∧ (sy_i F 4).toInt < 403)
    (h3 : ((sy_ai F 25).getD (sy_i F 4).toNatClampNeg 0).toInt = 2)
    (h4 : 0 ≤ (sy_i F 4).toInt ∧ (sy_i F 4).toInt < 403)
    (h5 : (sy_i F 69).toInt ≤ ((sy_ai F 27).getD (sy_i F 4).toNatClampNeg 0).toInt)
    (h6 : (sy_i F 70).toInt < ((sy_ai F 27).getD (sy_i F 4).toNatClampNeg 0).toInt)
    (h7 : 0 ≤ (sy_i F 4).toInt ∧ (sy_i F 4).toInt < 403)
    (h8 : (sy_i F 6).toInt ≤ 0)
    (h9 : (sy_i F 8).toInt ≠ 0)
    (h10 : ((sy_ai F 26).getD (sy_i F 4).toNatClampNeg 0).toInt ≤ (sy_i F 9).toInt)
    (h11 : ((sy_ai F 26).getD (sy_i F 4).toNatClampNeg 0).toInt = (sy_i F 9).toInt)
    (h12 : (sy_i F 8).toInt ≤ 5)
    (h13 : (sy_i F 4).toInt = 400)
    (h14 : (sy_i F 6).toInt ≤ 0)
    (h15 : 0 ≤ (sy_i F 4).toInt ∧ (sy_i F 4).toInt < 403)
    (k : ∀ F1 : Nat → sy_d, (∀ j, j < 69 → j ≠ 6 ∧ j ≠ 7 → F1 j = F j) → F1 6 = .inl (.int ((2 : Int32))) → F1 7 = .inl (.int ((sy_ai F 26).getD (sy_i F 4).toNatClampNeg 0)) → Q (some (.int ((sy_ai F 27).getD (sy_i F 4).toNatClampNeg 0))) (sy_dh F1 X1 X2 (iv_H 4))) :
    hd_W Ls xs d jm_M157 Q (0, sy_dL F [some (.inl (.ref 1000)), some (.inr (.inl 69)), some (.inr (.inl 70)), none], sy_dS F [], sy_dh F X1 X2 (iv_H 4), 0, 0) := by
  refine hd_ret (s := 4) (nv := 71) (v := some (.inr (.inl 72))) (uh := hd_ov (iv_id 0 iv_B4) [(6, .inl (.inl (.int 2))), (7, .inl (.inr (.inl 74)))]) (f := true) (sp := []) (d0 := 2) (O := [false, false, false, false, false, false, false, false, false, false, false, true]) (T := [(30, [.inr (.inl 4)], [.inr (.inl 25)]), (30, [.inr (.inl 4)], [.inr (.inl 27)]), (30, [.inr (.inl 4)], [.inr (.inl 26)]), (30, [.inr (.inl 4)], [.inr (.inl 26)])]) (P := [(3, .inl (.int 0), .inr (.inl 6)), (0, .inr (.inl 6), .inl (.int 0)), (6, .inr (.inl 4), .inl (.ref 403)), (0, .inr (.inl 71), .inl (.int 2)), (6, .inr (.inl 4), .inl (.ref 403)), (3, .inr (.inl 72), .inr (.inl 69)), (5, .inr (.inl 72), .inr (.inl 70)), (6, .inr (.inl 4), .inl (.ref 403)), (3, .inl (.int 0), .inr (.inl 6)), (1, .inr (.inl 8), .inl (.int 0)), (3, .inr (.inl 9), .inr (.inl 73)), (0, .inr (.inl 73), .inr (.inl 9)), (3, .inl (.int 5), .inr (.inl 8)), (0, .inr (.inl 4), .inl (.int 400)), (4, .inr (.inl 6), .inl (.int 0)), (6, .inr (.inl 4), .inl (.ref 403))]) jm_ok157 (by decide +kernel) (by decide +kernel) hd F X1 X2 (fun F' hF hs => ?_)
  have b6 := hd_b (F := F) (F' := F') (k := 6) (hF 6 (by decide))
  have b4 := hd_b (F := F) (F' := F') (k := 4) (hF 4 (by decide))
  have a25 := hd_ba (F := F) (F' := F') (k := 25) (hF 25 (by decide))
  have t71 : sy_dv F' (.inr (.inl 71)) = .int ((sy_ai F 25).getD (sy_i F 4).toNatClampNeg 0) := hd_rd (hs 0 _ rfl) b4 a25
  have a27 := hd_ba (F := F) (F' := F') (k := 27) (hF 27 (by decide))
  have t72 : sy_dv F' (.inr (.inl 72)) = .int ((sy_ai F 27).getD (sy_i F 4).toNatClampNeg 0) := hd_rd (hs 1 _ rfl) b4 a27
  have b69 := hd_b (F := F) (F' := F') (k := 69) (hF 69 (by decide))
  have b70 := hd_b (F := F) (F' := F') (k := 70) (hF 70 (by decide))
  have b8 := hd_b (F := F) (F' := F') (k := 8) (hF 8 (by decide))
  have b9 := hd_b (F := F) (F' := F') (k := 9) (hF 9 (by decide))
  have a26 := hd_ba (F := F) (F' := F') (k := 26) (hF 26 (by decide))
  have t73 : sy_dv F' (.inr (.inl 73)) = .int ((sy_ai F 26).getD (sy_i F 4).toNatClampNeg 0) := hd_rd (hs 2 _ rfl) b4 a26
  have t74 : sy_dv F' (.inr (.inl 74)) = .int ((sy_ai F 26).getD (sy_i F 4).toNatClampNeg 0) := hd_rd (hs 3 _ rfl) b4 a26
  have hB' : iv_in F' iv_B4 := iv_in_eq hB (fun j hj => hF j (Nat.lt_of_lt_of_le hj (by decide +kernel)))
  have hk := k (sy_cm F' (hd_ov (iv_id 0 iv_B4) [(6, .inl (.inl (.int 2))), (7, .inl (.inr (.inl 74)))] ++ [])) (fun j hj hn => (hd_keep hB' (Nat.lt_of_lt_of_le hj (by decide +kernel)) (by simp; omega)).trans (hF j (by omega))) (hd_gi (x := .inl (.int 2)) (by decide +kernel) rfl) (hd_gi (x := .inr (.inl 74)) (by decide +kernel) t74)
  refine ⟨List.forall_mem_cons.mpr ⟨hd_p3 rfl b6 (by have hc : ((0) : Int32).toInt = 0 := (by decide); omega), List.forall_mem_cons.mpr ⟨hd_p0 b6 rfl (by have hc : ((0) : Int32).toInt = 0 := (by decide); omega), List.forall_mem_cons.mpr ⟨hd_pb b4 (by first | exact h2 | exact h2), List.forall_mem_cons.mpr ⟨hd_p0 t71 rfl (by have hc : ((2) : Int32).toInt = 2 := (by decide); omega), List.forall_mem_cons.mpr ⟨hd_pb b4 (by first | exact h4 | exact h4), List.forall_mem_cons.mpr ⟨hd_p3 t72 b69 h5, List.forall_mem_cons.mpr ⟨hd_p5 t72 b70 h6, List.forall_mem_cons.mpr ⟨hd_pb b4 (by first | exact h7 | exact h7), List.forall_mem_cons.mpr ⟨hd_p3 rfl b6 (by have hc : ((0) : Int32).toInt = 0 := (by decide); omega), List.forall_mem_cons.mpr ⟨hd_p1 b8 rfl (by have hc : ((0) : Int32).toInt = 0 := (by decide); omega), List.forall_mem_cons.mpr ⟨hd_p3 b9 t73 h10, List.forall_mem_cons.mpr ⟨hd_p0 t73 b9 h11, List.forall_mem_cons.mpr ⟨hd_p3 rfl b8 (by have hc : ((5) : Int32).toInt = 5 := (by decide); omega), List.forall_mem_cons.mpr ⟨hd_p0 b4 rfl (by have hc : ((400) : Int32).toInt = 400 := (by decide); omega), List.forall_mem_cons.mpr ⟨hd_p4 b6 rfl (by have hc : ((0) : Int32).toInt = 0 := (by decide); omega), List.forall_mem_cons.mpr ⟨hd_pb b4 (by first | exact h15 | exact h15), fun _ h => absurd h List.not_mem_nil⟩⟩⟩⟩⟩⟩⟩⟩⟩⟩⟩⟩⟩⟩⟩⟩, ?_⟩
  show Q (some (sy_dv F' (.inr (.inl 72)))) _
  rw [t72]
  exact hk
theorem na_0_p0 {Ls : Nat} {xs : Nat → Int32} {d : Nat} {Q : Option Value → jm_h → Prop} (hd : 4 ≤ d) (F : Nat → sy_d) (X1 X2 : List jm_c) (hB : iv_in F iv_B4)
    (h0 : (sy_i F 6).toInt ≠ 0)
    (h1 : 0 < (sy_i F 6).toInt)
    (k : ∀ F1 : Nat → sy_d, (∀ j, j < 69 → True → F1 j = F j) → F1 69 = .inl (.int (sy_i F 4)) → F1 70 = .inl (.int ((0 : Int32))) → hd_W Ls xs d jm_M155 Q (12, sy_dL F1 [some (.inl (.ref 1000)), some (.inr (.inl 69)), some (.inr (.inl 70))], sy_dS F1 [], sy_dh F1 X1 X2 (iv_H 4), 0, 0)) :
    hd_W Ls xs d jm_M155 Q (0, sy_dL F [some (.inl (.ref 1000)), none, none], sy_dS F [], sy_dh F X1 X2 (iv_H 4), 0, 0) := by
  refine hd_run (s := 4) (nv := 69) (pc := 12) (L := [some (.inl (.ref 1000)), some (.inr (.inl 69)), some (.inr (.inl 70))]) (S := []) (uh := hd_ov (iv_id 0 iv_B4) []) (ul := [.inl (.inr (.inl 4)), .inl (.inl (.int 0))]) (f := true) (sp := [12]) (d0 := 3) (O := [true, false]) (T := []) (P := [(1, .inr (.inl 6), .inl (.int 0)), (5, .inr (.inl 6), .inl (.int 0))]) jm_ok155 (by decide +kernel) (by decide +kernel) hd F X1 X2 (fun F' hF hs => ?_)
  have b6 := hd_b (F := F) (F' := F') (k := 6) (hF 6 (by decide))
  have b4 := hd_b (F := F) (F' := F') (k := 4) (hF 4 (by decide))
  have hB' : iv_in F' iv_B4 := iv_in_eq hB (fun j hj => hF j (Nat.lt_of_lt_of_le hj (by decide +kernel)))
  refine ⟨List.forall_mem_cons.mpr ⟨hd_p1 b6 rfl (by have hc : ((0) : Int32).toInt = 0 := (by decide); omega), List.forall_mem_cons.mpr ⟨hd_p5 b6 rfl (by have hc : ((0) : Int32).toInt = 0 := (by decide); omega), fun _ h => absurd h List.not_mem_nil⟩⟩, ?_⟩
  refine k _ ?_ ?_ ?_
  · exact fun j hj _ => (hd_keep hB' (Nat.lt_of_lt_of_le hj (by decide +kernel)) (by simp)).trans (hF j (by omega))
  · exact hd_gi (x := .inr (.inl 4)) (by decide +kernel) b4
  · exact hd_gi (x := .inl (.int 0)) (by decide +kernel) rfl
theorem na_0_p1 {Ls : Nat} {xs : Nat → Int32} {d : Nat} {Q : Option Value → jm_h → Prop} (hd : 4 ≤ d) (F : Nat → sy_d) (X1 X2 : List jm_c) (hB : iv_in F iv_B4)
    (h0 : (sy_i F 6).toInt = 0)
    (h1 : 0 ≤ (sy_i F 4).toInt ∧ (sy_i F 4).toInt < 403)
    (h2 : ((sy_ai F 25).getD (sy_i F 4).toNatClampNeg 0).toInt ≠ 1)
    (h3 : (sy_i F 6).toInt ≤ 0)
    (h4 : 0 ≤ (sy_i F 4).toInt ∧ (sy_i F 4).toInt < 403)
    (k : ∀ F1 : Nat → sy_d, (∀ j, j < 69 → j ≠ 6 ∧ j ≠ 7 → F1 j = F j) → F1 6 = .inl (.int ((1 : Int32))) → F1 7 = .inl (.int ((sy_ai F 26).getD (sy_i F 4).toNatClampNeg 0)) → F1 69 = .inl (.int (sy_i F 4)) → F1 70 = .inl (.int ((0 : Int32))) → hd_W Ls xs d jm_M155 Q (12, sy_dL F1 [some (.inl (.ref 1000)), some (.inr (.inl 69)), some (.inr (.inl 70))], sy_dS F1 [], sy_dh F1 X1 X2 (iv_H 4), 0, 0)) :
    hd_W Ls xs d jm_M155 Q (0, sy_dL F [some (.inl (.ref 1000)), none, none], sy_dS F [], sy_dh F X1 X2 (iv_H 4), 0, 0) := by
  refine hd_run (s := 4) (nv := 69) (pc := 12) (L := [some (.inl (.ref 1000)), some (.inr (.inl 69)), some (.inr (.inl 70))]) (S := []) (uh := hd_ov (iv_id 0 iv_B4) [(6, .inl (.inl (.int 1))), (7, .inl (.inr (.inl 70)))]) (ul := [.inl (.inr (.inl 4)), .inl (.inl (.int 0))]) (f := true) (sp := [12]) (d0 := 3) (O := [false, true, true]) (T := [(30, [.inr (.inl 4)], [.inr (.inl 25)]), (30, [.inr (.inl 4)], [.inr (.inl 26)])]) (P := [(0, .inr (.inl 6), .inl (.int 0)), (6, .inr (.inl 4), .inl (.ref 403)), (1, .inr (.inl 69), .inl (.int 1)), (4, .inr (.inl 6), .inl (.int 0)), (6, .inr (.inl 4), .inl (.ref 403))]) jm_ok155 (by decide +kernel) (by decide +kernel) hd F X1 X2 (fun F' hF hs => ?_)
  have b6 := hd_b (F := F) (F' := F') (k := 6) (hF 6 (by decide))
  have b4 := hd_b (F := F) (F' := F') (k := 4) (hF 4 (by decide))
  have a25 := hd_ba (F := F) (F' := F') (k := 25) (hF 25 (by decide))
  have t69 : sy_dv F' (.inr (.inl 69)) = .int ((sy_ai F 25).getD (sy_i F 4).toNatClampNeg 0) := hd_rd (hs 0 _ rfl) b4 a25
  have a26 := hd_ba (F := F) (F' := F') (k := 26) (hF 26 (by decide))
  have t70 : sy_dv F' (.inr (.inl 70)) = .int ((sy_ai F 26).getD (sy_i F 4).toNatClampNeg 0) := hd_rd (hs 1 _ rfl) b4 a26
  have hB' : iv_in F' iv_B4 := iv_in_eq hB (fun j hj => hF j (Nat.lt_of_lt_of_le hj (by decide +kernel)))
  refine ⟨List.forall_mem_cons.mpr ⟨hd_p0 b6 rfl (by have hc : ((0) : Int32).toInt = 0 := (by decide); omega), List.forall_mem_cons.mpr ⟨hd_pb b4 (by first | exact h1 | exact h1), List.forall_mem_cons.mpr ⟨hd_p1 t69 rfl (by have hc : ((1) : Int32).toInt = 1 := (by decide); omega), List.forall_mem_cons.mpr ⟨hd_p4 b6 rfl (by have hc : ((0) : Int32).toInt = 0 := (by decide); omega), List.forall_mem_cons.mpr ⟨hd_pb b4 (by first | exact h4 | exact h4), fun _ h => absurd h List.not_mem_nil⟩⟩⟩⟩⟩, ?_⟩
  refine k _ ?_ ?_ ?_ ?_ ?_
  · exact fun j hj hn => (hd_keep hB' (Nat.lt_of_lt_of_le hj (by decide +kernel)) (by simp; omega)).trans (hF j (by omega))
  · exact hd_gi (x := .inl (.int 1)) (by decide +kernel) rfl
  · exact hd_gi (x := .inr (.inl 70)) (by decide +kernel) t70
  · exact hd_gi (x := .inr (.inl 4)) (by decide +kernel) b4
  · exact hd_gi (x := .inl (.int 0)) (by decide +kernel) rfl
theorem na_0_p2 {Ls : Nat} {xs : Nat → Int32} {d : Nat} {Q : Option Value → jm_h → Prop} (hd : 4 ≤ d) (F : Nat → sy_d) (X1 X2 : List jm_c) (hB : iv_in F iv_B4)
    (h0 : (sy_i F 6).toInt = 0)
    (h1 : 0 ≤ (sy_i F 4).toInt ∧ (sy_i F 4).toInt < 403)
    (h2 : ((sy_ai F 25).getD (sy_i F 4).toNatClampNeg 0).toInt = 1)
    (h3 : (sy_i F 4).toInt ≠ 400)
    (k : ∀ F1 : Nat → sy_d, (∀ j, j < 69 → j ≠ 4 → F1 j = F j) → F1 4 = .inl (.int ((sy_i F 4) + ((1 : Int32)))) → F1 69 = .inl (.int (sy_i F 4)) → F1 70 = .inl (.int ((0 : Int32))) → hd_W Ls xs d jm_M155 Q (12, sy_dL F1 [some (.inl (.ref 1000)), some (.inr (.inl 69)), some (.inr (.inl 70))], sy_dS F1 [], sy_dh F1 X1 X2 (iv_H 4), 0, 0)) :
    hd_W Ls xs d jm_M155 Q (0, sy_dL F [some (.inl (.ref 1000)), none, none], sy_dS F [], sy_dh F X1 X2 (iv_H 4), 0, 0) := by
  refine hd_run (s := 4) (nv := 69) (pc := 12) (L := [some (.inl (.ref 1000)), some (.inr (.inl 69)), some (.inr (.inl 70))]) (S := []) (uh := hd_ov (iv_id 0 iv_B4) [(4, .inl (.inr (.inl 70)))]) (ul := [.inl (.inr (.inl 4)), .inl (.inl (.int 0))]) (f := true) (sp := [12]) (d0 := 3) (O := [false, false, true]) (T := [(30, [.inr (.inl 4)], [.inr (.inl 25)]), (0, [.inr (.inl 4), .inl (.int 1)], [])]) (P := [(0, .inr (.inl 6), .inl (.int 0)), (6, .inr (.inl 4), .inl (.ref 403)), (0, .inr (.inl 69), .inl (.int 1)), (1, .inr (.inl 4), .inl (.int 400))]) jm_ok155 (by decide +kernel) (by decide +kernel) hd F X1 X2 (fun F' hF hs => ?_)
  have b6 := hd_b (F := F) (F' := F') (k := 6) (hF 6 (by decide))
  have b4 := hd_b (F := F) (F' := F') (k := 4) (hF 4 (by decide))
  have a25 := hd_ba (F := F) (F' := F') (k := 25) (hF 25 (by decide))
  have t69 : sy_dv F' (.inr (.inl 69)) = .int ((sy_ai F 25).getD (sy_i F 4).toNatClampNeg 0) := hd_rd (hs 0 _ rfl) b4 a25
  have t70 : sy_dv F' (.inr (.inl 70)) = .int ((sy_i F 4) + ((1 : Int32))) := hd_o (hs 1 _ rfl) b4 rfl rfl
  have hB' : iv_in F' iv_B4 := iv_in_eq hB (fun j hj => hF j (Nat.lt_of_lt_of_le hj (by decide +kernel)))
  refine ⟨List.forall_mem_cons.mpr ⟨hd_p0 b6 rfl (by have hc : ((0) : Int32).toInt = 0 := (by decide); omega), List.forall_mem_cons.mpr ⟨hd_pb b4 (by first | exact h1 | exact h1), List.forall_mem_cons.mpr ⟨hd_p0 t69 rfl (by have hc : ((1) : Int32).toInt = 1 := (by decide); omega), List.forall_mem_cons.mpr ⟨hd_p1 b4 rfl (by have hc : ((400) : Int32).toInt = 400 := (by decide); omega), fun _ h => absurd h List.not_mem_nil⟩⟩⟩⟩, ?_⟩
  refine k _ ?_ ?_ ?_ ?_
  · exact fun j hj hn => (hd_keep hB' (Nat.lt_of_lt_of_le hj (by decide +kernel)) (by simp; omega)).trans (hF j (by omega))
  · exact hd_gi (x := .inr (.inl 70)) (by decide +kernel) t70
  · exact hd_gi (x := .inr (.inl 4)) (by decide +kernel) b4
  · exact hd_gi (x := .inl (.int 0)) (by decide +kernel) rfl
theorem na_0_p3 {Ls : Nat} {xs : Nat → Int32} {d : Nat} {Q : Option Value → jm_h → Prop} (hd : 4 ≤ d) (F : Nat → sy_d) (X1 X2 : List jm_c) (hB : iv_in F iv_B4)
    (h0 : (sy_i F 6).toInt = 0)
    (h1 : 0 ≤ (sy_i F 4).toInt ∧ (sy_i F 4).toInt < 403)
    (h2 : ((sy_ai F 25).getD (sy_i F 4).toNatClampNeg 0).toInt = 1)
    (h3 : (sy_i F 4).toInt = 400)
    (h4 : (sy_i F 6).toInt ≤ 0)
    (h5 : 0 ≤ (sy_i F 4).toInt ∧ (sy_i F 4).toInt < 403)
    (k : ∀ F1 : Nat → sy_d, (∀ j, j < 69 → j ≠ 6 ∧ j ≠ 7 → F1 j = F j) → F1 6 = .inl (.int ((2 : Int32))) → F1 7 = .inl (.int ((sy_ai F 26).getD (sy_i F 4).toNatClampNeg 0)) → F1 69 = .inl (.int (sy_i F 4)) → F1 70 = .inl (.int ((0 : Int32))) → hd_W Ls xs d jm_M155 Q (12, sy_dL F1 [some (.inl (.ref 1000)), some (.inr (.inl 69)), some (.inr (.inl 70))], sy_dS F1 [], sy_dh F1 X1 X2 (iv_H 4), 0, 0)) :
    hd_W Ls xs d jm_M155 Q (0, sy_dL F [some (.inl (.ref 1000)), none, none], sy_dS F [], sy_dh F X1 X2 (iv_H 4), 0, 0) := by
  refine hd_run (s := 4) (nv := 69) (pc := 12) (L := [some (.inl (.ref 1000)), some (.inr (.inl 69)), some (.inr (.inl 70))]) (S := []) (uh := hd_ov (iv_id 0 iv_B4) [(6, .inl (.inl (.int 2))), (7, .inl (.inr (.inl 70)))]) (ul := [.inl (.inr (.inl 4)), .inl (.inl (.int 0))]) (f := true) (sp := [12]) (d0 := 3) (O := [false, false, false, true]) (T := [(30, [.inr (.inl 4)], [.inr (.inl 25)]), (30, [.inr (.inl 4)], [.inr (.inl 26)])]) (P := [(0, .inr (.inl 6), .inl (.int 0)), (6, .inr (.inl 4), .inl (.ref 403)), (0, .inr (.inl 69), .inl (.int 1)), (0, .inr (.inl 4), .inl (.int 400)), (4, .inr (.inl 6), .inl (.int 0)), (6, .inr (.inl 4), .inl (.ref 403))]) jm_ok155 (by decide +kernel) (by decide +kernel) hd F X1 X2 (fun F' hF hs => ?_)
  have b6 := hd_b (F := F) (F' := F') (k := 6) (hF 6 (by decide))
  have b4 := hd_b (F := F) (F' := F') (k := 4) (hF 4 (by decide))
  have a25 := hd_ba (F := F) (F' := F') (k := 25) (hF 25 (by decide))
  have t69 : sy_dv F' (.inr (.inl 69)) = .int ((sy_ai F 25).getD (sy_i F 4).toNatClampNeg 0) := hd_rd (hs 0 _ rfl) b4 a25
  have a26 := hd_ba (F := F) (F' := F') (k := 26) (hF 26 (by decide))
  have t70 : sy_dv F' (.inr (.inl 70)) = .int ((sy_ai F 26).getD (sy_i F 4).toNatClampNeg 0) := hd_rd (hs 1 _ rfl) b4 a26
  have hB' : iv_in F' iv_B4 := iv_in_eq hB (fun j hj => hF j (Nat.lt_of_lt_of_le hj (by decide +kernel)))
  refine ⟨List.forall_mem_cons.mpr ⟨hd_p0 b6 rfl (by have hc : ((0) : Int32).toInt = 0 := (by decide); omega), List.forall_mem_cons.mpr ⟨hd_pb b4 (by first | exact h1 | exact h1), List.forall_mem_cons.mpr ⟨hd_p0 t69 rfl (by have hc : ((1) : Int32).toInt = 1 := (by decide); omega), List.forall_mem_cons.mpr ⟨hd_p0 b4 rfl (by have hc : ((400) : Int32).toInt = 400 := (by decide); omega), List.forall_mem_cons.mpr ⟨hd_p4 b6 rfl (by have hc : ((0) : Int32).toInt = 0 := (by decide); omega), List.forall_mem_cons.mpr ⟨hd_pb b4 (by first | exact h5 | exact h5), fun _ h => absurd h List.not_mem_nil⟩⟩⟩⟩⟩⟩, ?_⟩
  refine k _ ?_ ?_ ?_ ?_ ?_
  · exact fun j hj hn => (hd_keep hB' (Nat.lt_of_lt_of_le hj (by decide +kernel)) (by simp; omega)).trans (hF j (by omega))
  · exact hd_gi (x := .inl (.int 2)) (by decide +kernel) rfl
  · exact hd_gi (x := .inr (.inl 70)) (by decide +kernel) t70
  · exact hd_gi (x := .inr (.inl 4)) (by decide +kernel) b4
  · exact hd_gi (x := .inl (.int 0)) (by decide +kernel) rfl
theorem na_12_p0 {Ls : Nat} {xs : Nat → Int32} {d : Nat} {Q : Option Value → jm_h → Prop} (hd : 4 ≤ d) (F : Nat → sy_d) (X1 X2 : List jm_c) (hB : iv_in F iv_B4)
    (h0 : (sy_i F 13).toInt ≤ (sy_i F 70).toInt)
    (k : ∀ F1 : Nat → sy_d, (∀ j, j < 69 → True → F1 j = F j) → Q (some (.int (sy_i F 69))) (sy_dh F1 X1 X2 (iv_H 4))) :
    hd_W Ls xs d jm_M155 Q (12, sy_dL F [some (.inl (.ref 1000)), some (.inr (.inl 69)), some (.inr (.inl 70))], sy_dS F [], sy_dh F X1 X2 (iv_H 4), 0, 0) := by
  refine hd_ret (s := 4) (nv := 71) (v := some (.inr (.inl 69))) (uh := hd_ov (iv_id 0 iv_B4) []) (f := true) (sp := [12]) (d0 := 3) (O := [true]) (T := []) (P := [(4, .inr (.inl 13), .inr (.inl 70))]) jm_ok155 (by decide +kernel) (by decide +kernel) hd F X1 X2 (fun F' hF hs => ?_)
  have b13 := hd_b (F := F) (F' := F') (k := 13) (hF 13 (by decide))
  have b70 := hd_b (F := F) (F' := F') (k := 70) (hF 70 (by decide))
  have b69 := hd_b (F := F) (F' := F') (k := 69) (hF 69 (by decide))
  have hB' : iv_in F' iv_B4 := iv_in_eq hB (fun j hj => hF j (Nat.lt_of_lt_of_le hj (by decide +kernel)))
  have hk := k (sy_cm F' (hd_ov (iv_id 0 iv_B4) [] ++ [])) (fun j hj _ => (hd_keep hB' (Nat.lt_of_lt_of_le hj (by decide +kernel)) (by simp)).trans (hF j (by omega)))
  refine ⟨List.forall_mem_cons.mpr ⟨hd_p4 b13 b70 h0, fun _ h => absurd h List.not_mem_nil⟩, ?_⟩
  show Q (some (sy_dv F' (.inr (.inl 69)))) _
  rw [b69]
  exact hk
theorem na_12_p1 {Ls : Nat} {xs : Nat → Int32} {d : Nat} {Q : Option Value → jm_h → Prop} (hd : 4 ≤ d) (F : Nat → sy_d) (X1 X2 : List jm_c) (hB : iv_in F iv_B4)
    (h0 : (sy_i F 70).toInt < (sy_i F 13).toInt)
    (h1 : (sy_i F 6).toInt ≠ 0)
    (k : ∀ F1 : Nat → sy_d, (∀ j, j < 69 → True → F1 j = F j) → Q (some (.int (sy_i F 69))) (sy_dh F1 X1 X2 (iv_H 4))) :
    hd_W Ls xs d jm_M155 Q (12, sy_dL F [some (.inl (.ref 1000)), some (.inr (.inl 69)), some (.inr (.inl 70))], sy_dS F [], sy_dh F X1 X2 (iv_H 4), 0, 0) := by
  refine hd_ret (s := 4) (nv := 71) (v := some (.inr (.inl 69))) (uh := hd_ov (iv_id 0 iv_B4) []) (f := true) (sp := [12]) (d0 := 3) (O := [false, true]) (T := []) (P := [(5, .inr (.inl 13), .inr (.inl 70)), (1, .inr (.inl 6), .inl (.int 0))]) jm_ok155 (by decide +kernel) (by decide +kernel) hd F X1 X2 (fun F' hF hs => ?_)
  have b13 := hd_b (F := F) (F' := F') (k := 13) (hF 13 (by decide))
  have b70 := hd_b (F := F) (F' := F') (k := 70) (hF 70 (by decide))
  have b6 := hd_b (F := F) (F' := F') (k := 6) (hF 6 (by decide))
  have b69 := hd_b (F := F) (F' := F') (k := 69) (hF 69 (by decide))
  have hB' : iv_in F' iv_B4 := iv_in_eq hB (fun j hj => hF j (Nat.lt_of_lt_of_le hj (by decide +kernel)))
  have hk := k (sy_cm F' (hd_ov (iv_id 0 iv_B4) [] ++ [])) (fun j hj _ => (hd_keep hB' (Nat.lt_of_lt_of_le hj (by decide +kernel)) (by simp)).trans (hF j (by omega)))
  refine ⟨List.forall_mem_cons.mpr ⟨hd_p5 b13 b70 h0, List.forall_mem_cons.mpr ⟨hd_p1 b6 rfl (by have hc : ((0) : Int32).toInt = 0 := (by decide); omega), fun _ h => absurd h List.not_mem_nil⟩⟩, ?_⟩
  show Q (some (sy_dv F' (.inr (.inl 69)))) _
  rw [b69]
  exact hk
theorem na_12_p2 {Ls : Nat} {xs : Nat → Int32} {d : Nat} {Q : Option Value → jm_h → Prop} (hd : 4 ≤ d) (F : Nat → sy_d) (X1 X2 : List jm_c) (hB : iv_in F iv_B4)
    (h0 : (sy_i F 70).toInt < (sy_i F 13).toInt)
    (h1 : (sy_i F 6).toInt = 0)
    (h2 : 0 ≤ (sy_i F 70).toInt ∧ (sy_i F 70).toInt < 11)
    (h3 : 0 ≤ (sy_i F 69).toInt ∧ (sy_i F 69).toInt < 403)
    (h4 : (lg_cmp ((sy_al F 30).getD (sy_i F 70).toNatClampNeg 0) ((sy_al F 28).getD (sy_i F 69).toNatClampNeg 0)).toInt ≠ 0)
    (k : ∀ F1 : Nat → sy_d, (∀ j, j < 69 → True → F1 j = F j) → F1 69 = .inl (.int (sy_i F 69)) → F1 70 = .inl (.int ((sy_i F 70) + ((1 : Int32)))) → hd_W Ls xs d jm_M155 Q (12, sy_dL F1 [some (.inl (.ref 1000)), some (.inr (.inl 69)), some (.inr (.inl 70))], sy_dS F1 [], sy_dh F1 X1 X2 (iv_H 4), 0, 0)) :
    hd_W Ls xs d jm_M155 Q (12, sy_dL F [some (.inl (.ref 1000)), some (.inr (.inl 69)), some (.inr (.inl 70))], sy_dS F [], sy_dh F X1 X2 (iv_H 4), 0, 0) := by
  refine hd_run (s := 4) (nv := 71) (pc := 12) (L := [some (.inl (.ref 1000)), some (.inr (.inl 69)), some (.inr (.inl 70))]) (S := []) (uh := hd_ov (iv_id 0 iv_B4) []) (ul := [.inl (.inr (.inl 69)), .inl (.inr (.inl 74))]) (f := true) (sp := [12]) (d0 := 3) (O := [false, false, true]) (T := [(30, [.inr (.inl 70)], [.inr (.inr 30)]), (30, [.inr (.inl 69)], [.inr (.inr 28)]), (17, [.inr (.inr 71), .inr (.inr 72)], []), (0, [.inr (.inl 70), .inl (.int 1)], [])]) (P := [(5, .inr (.inl 13), .inr (.inl 70)), (0, .inr (.inl 6), .inl (.int 0)), (6, .inr (.inl 70), .inl (.ref 11)), (6, .inr (.inl 69), .inl (.ref 403)), (1, .inr (.inl 73), .inl (.int 0))]) jm_ok155 (by decide +kernel) (by decide +kernel) hd F X1 X2 (fun F' hF hs => ?_)
  have b13 := hd_b (F := F) (F' := F') (k := 13) (hF 13 (by decide))
  have b70 := hd_b (F := F) (F' := F') (k := 70) (hF 70 (by decide))
  have b6 := hd_b (F := F) (F' := F') (k := 6) (hF 6 (by decide))
  have b69 := hd_b (F := F) (F' := F') (k := 69) (hF 69 (by decide))
  have a30 := hd_bA (F := F) (F' := F') (k := 30) (hF 30 (by decide))
  have t71 : sy_dv F' (.inr (.inr 71)) = .long ((sy_al F 30).getD (sy_i F 70).toNatClampNeg 0) := hd_rL (hs 0 _ rfl) b70 a30
  have a28 := hd_bA (F := F) (F' := F') (k := 28) (hF 28 (by decide))
  have t72 : sy_dv F' (.inr (.inr 72)) = .long ((sy_al F 28).getD (sy_i F 69).toNatClampNeg 0) := hd_rL (hs 1 _ rfl) b69 a28
  have t73 : sy_dv F' (.inr (.inl 73)) = .int (lg_cmp ((sy_al F 30).getD (sy_i F 70).toNatClampNeg 0) ((sy_al F 28).getD (sy_i F 69).toNatClampNeg 0)) := hd_oc (hs 2 _ rfl) t71 t72 rfl
  have t74 : sy_dv F' (.inr (.inl 74)) = .int ((sy_i F 70) + ((1 : Int32))) := hd_o (hs 3 _ rfl) b70 rfl rfl
  have hB' : iv_in F' iv_B4 := iv_in_eq hB (fun j hj => hF j (Nat.lt_of_lt_of_le hj (by decide +kernel)))
  refine ⟨List.forall_mem_cons.mpr ⟨hd_p5 b13 b70 h0, List.forall_mem_cons.mpr ⟨hd_p0 b6 rfl (by have hc : ((0) : Int32).toInt = 0 := (by decide); omega), List.forall_mem_cons.mpr ⟨hd_pb b70 (by first | exact h2 | exact h2), List.forall_mem_cons.mpr ⟨hd_pb b69 (by first | exact h3 | exact h3), List.forall_mem_cons.mpr ⟨hd_p1 t73 rfl (by have hc : ((0) : Int32).toInt = 0 := (by decide); omega), fun _ h => absurd h List.not_mem_nil⟩⟩⟩⟩⟩, ?_⟩
  refine k _ ?_ ?_ ?_
  · exact fun j hj _ => (hd_keep hB' (Nat.lt_of_lt_of_le hj (by decide +kernel)) (by simp)).trans (hF j (by omega))
  · exact hd_gi (x := .inr (.inl 69)) (by decide +kernel) b69
  · exact hd_gi (x := .inr (.inl 74)) (by decide +kernel) t74
theorem na_12_p3 {Ls : Nat} {xs : Nat → Int32} {d : Nat} {Q : Option Value → jm_h → Prop} (hd : 4 ≤ d) (F : Nat → sy_d) (X1 X2 : List jm_c) (hB : iv_in F iv_B4)
    (h0 : (sy_i F 70).toInt < (sy_i F 13).toInt)
    (h1 : (sy_i F 6).toInt = 0)
    (h2 : 0 ≤ (sy_i F 70).toInt ∧ (sy_i F 70).toInt < 11)
    (h3 : 0 ≤ (sy_i F 69).toInt ∧ (sy_i F 69).toInt < 403)
    (h4 : (lg_cmp ((sy_al F 30).getD (sy_i F 70).toNatClampNeg 0) ((sy_al F 28).getD (sy_i F 69).toNatClampNeg 0)).toInt = 0)
    (h5 : 0 ≤ (sy_i F 69).toInt ∧ (sy_i F 69).toInt < 403)
    (h6 : (sy_i F 6).toInt ≤ 0)
    (h7 : (sy_i F 8).toInt = 0)
    (k : ∀ F1 : Nat → sy_d, (∀ j, j < 69 → j ≠ 8 ∧ j ≠ 9 → F1 j = F j) → F1 8 = .inl (.int ((3 : Int32))) → F1 9 = .inl (.int ((sy_ai F 26).getD (sy_i F 69).toNatClampNeg 0)) → F1 69 = .inl (.int (sy_i F 69)) → F1 70 = .inl (.int ((sy_i F 70) + ((1 : Int32)))) → hd_W Ls xs d jm_M155 Q (12, sy_dL F1 [some (.inl (.ref 1000)), some (.inr (.inl 69)), some (.inr (.inl 70))], sy_dS F1 [], sy_dh F1 X1 X2 (iv_H 4), 0, 0)) :
    hd_W Ls xs d jm_M155 Q (12, sy_dL F [some (.inl (.ref 1000)), some (.inr (.inl 69)), some (.inr (.inl 70))], sy_dS F [], sy_dh F X1 X2 (iv_H 4), 0, 0) := by
  refine hd_run (s := 4) (nv := 71) (pc := 12) (L := [some (.inl (.ref 1000)), some (.inr (.inl 69)), some (.inr (.inl 70))]) (S := []) (uh := hd_ov (iv_id 0 iv_B4) [(8, .inl (.inl (.int 3))), (9, .inl (.inr (.inl 74)))]) (ul := [.inl (.inr (.inl 69)), .inl (.inr (.inl 75))]) (f := true) (sp := [12]) (d0 := 3) (O := [false, false, false, false, true]) (T := [(30, [.inr (.inl 70)], [.inr (.inr 30)]), (30, [.inr (.inl 69)], [.inr (.inr 28)]), (17, [.inr (.inr 71), .inr (.inr 72)], []), (30, [.inr (.inl 69)], [.inr (.inl 26)]), (0, [.inr (.inl 70), .inl (.int 1)], [])]) (P := [(5, .inr (.inl 13), .inr (.inl 70)), (0, .inr (.inl 6), .inl (.int 0)), (6, .inr (.inl 70), .inl (.ref 11)), (6, .inr (.inl 69), .inl (.ref 403)), (0, .inr (.inl 73), .inl (.int 0)), (6, .inr (.inl 69), .inl (.ref 403)), (3, .inl (.int 0), .inr (.inl 6)), (0, .inr (.inl 8), .inl (.int 0))]) jm_ok155 (by decide +kernel) (by decide +kernel) hd F X1 X2 (fun F' hF hs => ?_)
  have b13 := hd_b (F := F) (F' := F') (k := 13) (hF 13 (by decide))
  have b70 := hd_b (F := F) (F' := F') (k := 70) (hF 70 (by decide))
  have b6 := hd_b (F := F) (F' := F') (k := 6) (hF 6 (by decide))
  have b69 := hd_b (F := F) (F' := F') (k := 69) (hF 69 (by decide))
  have a30 := hd_bA (F := F) (F' := F') (k := 30) (hF 30 (by decide))
  have t71 : sy_dv F' (.inr (.inr 71)) = .long ((sy_al F 30).getD (sy_i F 70).toNatClampNeg 0) := hd_rL (hs 0 _ rfl) b70 a30
  have a28 := hd_bA (F := F) (F' := F') (k := 28) (hF 28 (by decide))
  have t72 : sy_dv F' (.inr (.inr 72)) = .long ((sy_al F 28).getD (sy_i F 69).toNatClampNeg 0) := hd_rL (hs 1 _ rfl) b69 a28
  have t73 : sy_dv F' (.inr (.inl 73)) = .int (lg_cmp ((sy_al F 30).getD (sy_i F 70).toNatClampNeg 0) ((sy_al F 28).getD (sy_i F 69).toNatClampNeg 0)) := hd_oc (hs 2 _ rfl) t71 t72 rfl
  have b8 := hd_b (F := F) (F' := F') (k := 8) (hF 8 (by decide))
  have a26 := hd_ba (F := F) (F' := F') (k := 26) (hF 26 (by decide))
  have t74 : sy_dv F' (.inr (.inl 74)) = .int ((sy_ai F 26).getD (sy_i F 69).toNatClampNeg 0) := hd_rd (hs 3 _ rfl) b69 a26
  have t75 : sy_dv F' (.inr (.inl 75)) = .int ((sy_i F 70) + ((1 : Int32))) := hd_o (hs 4 _ rfl) b70 rfl rfl
  have hB' : iv_in F' iv_B4 := iv_in_eq hB (fun j hj => hF j (Nat.lt_of_lt_of_le hj (by decide +kernel)))
  refine ⟨List.forall_mem_cons.mpr ⟨hd_p5 b13 b70 h0, List.forall_mem_cons.mpr ⟨hd_p0 b6 rfl (by have hc : ((0) : Int32).toInt = 0 := (by decide); omega), List.forall_mem_cons.mpr ⟨hd_pb b70 (by first | exact h2 | exact h2), List.forall_mem_cons.mpr ⟨hd_pb b69 (by first | exact h3 | exact h3), List.forall_mem_cons.mpr ⟨hd_p0 t73 rfl (by have hc : ((0) : Int32).toInt = 0 := (by decide); omega), List.forall_mem_cons.mpr ⟨hd_pb b69 (by first | exact h5 | exact h5), List.forall_mem_cons.mpr ⟨hd_p3 rfl b6 (by have hc : ((0) : Int32).toInt = 0 := (by decide); omega), List.forall_mem_cons.mpr ⟨hd_p0 b8 rfl (by have hc : ((0) : Int32).toInt = 0 := (by decide); omega), fun _ h => absurd h List.not_mem_nil⟩⟩⟩⟩⟩⟩⟩⟩, ?_⟩
  refine k _ ?_ ?_ ?_ ?_ ?_
  · exact fun j hj hn => (hd_keep hB' (Nat.lt_of_lt_of_le hj (by decide +kernel)) (by simp; omega)).trans (hF j (by omega))
  · exact hd_gi (x := .inl (.int 3)) (by decide +kernel) rfl
  · exact hd_gi (x := .inr (.inl 74)) (by decide +kernel) t74
  · exact hd_gi (x := .inr (.inl 69)) (by decide +kernel) b69
  · exact hd_gi (x := .inr (.inl 75)) (by decide +kernel) t75
theorem na_12_p4 {Ls : Nat} {xs : Nat → Int32} {d : Nat} {Q : Option Value → jm_h → Prop} (hd : 4 ≤ d) (F : Nat → sy_d) (X1 X2 : List jm_c) (hB : iv_in F iv_B4)
    (h0 : (sy_i F 70).toInt < (sy_i F 13).toInt)
    (h1 : (sy_i F 6).toInt = 0)
    (h2 : 0 ≤ (sy_i F 70).toInt ∧ (sy_i F 70).toInt < 11)
    (h3 : 0 ≤ (sy_i F 69).toInt ∧ (sy_i F 69).toInt < 403)
    (h4 : (lg_cmp ((sy_al F 30).getD (sy_i F 70).toNatClampNeg 0) ((sy_al F 28).getD (sy_i F 69).toNatClampNeg 0)).toInt = 0)
    (h5 : 0 ≤ (sy_i F 69).toInt ∧ (sy_i F 69).toInt < 403)
    (h6 : (sy_i F 6).toInt ≤ 0)
    (h7 : (sy_i F 8).toInt ≠ 0)
    (h8 : (sy_i F 9).toInt < ((sy_ai F 26).getD (sy_i F 69).toNatClampNeg 0).toInt)
    (k : ∀ F1 : Nat → sy_d, (∀ j, j < 69 → True → F1 j = F j) → F1 69 = .inl (.int (sy_i F 69)) → F1 70 = .inl (.int ((sy_i F 70) + ((1 : Int32)))) → hd_W Ls xs d jm_M155 Q (12, sy_dL F1 [some (.inl (.ref 1000)), some (.inr (.inl 69)), some (.inr (.inl 70))], sy_dS F1 [], sy_dh F1 X1 X2 (iv_H 4), 0, 0)) :
    hd_W Ls xs d jm_M155 Q (12, sy_dL F [some (.inl (.ref 1000)), some (.inr (.inl 69)), some (.inr (.inl 70))], sy_dS F [], sy_dh F X1 X2 (iv_H 4), 0, 0) := by
  refine hd_run (s := 4) (nv := 71) (pc := 12) (L := [some (.inl (.ref 1000)), some (.inr (.inl 69)), some (.inr (.inl 70))]) (S := []) (uh := hd_ov (iv_id 0 iv_B4) []) (ul := [.inl (.inr (.inl 69)), .inl (.inr (.inl 75))]) (f := true) (sp := [12]) (d0 := 3) (O := [false, false, false, false, false, true]) (T := [(30, [.inr (.inl 70)], [.inr (.inr 30)]), (30, [.inr (.inl 69)], [.inr (.inr 28)]), (17, [.inr (.inr 71), .inr (.inr 72)], []), (30, [.inr (.inl 69)], [.inr (.inl 26)]), (0, [.inr (.inl 70), .inl (.int 1)], [])]) (P := [(5, .inr (.inl 13), .inr (.inl 70)), (0, .inr (.inl 6), .inl (.int 0)), (6, .inr (.inl 70), .inl (.ref 11)), (6, .inr (.inl 69), .inl (.ref 403)), (0, .inr (.inl 73), .inl (.int 0)), (6, .inr (.inl 69), .inl (.ref 403)), (3, .inl (.int 0), .inr (.inl 6)), (1, .inr (.inl 8), .inl (.int 0)), (2, .inr (.inl 9), .inr (.inl 74))]) jm_ok155 (by decide +kernel) (by decide +kernel) hd F X1 X2 (fun F' hF hs => ?_)
  have b13 := hd_b (F := F) (F' := F') (k := 13) (hF 13 (by decide))
  have b70 := hd_b (F := F) (F' := F') (k := 70) (hF 70 (by decide))
  have b6 := hd_b (F := F) (F' := F') (k := 6) (hF 6 (by decide))
  have b69 := hd_b (F := F) (F' := F') (k := 69) (hF 69 (by decide))
  have a30 := hd_bA (F := F) (F' := F') (k := 30) (hF 30 (by decide))
  have t71 : sy_dv F' (.inr (.inr 71)) = .long ((sy_al F 30).getD (sy_i F 70).toNatClampNeg 0) := hd_rL (hs 0 _ rfl) b70 a30
  have a28 := hd_bA (F := F) (F' := F') (k := 28) (hF 28 (by decide))
  have t72 : sy_dv F' (.inr (.inr 72)) = .long ((sy_al F 28).getD (sy_i F 69).toNatClampNeg 0) := hd_rL (hs 1 _ rfl) b69 a28
  have t73 : sy_dv F' (.inr (.inl 73)) = .int (lg_cmp ((sy_al F 30).getD (sy_i F 70).toNatClampNeg 0) ((sy_al F 28).getD (sy_i F 69).toNatClampNeg 0)) := hd_oc (hs 2 _ rfl) t71 t72 rfl
  have b8 := hd_b (F := F) (F' := F') (k := 8) (hF 8 (by decide))
  have b9 := hd_b (F := F) (F' := F') (k := 9) (hF 9 (by decide))
  have a26 := hd_ba (F := F) (F' := F') (k := 26) (hF 26 (by decide))
  have t74 : sy_dv F' (.inr (.inl 74)) = .int ((sy_ai F 26).getD (sy_i F 69).toNatClampNeg 0) := hd_rd (hs 3 _ rfl) b69 a26
  have t75 : sy_dv F' (.inr (.inl 75)) = .int ((sy_i F 70) + ((1 : Int32))) := hd_o (hs 4 _ rfl) b70 rfl rfl
  have hB' : iv_in F' iv_B4 := iv_in_eq hB (fun j hj => hF j (Nat.lt_of_lt_of_le hj (by decide +kernel)))
  refine ⟨List.forall_mem_cons.mpr ⟨hd_p5 b13 b70 h0, List.forall_mem_cons.mpr ⟨hd_p0 b6 rfl (by have hc : ((0) : Int32).toInt = 0 := (by decide); omega), List.forall_mem_cons.mpr ⟨hd_pb b70 (by first | exact h2 | exact h2), List.forall_mem_cons.mpr ⟨hd_pb b69 (by first | exact h3 | exact h3), List.forall_mem_cons.mpr ⟨hd_p0 t73 rfl (by have hc : ((0) : Int32).toInt = 0 := (by decide); omega), List.forall_mem_cons.mpr ⟨hd_pb b69 (by first | exact h5 | exact h5), List.forall_mem_cons.mpr ⟨hd_p3 rfl b6 (by have hc : ((0) : Int32).toInt = 0 := (by decide); omega), List.forall_mem_cons.mpr ⟨hd_p1 b8 rfl (by have hc : ((0) : Int32).toInt = 0 := (by decide); omega), List.forall_mem_cons.mpr ⟨hd_p2 b9 t74 h8, fun _ h => absurd h List.not_mem_nil⟩⟩⟩⟩⟩⟩⟩⟩⟩, ?_⟩
  refine k _ ?_ ?_ ?_
  · exact fun j hj _ => (hd_keep hB' (Nat.lt_of_lt_of_le hj (by decide +kernel)) (by simp)).trans (hF j (by omega))
  · exact hd_gi (x := .inr (.inl 69)) (by decide +kernel) b69
  · exact hd_gi (x := .inr (.inl 75)) (by decide +kernel) t75
theorem na_12_p5 {Ls : Nat} {xs : Nat → Int32} {d : Nat} {Q : Option Value → jm_h → Prop} (hd : 4 ≤ d) (F : Nat → sy_d) (X1 X2 : List jm_c) (hB : iv_in F iv_B4)
    (h0 : (sy_i F 70).toInt < (sy_i F 13).toInt)
    (h1 : (sy_i F 6).toInt = 0)
    (h2 : 0 ≤ (sy_i F 70).toInt ∧ (sy_i F 70).toInt < 11)
    (h3 : 0 ≤ (sy_i F 69).toInt ∧ (sy_i F 69).toInt < 403)
    (h4 : (lg_cmp ((sy_al F 30).getD (sy_i F 70).toNatClampNeg 0) ((sy_al F 28).getD (sy_i F 69).toNatClampNeg 0)).toInt = 0)
    (h5 : 0 ≤ (sy_i F 69).toInt ∧ (sy_i F 69).toInt < 403)
    (h6 : (sy_i F 6).toInt ≤ 0)
    (h7 : (sy_i F 8).toInt ≠ 0)
    (h8 : ((sy_ai F 26).getD (sy_i F 69).toNatClampNeg 0).toInt ≤ (sy_i F 9).toInt)
    (h9 : ((sy_ai F 26).getD (sy_i F 69).toNatClampNeg 0).toInt ≠ (sy_i F 9).toInt)
    (k : ∀ F1 : Nat → sy_d, (∀ j, j < 69 → j ≠ 8 ∧ j ≠ 9 → F1 j = F j) → F1 8 = .inl (.int ((3 : Int32))) → F1 9 = .inl (.int ((sy_ai F 26).getD (sy_i F 69).toNatClampNeg 0)) → F1 69 = .inl (.int (sy_i F 69)) → F1 70 = .inl (.int ((sy_i F 70) + ((1 : Int32)))) → hd_W Ls xs d jm_M155 Q (12, sy_dL F1 [some (.inl (.ref 1000)), some (.inr (.inl 69)), some (.inr (.inl 70))], sy_dS F1 [], sy_dh F1 X1 X2 (iv_H 4), 0, 0)) :
    hd_W Ls xs d jm_M155 Q (12, sy_dL F [some (.inl (.ref 1000)), some (.inr (.inl 69)), some (.inr (.inl 70))], sy_dS F [], sy_dh F X1 X2 (iv_H 4), 0, 0) := by
  refine hd_run (s := 4) (nv := 71) (pc := 12) (L := [some (.inl (.ref 1000)), some (.inr (.inl 69)), some (.inr (.inl 70))]) (S := []) (uh := hd_ov (iv_id 0 iv_B4) [(8, .inl (.inl (.int 3))), (9, .inl (.inr (.inl 74)))]) (ul := [.inl (.inr (.inl 69)), .inl (.inr (.inl 75))]) (f := true) (sp := [12]) (d0 := 3) (O := [false, false, false, false, false, false, true]) (T := [(30, [.inr (.inl 70)], [.inr (.inr 30)]), (30, [.inr (.inl 69)], [.inr (.inr 28)]), (17, [.inr (.inr 71), .inr (.inr 72)], []), (30, [.inr (.inl 69)], [.inr (.inl 26)]), (0, [.inr (.inl 70), .inl (.int 1)], [])]) (P := [(5, .inr (.inl 13), .inr (.inl 70)), (0, .inr (.inl 6), .inl (.int 0)), (6, .inr (.inl 70), .inl (.ref 11)), (6, .inr (.inl 69), .inl (.ref 403)), (0, .inr (.inl 73), .inl (.int 0)), (6, .inr (.inl 69), .inl (.ref 403)), (3, .inl (.int 0), .inr (.inl 6)), (1, .inr (.inl 8), .inl (.int 0)), (3, .inr (.inl 9), .inr (.inl 74)), (1, .inr (.inl 74), .inr (.inl 9))]) jm_ok155 (by decide +kernel) (by decide +kernel) hd F X1 X2 (fun F' hF hs => ?_)
  have b13 := hd_b (F := F) (F' := F') (k := 13) (hF 13 (by decide))
  have b70 := hd_b (F := F) (F' := F') (k := 70) (hF 70 (by decide))
  have b6 := hd_b (F := F) (F' := F') (k := 6) (hF 6 (by decide))
  have b69 := hd_b (F := F) (F' := F') (k := 69) (hF 69 (by decide))
  have a30 := hd_bA (F := F) (F' := F') (k := 30) (hF 30 (by decide))
  have t71 : sy_dv F' (.inr (.inr 71)) = .long ((sy_al F 30).getD (sy_i F 70).toNatClampNeg 0) := hd_rL (hs 0 _ rfl) b70 a30
  have a28 := hd_bA (F := F) (F' := F') (k := 28) (hF 28 (by decide))
  have t72 : sy_dv F' (.inr (.inr 72)) = .long ((sy_al F 28).getD (sy_i F 69).toNatClampNeg 0) := hd_rL (hs 1 _ rfl) b69 a28
  have t73 : sy_dv F' (.inr (.inl 73)) = .int (lg_cmp ((sy_al F 30).getD (sy_i F 70).toNatClampNeg 0) ((sy_al F 28).getD (sy_i F 69).toNatClampNeg 0)) := hd_oc (hs 2 _ rfl) t71 t72 rfl
  have b8 := hd_b (F := F) (F' := F') (k := 8) (hF 8 (by decide))
  have b9 := hd_b (F := F) (F' := F') (k := 9) (hF 9 (by decide))
  have a26 := hd_ba (F := F) (F' := F') (k := 26) (hF 26 (by decide))
  have t74 : sy_dv F' (.inr (.inl 74)) = .int ((sy_ai F 26).getD (sy_i F 69).toNatClampNeg 0) := hd_rd (hs 3 _ rfl) b69 a26
  have t75 : sy_dv F' (.inr (.inl 75)) = .int ((sy_i F 70) + ((1 : Int32))) := hd_o (hs 4 _ rfl) b70 rfl rfl
  have hB' : iv_in F' iv_B4 := iv_in_eq hB (fun j hj => hF j (Nat.lt_of_lt_of_le hj (by decide +kernel)))
  refine ⟨List.forall_mem_cons.mpr ⟨hd_p5 b13 b70 h0, List.forall_mem_cons.mpr ⟨hd_p0 b6 rfl (by have hc : ((0) : Int32).toInt = 0 := (by decide); omega), List.forall_mem_cons.mpr ⟨hd_pb b70 (by first | exact h2 | exact h2), List.forall_mem_cons.mpr ⟨hd_pb b69 (by first | exact h3 | exact h3), List.forall_mem_cons.mpr ⟨hd_p0 t73 rfl (by have hc : ((0) : Int32).toInt = 0 := (by decide); omega), List.forall_mem_cons.mpr ⟨hd_pb b69 (by first | exact h5 | exact h5), List.forall_mem_cons.mpr ⟨hd_p3 rfl b6 (by have hc : ((0) : Int32).toInt = 0 := (by decide); omega), List.forall_mem_cons.mpr ⟨hd_p1 b8 rfl (by have hc : ((0) : Int32).toInt = 0 := (by decide); omega), List.forall_mem_cons.mpr ⟨hd_p3 b9 t74 h8, List.forall_mem_cons.mpr ⟨hd_p1 t74 b9 h9, fun _ h => absurd h List.not_mem_nil⟩⟩⟩⟩⟩⟩⟩⟩⟩⟩, ?_⟩
  refine k _ ?_ ?_ ?_ ?_ ?_
  · exact fun j hj hn => (hd_keep hB' (Nat.lt_of_lt_of_le hj (by decide +kernel)) (by simp; omega)).trans (hF j (by omega))
  · exact hd_gi (x := .inl (.int 3)) (by decide +kernel) rfl
  · exact hd_gi (x := .inr (.inl 74)) (by decide +kernel) t74
  · exact hd_gi (x := .inr (.inl 69)) (by decide +kernel) b69
  · exact hd_gi (x := .inr (.inl 75)) (by decide +kernel) t75
theorem na_12_p6 {Ls : Nat} {xs : Nat → Int32} {d : Nat} {Q : Option Value → jm_h → Prop} (hd : 4 ≤ d) (F : Nat → sy_d) (X1 X2 : List jm_c) (hB : iv_in F iv_B4)
    (h0 : (sy_i F 70).toInt < (sy_i F 13).toInt)
    (h1 : (sy_i F 6).toInt = 0)
    (h2 : 0 ≤ (sy_i F 70).toInt ∧ (sy_i F 70).toInt < 11)
    (h3 : 0 ≤ (sy_i F 69).toInt ∧ (sy_i F 69).toInt < 403)
    (h4 : (lg_cmp ((sy_al F 30).getD (sy_i F 70).toNatClampNeg 0) ((sy_al F 28).getD (sy_i F 69).toNatClampNeg 0)).toInt = 0)
    (h5 : 0 ≤ (sy_i F 69).toInt ∧ (sy_i F 69).toInt < 403)
    (h6 : (sy_i F 6).toInt ≤ 0)
    (h7 : (sy_i F 8).toInt ≠ 0)
    (h8 : ((sy_ai F 26).getD (sy_i F 69).toNatClampNeg 0).toInt ≤ (sy_i F 9).toInt)
    (h9 : ((sy_ai F 26).getD (sy_i F 69).toNatClampNeg 0).toInt = (sy_i F 9).toInt)
    (h10 : 3 < (sy_i F 8).toInt)
    (k : ∀ F1 : Nat → sy_d, (∀ j, j < 69 → j ≠ 8 ∧ j ≠ 9 → F1 j = F j) → F1 8 = .inl (.int ((3 : Int32))) → F1 9 = .inl (.int ((sy_ai F 26).getD (sy_i F 69).toNatClampNeg 0)) → F1 69 = .inl (.int (sy_i F 69)) → F1 70 = .inl (.int ((sy_i F 70) + ((1 : Int32)))) → hd_W Ls xs d jm_M155 Q (12, sy_dL F1 [some (.inl (.ref 1000)), some (.inr (.inl 69)), some (.inr (.inl 70))], sy_dS F1 [], sy_dh F1 X1 X2 (iv_H 4), 0, 0)) :
    hd_W Ls xs d jm_M155 Q (12, sy_dL F [some (.inl (.ref 1000)), some (.inr (.inl 69)), some (.inr (.inl 70))], sy_dS F [], sy_dh F X1 X2 (iv_H 4), 0, 0) := by
  refine hd_run (s := 4) (nv := 71) (pc := 12) (L := [some (.inl (.ref 1000)), some (.inr (.inl 69)), some (.inr (.inl 70))]) (S := []) (uh := hd_ov (iv_id 0 iv_B4) [(8, .inl (.inl (.int 3))), (9, .inl (.inr (.inl 74)))]) (ul := [.inl (.inr (.inl 69)), .inl (.inr (.inl 75))]) (f := true) (sp := [12]) (d0 := 3) (O := [false, false, false, false, false, false, false, true]) (T := [(30, [.inr (.inl 70)], [.inr (.inr 30)]), (30, [.inr (.inl 69)], [.inr (.inr 28)]), (17, [.inr (.inr 71), .inr (.inr 72)], []), (30, [.inr (.inl 69)], [.inr (.inl 26)]), (0, [.inr (.inl 70), .inl (.int 1)], [])]) (P := [(5, .inr (.inl 13), .inr (.inl 70)), (0, .inr (.inl 6), .inl (.int 0)), (6, .inr (.inl 70), .inl (.ref 11)), (6, .inr (.inl 69), .inl (.ref 403)), (0, .inr (.inl 73), .inl (.int 0)), (6, .inr (.inl 69), .inl (.ref 403)), (3, .inl (.int 0), .inr (.inl 6)), (1, .inr (.inl 8), .inl (.int 0)), (3, .inr (.inl 9), .inr (.inl 74)), (0, .inr (.inl 74), .inr (.inl 9)), (2, .inl (.int 3), .inr (.inl 8))]) jm_ok155 (by decide +kernel) (by decide +kernel) hd F X1 X2 (fun F' hF hs => ?_)
  have b13 := hd_b (F := F) (F' := F') (k := 13) (hF 13 (by decide))
  have b70 := hd_b (F := F) (F' := F') (k := 70) (hF 70 (by decide))
  have b6 := hd_b (F := F) (F' := F') (k := 6) (hF 6 (by decide))
  have b69 := hd_b (F := F) (F' := F') (k := 69) (hF 69 (by decide))
  have a30 := hd_bA (F := F) (F' := F') (k := 30) (hF 30 (by decide))
  have t71 : sy_dv F' (.inr (.inr 71)) = .long ((sy_al F 30).getD (sy_i F 70).toNatClampNeg 0) := hd_rL (hs 0 _ rfl) b70 a30
  have a28 := hd_bA (F := F) (F' := F') (k := 28) (hF 28 (by decide))
  have t72 : sy_dv F' (.inr (.inr 72)) = .long ((sy_al F 28).getD (sy_i F 69).toNatClampNeg 0) := hd_rL (hs 1 _ rfl) b69 a28
  have t73 : sy_dv F' (.inr (.inl 73)) = .int (lg_cmp ((sy_al F 30).getD (sy_i F 70).toNatClampNeg 0) ((sy_al F 28).getD (sy_i F 69).toNatClampNeg 0)) := hd_oc (hs 2 _ rfl) t71 t72 rfl
  have b8 := hd_b (F := F) (F' := F') (k := 8) (hF 8 (by decide))
  have b9 := hd_b (F := F) (F' := F') (k := 9) (hF 9 (by decide))
  have a26 := hd_ba (F := F) (F' := F') (k := 26) (hF 26 (by decide))
  have t74 : sy_dv F' (.inr (.inl 74)) = .int ((sy_ai F 26).getD (sy_i F 69).toNatClampNeg 0) := hd_rd (hs 3 _ rfl) b69 a26
  have t75 : sy_dv F' (.inr (.inl 75)) = .int ((sy_i F 70) + ((1 : Int32))) := hd_o (hs 4 _ rfl) b70 rfl rfl
  have hB' : iv_in F' iv_B4 := iv_in_eq hB (fun j hj => hF j (Nat.lt_of_lt_of_le hj (by decide +kernel)))
  refine ⟨List.forall_mem_cons.mpr ⟨hd_p5 b13 b70 h0, List.forall_mem_cons.mpr ⟨hd_p0 b6 rfl (by have hc : ((0) : Int32).toInt = 0 := (by decide); omega), List.forall_mem_cons.mpr ⟨hd_pb b70 (by first | exact h2 | exact h2), List.forall_mem_cons.mpr ⟨hd_pb b69 (by first | exact h3 | exact h3), List.forall_mem_cons.mpr ⟨hd_p0 t73 rfl (by have hc : ((0) : Int32).toInt = 0 := (by decide); omega), List.forall_mem_cons.mpr ⟨hd_pb b69 (by first | exact h5 | exact h5), List.forall_mem_cons.mpr ⟨hd_p3 rfl b6 (by have hc : ((0) : Int32).toInt = 0 := (by decide); omega), List.forall_mem_cons.mpr ⟨hd_p1 b8 rfl (by have hc : ((0) : Int32).toInt = 0 := (by decide); omega), List.forall_mem_cons.mpr ⟨hd_p3 b9 t74 h8, List.forall_mem_cons.mpr ⟨hd_p0 t74 b9 h9, List.forall_mem_cons.mpr ⟨hd_p2 rfl b8 (by have hc : ((3) : Int32).toInt = 3 := (by decide); omega), fun _ h => absurd h List.not_mem_nil⟩⟩⟩⟩⟩⟩⟩⟩⟩⟩⟩, ?_⟩
  refine k _ ?_ ?_ ?_ ?_ ?_
  · exact fun j hj hn => (hd_keep hB' (Nat.lt_of_lt_of_le hj (by decide +kernel)) (by simp; omega)).trans (hF j (by omega))
  · exact hd_gi (x := .inl (.int 3)) (by decide +kernel) rfl
  · exact hd_gi (x := .inr (.inl 74)) (by decide +kernel) t74
  · exact hd_gi (x := .inr (.inl 69)) (by decide +kernel) b69
  · exact hd_gi (x := .inr (.inl 75)) (by decide +kernel) t75
theorem na_12_p7 {Ls : Nat} {xs : Nat → Int32} {d : Nat} {Q : Option Value → jm_h → Prop} (hd : 4 ≤ d) (F : Nat → sy_d) (X1 X2 : List jm_c) (hB : iv_in F iv_B4)
    (h0 : (sy_i F 70).toInt < (sy_i F 13).toInt)
    (h1 : (sy_i F 6).toInt = 0)
    (h2 : 0 ≤ (sy_i F 70).toInt ∧ (sy_i F 70).toInt < 11)
    (h3 : 0 ≤ (sy_i F 69).toInt ∧ (sy_i F 69).toInt < 403)
    (h4 : (lg_cmp ((sy_al F 30).getD (sy_i F 70).toNatClampNeg 0) ((sy_al F 28).getD (sy_i F 69).toNatClampNeg 0)).toInt = 0)
    (h5 : 0 ≤ (sy_i F 69).toInt ∧ (sy_i F 69).toInt < 403)
    (h6 : (sy_i F 6).toInt ≤ 0)
    (h7 : (sy_i F 8).toInt ≠ 0)
    (h8 : ((sy_ai F 26).getD (sy_i F 69).toNatClampNeg 0).toInt ≤ (sy_i F 9).toInt)
    (h9 : ((sy_ai F 26).getD (sy_i F 69).toNatClampNeg 0).toInt = (sy_i F 9).toInt)
    (h10 : (sy_i F 8).toInt ≤ 3)
    (k : ∀ F1 : Nat → sy_d, (∀ j, j < 69 → True → F1 j = F j) → F1 69 = .inl (.int (sy_i F 69)) → F1 70 = .inl (.int ((sy_i F 70) + ((1 : Int32)))) → hd_W Ls xs d jm_M155 Q (12, sy_dL F1 [some (.inl (.ref 1000)), some (.inr (.inl 69)), some (.inr (.inl 70))], sy_dS F1 [], sy_dh F1 X1 X2 (iv_H 4), 0, 0)) :
    hd_W Ls xs d jm_M155 Q (12, sy_dL F [some (.inl (.ref 1000)), some (.inr (.inl 69)), some (.inr (.inl 70))], sy_dS F [], sy_dh F X1 X2 (iv_H 4), 0, 0) := by
  refine hd_run (s := 4) (nv := 71) (pc := 12) (L := [some (.inl (.ref 1000)), some (.inr (.inl 69)), some (.inr (.inl 70))]) (S := []) (uh := hd_ov (iv_id 0 iv_B4) []) (ul := [.inl (.inr (.inl 69)), .inl (.inr (.inl 75))]) (f := true) (sp := [12]) (d0 := 3) (O := [false, false, false, false, false, false, false, false]) (T := [(30, [.inr (.inl 70)], [.inr (.inr 30)]), (30, [.inr (.inl 69)], [.inr (.inr 28)]), (17, [.inr (.inr 71), .inr (.inr 72)], []), (30, [.inr (.inl 69)], [.inr (.inl 26)]), (0, [.inr (.inl 70), .inl (.int 1)], [])]) (P := [(5, .inr (.inl 13), .inr (.inl 70)), (0, .inr (.inl 6), .inl (.int 0)), (6, .inr (.inl 70), .inl (.ref 11)), (6, .inr (.inl 69), .inl (.ref 403)), (0, .inr (.inl 73), .inl (.int 0)), (6, .inr (.inl 69), .inl (.ref 403)), (3, .inl (.int 0), .inr (.inl 6)), (1, .inr (.inl 8), .inl (.int 0)), (3, .inr (.inl 9), .inr (.inl 74)), (0, .inr (.inl 74), .inr (.inl 9)), (3, .inl (.int 3), .inr (.inl 8))]) jm_ok155 (by decide +kernel) (by decide +kernel) hd F X1 X2 (fun F' hF hs => ?_)
  have b13 := hd_b (F := F) (F' := F') (k := 13) (hF 13 (by decide))
  have b70 := hd_b (F := F) (F' := F') (k := 70) (hF 70 (by decide))
  have b6 := hd_b (F := F) (F' := F') (k := 6) (hF 6 (by decide))
  have b69 := hd_b (F := F) (F' := F') (k := 69) (hF 69 (by decide))
  have a30 := hd_bA (F := F) (F' := F') (k := 30) (hF 30 (by decide))
  have t71 : sy_dv F' (.inr (.inr 71)) = .long ((sy_al F 30).getD (sy_i F 70).toNatClampNeg 0) := hd_rL (hs 0 _ rfl) b70 a30
  have a28 := hd_bA (F := F) (F' := F') (k := 28) (hF 28 (by decide))
  have t72 : sy_dv F' (.inr (.inr 72)) = .long ((sy_al F 28).getD (sy_i F 69).toNatClampNeg 0) := hd_rL (hs 1 _ rfl) b69 a28
  have t73 : sy_dv F' (.inr (.inl 73)) = .int (lg_cmp ((sy_al F 30).getD (sy_i F 70).toNatClampNeg 0) ((sy_al F 28).getD (sy_i F 69).toNatClampNeg 0)) := hd_oc (hs 2 _ rfl) t71 t72 rfl
  have b8 := hd_b (F := F) (F' := F') (k := 8) (hF 8 (by decide))
  have b9 := hd_b (F := F) (F' := F') (k := 9) (hF 9 (by decide))
  have a26 := hd_ba (F := F) (F' := F') (k := 26) (hF 26 (by decide))
  have t74 : sy_dv F' (.inr (.inl 74)) = .int ((sy_ai F 26).getD (sy_i F 69).toNatClampNeg 0) := hd_rd (hs 3 _ rfl) b69 a26
  have t75 : sy_dv F' (.inr (.inl 75)) = .int ((sy_i F 70) + ((1 : Int32))) := hd_o (hs 4 _ rfl) b70 rfl rfl
  have hB' : iv_in F' iv_B4 := iv_in_eq hB (fun j hj => hF j (Nat.lt_of_lt_of_le hj (by decide +kernel)))
  refine ⟨List.forall_mem_cons.mpr ⟨hd_p5 b13 b70 h0, List.forall_mem_cons.mpr ⟨hd_p0 b6 rfl (by have hc : ((0) : Int32).toInt = 0 := (by decide); omega), List.forall_mem_cons.mpr ⟨hd_pb b70 (by first | exact h2 | exact h2), List.forall_mem_cons.mpr ⟨hd_pb b69 (by first | exact h3 | exact h3), List.forall_mem_cons.mpr ⟨hd_p0 t73 rfl (by have hc : ((0) : Int32).toInt = 0 := (by decide); omega), List.forall_mem_cons.mpr ⟨hd_pb b69 (by first | exact h5 | exact h5), List.forall_mem_cons.mpr ⟨hd_p3 rfl b6 (by have hc : ((0) : Int32).toInt = 0 := (by decide); omega), List.forall_mem_cons.mpr ⟨hd_p1 b8 rfl (by have hc : ((0) : Int32).toInt = 0 := (by decide); omega), List.forall_mem_cons.mpr ⟨hd_p3 b9 t74 h8, List.forall_mem_cons.mpr ⟨hd_p0 t74 b9 h9, List.forall_mem_cons.mpr ⟨hd_p3 rfl b8 (by have hc : ((3) : Int32).toInt = 3 := (by decide); omega), fun _ h => absurd h List.not_mem_nil⟩⟩⟩⟩⟩⟩⟩⟩⟩⟩⟩, ?_⟩
  refine k _ ?_ ?_ ?_
  · exact fun j hj _ => (hd_keep hB' (Nat.lt_of_lt_of_le hj (by decide +kernel)) (by simp)).trans (hF j (by omega))
  · exact hd_gi (x := .inr (.inl 69)) (by decide +kernel) b69
  · exact hd_gi (x := .inr (.inl 75)) (by decide +kernel) t75
theorem en_0_p0 {Ls : Nat} {xs : Nat → Int32} {d : Nat} {Q : Option Value → jm_h → Prop} (hd : 4 ≤ d) (F : Nat → sy_d) (X1 X2 : List jm_c) (hB : iv_in F iv_B4)
    (h0 : (sy_i F 6).toInt ≠ 0)
    (h1 : 0 < (sy_i F 6).toInt)
    (h2 : 0 < (sy_i F 6).toInt)
    (k : ∀ F1 : Nat → sy_d, (∀ j, j < 69 → True → F1 j = F j) → Q (none) (sy_dh F1 X1 X2 (iv_H 4))) :
    hd_W Ls xs d jm_M156 Q (0, sy_dL F [some (.inl (.ref 1000)), some (.inr (.inl 69))], sy_dS F [], sy_dh F X1 X2 (iv_H 4), 0, 0) := by
  refine hd_ret (s := 4) (nv := 70) (v := none) (uh := hd_ov (iv_id 0 iv_B4) []) (f := true) (sp := []) (d0 := 3) (O := [true, false, false]) (T := []) (P := [(1, .inr (.inl 6), .inl (.int 0)), (5, .inr (.inl 6), .inl (.int 0)), (5, .inr (.inl 6), .inl (.int 0))]) jm_ok156 (by decide +kernel) (by decide +kernel) hd F X1 X2 (fun F' hF hs => ?_)
  have b6 := hd_b (F := F) (F' := F') (k := 6) (hF 6 (by decide))
  have hB' : iv_in F' iv_B4 := iv_in_eq hB (fun j hj => hF j (Nat.lt_of_lt_of_le hj (by decide +kernel)))
  refine ⟨List.forall_mem_cons.mpr ⟨hd_p1 b6 rfl (by have hc : ((0) : Int32).toInt = 0 := (by decide); omega), List.forall_mem_cons.mpr ⟨hd_p5 b6 rfl (by have hc : ((0) : Int32).toInt = 0 := (by decide); omega), List.forall_mem_cons.mpr ⟨hd_p5 b6 rfl (by have hc : ((0) : Int32).toInt = 0 := (by decide); omega), fun _ h => absurd h List.not_mem_nil⟩⟩⟩, ?_⟩
  refine k _ ?_
  · exact fun j hj _ => (hd_keep hB' (Nat.lt_of_lt_of_le hj (by decide +kernel)) (by simp)).trans (hF j (by omega))
theorem en_0_p1 {Ls : Nat} {xs : Nat → Int32} {d : Nat} {Q : Option Value → jm_h → Prop} (hd : 4 ≤ d) (F : Nat → sy_d) (X1 X2 : List jm_c) (hB : iv_in F iv_B4)
    (h0 : (sy_i F 6).toInt = 0)
    (h1 : 0 ≤ (sy_i F 4).toInt ∧ (sy_i F 4).toInt < 403)
    (h2 : ((sy_ai F 25).getD (sy_i F 4).toNatClampNeg 0).toInt ≠ 4)
    (h3 : (sy_i F 6).toInt ≤ 0)
    (h4 : 0 ≤ (sy_i F 4).toInt ∧ (sy_i F 4).toInt < 403)
    (k : ∀ F1 : Nat → sy_d, (∀ j, j < 69 → j ≠ 6 ∧ j ≠ 7 → F1 j = F j) → F1 6 = .inl (.int ((1 : Int32))) → F1 7 = .inl (.int ((sy_ai F 26).getD (sy_i F 4).toNatClampNeg 0)) → Q (none) (sy_dh F1 X1 X2 (iv_H 4))) :
    hd_W Ls xs d jm_M156 Q (0, sy_dL F [some (.inl (.ref 1000)), some (.inr (.inl 69))], sy_dS F [], sy_dh F X1 X2 (iv_H 4), 0, 0) := by
  refine hd_ret (s := 4) (nv := 70) (v := none) (uh := hd_ov (iv_id 0 iv_B4) [(6, .inl (.inl (.int 1))), (7, .inl (.inr (.inl 71)))]) (f := true) (sp := []) (d0 := 3) (O := [false, true, true]) (T := [(30, [.inr (.inl 4)], [.inr (.inl 25)]), (30, [.inr (.inl 4)], [.inr (.inl 26)])]) (P := [(0, .inr (.inl 6), .inl (.int 0)), (6, .inr (.inl 4), .inl (.ref 403)), (1, .inr (.inl 70), .inl (.int 4)), (4, .inr (.inl 6), .inl (.int 0)), (6, .inr (.inl 4), .inl (.ref 403))]) jm_ok156 (by decide +kernel) (by decide +kernel) hd F X1 X2 (fun F' hF hs => ?_)
  have b6 := hd_b (F := F) (F' := F') (k := 6) (hF 6 (by decide))
  have b4 := hd_b (F := F) (F' := F') (k := 4) (hF 4 (by decide))
  have a25 := hd_ba (F := F) (F' := F') (k := 25) (hF 25 (by decide))
  have t70 : sy_dv F' (.inr (.inl 70)) = .int ((sy_ai F 25).getD (sy_i F 4).toNatClampNeg 0) := hd_rd (hs 0 _ rfl) b4 a25
  have a26 := hd_ba (F := F) (F' := F') (k := 26) (hF 26 (by decide))
  have t71 : sy_dv F' (.inr (.inl 71)) = .int ((sy_ai F 26).getD (sy_i F 4).toNatClampNeg 0) := hd_rd (hs 1 _ rfl) b4 a26
  have hB' : iv_in F' iv_B4 := iv_in_eq hB (fun j hj => hF j (Nat.lt_of_lt_of_le hj (by decide +kernel)))
  refine ⟨List.forall_mem_cons.mpr ⟨hd_p0 b6 rfl (by have hc : ((0) : Int32).toInt = 0 := (by decide); omega), List.forall_mem_cons.mpr ⟨hd_pb b4 (by first | exact h1 | exact h1), List.forall_mem_cons.mpr ⟨hd_p1 t70 rfl (by have hc : ((4) : Int32).toInt = 4 := (by decide); omega), List.forall_mem_cons.mpr ⟨hd_p4 b6 rfl (by have hc : ((0) : Int32).toInt = 0 := (by decide); omega), List.forall_mem_cons.mpr ⟨hd_pb b4 (by first | exact h4 | exact h4), fun _ h => absurd h List.not_mem_nil⟩⟩⟩⟩⟩, ?_⟩
  refine k _ ?_ ?_ ?_
  · exact fun j hj hn => (hd_keep hB' (Nat.lt_of_lt_of_le hj (by decide +kernel)) (by simp; omega)).trans (hF j (by omega))
  · exact hd_gi (x := .inl (.int 1)) (by decide +kernel) rfl
  · exact hd_gi (x := .inr (.inl 71)) (by decide +kernel) t71
theorem en_0_p2 {Ls : Nat} {xs : Nat → Int32} {d : Nat} {Q : Option Value → jm_h → Prop} (hd : 4 ≤ d) (F : Nat → sy_d) (X1 X2 : List jm_c) (hB : iv_in F iv_B4)
    (h0 : (sy_i F 6).toInt = 0)
    (h1 : 0 ≤ (sy_i F 4).toInt ∧ (sy_i F 4).toInt < 403)
    (h2 : ((sy_ai F 25).getD (sy_i F 4).toNatClampNeg 0).toInt = 4)
    (h3 : (sy_i F 4).toInt ≠ 400)
    (h4 : (sy_i F 6).toInt ≤ 0)
    (h5 : 0 ≤ (sy_i F 69).toInt ∧ (sy_i F 69).toInt < 403)
    (h6 : 0 ≤ (sy_i F 13).toInt ∧ (sy_i F 13).toInt < 11)
    (k : ∀ F1 : Nat → sy_d, (∀ j, j < 69 → j ≠ 4 ∧ j ≠ 13 ∧ j ≠ 30 → F1 j = F j) → F1 4 = .inl (.int ((sy_i F 4) + ((1 : Int32)))) → F1 13 = .inl (.int ((sy_i F 13) + ((1 : Int32)))) → F1 30 = .inr (.inr (jm_updL (sy_al F 30) (sy_i F 13).toNatClampNeg ((sy_al F 28).getD (sy_i F 69).toNatClampNeg 0))) → Q (none) (sy_dh F1 X1 X2 (iv_H 4))) :
    hd_W Ls xs d jm_M156 Q (0, sy_dL F [some (.inl (.ref 1000)), some (.inr (.inl 69))], sy_dS F [], sy_dh F X1 X2 (iv_H 4), 0, 0) := by
  refine hd_ret (s := 4) (nv := 70) (v := none) (uh := hd_ov (iv_id 0 iv_B4) [(4, .inl (.inr (.inl 71))), (13, .inl (.inr (.inl 74))), (30, .inr (.inr (.inr 73)))]) (f := true) (sp := []) (d0 := 3) (O := [false, false, true, true]) (T := [(30, [.inr (.inl 4)], [.inr (.inl 25)]), (0, [.inr (.inl 4), .inl (.int 1)], []), (30, [.inr (.inl 69)], [.inr (.inr 28)]), (40, [.inr (.inl 13), .inr (.inr 72)], [.inr (.inr 30)]), (0, [.inr (.inl 13), .inl (.int 1)], [])]) (P := [(0, .inr (.inl 6), .inl (.int 0)), (6, .inr (.inl 4), .inl (.ref 403)), (0, .inr (.inl 70), .inl (.int 4)), (1, .inr (.inl 4), .inl (.int 400)), (4, .inr (.inl 6), .inl (.int 0)), (6, .inr (.inl 69), .inl (.ref 403)), (6, .inr (.inl 13), .inl (.ref 11))]) jm_ok156 (by decide +kernel) (by decide +kernel) hd F X1 X2 (fun F' hF hs => ?_)
  have b6 := hd_b (F := F) (F' := F') (k := 6) (hF 6 (by decide))
  have b4 := hd_b (F := F) (F' := F') (k := 4) (hF 4 (by decide))
  have a25 := hd_ba (F := F) (F' := F') (k := 25) (hF 25 (by decide))
  have t70 : sy_dv F' (.inr (.inl 70)) = .int ((sy_ai F 25).getD (sy_i F 4).toNatClampNeg 0) := hd_rd (hs 0 _ rfl) b4 a25
  have b69 := hd_b (F := F) (F' := F') (k := 69) (hF 69 (by decide))
  have b13 := hd_b (F := F) (F' := F') (k := 13) (hF 13 (by decide))
  have t71 : sy_dv F' (.inr (.inl 71)) = .int ((sy_i F 4) + ((1 : Int32))) := hd_o (hs 1 _ rfl) b4 rfl rfl
  have t74 : sy_dv F' (.inr (.inl 74)) = .int ((sy_i F 13) + ((1 : Int32))) := hd_o (hs 4 _ rfl) b13 rfl rfl
  have a28 := hd_bA (F := F) (F' := F') (k := 28) (hF 28 (by decide))
  have t72 : sy_dv F' (.inr (.inr 72)) = .long ((sy_al F 28).getD (sy_i F 69).toNatClampNeg 0) := hd_rL (hs 2 _ rfl) b69 a28
  have a30 := hd_bA (F := F) (F' := F') (k := 30) (hF 30 (by decide))
  have t73 : sy_da F' (.inr (.inr 73)) = .inr (jm_updL (sy_al F 30) (sy_i F 13).toNatClampNeg ((sy_al F 28).getD (sy_i F 69).toNatClampNeg 0)) := hd_uA (hs 3 _ rfl) b13 t72 a30
  have hB' : iv_in F' iv_B4 := iv_in_eq hB (fun j hj => hF j (Nat.lt_of_lt_of_le hj (by decide +kernel)))
  refine ⟨List.forall_mem_cons.mpr ⟨hd_p0 b6 rfl (by have hc : ((0) : Int32).toInt = 0 := (by decide); omega), List.forall_mem_cons.mpr ⟨hd_pb b4 (by first | exact h1 | exact h1), List.forall_mem_cons.mpr ⟨hd_p0 t70 rfl (by have hc : ((4) : Int32).toInt = 4 := (by decide); omega), List.forall_mem_cons.mpr ⟨hd_p1 b4 rfl (by have hc : ((400) : Int32).toInt = 400 := (by decide); omega), List.forall_mem_cons.mpr ⟨hd_p4 b6 rfl (by have hc : ((0) : Int32).toInt = 0 := (by decide); omega), List.forall_mem_cons.mpr ⟨hd_pb b69 (by first | exact h5 | exact h5), List.forall_mem_cons.mpr ⟨hd_pb b13 (by first | exact h6 | exact h6), fun _ h => absurd h List.not_mem_nil⟩⟩⟩⟩⟩⟩⟩, ?_⟩
  refine k _ ?_ ?_ ?_ ?_
  · exact fun j hj hn => (hd_keep hB' (Nat.lt_of_lt_of_le hj (by decide +kernel)) (by simp; omega)).trans (hF j (by omega))
  · exact hd_gi (x := .inr (.inl 71)) (by decide +kernel) t71
  · exact hd_gi (x := .inr (.inl 74)) (by decide +kernel) t74
  · exact hd_gA (a := .inr (.inr 73)) (by decide +kernel) t73
theorem en_0_p3 {Ls : Nat} {xs : Nat → Int32} {d : Nat} {Q : Option Value → jm_h → Prop} (hd : 4 ≤ d) (F : Nat → sy_d) (X1 X2 : List jm_c) (hB : iv_in F iv_B4)
    (h0 : (sy_i F 6).toInt = 0)
    (h1 : 0 ≤ (sy_i F 4).toInt ∧ (sy_i F 4).toInt < 403)
    (h2 : ((sy_ai F 25).getD (sy_i F 4).toNatClampNeg 0).toInt = 4)
    (h3 : (sy_i F 4).toInt = 400)
    (h4 : (sy_i F 6).toInt ≤ 0)
    (h5 : 0 ≤ (sy_i F 4).toInt ∧ (sy_i F 4).toInt < 403)
    (k : ∀ F1 : Nat → sy_d, (∀ j, j < 69 → j ≠ 6 ∧ j ≠ 7 → F1 j = F j) → F1 6 = .inl (.int ((2 : Int32))) → F1 7 = .inl (.int ((sy_ai F 26).getD (sy_i F 4).toNatClampNeg 0)) → Q (none) (sy_dh F1 X1 X2 (iv_H 4))) :
    hd_W Ls xs d jm_M156 Q (0, sy_dL F [some (.inl (.ref 1000)), some (.inr (.inl 69))], sy_dS F [], sy_dh F X1 X2 (iv_H 4), 0, 0) := by
  refine hd_ret (s := 4) (nv := 70) (v := none) (uh := hd_ov (iv_id 0 iv_B4) [(6, .inl (.inl (.int 2))), (7, .inl (.inr (.inl 71)))]) (f := true) (sp := []) (d0 := 3) (O := [false, false, false, true]) (T := [(30, [.inr (.inl 4)], [.inr (.inl 25)]), (30, [.inr (.inl 4)], [.inr (.inl 26)])]) (P := [(0, .inr (.inl 6), .inl (.int 0)), (6, .inr (.inl 4), .inl (.ref 403)), (0, .inr (.inl 70), .inl (.int 4)), (0, .inr (.inl 4), .inl (.int 400)), (4, .inr (.inl 6), .inl (.int 0)), (6, .inr (.inl 4), .inl (.ref 403))]) jm_ok156 (by decide +kernel) (by decide +kernel) hd F X1 X2 (fun F' hF hs => ?_)
  have b6 := hd_b (F := F) (F' := F') (k := 6) (hF 6 (by decide))
  have b4 := hd_b (F := F) (F' := F') (k := 4) (hF 4 (by decide))
  have a25 := hd_ba (F := F) (F' := F') (k := 25) (hF 25 (by decide))
  have t70 : sy_dv F' (.inr (.inl 70)) = .int ((sy_ai F 25).getD (sy_i F 4).toNatClampNeg 0) := hd_rd (hs 0 _ rfl) b4 a25
  have a26 := hd_ba (F := F) (F' := F') (k := 26) (hF 26 (by decide))
  have t71 : sy_dv F' (.inr (.inl 71)) = .int ((sy_ai F 26).getD (sy_i F 4).toNatClampNeg 0) := hd_rd (hs 1 _ rfl) b4 a26
  have hB' : iv_in F' iv_B4 := iv_in_eq hB (fun j hj => hF j (Nat.lt_of_lt_of_le hj (by decide +kernel)))
  refine ⟨List.forall_mem_cons.mpr ⟨hd_p0 b6 rfl (by have hc : ((0) : Int32).toInt = 0 := (by decide); omega), List.forall_mem_cons.mpr ⟨hd_pb b4 (by first | exact h1 | exact h1), List.forall_mem_cons.mpr ⟨hd_p0 t70 rfl (by have hc : ((4) : Int32).toInt = 4 := (by decide); omega), List.forall_mem_cons.mpr ⟨hd_p0 b4 rfl (by have hc : ((400) : Int32).toInt = 400 := (by decide); omega), List.forall_mem_cons.mpr ⟨hd_p4 b6 rfl (by have hc : ((0) : Int32).toInt = 0 := (by decide); omega), List.forall_mem_cons.mpr ⟨hd_pb b4 (by first | exact h5 | exact h5), fun _ h => absurd h List.not_mem_nil⟩⟩⟩⟩⟩⟩, ?_⟩
  refine k _ ?_ ?_ ?_
  · exact fun j hj hn => (hd_keep hB' (Nat.lt_of_lt_of_le hj (by decide +kernel)) (by simp; omega)).trans (hF j (by omega))
  · exact hd_gi (x := .inl (.int 2)) (by decide +kernel) rfl
  · exact hd_gi (x := .inr (.inl 71)) (by decide +kernel) t71
theorem ti_0_p0 {Ls : Nat} {xs : Nat → Int32} {d : Nat} {Q : Option Value → jm_h → Prop} (hd : 4 ≤ d) (F : Nat → sy_d) (X1 X2 : List jm_c) (hB : iv_in F iv_B4)
    (h0 : (sy_i F 4).toInt ≠ 400)
    (k : ∀ F1 : Nat → sy_d, (∀ j, j < 69 → j ≠ 4 → F1 j = F j) → F1 4 = .inl (.int ((sy_i F 4) + ((1 : Int32)))) → F1 69 = .inl (.int (sy_i F 70)) → F1 70 = .inl (.int (sy_i F 69)) → hd_W Ls xs d jm_M153 Q (7, sy_dL F1 [some (.inl (.ref 1000)), none, none, none], sy_dS F1 [.inr (.inl 69), .inr (.inl 70), .inl (.ref 1000)], sy_dh F1 X1 X2 (iv_H 4), 0, 0)) :
    hd_W Ls xs d jm_M153 Q (0, sy_dL F [some (.inl (.ref 1000)), some (.inr (.inl 69)), some (.inr (.inl 70)), none], sy_dS F [], sy_dh F X1 X2 (iv_H 4), 0, 0) := by
  refine hd_run (s := 4) (nv := 71) (pc := 7) (L := [some (.inl (.ref 1000)), none, none, none]) (S := [.inr (.inl 69), .inr (.inl 70), .inl (.ref 1000)]) (uh := hd_ov (iv_id 0 iv_B4) [(4, .inl (.inr (.inl 71)))]) (ul := [.inl (.inr (.inl 70)), .inl (.inr (.inl 69))]) (f := true) (sp := [7]) (d0 := 3) (O := [true]) (T := [(0, [.inr (.inl 4), .inl (.int 1)], [])]) (P := [(1, .inr (.inl 4), .inl (.int 400))]) jm_ok153 (by decide +kernel) (by decide +kernel) hd F X1 X2 (fun F' hF hs => ?_)
  have b4 := hd_b (F := F) (F' := F') (k := 4) (hF 4 (by decide))
  have t71 : sy_dv F' (.inr (.inl 71)) = .int ((sy_i F 4) + ((1 : Int32))) := hd_o (hs 0 _ rfl) b4 rfl rfl
  have b70 := hd_b (F := F) (F' := F') (k := 70) (hF 70 (by decide))
  have b69 := hd_b (F := F) (F' := F') (k := 69) (hF 69 (by decide))
  have hB' : iv_in F' iv_B4 := iv_in_eq hB (fun j hj => hF j (Nat.lt_of_lt_of_le hj (by decide +kernel)))
  refine ⟨List.forall_mem_cons.mpr ⟨hd_p1 b4 rfl (by have hc : ((400) : Int32).toInt = 400 := (by decide); omega), fun _ h => absurd h List.not_mem_nil⟩, ?_⟩
  refine k _ ?_ ?_ ?_ ?_
  · exact fun j hj hn => (hd_keep hB' (Nat.lt_of_lt_of_le hj (by decide +kernel)) (by simp; omega)).trans (hF j (by omega))
  · exact hd_gi (x := .inr (.inl 71)) (by decide +kernel) t71
  · exact hd_gi (x := .inr (.inl 70)) (by decide +kernel) b70
  · exact hd_gi (x := .inr (.inl 69)) (by decide +kernel) b69
theorem ti_0_p1 {Ls : Nat} {xs : Nat → Int32} {d : Nat} {Q : Option Value → jm_h → Prop} (hd : 4 ≤ d) (F : Nat → sy_d) (X1 X2 : List jm_c) (hB : iv_in F iv_B4)
    (h0 : (sy_i F 4).toInt = 400)
    (h1 : (sy_i F 6).toInt ≤ 0)
    (h2 : 0 ≤ (sy_i F 4).toInt ∧ (sy_i F 4).toInt < 403)
    (k : ∀ F1 : Nat → sy_d, (∀ j, j < 69 → j ≠ 6 ∧ j ≠ 7 → F1 j = F j) → F1 6 = .inl (.int ((2 : Int32))) → F1 7 = .inl (.int ((sy_ai F 26).getD (sy_i F 4).toNatClampNeg 0)) → F1 69 = .inl (.int (sy_i F 70)) → F1 70 = .inl (.int (sy_i F 69)) → hd_W Ls xs d jm_M153 Q (7, sy_dL F1 [some (.inl (.ref 1000)), none, none, none], sy_dS F1 [.inr (.inl 69), .inr (.inl 70), .inl (.ref 1000)], sy_dh F1 X1 X2 (iv_H 4), 0, 0)) :
    hd_W Ls xs d jm_M153 Q (0, sy_dL F [some (.inl (.ref 1000)), some (.inr (.inl 69)), some (.inr (.inl 70)), none], sy_dS F [], sy_dh F X1 X2 (iv_H 4), 0, 0) := by
  refine hd_run (s := 4) (nv := 71) (pc := 7) (L := [some (.inl (.ref 1000)), none, none, none]) (S := [.inr (.inl 69), .inr (.inl 70), .inl (.ref 1000)]) (uh := hd_ov (iv_id 0 iv_B4) [(6, .inl (.inl (.int 2))), (7, .inl (.inr (.inl 71)))]) (ul := [.inl (.inr (.inl 70)), .inl (.inr (.inl 69))]) (f := true) (sp := [7]) (d0 := 3) (O := [false, true]) (T := [(30, [.inr (.inl 4)], [.inr (.inl 26)])]) (P := [(0, .inr (.inl 4), .inl (.int 400)), (4, .inr (.inl 6), .inl (.int 0)), (6, .inr (.inl 4), .inl (.ref 403))]) jm_ok153 (by decide +kernel) (by decide +kernel) hd F X1 X2 (fun F' hF hs => ?_)
  have b4 := hd_b (F := F) (F' := F') (k := 4) (hF 4 (by decide))
  have b6 := hd_b (F := F) (F' := F') (k := 6) (hF 6 (by decide))
  have a26 := hd_ba (F := F) (F' := F') (k := 26) (hF 26 (by decide))
  have t71 : sy_dv F' (.inr (.inl 71)) = .int ((sy_ai F 26).getD (sy_i F 4).toNatClampNeg 0) := hd_rd (hs 0 _ rfl) b4 a26
  have b70 := hd_b (F := F) (F' := F') (k := 70) (hF 70 (by decide))
  have b69 := hd_b (F := F) (F' := F') (k := 69) (hF 69 (by decide))
  have hB' : iv_in F' iv_B4 := iv_in_eq hB (fun j hj => hF j (Nat.lt_of_lt_of_le hj (by decide +kernel)))
  refine ⟨List.forall_mem_cons.mpr ⟨hd_p0 b4 rfl (by have hc : ((400) : Int32).toInt = 400 := (by decide); omega), List.forall_mem_cons.mpr ⟨hd_p4 b6 rfl (by have hc : ((0) : Int32).toInt = 0 := (by decide); omega), List.forall_mem_cons.mpr ⟨hd_pb b4 (by first | exact h2 | exact h2), fun _ h => absurd h List.not_mem_nil⟩⟩⟩, ?_⟩
  refine k _ ?_ ?_ ?_ ?_ ?_
  · exact fun j hj hn => (hd_keep hB' (Nat.lt_of_lt_of_le hj (by decide +kernel)) (by simp; omega)).trans (hF j (by omega))
  · exact hd_gi (x := .inl (.int 2)) (by decide +kernel) rfl
  · exact hd_gi (x := .inr (.inl 71)) (by decide +kernel) t71
  · exact hd_gi (x := .inr (.inl 70)) (by decide +kernel) b70
  · exact hd_gi (x := .inr (.inl 69)) (by decide +kernel) b69
theorem ti_0_p2 {Ls : Nat} {xs : Nat → Int32} {d : Nat} {Q : Option Value → jm_h → Prop} (hd : 4 ≤ d) (F : Nat → sy_d) (X1 X2 : List jm_c) (hB : iv_in F iv_B4)
    (h0 : (sy_i F 4).toInt = 400)
    (h1 : 0 < (sy_i F 6).toInt)
    (k : ∀ F1 : Nat → sy_d, (∀ j, j < 69 → True → F1 j = F j) → F1 69 = .inl (.int (sy_i F 70)) → F1 70 = .inl (.int (sy_i F 69)) → hd_W Ls xs d jm_M153 Q (7, sy_dL F1 [some (.inl (.ref 1000)), none, none, none], sy_dS F1 [.inr (.inl 69), .inr (.inl 70), .inl (.ref 1000)], sy_dh F1 X1 X2 (iv_H 4), 0, 0)) :
    hd_W Ls xs d jm_M153 Q (0, sy_dL F [some (.inl (.ref 1000)), some (.inr (.inl 69)), some (.inr (.inl 70)), none], sy_dS F [], sy_dh F X1 X2 (iv_H 4), 0, 0) := by
  refine hd_run (s := 4) (nv := 71) (pc := 7) (L := [some (.inl (.ref 1000)), none, none, none]) (S := [.inr (.inl 69), .inr (.inl 70), .inl (.ref 1000)]) (uh := hd_ov (iv_id 0 iv_B4) []) (ul := [.inl (.inr (.inl 70)), .inl (.inr (.inl 69))]) (f := true) (sp := [7]) (d0 := 3) (O := [false, false]) (T := []) (P := [(0, .inr (.inl 4), .inl (.int 400)), (5, .inr (.inl 6), .inl (.int 0))]) jm_ok153 (by decide +kernel) (by decide +kernel) hd F X1 X2 (fun F' hF hs => ?_)
  have b4 := hd_b (F := F) (F' := F') (k := 4) (hF 4 (by decide))
  have b6 := hd_b (F := F) (F' := F') (k := 6) (hF 6 (by decide))
  have b70 := hd_b (F := F) (F' := F') (k := 70) (hF 70 (by decide))
  have b69 := hd_b (F := F) (F' := F') (k := 69) (hF 69 (by decide))
  have hB' : iv_in F' iv_B4 := iv_in_eq hB (fun j hj => hF j (Nat.lt_of_lt_of_le hj (by decide +kernel)))
  refine ⟨List.forall_mem_cons.mpr ⟨hd_p0 b4 rfl (by have hc : ((400) : Int32).toInt = 400 := (by decide); omega), List.forall_mem_cons.mpr ⟨hd_p5 b6 rfl (by have hc : ((0) : Int32).toInt = 0 := (by decide); omega), fun _ h => absurd h List.not_mem_nil⟩⟩, ?_⟩
  refine k _ ?_ ?_ ?_
  · exact fun j hj _ => (hd_keep hB' (Nat.lt_of_lt_of_le hj (by decide +kernel)) (by simp)).trans (hF j (by omega))
  · exact hd_gi (x := .inr (.inl 70)) (by decide +kernel) b70
  · exact hd_gi (x := .inr (.inl 69)) (by decide +kernel) b69
theorem ti_10_p0 {Ls : Nat} {xs : Nat → Int32} {d : Nat} {Q : Option Value → jm_h → Prop} (hd : 4 ≤ d) (F : Nat → sy_d) (X1 X2 : List jm_c) (hB : iv_in F iv_B4)
    (h0 : (sy_i F 6).toInt ≠ 0)
    (h1 : 0 < (sy_i F 6).toInt)
    (k : ∀ F1 : Nat → sy_d, (∀ j, j < 69 → True → F1 j = F j) → Q (some (.int (sy_i F 71))) (sy_dh F1 X1 X2 (iv_H 4))) :
    hd_W Ls xs d jm_M153 Q (10, sy_dL F [some (.inl (.ref 1000)), none, none, none], sy_dS F [.inr (.inl 71)], sy_dh F X1 X2 (iv_H 4), 0, 0) := by
  refine hd_ret (s := 4) (nv := 72) (v := some (.inr (.inl 71))) (uh := hd_ov (iv_id 0 iv_B4) []) (f := false) (sp := []) (d0 := 3) (O := [true, false]) (T := []) (P := [(1, .inr (.inl 6), .inl (.int 0)), (5, .inr (.inl 6), .inl (.int 0))]) jm_ok153 (by decide +kernel) (by decide +kernel) hd F X1 X2 (fun F' hF hs => ?_)
  have b6 := hd_b (F := F) (F' := F') (k := 6) (hF 6 (by decide))
  have b71 := hd_b (F := F) (F' := F') (k := 71) (hF 71 (by decide))
  have hB' : iv_in F' iv_B4 := iv_in_eq hB (fun j hj => hF j (Nat.lt_of_lt_of_le hj (by decide +kernel)))
  have hk := k (sy_cm F' (hd_ov (iv_id 0 iv_B4) [] ++ [])) (fun j hj _ => (hd_keep hB' (Nat.lt_of_lt_of_le hj (by decide +kernel)) (by simp)).trans (hF j (by omega)))
  refine ⟨List.forall_mem_cons.mpr ⟨hd_p1 b6 rfl (by have hc : ((0) : Int32).toInt = 0 := (by decide); omega), List.forall_mem_cons.mpr ⟨hd_p5 b6 rfl (by have hc : ((0) : Int32).toInt = 0 := (by decide); omega), fun _ h => absurd h List.not_mem_nil⟩⟩, ?_⟩
  show Q (some (sy_dv F' (.inr (.inl 71)))) _
  rw [b71]
  exact hk
theorem ti_10_p1 {Ls : Nat} {xs : Nat → Int32} {d : Nat} {Q : Option Value → jm_h → Prop} (hd : 4 ≤ d) (F : Nat → sy_d) (X1 X2 : List jm_c) (hB : iv_in F iv_B4)
    (h0 : (sy_i F 6).toInt = 0)
    (h1 : 0 ≤ (sy_i F 4).toInt ∧ (sy_i F 4).toInt < 403)
    (h2 : ((sy_ai F 25).getD (sy_i F 4).toNatClampNeg 0).toInt ≠ 4)
    (h3 : (sy_i F 6).toInt ≤ 0)
    (h4 : 0 ≤ (sy_i F 4).toInt ∧ (sy_i F 4).toInt < 403)
    (k : ∀ F1 : Nat → sy_d, (∀ j, j < 69 → j ≠ 6 ∧ j ≠ 7 → F1 j = F j) → F1 6 = .inl (.int ((1 : Int32))) → F1 7 = .inl (.int ((sy_ai F 26).getD (sy_i F 4).toNatClampNeg 0)) → Q (some (.int (sy_i F 71))) (sy_dh F1 X1 X2 (iv_H 4))) :
    hd_W Ls xs d jm_M153 Q (10, sy_dL F [some (.inl (.ref 1000)), none, none, none], sy_dS F [.inr (.inl 71)], sy_dh F X1 X2 (iv_H 4), 0, 0) := by
  refine hd_ret (s := 4) (nv := 72) (v := some (.inr (.inl 71))) (uh := hd_ov (iv_id 0 iv_B4) [(6, .inl (.inl (.int 1))), (7, .inl (.inr (.inl 73)))]) (f := false) (sp := []) (d0 := 3) (O := [false, true, true]) (T := [(30, [.inr (.inl 4)], [.inr (.inl 25)]), (30, [.inr (.inl 4)], [.inr (.inl 26)])]) (P := [(0, .inr (.inl 6), .inl (.int 0)), (6, .inr (.inl 4), .inl (.ref 403)), (1, .inr (.inl 72), .inl (.int 4)), (4, .inr (.inl 6), .inl (.int 0)), (6, .inr (.inl 4), .inl (.ref 403))]) jm_ok153 (by decide +kernel) (by decide +kernel) hd F X1 X2 (fun F' hF hs => ?_)
  have b6 := hd_b (F := F) (F' := F') (k := 6) (hF 6 (by decide))
  have b4 := hd_b (F := F) (F' := F') (k := 4) (hF 4 (by decide))
  have a25 := hd_ba (F := F) (F' := F') (k := 25) (hF 25 (by decide))
  have t72 : sy_dv F' (.inr (.inl 72)) = .int ((sy_ai F 25).getD (sy_i F 4).toNatClampNeg 0) := hd_rd (hs 0 _ rfl) b4 a25
  have a26 := hd_ba (F := F) (F' := F') (k := 26) (hF 26 (by decide))
  have t73 : sy_dv F' (.inr (.inl 73)) = .int ((sy_ai F 26).getD (sy_i F 4).toNatClampNeg 0) := hd_rd (hs 1 _ rfl) b4 a26
  have b71 := hd_b (F := F) (F' := F') (k := 71) (hF 71 (by decide))
  have hB' : iv_in F' iv_B4 := iv_in_eq hB (fun j hj => hF j (Nat.lt_of_lt_of_le hj (by decide +kernel)))
  have hk := k (sy_cm F' (hd_ov (iv_id 0 iv_B4) [(6, .inl (.inl (.int 1))), (7, .inl (.inr (.inl 73)))] ++ [])) (fun j hj hn => (hd_keep hB' (Nat.lt_of_lt_of_le hj (by decide +kernel)) (by simp; omega)).trans (hF j (by omega))) (hd_gi (x := .inl (.int 1)) (by decide +kernel) rfl) (hd_gi (x := .inr (.inl 73)) (by decide +kernel) t73)
  refine ⟨List.forall_mem_cons.mpr ⟨hd_p0 b6 rfl (by have hc : ((0) : Int32).toInt = 0 := (by decide); omega), List.forall_mem_cons.mpr ⟨hd_pb b4 (by first | exact h1 | exact h1), List.forall_mem_cons.mpr ⟨hd_p1 t72 rfl (by have hc : ((4) : Int32).toInt = 4 := (by decide); omega), List.forall_mem_cons.mpr ⟨hd_p4 b6 rfl (by have hc : ((0) : Int32).toInt = 0 := (by decide); omega), List.forall_mem_cons.mpr ⟨hd_pb b4 (by first | exact h4 | exact h4), fun _ h => absurd h List.not_mem_nil⟩⟩⟩⟩⟩, ?_⟩
  show Q (some (sy_dv F' (.inr (.inl 71)))) _
  rw [b71]
  exact hk
theorem ti_10_p2 {Ls : Nat} {xs : Nat → Int32} {d : Nat} {Q : Option Value → jm_h → Prop} (hd : 4 ≤ d) (F : Nat → sy_d) (X1 X2 : List jm_c) (hB : iv_in F iv_B4)
    (h0 : (sy_i F 6).toInt = 0)
    (h1 : 0 ≤ (sy_i F 4).toInt ∧ (sy_i F 4).toInt < 403)
    (h2 : ((sy_ai F 25).getD (sy_i F 4).toNatClampNeg 0).toInt = 4)
    (h3 : (sy_i F 4).toInt ≠ 400)
    (k : ∀ F1 : Nat → sy_d, (∀ j, j < 69 → j ≠ 4 → F1 j = F j) → F1 4 = .inl (.int ((sy_i F 4) + ((1 : Int32)))) → Q (some (.int (sy_i F 71))) (sy_dh F1 X1 X2 (iv_H 4))) :
    hd_W Ls xs d jm_M153 Q (10, sy_dL F [some (.inl (.ref 1000)), none, none, none], sy_dS F [.inr (.inl 71)], sy_dh F X1 X2 (iv_H 4), 0, 0) := by
  refine hd_ret (s := 4) (nv := 72) (v := some (.inr (.inl 71))) (uh := hd_ov (iv_id 0 iv_B4) [(4, .inl (.inr (.inl 73)))]) (f := false) (sp := []) (d0 := 3) (O := [false, false, true]) (T := [(30, [.inr (.inl 4)], [.inr (.inl 25)]), (0, [.inr (.inl 4), .inl (.int 1)], [])]) (P := [(0, .inr (.inl 6), .inl (.int 0)), (6, .inr (.inl 4), .inl (.ref 403)), (0, .inr (.inl 72), .inl (.int 4)), (1, .inr (.inl 4), .inl (.int 400))]) jm_ok153 (by decide +kernel) (by decide +kernel) hd F X1 X2 (fun F' hF hs => ?_)
  have b6 := hd_b (F := F) (F' := F') (k := 6) (hF 6 (by decide))
  have b4 := hd_b (F := F) (F' := F') (k := 4) (hF 4 (by decide))
  have a25 := hd_ba (F := F) (F' := F') (k := 25) (hF 25 (by decide))
  have t72 : sy_dv F' (.inr (.inl 72)) = .int ((sy_ai F 25).getD (sy_i F 4).toNatClampNeg 0) := hd_rd (hs 0 _ rfl) b4 a25
  have t73 : sy_dv F' (.inr (.inl 73)) = .int ((sy_i F 4) + ((1 : Int32))) := hd_o (hs 1 _ rfl) b4 rfl rfl
  have b71 := hd_b (F := F) (F' := F') (k := 71) (hF 71 (by decide))
  have hB' : iv_in F' iv_B4 := iv_in_eq hB (fun j hj => hF j (Nat.lt_of_lt_of_le hj (by decide +kernel)))
  have hk := k (sy_cm F' (hd_ov (iv_id 0 iv_B4) [(4, .inl (.inr (.inl 73)))] ++ [])) (fun j hj hn => (hd_keep hB' (Nat.lt_of_lt_of_le hj (by decide +kernel)) (by simp; omega)).trans (hF j (by omega))) (hd_gi (x := .inr (.inl 73)) (by decide +kernel) t73)
  refine ⟨List.forall_mem_cons.mpr ⟨hd_p0 b6 rfl (by have hc : ((0) : Int32).toInt = 0 := (by decide); omega), List.forall_mem_cons.mpr ⟨hd_pb b4 (by first | exact h1 | exact h1), List.forall_mem_cons.mpr ⟨hd_p0 t72 rfl (by have hc : ((4) : Int32).toInt = 4 := (by decide); omega), List.forall_mem_cons.mpr ⟨hd_p1 b4 rfl (by have hc : ((400) : Int32).toInt = 400 := (by decide); omega), fun _ h => absurd h List.not_mem_nil⟩⟩⟩⟩, ?_⟩
  show Q (some (sy_dv F' (.inr (.inl 71)))) _
  rw [b71]
  exact hk
theorem ti_10_p3 {Ls : Nat} {xs : Nat → Int32} {d : Nat} {Q : Option Value → jm_h → Prop} (hd : 4 ≤ d) (F : Nat → sy_d) (X1 X2 : List jm_c) (hB : iv_in F iv_B4)
    (h0 : (sy_i F 6).toInt = 0)
    (h1 : 0 ≤ (sy_i F 4).toInt ∧ (sy_i F 4).toInt < 403)
    (h2 : ((sy_ai F 25).getD (sy_i F 4).toNatClampNeg 0).toInt = 4)
    (h3 : (sy_i F 4).toInt = 400)
    (h4 : (sy_i F 6).toInt ≤ 0)
    (h5 : 0 ≤ (sy_i F 4).toInt ∧ (sy_i F 4).toInt < 403)
    (k : ∀ F1 : Nat → sy_d, (∀ j, j < 69 → j ≠ 6 ∧ j ≠ 7 → F1 j = F j) → F1 6 = .inl (.int ((2 : Int32))) → F1 7 = .inl (.int ((sy_ai F 26).getD (sy_i F 4).toNatClampNeg 0)) → Q (some (.int (sy_i F 71))) (sy_dh F1 X1 X2 (iv_H 4))) :
    hd_W Ls xs d jm_M153 Q (10, sy_dL F [some (.inl (.ref 1000)), none, none, none], sy_dS F [.inr (.inl 71)], sy_dh F X1 X2 (iv_H 4), 0, 0) := by
  refine hd_ret (s := 4) (nv := 72) (v := some (.inr (.inl 71))) (uh := hd_ov (iv_id 0 iv_B4) [(6, .inl (.inl (.int 2))), (7, .inl (.inr (.inl 73)))]) (f := false) (sp := []) (d0 := 3) (O := [false, false, false, true]) (T := [(30, [.inr (.inl 4)], [.inr (.inl 25)]), (30, [.inr (.inl 4)], [.inr (.inl 26)])]) (P := [(0, .inr (.inl 6), .inl (.int 0)), (6, .inr (.inl 4), .inl (.ref 403)), (0, .inr (.inl 72), .inl (.int 4)), (0, .inr (.inl 4), .inl (.int 400)), (4, .inr (.inl 6), .inl (.int 0)), (6, .inr (.inl 4), .inl (.ref 403))]) jm_ok153 (by decide +kernel) (by decide +kernel) hd F X1 X2 (fun F' hF hs => ?_)
  have b6 := hd_b (F := F) (F' := F') (k := 6) (hF 6 (by decide))
  have b4 := hd_b (F := F) (F' := F') (k := 4) (hF 4 (by decide))
  have a25 := hd_ba (F := F) (F' := F') (k := 25) (hF 25 (by decide))
  have t72 : sy_dv F' (.inr (.inl 72)) = .int ((sy_ai F 25).getD (sy_i F 4).toNatClampNeg 0) := hd_rd (hs 0 _ rfl) b4 a25
  have a26 := hd_ba (F := F) (F' := F') (k := 26) (hF 26 (by decide))
  have t73 : sy_dv F' (.inr (.inl 73)) = .int ((sy_ai F 26).getD (sy_i F 4).toNatClampNeg 0) := hd_rd (hs 1 _ rfl) b4 a26
  have b71 := hd_b (F := F) (F' := F') (k := 71) (hF 71 (by decide))
  have hB' : iv_in F' iv_B4 := iv_in_eq hB (fun j hj => hF j (Nat.lt_of_lt_of_le hj (by decide +kernel)))
  have hk := k (sy_cm F' (hd_ov (iv_id 0 iv_B4) [(6, .inl (.inl (.int 2))), (7, .inl (.inr (.inl 73)))] ++ [])) (fun j hj hn => (hd_keep hB' (Nat.lt_of_lt_of_le hj (by decide +kernel)) (by simp; omega)).trans (hF j (by omega))) (hd_gi (x := .inl (.int 2)) (by decide +kernel) rfl) (hd_gi (x := .inr (.inl 73)) (by decide +kernel) t73)
  refine ⟨List.forall_mem_cons.mpr ⟨hd_p0 b6 rfl (by have hc : ((0) : Int32).toInt = 0 := (by decide); omega), List.forall_mem_cons.mpr ⟨hd_pb b4 (by first | exact h1 | exact h1), List.forall_mem_cons.mpr ⟨hd_p0 t72 rfl (by have hc : ((4) : Int32).toInt = 4 := (by decide); omega), List.forall_mem_cons.mpr ⟨hd_p0 b4 rfl (by have hc : ((400) : Int32).toInt = 400 := (by decide); omega), List.forall_mem_cons.mpr ⟨hd_p4 b6 rfl (by have hc : ((0) : Int32).toInt = 0 := (by decide); omega), List.forall_mem_cons.mpr ⟨hd_pb b4 (by first | exact h5 | exact h5), fun _ h => absurd h List.not_mem_nil⟩⟩⟩⟩⟩⟩, ?_⟩
  show Q (some (sy_dv F' (.inr (.inl 71)))) _
  rw [b71]
  exact hk
