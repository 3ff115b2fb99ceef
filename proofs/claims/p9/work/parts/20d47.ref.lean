/-! ===== the reference: the tape, what is told, what is held, way by way ===== -/
theorem rt_0_p0 {Ls : Nat} {xs : Nat → Int32} {d : Nat} {Q : Option Value → jm_h → Prop} (hd : 3 ≤ d) (F : Nat → sy_d) (X1 X2 : List jm_c) (hB : iv_in F iv_B4)
    (k : ∀ F1 : Nat → sy_d, (∀ j, j < 69 → j ≠ 2 → F1 j = F j) → F1 2 = .inl (.int (sy_i F 1)) → F1 69 = .inl (.int ((0 : Int32))) → hd_W Ls xs d jm_M150 Q (10, sy_dL F1 [some (.inl (.ref 1000)), some (.inr (.inl 69))], sy_dS F1 [], sy_dh F1 X1 X2 (iv_H 4), 0, 0)) :
    hd_W Ls xs d jm_M150 Q (0, sy_dL F [some (.inl (.ref 1000)), none], sy_dS F [], sy_dh F X1 X2 (iv_H 4), 0, 0) := by
  refine hd_run (s := 4) (nv := 69) (pc := 10) (L := [some (.inl (.ref 1000)), some (.inr (.inl 69))]) (S := []) (uh := hd_ov (iv_id 0 iv_B4) [(2, .inl (.inr (.inl 1)))]) (ul := [.inl (.inl (.int 0))]) (f := true) (sp := [10]) (d0 := 2) (O := []) (T := []) (P := []) jm_ok150 (by decide +kernel) (by decide +kernel) hd F X1 X2 (fun F' hF hs => ?_)
  have b1 := hd_b (F := F) (F' := F') (k := 1) (hF 1 (by decide))
  have hB' : iv_in F' iv_B4 := iv_in_eq hB (fun j hj => hF j (Nat.lt_of_lt_of_le hj (by decide +kernel)))
  refine ⟨fun _ h => absurd h List.not_mem_nil, ?_⟩
  refine k _ ?_ ?_ ?_
  · exact fun j hj hn => (hd_keep hB' (Nat.lt_of_lt_of_le hj (by decide +kernel)) (by simp; omega)).trans (hF j (by omega))
  · exact hd_gi (x := .inr (.inl 1)) (by decide +kernel) b1
  · exact hd_gi (x := .inl (.int 0)) (by decide +kernel) rfl
theorem rt_0 {Ls : Nat} {xs : Nat → Int32} {d : Nat} {Q : Option Value → jm_h → Prop} (hd : 3 ≤ d) (F : Nat → sy_d) (X1 X2 : List jm_c) (hB : iv_in F iv_B4)
    (k0 : ∀ F1 : Nat → sy_d, iv_in F1 iv_B4 → (∀ j, j < 69 → j ∉ ([2] : List Nat) → F1 j = F j) → (sy_i F1 1).toInt = (sy_i F 1).toInt → (sy_i F1 2).toInt = (sy_i F 1).toInt → sy_ai F1 23 = sy_ai F 23 → sy_ai F1 24 = sy_ai F 24 → (sy_i F1 69).toInt = 0 → hd_W Ls xs d jm_M150 Q (10, sy_dL F1 [some (.inl (.ref 1000)), some (.inr (.inl 69))], sy_dS F1 [], sy_dh F1 X1 X2 (iv_H 4), 0, 0)) :
    hd_W Ls xs d jm_M150 Q (0, sy_dL F [some (.inl (.ref 1000)), none], sy_dS F [], sy_dh F X1 X2 (iv_H 4), 0, 0) := by
  have c1 := nz_bx hB (k := 1) (lo := 0) (hi := 2000) rfl
  exact rt_0_p0 hd F X1 X2 hB  (fun F1 g e2 e69 => k0 F1 (nz_in hB [2] (fun j hj hn => g j hj (by simp only [List.mem_cons, List.not_mem_nil, or_false, not_or] at hn; omega)) (List.forall_mem_cons.mpr ⟨fun t ht => (Option.some.inj ht) ▸ (nz_hi e2 (rfl : (sy_i F 1).toInt = (sy_i F 1).toInt) (by omega) (by omega)), List.forall_mem_nil _⟩)) (fun j hj hn => g j hj (by simp only [List.mem_cons, List.not_mem_nil, or_false, not_or] at hn; omega)) (nz_fi (g 1 (by decide) (by decide))) ((congrArg Int32.toInt (zz_i e2)).trans (rfl : (sy_i F 1).toInt = (sy_i F 1).toInt)) (nz_fa (g 23 (by decide) (by decide))) (nz_fa (g 24 (by decide) (by decide))) ((congrArg Int32.toInt (zz_i e69)).trans (by decide : ((0 : Int32)).toInt = 0)))
theorem rt_10_p0 {Ls : Nat} {xs : Nat → Int32} {d : Nat} {Q : Option Value → jm_h → Prop} (hd : 3 ≤ d) (F : Nat → sy_d) (X1 X2 : List jm_c) (hB : iv_in F iv_B4)
    (h0 : (sy_i F 2).toInt ≤ (sy_i F 69).toInt)
    (k : ∀ F1 : Nat → sy_d, (∀ j, j < 69 → j ≠ 1 → F1 j = F j) → F1 1 = .inl (.int ((0 : Int32))) → hd_W Ls xs d jm_M150 Q (42, sy_dL F1 [some (.inl (.ref 1000)), none], sy_dS F1 [.inl (.ref 1000)], sy_dh F1 X1 X2 (iv_H 4), 0, 0)) :
    hd_W Ls xs d jm_M150 Q (10, sy_dL F [some (.inl (.ref 1000)), some (.inr (.inl 69))], sy_dS F [], sy_dh F X1 X2 (iv_H 4), 0, 0) := by
  refine hd_run (s := 4) (nv := 70) (pc := 42) (L := [some (.inl (.ref 1000)), none]) (S := [.inl (.ref 1000)]) (uh := hd_ov (iv_id 0 iv_B4) [(1, .inl (.inl (.int 0)))]) (ul := []) (f := true) (sp := [10, 42]) (d0 := 2) (O := [true]) (T := []) (P := [(4, .inr (.inl 2), .inr (.inl 69))]) jm_ok150 (by decide +kernel) (by decide +kernel) hd F X1 X2 (fun F' hF hs => ?_)
  have b2 := hd_b (F := F) (F' := F') (k := 2) (hF 2 (by decide))
  have b69 := hd_b (F := F) (F' := F') (k := 69) (hF 69 (by decide))
  have hB' : iv_in F' iv_B4 := iv_in_eq hB (fun j hj => hF j (Nat.lt_of_lt_of_le hj (by decide +kernel)))
  refine ⟨List.forall_mem_cons.mpr ⟨hd_p4 b2 b69 h0, fun _ h => absurd h List.not_mem_nil⟩, ?_⟩
  refine k _ ?_ ?_
  · exact fun j hj hn => (hd_keep hB' (Nat.lt_of_lt_of_le hj (by decide +kernel)) (by simp; omega)).trans (hF j (by omega))
  · exact hd_gi (x := .inl (.int 0)) (by decide +kernel) rfl
theorem rt_10_p1 {Ls : Nat} {xs : Nat → Int32} {d : Nat} {Q : Option Value → jm_h → Prop} (hd : 3 ≤ d) (F : Nat → sy_d) (X1 X2 : List jm_c) (hB : iv_in F iv_B4)
    (h0 : (sy_i F 69).toInt < (sy_i F 2).toInt)
    (h1 : 0 ≤ (sy_i F 69).toInt ∧ (sy_i F 69).toInt < 2000)
    (h2 : 0 ≤ (sy_i F 69).toInt ∧ (sy_i F 69).toInt < 2000)
    (k : ∀ F1 : Nat → sy_d, (∀ j, j < 69 → j ≠ 24 → F1 j = F j) → F1 24 = .inr (.inl (jm_upd (sy_ai F 24) (sy_i F 69).toNatClampNeg (((sy_ai F 23).getD (sy_i F 69).toNatClampNeg 0).toInt8.toInt32))) → F1 69 = .inl (.int ((sy_i F 69) + ((1 : Int32)))) → hd_W Ls xs d jm_M150 Q (10, sy_dL F1 [some (.inl (.ref 1000)), some (.inr (.inl 69))], sy_dS F1 [], sy_dh F1 X1 X2 (iv_H 4), 0, 0)) :
    hd_W Ls xs d jm_M150 Q (10, sy_dL F [some (.inl (.ref 1000)), some (.inr (.inl 69))], sy_dS F [], sy_dh F X1 X2 (iv_H 4), 0, 0) := by
  refine hd_run (s := 4) (nv := 70) (pc := 10) (L := [some (.inl (.ref 1000)), some (.inr (.inl 69))]) (S := []) (uh := hd_ov (iv_id 0 iv_B4) [(24, .inr (.inr (.inl 72)))]) (ul := [.inl (.inr (.inl 73))]) (f := true) (sp := [10, 42]) (d0 := 2) (O := [false]) (T := [(30, [.inr (.inl 69)], [.inr (.inl 23)]), (22, [.inr (.inl 70)], []), (40, [.inr (.inl 69), .inr (.inl 71)], [.inr (.inl 24)]), (0, [.inr (.inl 69), .inl (.int 1)], [])]) (P := [(5, .inr (.inl 2), .inr (.inl 69)), (6, .inr (.inl 69), .inl (.ref 2000)), (6, .inr (.inl 69), .inl (.ref 2000))]) jm_ok150 (by decide +kernel) (by decide +kernel) hd F X1 X2 (fun F' hF hs => ?_)
  have b2 := hd_b (F := F) (F' := F') (k := 2) (hF 2 (by decide))
  have b69 := hd_b (F := F) (F' := F') (k := 69) (hF 69 (by decide))
  have a23 := hd_ba (F := F) (F' := F') (k := 23) (hF 23 (by decide))
  have t70 : sy_dv F' (.inr (.inl 70)) = .int ((sy_ai F 23).getD (sy_i F 69).toNatClampNeg 0) := hd_rd (hs 0 _ rfl) b69 a23
  have t71 : sy_dv F' (.inr (.inl 71)) = .int (((sy_ai F 23).getD (sy_i F 69).toNatClampNeg 0).toInt8.toInt32) := hd_u (hs 1 _ rfl) t70 rfl
  have a24 := hd_ba (F := F) (F' := F') (k := 24) (hF 24 (by decide))
  have t72 : sy_da F' (.inr (.inl 72)) = .inl (jm_upd (sy_ai F 24) (sy_i F 69).toNatClampNeg (((sy_ai F 23).getD (sy_i F 69).toNatClampNeg 0).toInt8.toInt32)) := hd_up (hs 2 _ rfl) b69 t71 a24
  have t73 : sy_dv F' (.inr (.inl 73)) = .int ((sy_i F 69) + ((1 : Int32))) := hd_o (hs 3 _ rfl) b69 rfl rfl
  have hB' : iv_in F' iv_B4 := iv_in_eq hB (fun j hj => hF j (Nat.lt_of_lt_of_le hj (by decide +kernel)))
  refine ⟨List.forall_mem_cons.mpr ⟨hd_p5 b2 b69 h0, List.forall_mem_cons.mpr ⟨hd_pb b69 (by first | exact h1 | exact h1), List.forall_mem_cons.mpr ⟨hd_pb b69 (by first | exact h2 | exact h2), fun _ h => absurd h List.not_mem_nil⟩⟩⟩, ?_⟩
  refine k _ ?_ ?_ ?_
  · exact fun j hj hn => (hd_keep hB' (Nat.lt_of_lt_of_le hj (by decide +kernel)) (by simp; omega)).trans (hF j (by omega))
  · exact hd_ga (a := .inr (.inl 72)) (by decide +kernel) t72
  · exact hd_gi (x := .inr (.inl 73)) (by decide +kernel) t73
theorem rt_10 {Ls : Nat} {xs : Nat → Int32} {d : Nat} {Q : Option Value → jm_h → Prop} (hd : 3 ≤ d) (F : Nat → sy_d) (X1 X2 : List jm_c) (hB : iv_in F iv_B4)
    (a69 : 0 ≤ (sy_i F 69).toInt ∧ (sy_i F 69).toInt ≤ 2000)
    (k0 : (sy_i F 2).toInt ≤ (sy_i F 69).toInt → ∀ F1 : Nat → sy_d, iv_in F1 iv_B4 → (∀ j, j < 69 → j ∉ ([1] : List Nat) → F1 j = F j) → (sy_i F1 1).toInt = 0 → (sy_i F1 2).toInt = (sy_i F 2).toInt → sy_ai F1 23 = sy_ai F 23 → sy_ai F1 24 = sy_ai F 24 → hd_W Ls xs d jm_M150 Q (42, sy_dL F1 [some (.inl (.ref 1000)), none], sy_dS F1 [.inl (.ref 1000)], sy_dh F1 X1 X2 (iv_H 4), 0, 0))
    (k1 : (sy_i F 69).toInt < (sy_i F 2).toInt → ∀ F1 : Nat → sy_d, iv_in F1 iv_B4 → (∀ j, j < 69 → j ∉ ([24] : List Nat) → F1 j = F j) → (sy_i F1 1).toInt = (sy_i F 1).toInt → (sy_i F1 2).toInt = (sy_i F 2).toInt → sy_ai F1 23 = sy_ai F 23 → sy_ai F1 24 = jm_upd (sy_ai F 24) ((sy_i F 69).toInt).toNat (((sy_ai F 23).getD ((sy_i F 69).toInt).toNat 0).toInt8.toInt32) → (sy_i F1 69).toInt = ((sy_i F 69).toInt + 1) → hd_W Ls xs d jm_M150 Q (10, sy_dL F1 [some (.inl (.ref 1000)), some (.inr (.inl 69))], sy_dS F1 [], sy_dh F1 X1 X2 (iv_H 4), 0, 0)) :
    hd_W Ls xs d jm_M150 Q (10, sy_dL F [some (.inl (.ref 1000)), some (.inr (.inl 69))], sy_dS F [], sy_dh F X1 X2 (iv_H 4), 0, 0) := by
  by_cases g0 : (sy_i F 2).toInt ≤ (sy_i F 69).toInt
  · have c2 := nz_bx hB (k := 2) (lo := 0) (hi := 2000) rfl
    exact rt_10_p0 hd F X1 X2 hB (by first | exact g0 | (simp only [nz_c]; exact g0)) (fun F1 g e1 => k0 g0 F1 (nz_in hB [1] (fun j hj hn => g j hj (by simp only [List.mem_cons, List.not_mem_nil, or_false, not_or] at hn; omega)) (List.forall_mem_cons.mpr ⟨fun t ht => (Option.some.inj ht) ▸ (nz_hi e1 (by decide : ((0 : Int32)).toInt = 0) (by omega) (by omega)), List.forall_mem_nil _⟩)) (fun j hj hn => g j hj (by simp only [List.mem_cons, List.not_mem_nil, or_false, not_or] at hn; omega)) ((congrArg Int32.toInt (zz_i e1)).trans (by decide : ((0 : Int32)).toInt = 0)) (nz_fi (g 2 (by decide) (by decide))) (nz_fa (g 23 (by decide) (by decide))) (nz_fa (g 24 (by decide) (by decide))))
  replace g0 : (sy_i F 69).toInt < (sy_i F 2).toInt := by omega
  have c2 := nz_bx hB (k := 2) (lo := 0) (hi := 2000) rfl
  have q71 : ((sy_ai F 23).getD (sy_i F 69).toNatClampNeg 0).toInt8.toInt32 = ((sy_ai F 23).getD ((sy_i F 69).toInt).toNat 0).toInt8.toInt32 := by simp only [nz_c]
  have n71 : (((sy_ai F 23).getD (sy_i F 69).toNatClampNeg 0).toInt8.toInt32).toInt = (((sy_ai F 23).getD ((sy_i F 69).toInt).toNat 0).toInt8.toInt32).toInt := congrArg Int32.toInt q71
  have r71 := nz_b8 ((sy_ai F 23).getD ((sy_i F 69).toInt).toNat 0)
  have w72 : jm_upd (sy_ai F 24) (sy_i F 69).toNatClampNeg (((sy_ai F 23).getD (sy_i F 69).toNatClampNeg 0).toInt8.toInt32) = jm_upd (sy_ai F 24) ((sy_i F 69).toInt).toNat (((sy_ai F 23).getD ((sy_i F 69).toInt).toNat 0).toInt8.toInt32) := by simp only [nz_c]
  have n73 : ((sy_i F 69) + ((1 : Int32))).toInt = ((sy_i F 69).toInt + 1) := nz_add (rfl : (sy_i F 69).toInt = (sy_i F 69).toInt) (by decide : ((1 : Int32)).toInt = 1) (by omega) (by omega)
  exact rt_10_p1 hd F X1 X2 hB (by first | exact g0 | (simp only [nz_c]; exact g0)) (by first | exact ⟨by omega, by omega⟩ | (simp only [nz_c]; exact ⟨by omega, by omega⟩)) (by first | exact ⟨by omega, by omega⟩ | (simp only [nz_c]; exact ⟨by omega, by omega⟩)) (fun F1 g e24 e69 => k1 g0 F1 (nz_in hB [24] (fun j hj hn => g j hj (by simp only [List.mem_cons, List.not_mem_nil, or_false, not_or] at hn; omega)) (List.forall_mem_cons.mpr ⟨fun t ht => (Option.some.inj ht) ▸ (nz_hA e24 (nz_up (nz_ba hB (k := 24) (lo := (-128)) (hi := 127) rfl) n71 (by omega) (by omega))), List.forall_mem_nil _⟩)) (fun j hj hn => g j hj (by simp only [List.mem_cons, List.not_mem_nil, or_false, not_or] at hn; omega)) (nz_fi (g 1 (by decide) (by decide))) (nz_fi (g 2 (by decide) (by decide))) (nz_fa (g 23 (by decide) (by decide))) ((zz_ai e24).trans w72) ((congrArg Int32.toInt (zz_i e69)).trans n73))
theorem rap_0_p0 {Ls : Nat} {xs : Nat → Int32} {d : Nat} {Q : Option Value → jm_h → Prop} (hd : 1 ≤ d) (F : Nat → sy_d) (X1 X2 : List jm_c) (hB : iv_in F iv_B4)
    (h0 : 0 ≤ (sy_i F 1).toInt ∧ (sy_i F 1).toInt < 2000)
    (h1 : 0 ≤ ((sy_i F 1) + ((1 : Int32))).toInt ∧ ((sy_i F 1) + ((1 : Int32))).toInt < 2000)
    (h2 : 0 ≤ (((sy_i F 1) + ((1 : Int32))) + ((1 : Int32))).toInt ∧ (((sy_i F 1) + ((1 : Int32))) + ((1 : Int32))).toInt < 2000)
    (h3 : 0 ≤ ((((sy_i F 1) + ((1 : Int32))) + ((1 : Int32))) + ((1 : Int32))).toInt ∧ ((((sy_i F 1) + ((1 : Int32))) + ((1 : Int32))) + ((1 : Int32))).toInt < 2000)
    (k : ∀ F1 : Nat → sy_d, (∀ j, j < 69 → j ≠ 1 ∧ j ≠ 23 → F1 j = F j) → F1 1 = .inl (.int (((((sy_i F 1) + ((1 : Int32))) + ((1 : Int32))) + ((1 : Int32))) + ((1 : Int32)))) → F1 23 = .inr (.inl (jm_upd (jm_upd (jm_upd (jm_upd (sy_ai F 23) (sy_i F 1).toNatClampNeg ((((sy_i F 69) >>> (((24 : Int32)) &&& 31)).toInt8.toInt32).toInt8.toInt32)) ((sy_i F 1) + ((1 : Int32))).toNatClampNeg ((((sy_i F 69) >>> (((16 : Int32)) &&& 31)).toInt8.toInt32).toInt8.toInt32)) (((sy_i F 1) + ((1 : Int32))) + ((1 : Int32))).toNatClampNeg ((((sy_i F 69) >>> (((8 : Int32)) &&& 31)).toInt8.toInt32).toInt8.toInt32)) ((((sy_i F 1) + ((1 : Int32))) + ((1 : Int32))) + ((1 : Int32))).toNatClampNeg ((((sy_i F 69) >>> (((0 : Int32)) &&& 31)).toInt8.toInt32).toInt8.toInt32))) → Q (none) (sy_dh F1 X1 X2 (iv_H 4))) :
    hd_W Ls xs d jm_M134 Q (0, sy_dL F [some (.inl (.ref 1000)), some (.inr (.inl 69)), none], sy_dS F [], sy_dh F X1 X2 (iv_H 4), 0, 0) := by
  refine hd_ret (s := 4) (nv := 70) (v := none) (uh := hd_ov (iv_id 0 iv_B4) [(1, .inl (.inr (.inl 89))), (23, .inr (.inr (.inl 88)))]) (f := true) (sp := []) (d0 := 0) (O := []) (T := [(7, [.inr (.inl 69), .inl (.int 24)], []), (22, [.inr (.inl 70)], []), (22, [.inr (.inl 71)], []), (40, [.inr (.inl 1), .inr (.inl 72)], [.inr (.inl 23)]), (0, [.inr (.inl 1), .inl (.int 1)], []), (7, [.inr (.inl 69), .inl (.int 16)], []), (22, [.inr (.inl 75)], []), (22, [.inr (.inl 76)], []), (40, [.inr (.inl 74), .inr (.inl 77)], [.inr (.inl 73)]), (0, [.inr (.inl 74), .inl (.int 1)], []), (7, [.inr (.inl 69), .inl (.int 8)], []), (22, [.inr (.inl 80)], []), (22, [.inr (.inl 81)], []), (40, [.inr (.inl 79), .inr (.inl 82)], [.inr (.inl 78)]), (0, [.inr (.inl 79), .inl (.int 1)], []), (7, [.inr (.inl 69), .inl (.int 0)], []), (22, [.inr (.inl 85)], []), (22, [.inr (.inl 86)], []), (40, [.inr (.inl 84), .inr (.inl 87)], [.inr (.inl 83)]), (0, [.inr (.inl 84), .inl (.int 1)], [])]) (P := [(6, .inr (.inl 1), .inl (.ref 2000)), (6, .inr (.inl 74), .inl (.ref 2000)), (6, .inr (.inl 79), .inl (.ref 2000)), (6, .inr (.inl 84), .inl (.ref 2000))]) jm_ok134 (by decide +kernel) (by decide +kernel) hd F X1 X2 (fun F' hF hs => ?_)
  have b1 := hd_b (F := F) (F' := F') (k := 1) (hF 1 (by decide))
  have t74 : sy_dv F' (.inr (.inl 74)) = .int ((sy_i F 1) + ((1 : Int32))) := hd_o (hs 4 _ rfl) b1 rfl rfl
  have t79 : sy_dv F' (.inr (.inl 79)) = .int (((sy_i F 1) + ((1 : Int32))) + ((1 : Int32))) := hd_o (hs 9 _ rfl) t74 rfl rfl
  have t84 : sy_dv F' (.inr (.inl 84)) = .int ((((sy_i F 1) + ((1 : Int32))) + ((1 : Int32))) + ((1 : Int32))) := hd_o (hs 14 _ rfl) t79 rfl rfl
  have t89 : sy_dv F' (.inr (.inl 89)) = .int (((((sy_i F 1) + ((1 : Int32))) + ((1 : Int32))) + ((1 : Int32))) + ((1 : Int32))) := hd_o (hs 19 _ rfl) t84 rfl rfl
  have b69 := hd_b (F := F) (F' := F') (k := 69) (hF 69 (by decide))
  have t85 : sy_dv F' (.inr (.inl 85)) = .int ((sy_i F 69) >>> (((0 : Int32)) &&& 31)) := hd_o (hs 15 _ rfl) b69 rfl rfl
  have t86 : sy_dv F' (.inr (.inl 86)) = .int (((sy_i F 69) >>> (((0 : Int32)) &&& 31)).toInt8.toInt32) := hd_u (hs 16 _ rfl) t85 rfl
  have t87 : sy_dv F' (.inr (.inl 87)) = .int ((((sy_i F 69) >>> (((0 : Int32)) &&& 31)).toInt8.toInt32).toInt8.toInt32) := hd_u (hs 17 _ rfl) t86 rfl
  have t80 : sy_dv F' (.inr (.inl 80)) = .int ((sy_i F 69) >>> (((8 : Int32)) &&& 31)) := hd_o (hs 10 _ rfl) b69 rfl rfl
  have t81 : sy_dv F' (.inr (.inl 81)) = .int (((sy_i F 69) >>> (((8 : Int32)) &&& 31)).toInt8.toInt32) := hd_u (hs 11 _ rfl) t80 rfl
  have t82 : sy_dv F' (.inr (.inl 82)) = .int ((((sy_i F 69) >>> (((8 : Int32)) &&& 31)).toInt8.toInt32).toInt8.toInt32) := hd_u (hs 12 _ rfl) t81 rfl
  have t75 : sy_dv F' (.inr (.inl 75)) = .int ((sy_i F 69) >>> (((16 : Int32)) &&& 31)) := hd_o (hs 5 _ rfl) b69 rfl rfl
  have t76 : sy_dv F' (.inr (.inl 76)) = .int (((sy_i F 69) >>> (((16 : Int32)) &&& 31)).toInt8.toInt32) := hd_u (hs 6 _ rfl) t75 rfl
  have t77 : sy_dv F' (.inr (.inl 77)) = .int ((((sy_i F 69) >>> (((16 : Int32)) &&& 31)).toInt8.toInt32).toInt8.toInt32) := hd_u (hs 7 _ rfl) t76 rfl
  have t70 : sy_dv F' (.inr (.inl 70)) = .int ((sy_i F 69) >>> (((24 : Int32)) &&& 31)) := hd_o (hs 0 _ rfl) b69 rfl rfl
  have t71 : sy_dv F' (.inr (.inl 71)) = .int (((sy_i F 69) >>> (((24 : Int32)) &&& 31)).toInt8.toInt32) := hd_u (hs 1 _ rfl) t70 rfl
  have t72 : sy_dv F' (.inr (.inl 72)) = .int ((((sy_i F 69) >>> (((24 : Int32)) &&& 31)).toInt8.toInt32).toInt8.toInt32) := hd_u (hs 2 _ rfl) t71 rfl
  have a23 := hd_ba (F := F) (F' := F') (k := 23) (hF 23 (by decide))
  have t73 : sy_da F' (.inr (.inl 73)) = .inl (jm_upd (sy_ai F 23) (sy_i F 1).toNatClampNeg ((((sy_i F 69) >>> (((24 : Int32)) &&& 31)).toInt8.toInt32).toInt8.toInt32)) := hd_up (hs 3 _ rfl) b1 t72 a23
  have t78 : sy_da F' (.inr (.inl 78)) = .inl (jm_upd (jm_upd (sy_ai F 23) (sy_i F 1).toNatClampNeg ((((sy_i F 69) >>> (((24 : Int32)) &&& 31)).toInt8.toInt32).toInt8.toInt32)) ((sy_i F 1) + ((1 : Int32))).toNatClampNeg ((((sy_i F 69) >>> (((16 : Int32)) &&& 31)).toInt8.toInt32).toInt8.toInt32)) := hd_up (hs 8 _ rfl) t74 t77 t73
  have t83 : sy_da F' (.inr (.inl 83)) = .inl (jm_upd (jm_upd (jm_upd (sy_ai F 23) (sy_i F 1).toNatClampNeg ((((sy_i F 69) >>> (((24 : Int32)) &&& 31)).toInt8.toInt32).toInt8.toInt32)) ((sy_i F 1) + ((1 : Int32))).toNatClampNeg ((((sy_i F 69) >>> (((16 : Int32)) &&& 31)).toInt8.toInt32).toInt8.toInt32)) (((sy_i F 1) + ((1 : Int32))) + ((1 : Int32))).toNatClampNeg ((((sy_i F 69) >>> (((8 : Int32)) &&& 31)).toInt8.toInt32).toInt8.toInt32)) := hd_up (hs 13 _ rfl) t79 t82 t78
  have t88 : sy_da F' (.inr (.inl 88)) = .inl (jm_upd (jm_upd (jm_upd (jm_upd (sy_ai F 23) (sy_i F 1).toNatClampNeg ((((sy_i F 69) >>> (((24 : Int32)) &&& 31)).toInt8.toInt32).toInt8.toInt32)) ((sy_i F 1) + ((1 : Int32))).toNatClampNeg ((((sy_i F 69) >>> (((16 : Int32)) &&& 31)).toInt8.toInt32).toInt8.toInt32)) (((sy_i F 1) + ((1 : Int32))) + ((1 : Int32))).toNatClampNeg ((((sy_i F 69) >>> (((8 : Int32)) &&& 31)).toInt8.toInt32).toInt8.toInt32)) ((((sy_i F 1) + ((1 : Int32))) + ((1 : Int32))) + ((1 : Int32))).toNatClampNeg ((((sy_i F 69) >>> (((0 : Int32)) &&& 31)).toInt8.toInt32).toInt8.toInt32)) := hd_up (hs 18 _ rfl) t84 t87 t83
  have hB' : iv_in F' iv_B4 := iv_in_eq hB (fun j hj => hF j (Nat.lt_of_lt_of_le hj (by decide +kernel)))
  refine ⟨List.forall_mem_cons.mpr ⟨hd_pb b1 (by first | exact h0 | exact h0), List.forall_mem_cons.mpr ⟨hd_pb t74 (by first | exact h1 | exact h1), List.forall_mem_cons.mpr ⟨hd_pb t79 (by first | exact h2 | exact h2), List.forall_mem_cons.mpr ⟨hd_pb t84 (by first | exact h3 | exact h3), fun _ h => absurd h List.not_mem_nil⟩⟩⟩⟩, ?_⟩
  refine k _ ?_ ?_ ?_
  · exact fun j hj hn => (hd_keep hB' (Nat.lt_of_lt_of_le hj (by decide +kernel)) (by simp; omega)).trans (hF j (by omega))
  · exact hd_gi (x := .inr (.inl 89)) (by decide +kernel) t89
  · exact hd_ga (a := .inr (.inl 88)) (by decide +kernel) t88
theorem rap_0 {Ls : Nat} {xs : Nat → Int32} {d : Nat} {Q : Option Value → jm_h → Prop} (hd : 1 ≤ d) (F : Nat → sy_d) (X1 X2 : List jm_c) (hB : iv_in F iv_B4)
    (o0 : (0 ≤ (sy_i F 1).toInt ∧ (sy_i F 1).toInt < 2000))
    (o1 : (0 ≤ ((sy_i F 1).toInt + 1) ∧ ((sy_i F 1).toInt + 1) < 2000))
    (o2 : (0 ≤ (((sy_i F 1).toInt + 1) + 1) ∧ (((sy_i F 1).toInt + 1) + 1) < 2000))
    (o3 : (0 ≤ ((((sy_i F 1).toInt + 1) + 1) + 1) ∧ ((((sy_i F 1).toInt + 1) + 1) + 1) < 2000))
    (o4 : (0 ≤ (((((sy_i F 1).toInt + 1) + 1) + 1) + 1) ∧ (((((sy_i F 1).toInt + 1) + 1) + 1) + 1) ≤ 2000))
    (k0 : ∀ F1 : Nat → sy_d, iv_in F1 iv_B4 → (∀ j, j < 69 → j ∉ ([1, 23] : List Nat) → F1 j = F j) → (sy_i F1 1).toInt = (((((sy_i F 1).toInt + 1) + 1) + 1) + 1) → sy_ai F1 23 = jm_upd (jm_upd (jm_upd (jm_upd (sy_ai F 23) ((sy_i F 1).toInt).toNat ((((sy_i F 69) >>> (((24 : Int32)) &&& 31)).toInt8.toInt32).toInt8.toInt32)) (((sy_i F 1).toInt + 1)).toNat ((((sy_i F 69) >>> (((16 : Int32)) &&& 31)).toInt8.toInt32).toInt8.toInt32)) ((((sy_i F 1).toInt + 1) + 1)).toNat ((((sy_i F 69) >>> (((8 : Int32)) &&& 31)).toInt8.toInt32).toInt8.toInt32)) (((((sy_i F 1).toInt + 1) + 1) + 1)).toNat ((((sy_i F 69) >>> (((0 : Int32)) &&& 31)).toInt8.toInt32).toInt8.toInt32) → Q (none) (sy_dh F1 X1 X2 (iv_H 4))) :
    hd_W Ls xs d jm_M134 Q (0, sy_dL F [some (.inl (.ref 1000)), some (.inr (.inl 69)), none], sy_dS F [], sy_dh F X1 X2 (iv_H 4), 0, 0) := by
  have c1 := nz_bx hB (k := 1) (lo := 0) (hi := 2000) rfl
  have n74 : ((sy_i F 1) + ((1 : Int32))).toInt = ((sy_i F 1).toInt + 1) := nz_add (rfl : (sy_i F 1).toInt = (sy_i F 1).toInt) (by decide : ((1 : Int32)).toInt = 1) (by omega) (by omega)
  have n79 : (((sy_i F 1) + ((1 : Int32))) + ((1 : Int32))).toInt = (((sy_i F 1).toInt + 1) + 1) := nz_add n74 (by decide : ((1 : Int32)).toInt = 1) (by omega) (by omega)
  have n84 : ((((sy_i F 1) + ((1 : Int32))) + ((1 : Int32))) + ((1 : Int32))).toInt = ((((sy_i F 1).toInt + 1) + 1) + 1) := nz_add n79 (by decide : ((1 : Int32)).toInt = 1) (by omega) (by omega)
  have n89 : (((((sy_i F 1) + ((1 : Int32))) + ((1 : Int32))) + ((1 : Int32))) + ((1 : Int32))).toInt = (((((sy_i F 1).toInt + 1) + 1) + 1) + 1) := nz_add n84 (by decide : ((1 : Int32)).toInt = 1) (by omega) (by omega)
  have n87 : ((((sy_i F 69) >>> (((0 : Int32)) &&& 31)).toInt8.toInt32).toInt8.toInt32).toInt = ((((sy_i F 69) >>> (((0 : Int32)) &&& 31)).toInt8.toInt32).toInt8.toInt32).toInt := congrArg Int32.toInt (rfl : (((sy_i F 69) >>> (((0 : Int32)) &&& 31)).toInt8.toInt32).toInt8.toInt32 = (((sy_i F 69) >>> (((0 : Int32)) &&& 31)).toInt8.toInt32).toInt8.toInt32)
  have r87 := nz_b8 (((sy_i F 69) >>> (((0 : Int32)) &&& 31)).toInt8.toInt32)
  have n82 : ((((sy_i F 69) >>> (((8 : Int32)) &&& 31)).toInt8.toInt32).toInt8.toInt32).toInt = ((((sy_i F 69) >>> (((8 : Int32)) &&& 31)).toInt8.toInt32).toInt8.toInt32).toInt := congrArg Int32.toInt (rfl : (((sy_i F 69) >>> (((8 : Int32)) &&& 31)).toInt8.toInt32).toInt8.toInt32 = (((sy_i F 69) >>> (((8 : Int32)) &&& 31)).toInt8.toInt32).toInt8.toInt32)
  have r82 := nz_b8 (((sy_i F 69) >>> (((8 : Int32)) &&& 31)).toInt8.toInt32)
  have n77 : ((((sy_i F 69) >>> (((16 : Int32)) &&& 31)).toInt8.toInt32).toInt8.toInt32).toInt = ((((sy_i F 69) >>> (((16 : Int32)) &&& 31)).toInt8.toInt32).toInt8.toInt32).toInt := congrArg Int32.toInt (rfl : (((sy_i F 69) >>> (((16 : Int32)) &&& 31)).toInt8.toInt32).toInt8.toInt32 = (((sy_i F 69) >>> (((16 : Int32)) &&& 31)).toInt8.toInt32).toInt8.toInt32)
  have r77 := nz_b8 (((sy_i F 69) >>> (((16 : Int32)) &&& 31)).toInt8.toInt32)
  have n72 : ((((sy_i F 69) >>> (((24 : Int32)) &&& 31)).toInt8.toInt32).toInt8.toInt32).toInt = ((((sy_i F 69) >>> (((24 : Int32)) &&& 31)).toInt8.toInt32).toInt8.toInt32).toInt := congrArg Int32.toInt (rfl : (((sy_i F 69) >>> (((24 : Int32)) &&& 31)).toInt8.toInt32).toInt8.toInt32 = (((sy_i F 69) >>> (((24 : Int32)) &&& 31)).toInt8.toInt32).toInt8.toInt32)
  have r72 := nz_b8 (((sy_i F 69) >>> (((24 : Int32)) &&& 31)).toInt8.toInt32)
  have w88 : jm_upd (jm_upd (jm_upd (jm_upd (sy_ai F 23) (sy_i F 1).toNatClampNeg ((((sy_i F 69) >>> (((24 : Int32)) &&& 31)).toInt8.toInt32).toInt8.toInt32)) ((sy_i F 1) + ((1 : Int32))).toNatClampNeg ((((sy_i F 69) >>> (((16 : Int32)) &&& 31)).toInt8.toInt32).toInt8.toInt32)) (((sy_i F 1) + ((1 : Int32))) + ((1 : Int32))).toNatClampNeg ((((sy_i F 69) >>> (((8 : Int32)) &&& 31)).toInt8.toInt32).toInt8.toInt32)) ((((sy_i F 1) + ((1 : Int32))) + ((1 : Int32))) + ((1 : Int32))).toNatClampNeg ((((sy_i F 69) >>> (((0 : Int32)) &&& 31)).toInt8.toInt32).toInt8.toInt32) = jm_upd (jm_upd (jm_upd (jm_upd (sy_ai F 23) ((sy_i F 1).toInt).toNat ((((sy_i F 69) >>> (((24 : Int32)) &&& 31)).toInt8.toInt32).toInt8.toInt32)) (((sy_i F 1).toInt + 1)).toNat ((((sy_i F 69) >>> (((16 : Int32)) &&& 31)).toInt8.toInt32).toInt8.toInt32)) ((((sy_i F 1).toInt + 1) + 1)).toNat ((((sy_i F 69) >>> (((8 : Int32)) &&& 31)).toInt8.toInt32).toInt8.toInt32)) (((((sy_i F 1).toInt + 1) + 1) + 1)).toNat ((((sy_i F 69) >>> (((0 : Int32)) &&& 31)).toInt8.toInt32).toInt8.toInt32) := by simp only [nz_c, n74, n79, n84, (by decide : ((0 : Int32)).toInt = 0), (by decide : ((1 : Int32)).toInt = 1), (by decide : ((8 : Int32)).toInt = 8), (by decide : ((16 : Int32)).toInt = 16), (by decide : ((24 : Int32)).toInt = 24)]
  exact rap_0_p0 hd F X1 X2 hB (by first | exact (o0) | (simp only [nz_c]; exact (o0))) (by first | exact (o1) | (simp only [nz_c, n74]; exact (o1)) | (rw [n74]; exact (o1))) (by first | exact (o2) | (simp only [nz_c, n74, n79]; exact (o2)) | (rw [n79]; exact (o2))) (by first | exact (o3) | (simp only [nz_c, n74, n79, n84]; exact (o3)) | (rw [n84]; exact (o3))) (fun F1 g e1 e23 => k0 F1 (nz_in hB [1, 23] (fun j hj hn => g j hj (by simp only [List.mem_cons, List.not_mem_nil, or_false, not_or] at hn; omega)) (List.forall_mem_cons.mpr ⟨fun t ht => (Option.some.inj ht) ▸ (nz_hi e1 n89 (o4).1 (o4).2), List.forall_mem_cons.mpr ⟨fun t ht => (Option.some.inj ht) ▸ (nz_hA e23 (nz_up (nz_up (nz_up (nz_up (nz_ba hB (k := 23) (lo := (-128)) (hi := 127) rfl) n72 (by omega) (by omega)) n77 (by omega) (by omega)) n82 (by omega) (by omega)) n87 (by omega) (by omega))), List.forall_mem_nil _⟩⟩)) (fun j hj hn => g j hj (by simp only [List.mem_cons, List.not_mem_nil, or_false, not_or] at hn; omega)) ((congrArg Int32.toInt (zz_i e1)).trans n89) ((zz_ai e23).trans w88))
theorem rfd_0_p0 {Ls : Nat} {xs : Nat → Int32} {d : Nat} {Q : Option Value → jm_h → Prop} (hd : 2 ≤ d) (F : Nat → sy_d) (X1 X2 : List jm_c) (hB : iv_in F iv_B4)
    (h0 : ((sy_i F 1) + ((20 : Int32))).toInt ≤ 2000)
    (k : ∀ F1 : Nat → sy_d, (∀ j, j < 69 → True → F1 j = F j) → F1 69 = .inl (.int (sy_i F 69)) → F1 70 = .inl (.int (sy_i F 70)) → F1 71 = .inl (.int (sy_i F 71)) → F1 72 = .inl (.int (sy_i F 72)) → F1 73 = .inl (.int (sy_i F 73)) → hd_W Ls xs d jm_M133 Q (17, sy_dL F1 [some (.inl (.ref 1000)), some (.inr (.inl 69)), some (.inr (.inl 70)), some (.inr (.inl 71)), some (.inr (.inl 72)), some (.inr (.inl 73))], sy_dS F1 [.inr (.inl 69), .inl (.ref 1000)], sy_dh F1 X1 X2 (iv_H 4), 0, 0)) :
    hd_W Ls xs d jm_M133 Q (0, sy_dL F [some (.inl (.ref 1000)), some (.inr (.inl 69)), some (.inr (.inl 70)), some (.inr (.inl 71)), some (.inr (.inl 72)), some (.inr (.inl 73))], sy_dS F [], sy_dh F X1 X2 (iv_H 4), 0, 0) := by
  refine hd_run (s := 4) (nv := 74) (pc := 17) (L := [some (.inl (.ref 1000)), some (.inr (.inl 69)), some (.inr (.inl 70)), some (.inr (.inl 71)), some (.inr (.inl 72)), some (.inr (.inl 73))]) (S := [.inr (.inl 69), .inl (.ref 1000)]) (uh := hd_ov (iv_id 0 iv_B4) []) (ul := [.inl (.inr (.inl 69)), .inl (.inr (.inl 70)), .inl (.inr (.inl 71)), .inl (.inr (.inl 72)), .inl (.inr (.inl 73))]) (f := true) (sp := [17]) (d0 := 1) (O := [true]) (T := [(0, [.inr (.inl 1), .inl (.int 20)], [])]) (P := [(4, .inr (.inl 74), .inl (.int 2000))]) jm_ok133 (by decide +kernel) (by decide +kernel) hd F X1 X2 (fun F' hF hs => ?_)
  have b1 := hd_b (F := F) (F' := F') (k := 1) (hF 1 (by decide))
  have t74 : sy_dv F' (.inr (.inl 74)) = .int ((sy_i F 1) + ((20 : Int32))) := hd_o (hs 0 _ rfl) b1 rfl rfl
  have b69 := hd_b (F := F) (F' := F') (k := 69) (hF 69 (by decide))
  have b70 := hd_b (F := F) (F' := F') (k := 70) (hF 70 (by decide))
  have b71 := hd_b (F := F) (F' := F') (k := 71) (hF 71 (by decide))
  have b72 := hd_b (F := F) (F' := F') (k := 72) (hF 72 (by decide))
  have b73 := hd_b (F := F) (F' := F') (k := 73) (hF 73 (by decide))
  have hB' : iv_in F' iv_B4 := iv_in_eq hB (fun j hj => hF j (Nat.lt_of_lt_of_le hj (by decide +kernel)))
  refine ⟨List.forall_mem_cons.mpr ⟨hd_p4 t74 rfl (by have hc : ((2000) : Int32).toInt = 2000 := (by decide); omega), fun _ h => absurd h List.not_mem_nil⟩, ?_⟩
  refine k _ ?_ ?_ ?_ ?_ ?_ ?_
  · exact fun j hj _ => (hd_keep hB' (Nat.lt_of_lt_of_le hj (by decide +kernel)) (by simp)).trans (hF j (by omega))
  · exact hd_gi (x := .inr (.inl 69)) (by decide +kernel) b69
  · exact hd_gi (x := .inr (.inl 70)) (by decide +kernel) b70
  · exact hd_gi (x := .inr (.inl 71)) (by decide +kernel) b71
  · exact hd_gi (x := .inr (.inl 72)) (by decide +kernel) b72
  · exact hd_gi (x := .inr (.inl 73)) (by decide +kernel) b73
theorem rfd_0_p1 {Ls : Nat} {xs : Nat → Int32} {d : Nat} {Q : Option Value → jm_h → Prop} (hd : 2 ≤ d) (F : Nat → sy_d) (X1 X2 : List jm_c) (hB : iv_in F iv_B4)
    (h0 : 2000 < ((sy_i F 1) + ((20 : Int32))).toInt)
    (k : ∀ F1 : Nat → sy_d, (∀ j, j < 69 → True → F1 j = F j) → Q (some (.int (((-1) : Int32)))) (sy_dh F1 X1 X2 (iv_H 4))) :
    hd_W Ls xs d jm_M133 Q (0, sy_dL F [some (.inl (.ref 1000)), some (.inr (.inl 69)), some (.inr (.inl 70)), some (.inr (.inl 71)), some (.inr (.inl 72)), some (.inr (.inl 73))], sy_dS F [], sy_dh F X1 X2 (iv_H 4), 0, 0) := by
  refine hd_ret (s := 4) (nv := 74) (v := some (.inl (.int (-1)))) (uh := hd_ov (iv_id 0 iv_B4) []) (f := true) (sp := [17]) (d0 := 1) (O := [false]) (T := [(0, [.inr (.inl 1), .inl (.int 20)], [])]) (P := [(5, .inr (.inl 74), .inl (.int 2000))]) jm_ok133 (by decide +kernel) (by decide +kernel) hd F X1 X2 (fun F' hF hs => ?_)
  have b1 := hd_b (F := F) (F' := F') (k := 1) (hF 1 (by decide))
  have t74 : sy_dv F' (.inr (.inl 74)) = .int ((sy_i F 1) + ((20 : Int32))) := hd_o (hs 0 _ rfl) b1 rfl rfl
  have hB' : iv_in F' iv_B4 := iv_in_eq hB (fun j hj => hF j (Nat.lt_of_lt_of_le hj (by decide +kernel)))
  refine ⟨List.forall_mem_cons.mpr ⟨hd_p5 t74 rfl (by have hc : ((2000) : Int32).toInt = 2000 := (by decide); omega), fun _ h => absurd h List.not_mem_nil⟩, ?_⟩
  refine k _ ?_
  · exact fun j hj _ => (hd_keep hB' (Nat.lt_of_lt_of_le hj (by decide +kernel)) (by simp)).trans (hF j (by omega))
theorem rfd_0 {Ls : Nat} {xs : Nat → Int32} {d : Nat} {Q : Option Value → jm_h → Prop} (hd : 2 ≤ d) (F : Nat → sy_d) (X1 X2 : List jm_c) (hB : iv_in F iv_B4)
    (k0 : ((sy_i F 1).toInt + 20) ≤ 2000 → ∀ F1 : Nat → sy_d, iv_in F1 iv_B4 → (∀ j, j < 69 → j ∉ ([] : List Nat) → F1 j = F j) → (sy_i F1 1).toInt = (sy_i F 1).toInt → (sy_i F1 10).toInt = (sy_i F 10).toInt → (sy_i F1 21).toInt = (sy_i F 21).toInt → sy_ai F1 23 = sy_ai F 23 → sy_ai F1 67 = sy_ai F 67 → (sy_i F1 69).toInt = (sy_i F 69).toInt → (sy_i F1 70).toInt = (sy_i F 70).toInt → (sy_i F1 71).toInt = (sy_i F 71).toInt → (sy_i F1 72).toInt = (sy_i F 72).toInt → (sy_i F1 73).toInt = (sy_i F 73).toInt → hd_W Ls xs d jm_M133 Q (17, sy_dL F1 [some (.inl (.ref 1000)), some (.inr (.inl 69)), some (.inr (.inl 70)), some (.inr (.inl 71)), some (.inr (.inl 72)), some (.inr (.inl 73))], sy_dS F1 [.inr (.inl 69), .inl (.ref 1000)], sy_dh F1 X1 X2 (iv_H 4), 0, 0))
    (k1 : 2000 < ((sy_i F 1).toInt + 20) → ∀ F1 : Nat → sy_d, iv_in F1 iv_B4 → (∀ j, j < 69 → j ∉ ([] : List Nat) → F1 j = F j) → (sy_i F1 1).toInt = (sy_i F 1).toInt → (sy_i F1 10).toInt = (sy_i F 10).toInt → (sy_i F1 21).toInt = (sy_i F 21).toInt → sy_ai F1 23 = sy_ai F 23 → sy_ai F1 67 = sy_ai F 67 → Q (some (.int (((-1) : Int32)))) (sy_dh F1 X1 X2 (iv_H 4))) :
    hd_W Ls xs d jm_M133 Q (0, sy_dL F [some (.inl (.ref 1000)), some (.inr (.inl 69)), some (.inr (.inl 70)), some (.inr (.inl 71)), some (.inr (.inl 72)), some (.inr (.inl 73))], sy_dS F [], sy_dh F X1 X2 (iv_H 4), 0, 0) := by
  by_cases g0 : ((sy_i F 1).toInt + 20) ≤ 2000
  · have c1 := nz_bx hB (k := 1) (lo := 0) (hi := 2000) rfl
    have n74 : ((sy_i F 1) + ((20 : Int32))).toInt = ((sy_i F 1).toInt + 20) := nz_add (rfl : (sy_i F 1).toInt = (sy_i F 1).toInt) (by decide : ((20 : Int32)).toInt = 20) (by omega) (by omega)
    exact rfd_0_p0 hd F X1 X2 hB (by first | exact g0 | (simp only [nz_c, n74]; exact g0) | (rw [n74]; exact g0)) (fun F1 g e69 e70 e71 e72 e73 => k0 g0 F1 (nz_in hB [] (fun j hj hn => g j hj (by simp only [List.mem_cons, List.not_mem_nil, or_false, not_or] at hn; exact trivial)) (List.forall_mem_nil _)) (fun j hj hn => g j hj (by simp only [List.mem_cons, List.not_mem_nil, or_false, not_or] at hn; exact trivial)) (nz_fi (g 1 (by decide) (by decide))) (nz_fi (g 10 (by decide) (by decide))) (nz_fi (g 21 (by decide) (by decide))) (nz_fa (g 23 (by decide) (by decide))) (nz_fa (g 67 (by decide) (by decide))) ((congrArg Int32.toInt (zz_i e69)).trans (rfl : (sy_i F 69).toInt = (sy_i F 69).toInt)) ((congrArg Int32.toInt (zz_i e70)).trans (rfl : (sy_i F 70).toInt = (sy_i F 70).toInt)) ((congrArg Int32.toInt (zz_i e71)).trans (rfl : (sy_i F 71).toInt = (sy_i F 71).toInt)) ((congrArg Int32.toInt (zz_i e72)).trans (rfl : (sy_i F 72).toInt = (sy_i F 72).toInt)) ((congrArg Int32.toInt (zz_i e73)).trans (rfl : (sy_i F 73).toInt = (sy_i F 73).toInt)))
  replace g0 : 2000 < ((sy_i F 1).toInt + 20) := by omega
  have c1 := nz_bx hB (k := 1) (lo := 0) (hi := 2000) rfl
  have n74 : ((sy_i F 1) + ((20 : Int32))).toInt = ((sy_i F 1).toInt + 20) := nz_add (rfl : (sy_i F 1).toInt = (sy_i F 1).toInt) (by decide : ((20 : Int32)).toInt = 20) (by omega) (by omega)
  exact rfd_0_p1 hd F X1 X2 hB (by first | exact g0 | (simp only [nz_c, n74]; exact g0) | (rw [n74]; exact g0)) (fun F1 g  => k1 g0 F1 (nz_in hB [] (fun j hj hn => g j hj (by simp only [List.mem_cons, List.not_mem_nil, or_false, not_or] at hn; exact trivial)) (List.forall_mem_nil _)) (fun j hj hn => g j hj (by simp only [List.mem_cons, List.not_mem_nil, or_false, not_or] at hn; exact trivial)) (nz_fi (g 1 (by decide) (by decide))) (nz_fi (g 10 (by decide) (by decide))) (nz_fi (g 21 (by decide) (by decide))) (nz_fa (g 23 (by decide) (by decide))) (nz_fa (g 67 (by decide) (by decide))))
theorem rfd_20_p0 {Ls : Nat} {xs : Nat → Int32} {d : Nat} {Q : Option Value → jm_h → Prop} (hd : 2 ≤ d) (F : Nat → sy_d) (X1 X2 : List jm_c) (hB : iv_in F iv_B4)
    (k : ∀ F1 : Nat → sy_d, (∀ j, j < 69 → True → F1 j = F j) → F1 69 = .inl (.int (sy_i F 69)) → F1 70 = .inl (.int (sy_i F 70)) → F1 71 = .inl (.int (sy_i F 71)) → F1 72 = .inl (.int (sy_i F 72)) → F1 73 = .inl (.int (sy_i F 73)) → hd_W Ls xs d jm_M133 Q (22, sy_dL F1 [some (.inl (.ref 1000)), some (.inr (.inl 69)), some (.inr (.inl 70)), some (.inr (.inl 71)), some (.inr (.inl 72)), some (.inr (.inl 73))], sy_dS F1 [.inr (.inl 70), .inl (.ref 1000)], sy_dh F1 X1 X2 (iv_H 4), 0, 0)) :
    hd_W Ls xs d jm_M133 Q (20, sy_dL F [some (.inl (.ref 1000)), some (.inr (.inl 69)), some (.inr (.inl 70)), some (.inr (.inl 71)), some (.inr (.inl 72)), some (.inr (.inl 73))], sy_dS F [], sy_dh F X1 X2 (iv_H 4), 0, 0) := by
  refine hd_run (s := 4) (nv := 74) (pc := 22) (L := [some (.inl (.ref 1000)), some (.inr (.inl 69)), some (.inr (.inl 70)), some (.inr (.inl 71)), some (.inr (.inl 72)), some (.inr (.inl 73))]) (S := [.inr (.inl 70), .inl (.ref 1000)]) (uh := hd_ov (iv_id 0 iv_B4) []) (ul := [.inl (.inr (.inl 69)), .inl (.inr (.inl 70)), .inl (.inr (.inl 71)), .inl (.inr (.inl 72)), .inl (.inr (.inl 73))]) (f := false) (sp := [22]) (d0 := 1) (O := []) (T := []) (P := []) jm_ok133 (by decide +kernel) (by decide +kernel) hd F X1 X2 (fun F' hF hs => ?_)
  have b69 := hd_b (F := F) (F' := F') (k := 69) (hF 69 (by decide))
  have b70 := hd_b (F := F) (F' := F') (k := 70) (hF 70 (by decide))
  have b71 := hd_b (F := F) (F' := F') (k := 71) (hF 71 (by decide))
  have b72 := hd_b (F := F) (F' := F') (k := 72) (hF 72 (by decide))
  have b73 := hd_b (F := F) (F' := F') (k := 73) (hF 73 (by decide))
  have hB' : iv_in F' iv_B4 := iv_in_eq hB (fun j hj => hF j (Nat.lt_of_lt_of_le hj (by decide +kernel)))
  refine ⟨fun _ h => absurd h List.not_mem_nil, ?_⟩
  refine k _ ?_ ?_ ?_ ?_ ?_ ?_
  · exact fun j hj _ => (hd_keep hB' (Nat.lt_of_lt_of_le hj (by decide +kernel)) (by simp)).trans (hF j (by omega))
  · exact hd_gi (x := .inr (.inl 69)) (by decide +kernel) b69
  · exact hd_gi (x := .inr (.inl 70)) (by decide +kernel) b70
  · exact hd_gi (x := .inr (.inl 71)) (by decide +kernel) b71
  · exact hd_gi (x := .inr (.inl 72)) (by decide +kernel) b72
  · exact hd_gi (x := .inr (.inl 73)) (by decide +kernel) b73
theorem rfd_20 {Ls : Nat} {xs : Nat → Int32} {d : Nat} {Q : Option Value → jm_h → Prop} (hd : 2 ≤ d) (F : Nat → sy_d) (X1 X2 : List jm_c) (hB : iv_in F iv_B4)
    (k0 : ∀ F1 : Nat → sy_d, iv_in F1 iv_B4 → (∀ j, j < 69 → j ∉ ([] : List Nat) → F1 j = F j) → (sy_i F1 1).toInt = (sy_i F 1).toInt → (sy_i F1 10).toInt = (sy_i F 10).toInt → (sy_i F1 21).toInt = (sy_i F 21).toInt → sy_ai F1 23 = sy_ai F 23 → sy_ai F1 67 = sy_ai F 67 → (sy_i F1 69).toInt = (sy_i F 69).toInt → (sy_i F1 70).toInt = (sy_i F 70).toInt → (sy_i F1 71).toInt = (sy_i F 71).toInt → (sy_i F1 72).toInt = (sy_i F 72).toInt → (sy_i F1 73).toInt = (sy_i F 73).toInt → hd_W Ls xs d jm_M133 Q (22, sy_dL F1 [some (.inl (.ref 1000)), some (.inr (.inl 69)), some (.inr (.inl 70)), some (.inr (.inl 71)), some (.inr (.inl 72)), some (.inr (.inl 73))], sy_dS F1 [.inr (.inl 70), .inl (.ref 1000)], sy_dh F1 X1 X2 (iv_H 4), 0, 0)) :
    hd_W Ls xs d jm_M133 Q (20, sy_dL F [some (.inl (.ref 1000)), some (.inr (.inl 69)), some (.inr (.inl 70)), some (.inr (.inl 71)), some (.inr (.inl 72)), some (.inr (.inl 73))], sy_dS F [], sy_dh F X1 X2 (iv_H 4), 0, 0) := by
  exact rfd_20_p0 hd F X1 X2 hB  (fun F1 g e69 e70 e71 e72 e73 => k0 F1 (nz_in hB [] (fun j hj hn => g j hj (by simp only [List.mem_cons, List.not_mem_nil, or_false, not_or] at hn; exact trivial)) (List.forall_mem_nil _)) (fun j hj hn => g j hj (by simp only [List.mem_cons, List.not_mem_nil, or_false, not_or] at hn; exact trivial)) (nz_fi (g 1 (by decide) (by decide))) (nz_fi (g 10 (by decide) (by decide))) (nz_fi (g 21 (by decide) (by decide))) (nz_fa (g 23 (by decide) (by decide))) (nz_fa (g 67 (by decide) (by decide))) ((congrArg Int32.toInt (zz_i e69)).trans (rfl : (sy_i F 69).toInt = (sy_i F 69).toInt)) ((congrArg Int32.toInt (zz_i e70)).trans (rfl : (sy_i F 70).toInt = (sy_i F 70).toInt)) ((congrArg Int32.toInt (zz_i e71)).trans (rfl : (sy_i F 71).toInt = (sy_i F 71).toInt)) ((congrArg Int32.toInt (zz_i e72)).trans (rfl : (sy_i F 72).toInt = (sy_i F 72).toInt)) ((congrArg Int32.toInt (zz_i e73)).trans (rfl : (sy_i F 73).toInt = (sy_i F 73).toInt)))
theorem rfd_25_p0 {Ls : Nat} {xs : Nat → Int32} {d : Nat} {Q : Option Value → jm_h → Prop} (hd : 2 ≤ d) (F : Nat → sy_d) (X1 X2 : List jm_c) (hB : iv_in F iv_B4)
    (k : ∀ F1 : Nat → sy_d, (∀ j, j < 69 → True → F1 j = F j) → F1 69 = .inl (.int (sy_i F 69)) → F1 70 = .inl (.int (sy_i F 70)) → F1 71 = .inl (.int (sy_i F 71)) → F1 72 = .inl (.int (sy_i F 72)) → F1 73 = .inl (.int (sy_i F 73)) → hd_W Ls xs d jm_M133 Q (27, sy_dL F1 [some (.inl (.ref 1000)), some (.inr (.inl 69)), some (.inr (.inl 70)), some (.inr (.inl 71)), some (.inr (.inl 72)), some (.inr (.inl 73))], sy_dS F1 [.inr (.inl 71), .inl (.ref 1000)], sy_dh F1 X1 X2 (iv_H 4), 0, 0)) :
    hd_W Ls xs d jm_M133 Q (25, sy_dL F [some (.inl (.ref 1000)), some (.inr (.inl 69)), some (.inr (.inl 70)), some (.inr (.inl 71)), some (.inr (.inl 72)), some (.inr (.inl 73))], sy_dS F [], sy_dh F X1 X2 (iv_H 4), 0, 0) := by
  refine hd_run (s := 4) (nv := 74) (pc := 27) (L := [some (.inl (.ref 1000)), some (.inr (.inl 69)), some (.inr (.inl 70)), some (.inr (.inl 71)), some (.inr (.inl 72)), some (.inr (.inl 73))]) (S := [.inr (.inl 71), .inl (.ref 1000)]) (uh := hd_ov (iv_id 0 iv_B4) []) (ul := [.inl (.inr (.inl 69)), .inl (.inr (.inl 70)), .inl (.inr (.inl 71)), .inl (.inr (.inl 72)), .inl (.inr (.inl 73))]) (f := false) (sp := [27]) (d0 := 1) (O := []) (T := []) (P := []) jm_ok133 (by decide +kernel) (by decide +kernel) hd F X1 X2 (fun F' hF hs => ?_)
  have b69 := hd_b (F := F) (F' := F') (k := 69) (hF 69 (by decide))
  have b70 := hd_b (F := F) (F' := F') (k := 70) (hF 70 (by decide))
  have b71 := hd_b (F := F) (F' := F') (k := 71) (hF 71 (by decide))
  have b72 := hd_b (F := F) (F' := F') (k := 72) (hF 72 (by decide))
  have b73 := hd_b (F := F) (F' := F') (k := 73) (hF 73 (by decide))
  have hB' : iv_in F' iv_B4 := iv_in_eq hB (fun j hj => hF j (Nat.lt_of_lt_of_le hj (by decide +kernel)))
  refine ⟨fun _ h => absurd h List.not_mem_nil, ?_⟩
  refine k _ ?_ ?_ ?_ ?_ ?_ ?_
  · exact fun j hj _ => (hd_keep hB' (Nat.lt_of_lt_of_le hj (by decide +kernel)) (by simp)).trans (hF j (by omega))
  · exact hd_gi (x := .inr (.inl 69)) (by decide +kernel) b69
  · exact hd_gi (x := .inr (.inl 70)) (by decide +kernel) b70
  · exact hd_gi (x := .inr (.inl 71)) (by decide +kernel) b71
  · exact hd_gi (x := .inr (.inl 72)) (by decide +kernel) b72
  · exact hd_gi (x := .inr (.inl 73)) (by decide +kernel) b73
theorem rfd_25 {Ls : Nat} {xs : Nat → Int32} {d : Nat} {Q : Option Value → jm_h → Prop} (hd : 2 ≤ d) (F : Nat → sy_d) (X1 X2 : List jm_c) (hB : iv_in F iv_B4)
    (k0 : ∀ F1 : Nat → sy_d, iv_in F1 iv_B4 → (∀ j, j < 69 → j ∉ ([] : List Nat) → F1 j = F j) → (sy_i F1 1).toInt = (sy_i F 1).toInt → (sy_i F1 10).toInt = (sy_i F 10).toInt → (sy_i F1 21).toInt = (sy_i F 21).toInt → sy_ai F1 23 = sy_ai F 23 → sy_ai F1 67 = sy_ai F 67 → (sy_i F1 69).toInt = (sy_i F 69).toInt → (sy_i F1 70).toInt = (sy_i F 70).toInt → (sy_i F1 71).toInt = (sy_i F 71).toInt → (sy_i F1 72).toInt = (sy_i F 72).toInt → (sy_i F1 73).toInt = (sy_i F 73).toInt → hd_W Ls xs d jm_M133 Q (27, sy_dL F1 [some (.inl (.ref 1000)), some (.inr (.inl 69)), some (.inr (.inl 70)), some (.inr (.inl 71)), some (.inr (.inl 72)), some (.inr (.inl 73))], sy_dS F1 [.inr (.inl 71), .inl (.ref 1000)], sy_dh F1 X1 X2 (iv_H 4), 0, 0)) :
    hd_W Ls xs d jm_M133 Q (25, sy_dL F [some (.inl (.ref 1000)), some (.inr (.inl 69)), some (.inr (.inl 70)), some (.inr (.inl 71)), some (.inr (.inl 72)), some (.inr (.inl 73))], sy_dS F [], sy_dh F X1 X2 (iv_H 4), 0, 0) := by
  exact rfd_25_p0 hd F X1 X2 hB  (fun F1 g e69 e70 e71 e72 e73 => k0 F1 (nz_in hB [] (fun j hj hn => g j hj (by simp only [List.mem_cons, List.not_mem_nil, or_false, not_or] at hn; exact trivial)) (List.forall_mem_nil _)) (fun j hj hn => g j hj (by simp only [List.mem_cons, List.not_mem_nil, or_false, not_or] at hn; exact trivial)) (nz_fi (g 1 (by decide) (by decide))) (nz_fi (g 10 (by decide) (by decide))) (nz_fi (g 21 (by decide) (by decide))) (nz_fa (g 23 (by decide) (by decide))) (nz_fa (g 67 (by decide) (by decide))) ((congrArg Int32.toInt (zz_i e69)).trans (rfl : (sy_i F 69).toInt = (sy_i F 69).toInt)) ((congrArg Int32.toInt (zz_i e70)).trans (rfl : (sy_i F 70).toInt = (sy_i F 70).toInt)) ((congrArg Int32.toInt (zz_i e71)).trans (rfl : (sy_i F 71).toInt = (sy_i F 71).toInt)) ((congrArg Int32.toInt (zz_i e72)).trans (rfl : (sy_i F 72).toInt = (sy_i F 72).toInt)) ((congrArg Int32.toInt (zz_i e73)).trans (rfl : (sy_i F 73).toInt = (sy_i F 73).toInt)))
theorem rfd_30_p0 {Ls : Nat} {xs : Nat → Int32} {d : Nat} {Q : Option Value → jm_h → Prop} (hd : 2 ≤ d) (F : Nat → sy_d) (X1 X2 : List jm_c) (hB : iv_in F iv_B4)
    (k : ∀ F1 : Nat → sy_d, (∀ j, j < 69 → True → F1 j = F j) → F1 69 = .inl (.int (sy_i F 69)) → F1 70 = .inl (.int (sy_i F 70)) → F1 71 = .inl (.int (sy_i F 71)) → F1 72 = .inl (.int (sy_i F 72)) → F1 73 = .inl (.int (sy_i F 73)) → hd_W Ls xs d jm_M133 Q (33, sy_dL F1 [some (.inl (.ref 1000)), some (.inr (.inl 69)), some (.inr (.inl 70)), some (.inr (.inl 71)), some (.inr (.inl 72)), some (.inr (.inl 73))], sy_dS F1 [.inr (.inl 72), .inl (.ref 1000)], sy_dh F1 X1 X2 (iv_H 4), 0, 0)) :
    hd_W Ls xs d jm_M133 Q (30, sy_dL F [some (.inl (.ref 1000)), some (.inr (.inl 69)), some (.inr (.inl 70)), some (.inr (.inl 71)), some (.inr (.inl 72)), some (.inr (.inl 73))], sy_dS F [], sy_dh F X1 X2 (iv_H 4), 0, 0) := by
  refine hd_run (s := 4) (nv := 74) (pc := 33) (L := [some (.inl (.ref 1000)), some (.inr (.inl 69)), some (.inr (.inl 70)), some (.inr (.inl 71)), some (.inr (.inl 72)), some (.inr (.inl 73))]) (S := [.inr (.inl 72), .inl (.ref 1000)]) (uh := hd_ov (iv_id 0 iv_B4) []) (ul := [.inl (.inr (.inl 69)), .inl (.inr (.inl 70)), .inl (.inr (.inl 71)), .inl (.inr (.inl 72)), .inl (.inr (.inl 73))]) (f := false) (sp := [33]) (d0 := 1) (O := []) (T := []) (P := []) jm_ok133 (by decide +kernel) (by decide +kernel) hd F X1 X2 (fun F' hF hs => ?_)
  have b69 := hd_b (F := F) (F' := F') (k := 69) (hF 69 (by decide))
  have b70 := hd_b (F := F) (F' := F') (k := 70) (hF 70 (by decide))
  have b71 := hd_b (F := F) (F' := F') (k := 71) (hF 71 (by decide))
  have b72 := hd_b (F := F) (F' := F') (k := 72) (hF 72 (by decide))
  have b73 := hd_b (F := F) (F' := F') (k := 73) (hF 73 (by decide))
  have hB' : iv_in F' iv_B4 := iv_in_eq hB (fun j hj => hF j (Nat.lt_of_lt_of_le hj (by decide +kernel)))
  refine ⟨fun _ h => absurd h List.not_mem_nil, ?_⟩
  refine k _ ?_ ?_ ?_ ?_ ?_ ?_
  · exact fun j hj _ => (hd_keep hB' (Nat.lt_of_lt_of_le hj (by decide +kernel)) (by simp)).trans (hF j (by omega))
  · exact hd_gi (x := .inr (.inl 69)) (by decide +kernel) b69
  · exact hd_gi (x := .inr (.inl 70)) (by decide +kernel) b70
  · exact hd_gi (x := .inr (.inl 71)) (by decide +kernel) b71
  · exact hd_gi (x := .inr (.inl 72)) (by decide +kernel) b72
  · exact hd_gi (x := .inr (.inl 73)) (by decide +kernel) b73
theorem rfd_30 {Ls : Nat} {xs : Nat → Int32} {d : Nat} {Q : Option Value → jm_h → Prop} (hd : 2 ≤ d) (F : Nat → sy_d) (X1 X2 : List jm_c) (hB : iv_in F iv_B4)
    (k0 : ∀ F1 : Nat → sy_d, iv_in F1 iv_B4 → (∀ j, j < 69 → j ∉ ([] : List Nat) → F1 j = F j) → (sy_i F1 1).toInt = (sy_i F 1).toInt → (sy_i F1 10).toInt = (sy_i F 10).toInt → (sy_i F1 21).toInt = (sy_i F 21).toInt → sy_ai F1 23 = sy_ai F 23 → sy_ai F1 67 = sy_ai F 67 → (sy_i F1 69).toInt = (sy_i F 69).toInt → (sy_i F1 70).toInt = (sy_i F 70).toInt → (sy_i F1 71).toInt = (sy_i F 71).toInt → (sy_i F1 72).toInt = (sy_i F 72).toInt → (sy_i F1 73).toInt = (sy_i F 73).toInt → hd_W Ls xs d jm_M133 Q (33, sy_dL F1 [some (.inl (.ref 1000)), some (.inr (.inl 69)), some (.inr (.inl 70)), some (.inr (.inl 71)), some (.inr (.inl 72)), some (.inr (.inl 73))], sy_dS F1 [.inr (.inl 72), .inl (.ref 1000)], sy_dh F1 X1 X2 (iv_H 4), 0, 0)) :
    hd_W Ls xs d jm_M133 Q (30, sy_dL F [some (.inl (.ref 1000)), some (.inr (.inl 69)), some (.inr (.inl 70)), some (.inr (.inl 71)), some (.inr (.inl 72)), some (.inr (.inl 73))], sy_dS F [], sy_dh F X1 X2 (iv_H 4), 0, 0) := by
  exact rfd_30_p0 hd F X1 X2 hB  (fun F1 g e69 e70 e71 e72 e73 => k0 F1 (nz_in hB [] (fun j hj hn => g j hj (by simp only [List.mem_cons, List.not_mem_nil, or_false, not_or] at hn; exact trivial)) (List.forall_mem_nil _)) (fun j hj hn => g j hj (by simp only [List.mem_cons, List.not_mem_nil, or_false, not_or] at hn; exact trivial)) (nz_fi (g 1 (by decide) (by decide))) (nz_fi (g 10 (by decide) (by decide))) (nz_fi (g 21 (by decide) (by decide))) (nz_fa (g 23 (by decide) (by decide))) (nz_fa (g 67 (by decide) (by decide))) ((congrArg Int32.toInt (zz_i e69)).trans (rfl : (sy_i F 69).toInt = (sy_i F 69).toInt)) ((congrArg Int32.toInt (zz_i e70)).trans (rfl : (sy_i F 70).toInt = (sy_i F 70).toInt)) ((congrArg Int32.toInt (zz_i e71)).trans (rfl : (sy_i F 71).toInt = (sy_i F 71).toInt)) ((congrArg Int32.toInt (zz_i e72)).trans (rfl : (sy_i F 72).toInt = (sy_i F 72).toInt)) ((congrArg Int32.toInt (zz_i e73)).trans (rfl : (sy_i F 73).toInt = (sy_i F 73).toInt)))
theorem rfd_36_p0 {Ls : Nat} {xs : Nat → Int32} {d : Nat} {Q : Option Value → jm_h → Prop} (hd : 2 ≤ d) (F : Nat → sy_d) (X1 X2 : List jm_c) (hB : iv_in F iv_B4)
    (k : ∀ F1 : Nat → sy_d, (∀ j, j < 69 → True → F1 j = F j) → F1 69 = .inl (.int (sy_i F 69)) → F1 70 = .inl (.int (sy_i F 70)) → F1 71 = .inl (.int (sy_i F 71)) → F1 72 = .inl (.int (sy_i F 72)) → F1 73 = .inl (.int (sy_i F 73)) → hd_W Ls xs d jm_M133 Q (39, sy_dL F1 [some (.inl (.ref 1000)), some (.inr (.inl 69)), some (.inr (.inl 70)), some (.inr (.inl 71)), some (.inr (.inl 72)), some (.inr (.inl 73))], sy_dS F1 [.inr (.inl 73), .inl (.ref 1000)], sy_dh F1 X1 X2 (iv_H 4), 0, 0)) :
    hd_W Ls xs d jm_M133 Q (36, sy_dL F [some (.inl (.ref 1000)), some (.inr (.inl 69)), some (.inr (.inl 70)), some (.inr (.inl 71)), some (.inr (.inl 72)), some (.inr (.inl 73))], sy_dS F [], sy_dh F X1 X2 (iv_H 4), 0, 0) := by
  refine hd_run (s := 4) (nv := 74) (pc := 39) (L := [some (.inl (.ref 1000)), some (.inr (.inl 69)), some (.inr (.inl 70)), some (.inr (.inl 71)), some (.inr (.inl 72)), some (.inr (.inl 73))]) (S := [.inr (.inl 73), .inl (.ref 1000)]) (uh := hd_ov (iv_id 0 iv_B4) []) (ul := [.inl (.inr (.inl 69)), .inl (.inr (.inl 70)), .inl (.inr (.inl 71)), .inl (.inr (.inl 72)), .inl (.inr (.inl 73))]) (f := false) (sp := [39]) (d0 := 1) (O := []) (T := []) (P := []) jm_ok133 (by decide +kernel) (by decide +kernel) hd F X1 X2 (fun F' hF hs => ?_)
  have b69 := hd_b (F := F) (F' := F') (k := 69) (hF 69 (by decide))
  have b70 := hd_b (F := F) (F' := F') (k := 70) (hF 70 (by decide))
  have b71 := hd_b (F := F) (F' := F') (k := 71) (hF 71 (by decide))
  have b72 := hd_b (F := F) (F' := F') (k := 72) (hF 72 (by decide))
  have b73 := hd_b (F := F) (F' := F') (k := 73) (hF 73 (by decide))
  have hB' : iv_in F' iv_B4 := iv_in_eq hB (fun j hj => hF j (Nat.lt_of_lt_of_le hj (by decide +kernel)))
  refine ⟨fun _ h => absurd h List.not_mem_nil, ?_⟩
  refine k _ ?_ ?_ ?_ ?_ ?_ ?_
  · exact fun j hj _ => (hd_keep hB' (Nat.lt_of_lt_of_le hj (by decide +kernel)) (by simp)).trans (hF j (by omega))
  · exact hd_gi (x := .inr (.inl 69)) (by decide +kernel) b69
  · exact hd_gi (x := .inr (.inl 70)) (by decide +kernel) b70
  · exact hd_gi (x := .inr (.inl 71)) (by decide +kernel) b71
  · exact hd_gi (x := .inr (.inl 72)) (by decide +kernel) b72
  · exact hd_gi (x := .inr (.inl 73)) (by decide +kernel) b73
theorem rfd_36 {Ls : Nat} {xs : Nat → Int32} {d : Nat} {Q : Option Value → jm_h → Prop} (hd : 2 ≤ d) (F : Nat → sy_d) (X1 X2 : List jm_c) (hB : iv_in F iv_B4)
    (k0 : ∀ F1 : Nat → sy_d, iv_in F1 iv_B4 → (∀ j, j < 69 → j ∉ ([] : List Nat) → F1 j = F j) → (sy_i F1 1).toInt = (sy_i F 1).toInt → (sy_i F1 10).toInt = (sy_i F 10).toInt → (sy_i F1 21).toInt = (sy_i F 21).toInt → sy_ai F1 23 = sy_ai F 23 → sy_ai F1 67 = sy_ai F 67 → (sy_i F1 69).toInt = (sy_i F 69).toInt → (sy_i F1 70).toInt = (sy_i F 70).toInt → (sy_i F1 71).toInt = (sy_i F 71).toInt → (sy_i F1 72).toInt = (sy_i F 72).toInt → (sy_i F1 73).toInt = (sy_i F 73).toInt → hd_W Ls xs d jm_M133 Q (39, sy_dL F1 [some (.inl (.ref 1000)), some (.inr (.inl 69)), some (.inr (.inl 70)), some (.inr (.inl 71)), some (.inr (.inl 72)), some (.inr (.inl 73))], sy_dS F1 [.inr (.inl 73), .inl (.ref 1000)], sy_dh F1 X1 X2 (iv_H 4), 0, 0)) :
    hd_W Ls xs d jm_M133 Q (36, sy_dL F [some (.inl (.ref 1000)), some (.inr (.inl 69)), some (.inr (.inl 70)), some (.inr (.inl 71)), some (.inr (.inl 72)), some (.inr (.inl 73))], sy_dS F [], sy_dh F X1 X2 (iv_H 4), 0, 0) := by
  exact rfd_36_p0 hd F X1 X2 hB  (fun F1 g e69 e70 e71 e72 e73 => k0 F1 (nz_in hB [] (fun j hj hn => g j hj (by simp only [List.mem_cons, List.not_mem_nil, or_false, not_or] at hn; exact trivial)) (List.forall_mem_nil _)) (fun j hj hn => g j hj (by simp only [List.mem_cons, List.not_mem_nil, or_false, not_or] at hn; exact trivial)) (nz_fi (g 1 (by decide) (by decide))) (nz_fi (g 10 (by decide) (by decide))) (nz_fi (g 21 (by decide) (by decide))) (nz_fa (g 23 (by decide) (by decide))) (nz_fa (g 67 (by decide) (by decide))) ((congrArg Int32.toInt (zz_i e69)).trans (rfl : (sy_i F 69).toInt = (sy_i F 69).toInt)) ((congrArg Int32.toInt (zz_i e70)).trans (rfl : (sy_i F 70).toInt = (sy_i F 70).toInt)) ((congrArg Int32.toInt (zz_i e71)).trans (rfl : (sy_i F 71).toInt = (sy_i F 71).toInt)) ((congrArg Int32.toInt (zz_i e72)).trans (rfl : (sy_i F 72).toInt = (sy_i F 72).toInt)) ((congrArg Int32.toInt (zz_i e73)).trans (rfl : (sy_i F 73).toInt = (sy_i F 73).toInt)))
theorem rfd_42_p0 {Ls : Nat} {xs : Nat → Int32} {d : Nat} {Q : Option Value → jm_h → Prop} (hd : 2 ≤ d) (F : Nat → sy_d) (X1 X2 : List jm_c) (hB : iv_in F iv_B4)
    (k : ∀ F1 : Nat → sy_d, (∀ j, j < 69 → True → F1 j = F j) → Q (some (.int (sy_i F 1))) (sy_dh F1 X1 X2 (iv_H 4))) :
    hd_W Ls xs d jm_M133 Q (42, sy_dL F [some (.inl (.ref 1000)), some (.inr (.inl 69)), some (.inr (.inl 70)), some (.inr (.inl 71)), some (.inr (.inl 72)), some (.inr (.inl 73))], sy_dS F [], sy_dh F X1 X2 (iv_H 4), 0, 0) := by
  refine hd_ret (s := 4) (nv := 74) (v := some (.inr (.inl 1))) (uh := hd_ov (iv_id 0 iv_B4) []) (f := false) (sp := []) (d0 := 1) (O := []) (T := []) (P := []) jm_ok133 (by decide +kernel) (by decide +kernel) hd F X1 X2 (fun F' hF hs => ?_)
  have b1 := hd_b (F := F) (F' := F') (k := 1) (hF 1 (by decide))
  have hB' : iv_in F' iv_B4 := iv_in_eq hB (fun j hj => hF j (Nat.lt_of_lt_of_le hj (by decide +kernel)))
  have hk := k (sy_cm F' (hd_ov (iv_id 0 iv_B4) [] ++ [])) (fun j hj _ => (hd_keep hB' (Nat.lt_of_lt_of_le hj (by decide +kernel)) (by simp)).trans (hF j (by omega)))
  refine ⟨fun _ h => absurd h List.not_mem_nil, ?_⟩
  show Q (some (sy_dv F' (.inr (.inl 1)))) _
  rw [b1]
  exact hk
theorem rfd_42 {Ls : Nat} {xs : Nat → Int32} {d : Nat} {Q : Option Value → jm_h → Prop} (hd : 2 ≤ d) (F : Nat → sy_d) (X1 X2 : List jm_c) (hB : iv_in F iv_B4)
    (k0 : ∀ F1 : Nat → sy_d, iv_in F1 iv_B4 → (∀ j, j < 69 → j ∉ ([] : List Nat) → F1 j = F j) → (sy_i F1 1).toInt = (sy_i F 1).toInt → (sy_i F1 10).toInt = (sy_i F 10).toInt → (sy_i F1 21).toInt = (sy_i F 21).toInt → sy_ai F1 23 = sy_ai F 23 → sy_ai F1 67 = sy_ai F 67 → Q (some (.int (sy_i F 1))) (sy_dh F1 X1 X2 (iv_H 4))) :
    hd_W Ls xs d jm_M133 Q (42, sy_dL F [some (.inl (.ref 1000)), some (.inr (.inl 69)), some (.inr (.inl 70)), some (.inr (.inl 71)), some (.inr (.inl 72)), some (.inr (.inl 73))], sy_dS F [], sy_dh F X1 X2 (iv_H 4), 0, 0) := by
  exact rfd_42_p0 hd F X1 X2 hB  (fun F1 g  => by rw [(rfl : sy_i F 1 = sy_i F 1)]; exact k0 F1 (nz_in hB [] (fun j hj hn => g j hj (by simp only [List.mem_cons, List.not_mem_nil, or_false, not_or] at hn; exact trivial)) (List.forall_mem_nil _)) (fun j hj hn => g j hj (by simp only [List.mem_cons, List.not_mem_nil, or_false, not_or] at hn; exact trivial)) (nz_fi (g 1 (by decide) (by decide))) (nz_fi (g 10 (by decide) (by decide))) (nz_fi (g 21 (by decide) (by decide))) (nz_fa (g 23 (by decide) (by decide))) (nz_fa (g 67 (by decide) (by decide))))
