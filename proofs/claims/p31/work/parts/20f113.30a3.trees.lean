section
/-! ===== shake, hours, what is told and taped, way by way (shape 3) ===== -/
theorem j3sq_0_p0 {Ls : Nat} {xs : Nat → Int32} {d : Nat} {Q : Option Value → jm_h → Prop} (hd : 2 ≤ d) (F : Nat → sy_d) (X1 X2 : List jm_c) (hB : iv_in F iv_B0)
    (h0 : (sy_i F 82).toInt < 0)
    (k : ∀ F1 : Nat → sy_d, (∀ j, j < 82 → True → F1 j = F j) → Q (some (.int (((-1) : Int32)))) (sy_dh F1 X1 X2 (iv_H 3))) :
    hd_W Ls xs d jm_M90 Q (0, sy_dL F [some (.inl (.ref 8)), some (.inr (.inl 82)), none, none], sy_dS F [], sy_dh F X1 X2 (iv_H 3), 0, 0) := by
  refine hd_ret (s := 3) (nv := 83) (v := some (.inl (.int (-1)))) (uh := hd_ov (iv_id 0 iv_B0) []) (f := true) (sp := [33]) (d0 := 1) (O := [true]) (T := []) (P := [(2, .inr (.inl 82), .inl (.int 0))]) jm_ok90 (by decide +kernel) (by decide +kernel) hd F X1 X2 (fun F' hF hs => ?_)
  have b82 := hd_b (F := F) (F' := F') (k := 82) (hF 82 (by decide))
  have hB' : iv_in F' iv_B0 := iv_in_eq hB (fun j hj => hF j (Nat.lt_of_lt_of_le hj (by decide +kernel)))
  refine ⟨List.forall_mem_cons.mpr ⟨hd_p2 b82 rfl (by have hc : ((0) : Int32).toInt = 0 := (by decide); omega), fun _ h => absurd h List.not_mem_nil⟩, ?_⟩
  refine k _ ?_
  · exact fun j hj _ => (hd_keep hB' (Nat.lt_of_lt_of_le hj (by decide +kernel)) (by simp)).trans (hF j (Nat.lt_of_lt_of_le hj (by decide)))
theorem j3sq_0_p1 {Ls : Nat} {xs : Nat → Int32} {d : Nat} {Q : Option Value → jm_h → Prop} (hd : 2 ≤ d) (F : Nat → sy_d) (X1 X2 : List jm_c) (hB : iv_in F iv_B0)
    (h0 : 0 ≤ (sy_i F 82).toInt)
    (h1 : (sy_i F 18).toInt ≤ (sy_i F 82).toInt)
    (k : ∀ F1 : Nat → sy_d, (∀ j, j < 82 → True → F1 j = F j) → Q (some (.int (((-1) : Int32)))) (sy_dh F1 X1 X2 (iv_H 3))) :
    hd_W Ls xs d jm_M90 Q (0, sy_dL F [some (.inl (.ref 8)), some (.inr (.inl 82)), none, none], sy_dS F [], sy_dh F X1 X2 (iv_H 3), 0, 0) := by
  refine hd_ret (s := 3) (nv := 83) (v := some (.inl (.int (-1)))) (uh := hd_ov (iv_id 0 iv_B0) []) (f := true) (sp := [33]) (d0 := 1) (O := [false, true]) (T := []) (P := [(3, .inr (.inl 82), .inl (.int 0)), (4, .inr (.inl 18), .inr (.inl 82))]) jm_ok90 (by decide +kernel) (by decide +kernel) hd F X1 X2 (fun F' hF hs => ?_)
  have b82 := hd_b (F := F) (F' := F') (k := 82) (hF 82 (by decide))
  have b18 := hd_b (F := F) (F' := F') (k := 18) (hF 18 (by decide))
  have hB' : iv_in F' iv_B0 := iv_in_eq hB (fun j hj => hF j (Nat.lt_of_lt_of_le hj (by decide +kernel)))
  refine ⟨List.forall_mem_cons.mpr ⟨hd_p3 b82 rfl (by have hc : ((0) : Int32).toInt = 0 := (by decide); omega), List.forall_mem_cons.mpr ⟨hd_p4 b18 b82 h1, fun _ h => absurd h List.not_mem_nil⟩⟩, ?_⟩
  refine k _ ?_
  · exact fun j hj _ => (hd_keep hB' (Nat.lt_of_lt_of_le hj (by decide +kernel)) (by simp)).trans (hF j (Nat.lt_of_lt_of_le hj (by decide)))
theorem j3sq_0_p2 {Ls : Nat} {xs : Nat → Int32} {d : Nat} {Q : Option Value → jm_h → Prop} (hd : 2 ≤ d) (F : Nat → sy_d) (X1 X2 : List jm_c) (hB : iv_in F iv_B0)
    (h0 : 0 ≤ (sy_i F 82).toInt)
    (h1 : (sy_i F 82).toInt < (sy_i F 18).toInt)
    (h2 : 0 ≤ (sy_i F 82).toInt ∧ (sy_i F 82).toInt < 7)
    (h3 : ((sy_ai F 54).getD (sy_i F 82).toNatClampNeg 0).toInt = 0)
    (k : ∀ F1 : Nat → sy_d, (∀ j, j < 82 → True → F1 j = F j) → F1 82 = .inl (.int (sy_i F 82)) → hd_W Ls xs d jm_M90 Q (33, sy_dL F1 [some (.inl (.ref 8)), some (.inr (.inl 82)), none, none], sy_dS F1 [.inl (.ref 46), .inl (.ref 66)], sy_dh F1 X1 X2 (iv_H 3), 0, 0)) :
    hd_W Ls xs d jm_M90 Q (0, sy_dL F [some (.inl (.ref 8)), some (.inr (.inl 82)), none, none], sy_dS F [], sy_dh F X1 X2 (iv_H 3), 0, 0) := by
  refine hd_run (s := 3) (nv := 83) (pc := 33) (L := [some (.inl (.ref 8)), some (.inr (.inl 82)), none, none]) (S := [.inl (.ref 46), .inl (.ref 66)]) (uh := hd_ov (iv_id 0 iv_B0) []) (ul := [.inl (.inr (.inl 82))]) (f := true) (sp := [33]) (d0 := 1) (O := [false, false, true]) (T := [(30, [.inr (.inl 82)], [.inr (.inl 54)])]) (P := [(3, .inr (.inl 82), .inl (.int 0)), (5, .inr (.inl 18), .inr (.inl 82)), (6, .inr (.inl 82), .inl (.ref 7)), (0, .inr (.inl 83), .inl (.int 0))]) jm_ok90 (by decide +kernel) (by decide +kernel) hd F X1 X2 (fun F' hF hs => ?_)
  have b82 := hd_b (F := F) (F' := F') (k := 82) (hF 82 (by decide))
  have b18 := hd_b (F := F) (F' := F') (k := 18) (hF 18 (by decide))
  have a54 := hd_ba (F := F) (F' := F') (k := 54) (hF 54 (by decide))
  have t83 : sy_dv F' (.inr (.inl 83)) = .int ((sy_ai F 54).getD (sy_i F 82).toNatClampNeg 0) := hd_rd (hs 0 _ rfl) b82 a54
  have hB' : iv_in F' iv_B0 := iv_in_eq hB (fun j hj => hF j (Nat.lt_of_lt_of_le hj (by decide +kernel)))
  refine ⟨List.forall_mem_cons.mpr ⟨hd_p3 b82 rfl (by have hc : ((0) : Int32).toInt = 0 := (by decide); omega), List.forall_mem_cons.mpr ⟨hd_p5 b18 b82 h1, List.forall_mem_cons.mpr ⟨hd_pb b82 (by first | exact h2 | exact h2), List.forall_mem_cons.mpr ⟨hd_p0 t83 rfl (by have hc : ((0) : Int32).toInt = 0 := (by decide); omega), fun _ h => absurd h List.not_mem_nil⟩⟩⟩⟩, ?_⟩
  refine k _ ?_ ?_
  · exact fun j hj _ => (hd_keep hB' (Nat.lt_of_lt_of_le hj (by decide +kernel)) (by simp)).trans (hF j (Nat.lt_of_lt_of_le hj (by decide)))
  · exact hd_gi (x := .inr (.inl 82)) (by decide +kernel) b82
theorem j3sq_0_p3 {Ls : Nat} {xs : Nat → Int32} {d : Nat} {Q : Option Value → jm_h → Prop} (hd : 2 ≤ d) (F : Nat → sy_d) (X1 X2 : List jm_c) (hB : iv_in F iv_B0)
    (h0 : 0 ≤ (sy_i F 82).toInt)
    (h1 : (sy_i F 82).toInt < (sy_i F 18).toInt)
    (h2 : 0 ≤ (sy_i F 82).toInt ∧ (sy_i F 82).toInt < 7)
    (h3 : ((sy_ai F 54).getD (sy_i F 82).toNatClampNeg 0).toInt ≠ 0)
    (k : ∀ F1 : Nat → sy_d, (∀ j, j < 82 → True → F1 j = F j) → Q (some (.int (((-2) : Int32)))) (sy_dh F1 X1 X2 (iv_H 3))) :
    hd_W Ls xs d jm_M90 Q (0, sy_dL F [some (.inl (.ref 8)), some (.inr (.inl 82)), none, none], sy_dS F [], sy_dh F X1 X2 (iv_H 3), 0, 0) := by
  refine hd_ret (s := 3) (nv := 83) (v := some (.inl (.int (-2)))) (uh := hd_ov (iv_id 0 iv_B0) []) (f := true) (sp := [33]) (d0 := 1) (O := [false, false, false]) (T := [(30, [.inr (.inl 82)], [.inr (.inl 54)])]) (P := [(3, .inr (.inl 82), .inl (.int 0)), (5, .inr (.inl 18), .inr (.inl 82)), (6, .inr (.inl 82), .inl (.ref 7)), (1, .inr (.inl 83), .inl (.int 0))]) jm_ok90 (by decide +kernel) (by decide +kernel) hd F X1 X2 (fun F' hF hs => ?_)
  have b82 := hd_b (F := F) (F' := F') (k := 82) (hF 82 (by decide))
  have b18 := hd_b (F := F) (F' := F') (k := 18) (hF 18 (by decide))
  have a54 := hd_ba (F := F) (F' := F') (k := 54) (hF 54 (by decide))
  have t83 : sy_dv F' (.inr (.inl 83)) = .int ((sy_ai F 54).getD (sy_i F 82).toNatClampNeg 0) := hd_rd (hs 0 _ rfl) b82 a54
  have hB' : iv_in F' iv_B0 := iv_in_eq hB (fun j hj => hF j (Nat.lt_of_lt_of_le hj (by decide +kernel)))
  refine ⟨List.forall_mem_cons.mpr ⟨hd_p3 b82 rfl (by have hc : ((0) : Int32).toInt = 0 := (by decide); omega), List.forall_mem_cons.mpr ⟨hd_p5 b18 b82 h1, List.forall_mem_cons.mpr ⟨hd_pb b82 (by first | exact h2 | exact h2), List.forall_mem_cons.mpr ⟨hd_p1 t83 rfl (by have hc : ((0) : Int32).toInt = 0 := (by decide); omega), fun _ h => absurd h List.not_mem_nil⟩⟩⟩⟩, ?_⟩
  refine k _ ?_
  · exact fun j hj _ => (hd_keep hB' (Nat.lt_of_lt_of_le hj (by decide +kernel)) (by simp)).trans (hF j (Nat.lt_of_lt_of_le hj (by decide)))
theorem j3sq_0 {Ls : Nat} {xs : Nat → Int32} {d : Nat} {Q : Option Value → jm_h → Prop} (hd : 2 ≤ d) (F : Nat → sy_d) (X1 X2 : List jm_c) (hB : iv_in F iv_B0)
    (k0 : (sy_i F 82).toInt < 0 → ∀ F1 : Nat → sy_d, iv_in F1 iv_B0 → (∀ j, j < 82 → j ∉ ([] : List Nat) → F1 j = F j) → Q (some (.int (((-1) : Int32)))) (sy_dh F1 X1 X2 (iv_H 3)))
    (k1 : 0 ≤ (sy_i F 82).toInt → (sy_i F 18).toInt ≤ (sy_i F 82).toInt → ∀ F1 : Nat → sy_d, iv_in F1 iv_B0 → (∀ j, j < 82 → j ∉ ([] : List Nat) → F1 j = F j) → Q (some (.int (((-1) : Int32)))) (sy_dh F1 X1 X2 (iv_H 3)))
    (k2 : 0 ≤ (sy_i F 82).toInt → (sy_i F 82).toInt < (sy_i F 18).toInt → ((sy_ai F 54).getD ((sy_i F 82).toInt).toNat 0).toInt = 0 → ∀ F1 : Nat → sy_d, iv_in F1 iv_B0 → (∀ j, j < 82 → j ∉ ([] : List Nat) → F1 j = F j) → (sy_i F1 82).toInt = (sy_i F 82).toInt → sy_i F1 82 = sy_i F 82 → hd_W Ls xs d jm_M90 Q (33, sy_dL F1 [some (.inl (.ref 8)), some (.inr (.inl 82)), none, none], sy_dS F1 [.inl (.ref 46), .inl (.ref 66)], sy_dh F1 X1 X2 (iv_H 3), 0, 0))
    (k3 : 0 ≤ (sy_i F 82).toInt → (sy_i F 82).toInt < (sy_i F 18).toInt → ((sy_ai F 54).getD ((sy_i F 82).toInt).toNat 0).toInt ≠ 0 → ∀ F1 : Nat → sy_d, iv_in F1 iv_B0 → (∀ j, j < 82 → j ∉ ([] : List Nat) → F1 j = F j) → Q (some (.int (((-2) : Int32)))) (sy_dh F1 X1 X2 (iv_H 3))) :
    hd_W Ls xs d jm_M90 Q (0, sy_dL F [some (.inl (.ref 8)), some (.inr (.inl 82)), none, none], sy_dS F [], sy_dh F X1 X2 (iv_H 3), 0, 0) := by
  by_cases g0 : (sy_i F 82).toInt < 0
  · exact j3sq_0_p0 hd F X1 X2 hB (by first | exact g0 | (simp only [nz_c]; exact g0)) (fun F1 g  => k0 g0 F1 (nz_in0 hB [] (fun j hj hn => g j hj (by simp only [List.mem_cons, List.not_mem_nil, or_false, not_or] at hn; exact trivial)) (List.forall_mem_nil _)) (fun j hj hn => g j hj (by simp only [List.mem_cons, List.not_mem_nil, or_false, not_or] at hn; exact trivial)) )
  replace g0 : 0 ≤ (sy_i F 82).toInt := by omega
  by_cases g1 : (sy_i F 18).toInt ≤ (sy_i F 82).toInt
  · have c18 := nz_bx hB (k := 18) (lo := 0) (hi := 7) rfl
    exact j3sq_0_p1 hd F X1 X2 hB (by first | exact g0 | (simp only [nz_c]; exact g0)) (by first | exact g1 | (simp only [nz_c]; exact g1)) (fun F1 g  => k1 g0 g1 F1 (nz_in0 hB [] (fun j hj hn => g j hj (by simp only [List.mem_cons, List.not_mem_nil, or_false, not_or] at hn; exact trivial)) (List.forall_mem_nil _)) (fun j hj hn => g j hj (by simp only [List.mem_cons, List.not_mem_nil, or_false, not_or] at hn; exact trivial)) )
  replace g1 : (sy_i F 82).toInt < (sy_i F 18).toInt := by omega
  by_cases g2 : ((sy_ai F 54).getD ((sy_i F 82).toInt).toNat 0).toInt = 0
  · have c18 := nz_bx hB (k := 18) (lo := 0) (hi := 7) rfl
    have q83 : (sy_ai F 54).getD (sy_i F 82).toNatClampNeg 0 = (sy_ai F 54).getD ((sy_i F 82).toInt).toNat 0 := by simp only [nz_c]
    have n83 : nzI ((sy_ai F 54).getD (sy_i F 82).toNatClampNeg 0) (((sy_ai F 54).getD ((sy_i F 82).toInt).toNat 0).toInt) := congrArg Int32.toInt q83
    exact j3sq_0_p2 hd F X1 X2 hB (by first | exact g0 | (simp only [nz_c]; exact g0)) (by first | exact g1 | (simp only [nz_c]; exact g1)) (by first | exact ⟨by omega, by omega⟩ | (simp only [nz_c]; exact ⟨by omega, by omega⟩)) (by first | exact g2 | (simp only [nz_c]; exact g2) | (rw [(nzE n83)]; exact g2)) (fun F1 g e82 => k2 g0 g1 g2 F1 (nz_in0 hB [] (fun j hj hn => g j hj (by simp only [List.mem_cons, List.not_mem_nil, or_false, not_or] at hn; exact trivial)) (List.forall_mem_nil _)) (fun j hj hn => g j hj (by simp only [List.mem_cons, List.not_mem_nil, or_false, not_or] at hn; exact trivial)) ((congrArg Int32.toInt (zz_i e82)).trans (rfl : (sy_i F 82).toInt = (sy_i F 82).toInt)) ((zz_i e82).trans (rfl : sy_i F 82 = sy_i F 82)))
  replace g2 : ((sy_ai F 54).getD ((sy_i F 82).toInt).toNat 0).toInt ≠ 0 := by omega
  have c18 := nz_bx hB (k := 18) (lo := 0) (hi := 7) rfl
  have q83 : (sy_ai F 54).getD (sy_i F 82).toNatClampNeg 0 = (sy_ai F 54).getD ((sy_i F 82).toInt).toNat 0 := by simp only [nz_c]
  have n83 : nzI ((sy_ai F 54).getD (sy_i F 82).toNatClampNeg 0) (((sy_ai F 54).getD ((sy_i F 82).toInt).toNat 0).toInt) := congrArg Int32.toInt q83
  exact j3sq_0_p3 hd F X1 X2 hB (by first | exact g0 | (simp only [nz_c]; exact g0)) (by first | exact g1 | (simp only [nz_c]; exact g1)) (by first | exact ⟨by omega, by omega⟩ | (simp only [nz_c]; exact ⟨by omega, by omega⟩)) (by first | exact g2 | (simp only [nz_c]; exact g2) | (rw [(nzE n83)]; exact g2)) (fun F1 g  => k3 g0 g1 g2 F1 (nz_in0 hB [] (fun j hj hn => g j hj (by simp only [List.mem_cons, List.not_mem_nil, or_false, not_or] at hn; exact trivial)) (List.forall_mem_nil _)) (fun j hj hn => g j hj (by simp only [List.mem_cons, List.not_mem_nil, or_false, not_or] at hn; exact trivial)) )
theorem j3sq_36_p0 {Ls : Nat} {xs : Nat → Int32} {d : Nat} {Q : Option Value → jm_h → Prop} (hd : 3 ≤ d) (F : Nat → sy_d) (X1 X2 : List jm_c) (hB : iv_in F iv_B0)
    (h1 : 0 ≤ (sy_i F 82).toInt ∧ (sy_i F 82).toInt < 7)
    (h2 : 0 ≤ (sy_i F 82).toInt ∧ (sy_i F 82).toInt < 7)
    (k : ∀ F1 : Nat → sy_d, (∀ j, j < 82 → j ≠ 51 ∧ j ≠ 58 → F1 j = F j) → F1 51 = .inl (.int ((sy_i F 51) + ((1 : Int32)))) → F1 58 = .inr (.inl (jm_upd (sy_ai F 58) (sy_i F 82).toNatClampNeg (((sy_ai F 58).getD (sy_i F 82).toNatClampNeg 0) + ((1 : Int32))))) → F1 82 = .inl (.int (((((((((((((sy_i F 22) ^^^ ((101 : Int32))) * ((1103515245 : Int32))) + ((12345 : Int32))) ^^^ (((((((sy_i F 22) ^^^ ((101 : Int32))) * ((1103515245 : Int32))) + ((12345 : Int32)))).toUInt32 >>> ((((15 : Int32))).toUInt32 &&& Int32.toUInt32 31)).toInt32)) ^^^ (((1000000 : Int32)) + (sy_i F 51))) * ((1103515245 : Int32))) + ((12345 : Int32))) ^^^ (((((((((((sy_i F 22) ^^^ ((101 : Int32))) * ((1103515245 : Int32))) + ((12345 : Int32))) ^^^ (((((((sy_i F 22) ^^^ ((101 : Int32))) * ((1103515245 : Int32))) + ((12345 : Int32)))).toUInt32 >>> ((((15 : Int32))).toUInt32 &&& Int32.toUInt32 31)).toInt32)) ^^^ (((1000000 : Int32)) + (sy_i F 51))) * ((1103515245 : Int32))) + ((12345 : Int32)))).toUInt32 >>> ((((15 : Int32))).toUInt32 &&& Int32.toUInt32 31)).toInt32))).toUInt32 >>> ((((1 : Int32))).toUInt32 &&& Int32.toUInt32 31)).toInt32) - ((((((((((((sy_i F 22) ^^^ ((101 : Int32))) * ((1103515245 : Int32))) + ((12345 : Int32))) ^^^ (((((((sy_i F 22) ^^^ ((101 : Int32))) * ((1103515245 : Int32))) + ((12345 : Int32)))).toUInt32 >>> ((((15 : Int32))).toUInt32 &&& Int32.toUInt32 31)).toInt32)) ^^^ (((1000000 : Int32)) + (sy_i F 51))) * ((1103515245 : Int32))) + ((12345 : Int32))) ^^^ (((((((((((sy_i F 22) ^^^ ((101 : Int32))) * ((1103515245 : Int32))) + ((12345 : Int32))) ^^^ (((((((sy_i F 22) ^^^ ((101 : Int32))) * ((1103515245 : Int32))) + ((12345 : Int32)))).toUInt32 >>> ((((15 : Int32))).toUInt32 &&& Int32.toUInt32 31)).toInt32)) ^^^ (((1000000 : Int32)) + (sy_i F 51))) * ((1103515245 : Int32))) + ((12345 : Int32)))).toUInt32 >>> ((((15 : Int32))).toUInt32 &&& Int32.toUInt32 31)).toInt32))).toUInt32 >>> ((((1 : Int32))).toUInt32 &&& Int32.toUInt32 31)).toInt32) / ((100 : Int32)) * ((100 : Int32)))) → F1 83 = .inl (.int (sy_i F 50)) → F1 84 = .inl (.int (sy_i F 18)) → hd_W Ls xs d jm_M90 Q (110, sy_dL F1 [some (.inl (.ref 8)), none, some (.inr (.inl 82)), none], sy_dS F1 [.inr (.inl 84), .inl (.int 0), .inl (.ref 46), .inr (.inl 83), .inl (.ref 20), .inl (.ref 38)], sy_dh F1 X1 X2 (iv_H 3), 0, 0)) :
    hd_W Ls xs d jm_M90 Q (36, sy_dL F [some (.inl (.ref 8)), some (.inr (.inl 82)), none, none], sy_dS F [], sy_dh F X1 X2 (iv_H 3), 0, 0) := by
  refine hd_run (s := 3) (nv := 83) (pc := 110) (L := [some (.inl (.ref 8)), none, some (.inr (.inl 82)), none]) (S := [.inr (.inl 84), .inl (.int 0), .inl (.ref 46), .inr (.inl 83), .inl (.ref 20), .inl (.ref 38)]) (uh := hd_ov (iv_id 0 iv_B0) [(51, .inl (.inr (.inl 99))), (58, .inr (.inr (.inl 98)))]) (ul := [.inl (.inr (.inl 95)), .inl (.inr (.inl 50)), .inl (.inr (.inl 18))]) (f := false) (sp := [110]) (d0 := 2) (O := []) (T := [(0, [.inl (.int 1000000), .inr (.inl 51)], []), (5, [.inr (.inl 22), .inl (.int 101)], []), (2, [.inr (.inl 84), .inl (.int 1103515245)], []), (0, [.inr (.inl 85), .inl (.int 12345)], []), (8, [.inr (.inl 86), .inl (.int 15)], []), (5, [.inr (.inl 86), .inr (.inl 87)], []), (5, [.inr (.inl 88), .inr (.inl 83)], []), (2, [.inr (.inl 89), .inl (.int 1103515245)], []), (0, [.inr (.inl 90), .inl (.int 12345)], []), (8, [.inr (.inl 91), .inl (.int 15)], []), (5, [.inr (.inl 91), .inr (.inl 92)], []), (8, [.inr (.inl 93), .inl (.int 1)], []), (10, [.inr (.inl 94), .inl (.int 100)], []), (30, [.inr (.inl 82)], [.inr (.inl 58)]), (0, [.inr (.inl 96), .inl (.int 1)], []), (40, [.inr (.inl 82), .inr (.inl 97)], [.inr (.inl 58)]), (0, [.inr (.inl 51), .inl (.int 1)], [])]) (P := [(1, .inl (.int 100), .inl (.int 0)), (6, .inr (.inl 82), .inl (.ref 7)), (6, .inr (.inl 82), .inl (.ref 7))]) jm_ok90 (by decide +kernel) (by decide +kernel) hd F X1 X2 (fun F' hF hs => ?_)
  have b82 := hd_b (F := F) (F' := F') (k := 82) (hF 82 (by decide))
  have b51 := hd_b (F := F) (F' := F') (k := 51) (hF 51 (by decide))
  have t99 : sy_dv F' (.inr (.inl 99)) = .int ((sy_i F 51) + ((1 : Int32))) := hd_o (hs 16 _ rfl) b51 rfl rfl
  have a58 := hd_ba (F := F) (F' := F') (k := 58) (hF 58 (by decide))
  have t96 : sy_dv F' (.inr (.inl 96)) = .int ((sy_ai F 58).getD (sy_i F 82).toNatClampNeg 0) := hd_rd (hs 13 _ rfl) b82 a58
  have t97 : sy_dv F' (.inr (.inl 97)) = .int (((sy_ai F 58).getD (sy_i F 82).toNatClampNeg 0) + ((1 : Int32))) := hd_o (hs 14 _ rfl) t96 rfl rfl
  have t98 : sy_da F' (.inr (.inl 98)) = .inl (jm_upd (sy_ai F 58) (sy_i F 82).toNatClampNeg (((sy_ai F 58).getD (sy_i F 82).toNatClampNeg 0) + ((1 : Int32)))) := hd_up (hs 15 _ rfl) b82 t97 a58
  have b22 := hd_b (F := F) (F' := F') (k := 22) (hF 22 (by decide))
  have t84 : sy_dv F' (.inr (.inl 84)) = .int ((sy_i F 22) ^^^ ((101 : Int32))) := hd_o (hs 1 _ rfl) b22 rfl rfl
  have t85 : sy_dv F' (.inr (.inl 85)) = .int (((sy_i F 22) ^^^ ((101 : Int32))) * ((1103515245 : Int32))) := hd_o (hs 2 _ rfl) t84 rfl rfl
  have t86 : sy_dv F' (.inr (.inl 86)) = .int ((((sy_i F 22) ^^^ ((101 : Int32))) * ((1103515245 : Int32))) + ((12345 : Int32))) := hd_o (hs 3 _ rfl) t85 rfl rfl
  have t87 : sy_dv F' (.inr (.inl 87)) = .int (((((((sy_i F 22) ^^^ ((101 : Int32))) * ((1103515245 : Int32))) + ((12345 : Int32)))).toUInt32 >>> ((((15 : Int32))).toUInt32 &&& Int32.toUInt32 31)).toInt32) := hd_o (hs 4 _ rfl) t86 rfl rfl
  have t88 : sy_dv F' (.inr (.inl 88)) = .int (((((sy_i F 22) ^^^ ((101 : Int32))) * ((1103515245 : Int32))) + ((12345 : Int32))) ^^^ (((((((sy_i F 22) ^^^ ((101 : Int32))) * ((1103515245 : Int32))) + ((12345 : Int32)))).toUInt32 >>> ((((15 : Int32))).toUInt32 &&& Int32.toUInt32 31)).toInt32)) := hd_o (hs 5 _ rfl) t86 t87 rfl
  have t83 : sy_dv F' (.inr (.inl 83)) = .int (((1000000 : Int32)) + (sy_i F 51)) := hd_o (hs 0 _ rfl) rfl b51 rfl
  have t89 : sy_dv F' (.inr (.inl 89)) = .int ((((((sy_i F 22) ^^^ ((101 : Int32))) * ((1103515245 : Int32))) + ((12345 : Int32))) ^^^ (((((((sy_i F 22) ^^^ ((101 : Int32))) * ((1103515245 : Int32))) + ((12345 : Int32)))).toUInt32 >>> ((((15 : Int32))).toUInt32 &&& Int32.toUInt32 31)).toInt32)) ^^^ (((1000000 : Int32)) + (sy_i F 51))) := hd_o (hs 6 _ rfl) t88 t83 rfl
  have t90 : sy_dv F' (.inr (.inl 90)) = .int (((((((sy_i F 22) ^^^ ((101 : Int32))) * ((1103515245 : Int32))) + ((12345 : Int32))) ^^^ (((((((sy_i F 22) ^^^ ((101 : Int32))) * ((1103515245 : Int32))) + ((12345 : Int32)))).toUInt32 >>> ((((15 : Int32))).toUInt32 &&& Int32.toUInt32 31)).toInt32)) ^^^ (((1000000 : Int32)) + (sy_i F 51))) * ((1103515245 : Int32))) := hd_o (hs 7 _ rfl) t89 rfl rfl
  have t91 : sy_dv F' (.inr (.inl 91)) = .int ((((((((sy_i F 22) ^^^ ((101 : Int32))) * ((1103515245 : Int32))) + ((12345 : Int32))) ^^^ (((((((sy_i F 22) ^^^ ((101 : Int32))) * ((1103515245 : Int32))) + ((12345 : Int32)))).toUInt32 >>> ((((15 : Int32))).toUInt32 &&& Int32.toUInt32 31)).toInt32)) ^^^ (((1000000 : Int32)) + (sy_i F 51))) * ((1103515245 : Int32))) + ((12345 : Int32))) := hd_o (hs 8 _ rfl) t90 rfl rfl
  have t92 : sy_dv F' (.inr (.inl 92)) = .int (((((((((((sy_i F 22) ^^^ ((101 : Int32))) * ((1103515245 : Int32))) + ((12345 : Int32))) ^^^ (((((((sy_i F 22) ^^^ ((101 : Int32))) * ((1103515245 : Int32))) + ((12345 : Int32)))).toUInt32 >>> ((((15 : Int32))).toUInt32 &&& Int32.toUInt32 31)).toInt32)) ^^^ (((1000000 : Int32)) + (sy_i F 51))) * ((1103515245 : Int32))) + ((12345 : Int32)))).toUInt32 >>> ((((15 : Int32))).toUInt32 &&& Int32.toUInt32 31)).toInt32) := hd_o (hs 9 _ rfl) t91 rfl rfl
  have t93 : sy_dv F' (.inr (.inl 93)) = .int (((((((((sy_i F 22) ^^^ ((101 : Int32))) * ((1103515245 : Int32))) + ((12345 : Int32))) ^^^ (((((((sy_i F 22) ^^^ ((101 : Int32))) * ((1103515245 : Int32))) + ((12345 : Int32)))).toUInt32 >>> ((((15 : Int32))).toUInt32 &&& Int32.toUInt32 31)).toInt32)) ^^^ (((1000000 : Int32)) + (sy_i F 51))) * ((1103515245 : Int32))) + ((12345 : Int32))) ^^^ (((((((((((sy_i F 22) ^^^ ((101 : Int32))) * ((1103515245 : Int32))) + ((12345 : Int32))) ^^^ (((((((sy_i F 22) ^^^ ((101 : Int32))) * ((1103515245 : Int32))) + ((12345 : Int32)))).toUInt32 >>> ((((15 : Int32))).toUInt32 &&& Int32.toUInt32 31)).toInt32)) ^^^ (((1000000 : Int32)) + (sy_i F 51))) * ((1103515245 : Int32))) + ((12345 : Int32)))).toUInt32 >>> ((((15 : Int32))).toUInt32 &&& Int32.toUInt32 31)).toInt32)) := hd_o (hs 10 _ rfl) t91 t92 rfl
  have t94 : sy_dv F' (.inr (.inl 94)) = .int ((((((((((((sy_i F 22) ^^^ ((101 : Int32))) * ((1103515245 : Int32))) + ((12345 : Int32))) ^^^ (((((((sy_i F 22) ^^^ ((101 : Int32))) * ((1103515245 : Int32))) + ((12345 : Int32)))).toUInt32 >>> ((((15 : Int32))).toUInt32 &&& Int32.toUInt32 31)).toInt32)) ^^^ (((1000000 : Int32)) + (sy_i F 51))) * ((1103515245 : Int32))) + ((12345 : Int32))) ^^^ (((((((((((sy_i F 22) ^^^ ((101 : Int32))) * ((1103515245 : Int32))) + ((12345 : Int32))) ^^^ (((((((sy_i F 22) ^^^ ((101 : Int32))) * ((1103515245 : Int32))) + ((12345 : Int32)))).toUInt32 >>> ((((15 : Int32))).toUInt32 &&& Int32.toUInt32 31)).toInt32)) ^^^ (((1000000 : Int32)) + (sy_i F 51))) * ((1103515245 : Int32))) + ((12345 : Int32)))).toUInt32 >>> ((((15 : Int32))).toUInt32 &&& Int32.toUInt32 31)).toInt32))).toUInt32 >>> ((((1 : Int32))).toUInt32 &&& Int32.toUInt32 31)).toInt32) := hd_o (hs 11 _ rfl) t93 rfl rfl
  have t95 : sy_dv F' (.inr (.inl 95)) = .int (((((((((((((sy_i F 22) ^^^ ((101 : Int32))) * ((1103515245 : Int32))) + ((12345 : Int32))) ^^^ (((((((sy_i F 22) ^^^ ((101 : Int32))) * ((1103515245 : Int32))) + ((12345 : Int32)))).toUInt32 >>> ((((15 : Int32))).toUInt32 &&& Int32.toUInt32 31)).toInt32)) ^^^ (((1000000 : Int32)) + (sy_i F 51))) * ((1103515245 : Int32))) + ((12345 : Int32))) ^^^ (((((((((((sy_i F 22) ^^^ ((101 : Int32))) * ((1103515245 : Int32))) + ((12345 : Int32))) ^^^ (((((((sy_i F 22) ^^^ ((101 : Int32))) * ((1103515245 : Int32))) + ((12345 : Int32)))).toUInt32 >>> ((((15 : Int32))).toUInt32 &&& Int32.toUInt32 31)).toInt32)) ^^^ (((1000000 : Int32)) + (sy_i F 51))) * ((1103515245 : Int32))) + ((12345 : Int32)))).toUInt32 >>> ((((15 : Int32))).toUInt32 &&& Int32.toUInt32 31)).toInt32))).toUInt32 >>> ((((1 : Int32))).toUInt32 &&& Int32.toUInt32 31)).toInt32) - ((((((((((((sy_i F 22) ^^^ ((101 : Int32))) * ((1103515245 : Int32))) + ((12345 : Int32))) ^^^ (((((((sy_i F 22) ^^^ ((101 : Int32))) * ((1103515245 : Int32))) + ((12345 : Int32)))).toUInt32 >>> ((((15 : Int32))).toUInt32 &&& Int32.toUInt32 31)).toInt32)) ^^^ (((1000000 : Int32)) + (sy_i F 51))) * ((1103515245 : Int32))) + ((12345 : Int32))) ^^^ (((((((((((sy_i F 22) ^^^ ((101 : Int32))) * ((1103515245 : Int32))) + ((12345 : Int32))) ^^^ (((((((sy_i F 22) ^^^ ((101 : Int32))) * ((1103515245 : Int32))) + ((12345 : Int32)))).toUInt32 >>> ((((15 : Int32))).toUInt32 &&& Int32.toUInt32 31)).toInt32)) ^^^ (((1000000 : Int32)) + (sy_i F 51))) * ((1103515245 : Int32))) + ((12345 : Int32)))).toUInt32 >>> ((((15 : Int32))).toUInt32 &&& Int32.toUInt32 31)).toInt32))).toUInt32 >>> ((((1 : Int32))).toUInt32 &&& Int32.toUInt32 31)).toInt32) / ((100 : Int32)) * ((100 : Int32))) := hd_o (hs 12 _ rfl) t94 rfl rfl
  have b50 := hd_b (F := F) (F' := F') (k := 50) (hF 50 (by decide))
  have b18 := hd_b (F := F) (F' := F') (k := 18) (hF 18 (by decide))
  have hB' : iv_in F' iv_B0 := iv_in_eq hB (fun j hj => hF j (Nat.lt_of_lt_of_le hj (by decide +kernel)))
  refine ⟨List.forall_mem_cons.mpr ⟨(hd_p1 (X := 100) (Y := 0) rfl rfl (by decide)), List.forall_mem_cons.mpr ⟨hd_pb b82 (by first | exact h1 | exact h1), List.forall_mem_cons.mpr ⟨hd_pb b82 (by first | exact h2 | exact h2), fun _ h => absurd h List.not_mem_nil⟩⟩⟩, ?_⟩
  refine k _ ?_ ?_ ?_ ?_ ?_ ?_
  · exact fun j hj hn => (hd_keep hB' (Nat.lt_of_lt_of_le hj (by decide +kernel)) (by simp; omega)).trans (hF j (Nat.lt_of_lt_of_le hj (by decide)))
  · exact hd_gi (x := .inr (.inl 99)) (by decide +kernel) t99
  · exact hd_ga (a := .inr (.inl 98)) (by decide +kernel) t98
  · exact hd_gi (x := .inr (.inl 95)) (by decide +kernel) t95
  · exact hd_gi (x := .inr (.inl 50)) (by decide +kernel) b50
  · exact hd_gi (x := .inr (.inl 18)) (by decide +kernel) b18
theorem j3sq_36 {Ls : Nat} {xs : Nat → Int32} {d : Nat} {Q : Option Value → jm_h → Prop} (hd : 3 ≤ d) (F : Nat → sy_d) (X1 X2 : List jm_c) (hB : iv_in F iv_B0)
    (a82 : 0 ≤ (sy_i F 82).toInt ∧ (sy_i F 82).toInt ≤ 6)
    (k0 : ∀ F1 : Nat → sy_d, iv_in F1 iv_B0 → (∀ j, j < 82 → j ∉ ([51, 58] : List Nat) → F1 j = F j) → (sy_i F1 51).toInt = ((sy_i F 51) + ((1 : Int32))).toInt → sy_i F1 51 = (sy_i F 51) + ((1 : Int32)) → sy_ai F1 58 = jm_upd (sy_ai F 58) ((sy_i F 82).toInt).toNat (((sy_ai F 58).getD ((sy_i F 82).toInt).toNat 0) + ((1 : Int32))) → (sy_i F1 82).toInt = (((((((((((((sy_i F 22) ^^^ ((101 : Int32))) * ((1103515245 : Int32))) + ((12345 : Int32))) ^^^ (((((((sy_i F 22) ^^^ ((101 : Int32))) * ((1103515245 : Int32))) + ((12345 : Int32)))).toUInt32 >>> ((((15 : Int32))).toUInt32 &&& Int32.toUInt32 31)).toInt32)) ^^^ (((1000000 : Int32)) + (sy_i F 51))) * ((1103515245 : Int32))) + ((12345 : Int32))) ^^^ (((((((((((sy_i F 22) ^^^ ((101 : Int32))) * ((1103515245 : Int32))) + ((12345 : Int32))) ^^^ (((((((sy_i F 22) ^^^ ((101 : Int32))) * ((1103515245 : Int32))) + ((12345 : Int32)))).toUInt32 >>> ((((15 : Int32))).toUInt32 &&& Int32.toUInt32 31)).toInt32)) ^^^ (((1000000 : Int32)) + (sy_i F 51))) * ((1103515245 : Int32))) + ((12345 : Int32)))).toUInt32 >>> ((((15 : Int32))).toUInt32 &&& Int32.toUInt32 31)).toInt32))).toUInt32 >>> ((((1 : Int32))).toUInt32 &&& Int32.toUInt32 31)).toInt32) - ((((((((((((sy_i F 22) ^^^ ((101 : Int32))) * ((1103515245 : Int32))) + ((12345 : Int32))) ^^^ (((((((sy_i F 22) ^^^ ((101 : Int32))) * ((1103515245 : Int32))) + ((12345 : Int32)))).toUInt32 >>> ((((15 : Int32))).toUInt32 &&& Int32.toUInt32 31)).toInt32)) ^^^ (((1000000 : Int32)) + (sy_i F 51))) * ((1103515245 : Int32))) + ((12345 : Int32))) ^^^ (((((((((((sy_i F 22) ^^^ ((101 : Int32))) * ((1103515245 : Int32))) + ((12345 : Int32))) ^^^ (((((((sy_i F 22) ^^^ ((101 : Int32))) * ((1103515245 : Int32))) + ((12345 : Int32)))).toUInt32 >>> ((((15 : Int32))).toUInt32 &&& Int32.toUInt32 31)).toInt32)) ^^^ (((1000000 : Int32)) + (sy_i F 51))) * ((1103515245 : Int32))) + ((12345 : Int32)))).toUInt32 >>> ((((15 : Int32))).toUInt32 &&& Int32.toUInt32 31)).toInt32))).toUInt32 >>> ((((1 : Int32))).toUInt32 &&& Int32.toUInt32 31)).toInt32) / ((100 : Int32)) * ((100 : Int32))).toInt → sy_i F1 82 = ((((((((((((sy_i F 22) ^^^ ((101 : Int32))) * ((1103515245 : Int32))) + ((12345 : Int32))) ^^^ (((((((sy_i F 22) ^^^ ((101 : Int32))) * ((1103515245 : Int32))) + ((12345 : Int32)))).toUInt32 >>> ((((15 : Int32))).toUInt32 &&& Int32.toUInt32 31)).toInt32)) ^^^ (((1000000 : Int32)) + (sy_i F 51))) * ((1103515245 : Int32))) + ((12345 : Int32))) ^^^ (((((((((((sy_i F 22) ^^^ ((101 : Int32))) * ((1103515245 : Int32))) + ((12345 : Int32))) ^^^ (((((((sy_i F 22) ^^^ ((101 : Int32))) * ((1103515245 : Int32))) + ((12345 : Int32)))).toUInt32 >>> ((((15 : Int32))).toUInt32 &&& Int32.toUInt32 31)).toInt32)) ^^^ (((1000000 : Int32)) + (sy_i F 51))) * ((1103515245 : Int32))) + ((12345 : Int32)))).toUInt32 >>> ((((15 : Int32))).toUInt32 &&& Int32.toUInt32 31)).toInt32))).toUInt32 >>> ((((1 : Int32))).toUInt32 &&& Int32.toUInt32 31)).toInt32) - ((((((((((((sy_i F 22) ^^^ ((101 : Int32))) * ((1103515245 : Int32))) + ((12345 : Int32))) ^^^ (((((((sy_i F 22) ^^^ ((101 : Int32))) * ((1103515245 : Int32))) + ((12345 : Int32)))).toUInt32 >>> ((((15 : Int32))).toUInt32 &&& Int32.toUInt32 31)).toInt32)) ^^^ (((1000000 : Int32)) + (sy_i F 51))) * ((1103515245 : Int32))) + ((12345 : Int32))) ^^^ (((((((((((sy_i F 22) ^^^ ((101 : Int32))) * ((1103515245 : Int32))) + ((12345 : Int32))) ^^^ (((((((sy_i F 22) ^^^ ((101 : Int32))) * ((1103515245 : Int32))) + ((12345 : Int32)))).toUInt32 >>> ((((15 : Int32))).toUInt32 &&& Int32.toUInt32 31)).toInt32)) ^^^ (((1000000 : Int32)) + (sy_i F 51))) * ((1103515245 : Int32))) + ((12345 : Int32)))).toUInt32 >>> ((((15 : Int32))).toUInt32 &&& Int32.toUInt32 31)).toInt32))).toUInt32 >>> ((((1 : Int32))).toUInt32 &&& Int32.toUInt32 31)).toInt32) / ((100 : Int32)) * ((100 : Int32)) → (sy_i F1 83).toInt = (sy_i F 50).toInt → sy_i F1 83 = sy_i F 50 → (sy_i F1 84).toInt = (sy_i F 18).toInt → sy_i F1 84 = sy_i F 18 → hd_W Ls xs d jm_M90 Q (110, sy_dL F1 [some (.inl (.ref 8)), none, some (.inr (.inl 82)), none], sy_dS F1 [.inr (.inl 84), .inl (.int 0), .inl (.ref 46), .inr (.inl 83), .inl (.ref 20), .inl (.ref 38)], sy_dh F1 X1 X2 (iv_H 3), 0, 0)) :
    hd_W Ls xs d jm_M90 Q (36, sy_dL F [some (.inl (.ref 8)), some (.inr (.inl 82)), none, none], sy_dS F [], sy_dh F X1 X2 (iv_H 3), 0, 0) := by
  have n99 : nzI ((sy_i F 51) + ((1 : Int32))) (((sy_i F 51) + ((1 : Int32))).toInt) := congrArg Int32.toInt (rfl : (sy_i F 51) + ((1 : Int32)) = (sy_i F 51) + ((1 : Int32)))
  have w98 : jm_upd (sy_ai F 58) (sy_i F 82).toNatClampNeg (((sy_ai F 58).getD (sy_i F 82).toNatClampNeg 0) + ((1 : Int32))) = jm_upd (sy_ai F 58) ((sy_i F 82).toInt).toNat (((sy_ai F 58).getD ((sy_i F 82).toInt).toNat 0) + ((1 : Int32))) := by simp only [nz_c, (by decide : ((1 : Int32)).toInt = 1)]
  have n95 : nzI (((((((((((((sy_i F 22) ^^^ ((101 : Int32))) * ((1103515245 : Int32))) + ((12345 : Int32))) ^^^ (((((((sy_i F 22) ^^^ ((101 : Int32))) * ((1103515245 : Int32))) + ((12345 : Int32)))).toUInt32 >>> ((((15 : Int32))).toUInt32 &&& Int32.toUInt32 31)).toInt32)) ^^^ (((1000000 : Int32)) + (sy_i F 51))) * ((1103515245 : Int32))) + ((12345 : Int32))) ^^^ (((((((((((sy_i F 22) ^^^ ((101 : Int32))) * ((1103515245 : Int32))) + ((12345 : Int32))) ^^^ (((((((sy_i F 22) ^^^ ((101 : Int32))) * ((1103515245 : Int32))) + ((12345 : Int32)))).toUInt32 >>> ((((15 : Int32))).toUInt32 &&& Int32.toUInt32 31)).toInt32)) ^^^ (((1000000 : Int32)) + (sy_i F 51))) * ((1103515245 : Int32))) + ((12345 : Int32)))).toUInt32 >>> ((((15 : Int32))).toUInt32 &&& Int32.toUInt32 31)).toInt32))).toUInt32 >>> ((((1 : Int32))).toUInt32 &&& Int32.toUInt32 31)).toInt32) - ((((((((((((sy_i F 22) ^^^ ((101 : Int32))) * ((1103515245 : Int32))) + ((12345 : Int32))) ^^^ (((((((sy_i F 22) ^^^ ((101 : Int32))) * ((1103515245 : Int32))) + ((12345 : Int32)))).toUInt32 >>> ((((15 : Int32))).toUInt32 &&& Int32.toUInt32 31)).toInt32)) ^^^ (((1000000 : Int32)) + (sy_i F 51))) * ((1103515245 : Int32))) + ((12345 : Int32))) ^^^ (((((((((((sy_i F 22) ^^^ ((101 : Int32))) * ((1103515245 : Int32))) + ((12345 : Int32))) ^^^ (((((((sy_i F 22) ^^^ ((101 : Int32))) * ((1103515245 : Int32))) + ((12345 : Int32)))).toUInt32 >>> ((((15 : Int32))).toUInt32 &&& Int32.toUInt32 31)).toInt32)) ^^^ (((1000000 : Int32)) + (sy_i F 51))) * ((1103515245 : Int32))) + ((12345 : Int32)))).toUInt32 >>> ((((15 : Int32))).toUInt32 &&& Int32.toUInt32 31)).toInt32))).toUInt32 >>> ((((1 : Int32))).toUInt32 &&& Int32.toUInt32 31)).toInt32) / ((100 : Int32)) * ((100 : Int32))) ((((((((((((((sy_i F 22) ^^^ ((101 : Int32))) * ((1103515245 : Int32))) + ((12345 : Int32))) ^^^ (((((((sy_i F 22) ^^^ ((101 : Int32))) * ((1103515245 : Int32))) + ((12345 : Int32)))).toUInt32 >>> ((((15 : Int32))).toUInt32 &&& Int32.toUInt32 31)).toInt32)) ^^^ (((1000000 : Int32)) + (sy_i F 51))) * ((1103515245 : Int32))) + ((12345 : Int32))) ^^^ (((((((((((sy_i F 22) ^^^ ((101 : Int32))) * ((1103515245 : Int32))) + ((12345 : Int32))) ^^^ (((((((sy_i F 22) ^^^ ((101 : Int32))) * ((1103515245 : Int32))) + ((12345 : Int32)))).toUInt32 >>> ((((15 : Int32))).toUInt32 &&& Int32.toUInt32 31)).toInt32)) ^^^ (((1000000 : Int32)) + (sy_i F 51))) * ((1103515245 : Int32))) + ((12345 : Int32)))).toUInt32 >>> ((((15 : Int32))).toUInt32 &&& Int32.toUInt32 31)).toInt32))).toUInt32 >>> ((((1 : Int32))).toUInt32 &&& Int32.toUInt32 31)).toInt32) - ((((((((((((sy_i F 22) ^^^ ((101 : Int32))) * ((1103515245 : Int32))) + ((12345 : Int32))) ^^^ (((((((sy_i F 22) ^^^ ((101 : Int32))) * ((1103515245 : Int32))) + ((12345 : Int32)))).toUInt32 >>> ((((15 : Int32))).toUInt32 &&& Int32.toUInt32 31)).toInt32)) ^^^ (((1000000 : Int32)) + (sy_i F 51))) * ((1103515245 : Int32))) + ((12345 : Int32))) ^^^ (((((((((((sy_i F 22) ^^^ ((101 : Int32))) * ((1103515245 : Int32))) + ((12345 : Int32))) ^^^ (((((((sy_i F 22) ^^^ ((101 : Int32))) * ((1103515245 : Int32))) + ((12345 : Int32)))).toUInt32 >>> ((((15 : Int32))).toUInt32 &&& Int32.toUInt32 31)).toInt32)) ^^^ (((1000000 : Int32)) + (sy_i F 51))) * ((1103515245 : Int32))) + ((12345 : Int32)))).toUInt32 >>> ((((15 : Int32))).toUInt32 &&& Int32.toUInt32 31)).toInt32))).toUInt32 >>> ((((1 : Int32))).toUInt32 &&& Int32.toUInt32 31)).toInt32) / ((100 : Int32)) * ((100 : Int32))).toInt) := congrArg Int32.toInt (rfl : ((((((((((((sy_i F 22) ^^^ ((101 : Int32))) * ((1103515245 : Int32))) + ((12345 : Int32))) ^^^ (((((((sy_i F 22) ^^^ ((101 : Int32))) * ((1103515245 : Int32))) + ((12345 : Int32)))).toUInt32 >>> ((((15 : Int32))).toUInt32 &&& Int32.toUInt32 31)).toInt32)) ^^^ (((1000000 : Int32)) + (sy_i F 51))) * ((1103515245 : Int32))) + ((12345 : Int32))) ^^^ (((((((((((sy_i F 22) ^^^ ((101 : Int32))) * ((1103515245 : Int32))) + ((12345 : Int32))) ^^^ (((((((sy_i F 22) ^^^ ((101 : Int32))) * ((1103515245 : Int32))) + ((12345 : Int32)))).toUInt32 >>> ((((15 : Int32))).toUInt32 &&& Int32.toUInt32 31)).toInt32)) ^^^ (((1000000 : Int32)) + (sy_i F 51))) * ((1103515245 : Int32))) + ((12345 : Int32)))).toUInt32 >>> ((((15 : Int32))).toUInt32 &&& Int32.toUInt32 31)).toInt32))).toUInt32 >>> ((((1 : Int32))).toUInt32 &&& Int32.toUInt32 31)).toInt32) - ((((((((((((sy_i F 22) ^^^ ((101 : Int32))) * ((1103515245 : Int32))) + ((12345 : Int32))) ^^^ (((((((sy_i F 22) ^^^ ((101 : Int32))) * ((1103515245 : Int32))) + ((12345 : Int32)))).toUInt32 >>> ((((15 : Int32))).toUInt32 &&& Int32.toUInt32 31)).toInt32)) ^^^ (((1000000 : Int32)) + (sy_i F 51))) * ((1103515245 : Int32))) + ((12345 : Int32))) ^^^ (((((((((((sy_i F 22) ^^^ ((101 : Int32))) * ((1103515245 : Int32))) + ((12345 : Int32))) ^^^ (((((((sy_i F 22) ^^^ ((101 : Int32))) * ((1103515245 : Int32))) + ((12345 : Int32)))).toUInt32 >>> ((((15 : Int32))).toUInt32 &&& Int32.toUInt32 31)).toInt32)) ^^^ (((1000000 : Int32)) + (sy_i F 51))) * ((1103515245 : Int32))) + ((12345 : Int32)))).toUInt32 >>> ((((15 : Int32))).toUInt32 &&& Int32.toUInt32 31)).toInt32))).toUInt32 >>> ((((1 : Int32))).toUInt32 &&& Int32.toUInt32 31)).toInt32) / ((100 : Int32)) * ((100 : Int32)) = ((((((((((((sy_i F 22) ^^^ ((101 : Int32))) * ((1103515245 : Int32))) + ((12345 : Int32))) ^^^ (((((((sy_i F 22) ^^^ ((101 : Int32))) * ((1103515245 : Int32))) + ((12345 : Int32)))).toUInt32 >>> ((((15 : Int32))).toUInt32 &&& Int32.toUInt32 31)).toInt32)) ^^^ (((1000000 : Int32)) + (sy_i F 51))) * ((1103515245 : Int32))) + ((12345 : Int32))) ^^^ (((((((((((sy_i F 22) ^^^ ((101 : Int32))) * ((1103515245 : Int32))) + ((12345 : Int32))) ^^^ (((((((sy_i F 22) ^^^ ((101 : Int32))) * ((1103515245 : Int32))) + ((12345 : Int32)))).toUInt32 >>> ((((15 : Int32))).toUInt32 &&& Int32.toUInt32 31)).toInt32)) ^^^ (((1000000 : Int32)) + (sy_i F 51))) * ((1103515245 : Int32))) + ((12345 : Int32)))).toUInt32 >>> ((((15 : Int32))).toUInt32 &&& Int32.toUInt32 31)).toInt32))).toUInt32 >>> ((((1 : Int32))).toUInt32 &&& Int32.toUInt32 31)).toInt32) - ((((((((((((sy_i F 22) ^^^ ((101 : Int32))) * ((1103515245 : Int32))) + ((12345 : Int32))) ^^^ (((((((sy_i F 22) ^^^ ((101 : Int32))) * ((1103515245 : Int32))) + ((12345 : Int32)))).toUInt32 >>> ((((15 : Int32))).toUInt32 &&& Int32.toUInt32 31)).toInt32)) ^^^ (((1000000 : Int32)) + (sy_i F 51))) * ((1103515245 : Int32))) + ((12345 : Int32))) ^^^ (((((((((((sy_i F 22) ^^^ ((101 : Int32))) * ((1103515245 : Int32))) + ((12345 : Int32))) ^^^ (((((((sy_i F 22) ^^^ ((101 : Int32))) * ((1103515245 : Int32))) + ((12345 : Int32)))).toUInt32 >>> ((((15 : Int32))).toUInt32 &&& Int32.toUInt32 31)).toInt32)) ^^^ (((1000000 : Int32)) + (sy_i F 51))) * ((1103515245 : Int32))) + ((12345 : Int32)))).toUInt32 >>> ((((15 : Int32))).toUInt32 &&& Int32.toUInt32 31)).toInt32))).toUInt32 >>> ((((1 : Int32))).toUInt32 &&& Int32.toUInt32 31)).toInt32) / ((100 : Int32)) * ((100 : Int32)))
  have c18 := nz_bx hB (k := 18) (lo := 0) (hi := 7) rfl
  exact j3sq_36_p0 hd F X1 X2 hB (by first | exact ⟨by omega, by omega⟩ | (simp only [nz_c]; exact ⟨by omega, by omega⟩)) (by first | exact ⟨by omega, by omega⟩ | (simp only [nz_c]; exact ⟨by omega, by omega⟩)) (fun F1 g e51 e58 e82 e83 e84 => k0 F1 (nz_in0 hB [51, 58] (fun j hj hn => g j hj (by simp only [List.mem_cons, List.not_mem_nil, or_false, not_or] at hn; omega)) (List.forall_mem_cons.mpr ⟨fun t ht => (Option.some.inj ht) ▸ (nz_hz e51), List.forall_mem_cons.mpr ⟨fun t ht => (Option.some.inj ht) ▸ (nz_hz2 e58), List.forall_mem_nil _⟩⟩)) (fun j hj hn => g j hj (by simp only [List.mem_cons, List.not_mem_nil, or_false, not_or] at hn; omega)) ((congrArg Int32.toInt (zz_i e51)).trans (nzE n99)) ((zz_i e51).trans (rfl : (sy_i F 51) + ((1 : Int32)) = (sy_i F 51) + ((1 : Int32)))) ((zz_ai e58).trans w98) ((congrArg Int32.toInt (zz_i e82)).trans (nzE n95)) ((zz_i e82).trans (rfl : ((((((((((((sy_i F 22) ^^^ ((101 : Int32))) * ((1103515245 : Int32))) + ((12345 : Int32))) ^^^ (((((((sy_i F 22) ^^^ ((101 : Int32))) * ((1103515245 : Int32))) + ((12345 : Int32)))).toUInt32 >>> ((((15 : Int32))).toUInt32 &&& Int32.toUInt32 31)).toInt32)) ^^^ (((1000000 : Int32)) + (sy_i F 51))) * ((1103515245 : Int32))) + ((12345 : Int32))) ^^^ (((((((((((sy_i F 22) ^^^ ((101 : Int32))) * ((1103515245 : Int32))) + ((12345 : Int32))) ^^^ (((((((sy_i F 22) ^^^ ((101 : Int32))) * ((1103515245 : Int32))) + ((12345 : Int32)))).toUInt32 >>> ((((15 : Int32))).toUInt32 &&& Int32.toUInt32 31)).toInt32)) ^^^ (((1000000 : Int32)) + (sy_i F 51))) * ((1103515245 : Int32))) + ((12345 : Int32)))).toUInt32 >>> ((((15 : Int32))).toUInt32 &&& Int32.toUInt32 31)).toInt32))).toUInt32 >>> ((((1 : Int32))).toUInt32 &&& Int32.toUInt32 31)).toInt32) - ((((((((((((sy_i F 22) ^^^ ((101 : Int32))) * ((1103515245 : Int32))) + ((12345 : Int32))) ^^^ (((((((sy_i F 22) ^^^ ((101 : Int32))) * ((1103515245 : Int32))) + ((12345 : Int32)))).toUInt32 >>> ((((15 : Int32))).toUInt32 &&& Int32.toUInt32 31)).toInt32)) ^^^ (((1000000 : Int32)) + (sy_i F 51))) * ((1103515245 : Int32))) + ((12345 : Int32))) ^^^ (((((((((((sy_i F 22) ^^^ ((101 : Int32))) * ((1103515245 : Int32))) + ((12345 : Int32))) ^^^ (((((((sy_i F 22) ^^^ ((101 : Int32))) * ((1103515245 : Int32))) + ((12345 : Int32)))).toUInt32 >>> ((((15 : Int32))).toUInt32 &&& Int32.toUInt32 31)).toInt32)) ^^^ (((1000000 : Int32)) + (sy_i F 51))) * ((1103515245 : Int32))) + ((12345 : Int32)))).toUInt32 >>> ((((15 : Int32))).toUInt32 &&& Int32.toUInt32 31)).toInt32))).toUInt32 >>> ((((1 : Int32))).toUInt32 &&& Int32.toUInt32 31)).toInt32) / ((100 : Int32)) * ((100 : Int32)) = ((((((((((((sy_i F 22) ^^^ ((101 : Int32))) * ((1103515245 : Int32))) + ((12345 : Int32))) ^^^ (((((((sy_i F 22) ^^^ ((101 : Int32))) * ((1103515245 : Int32))) + ((12345 : Int32)))).toUInt32 >>> ((((15 : Int32))).toUInt32 &&& Int32.toUInt32 31)).toInt32)) ^^^ (((1000000 : Int32)) + (sy_i F 51))) * ((1103515245 : Int32))) + ((12345 : Int32))) ^^^ (((((((((((sy_i F 22) ^^^ ((101 : Int32))) * ((1103515245 : Int32))) + ((12345 : Int32))) ^^^ (((((((sy_i F 22) ^^^ ((101 : Int32))) * ((1103515245 : Int32))) + ((12345 : Int32)))).toUInt32 >>> ((((15 : Int32))).toUInt32 &&& Int32.toUInt32 31)).toInt32)) ^^^ (((1000000 : Int32)) + (sy_i F 51))) * ((1103515245 : Int32))) + ((12345 : Int32)))).toUInt32 >>> ((((15 : Int32))).toUInt32 &&& Int32.toUInt32 31)).toInt32))).toUInt32 >>> ((((1 : Int32))).toUInt32 &&& Int32.toUInt32 31)).toInt32) - ((((((((((((sy_i F 22) ^^^ ((101 : Int32))) * ((1103515245 : Int32))) + ((12345 : Int32))) ^^^ (((((((sy_i F 22) ^^^ ((101 : Int32))) * ((1103515245 : Int32))) + ((12345 : Int32)))).toUInt32 >>> ((((15 : Int32))).toUInt32 &&& Int32.toUInt32 31)).toInt32)) ^^^ (((1000000 : Int32)) + (sy_i F 51))) * ((1103515245 : Int32))) + ((12345 : Int32))) ^^^ (((((((((((sy_i F 22) ^^^ ((101 : Int32))) * ((1103515245 : Int32))) + ((12345 : Int32))) ^^^ (((((((sy_i F 22) ^^^ ((101 : Int32))) * ((1103515245 : Int32))) + ((12345 : Int32)))).toUInt32 >>> ((((15 : Int32))).toUInt32 &&& Int32.toUInt32 31)).toInt32)) ^^^ (((1000000 : Int32)) + (sy_i F 51))) * ((1103515245 : Int32))) + ((12345 : Int32)))).toUInt32 >>> ((((15 : Int32))).toUInt32 &&& Int32.toUInt32 31)).toInt32))).toUInt32 >>> ((((1 : Int32))).toUInt32 &&& Int32.toUInt32 31)).toInt32) / ((100 : Int32)) * ((100 : Int32)))) ((congrArg Int32.toInt (zz_i e83)).trans (rfl : (sy_i F 50).toInt = (sy_i F 50).toInt)) ((zz_i e83).trans (rfl : sy_i F 50 = sy_i F 50)) ((congrArg Int32.toInt (zz_i e84)).trans (rfl : (sy_i F 18).toInt = (sy_i F 18).toInt)) ((zz_i e84).trans (rfl : sy_i F 18 = sy_i F 18)))
theorem j3sq_116_p0 {Ls : Nat} {xs : Nat → Int32} {d : Nat} {Q : Option Value → jm_h → Prop} (hd : 1 ≤ d) (F : Nat → sy_d) (X1 X2 : List jm_c) (hB : iv_in F iv_B0)
    (k : ∀ F1 : Nat → sy_d, (∀ j, j < 82 → j ≠ 45 → F1 j = F j) → F1 45 = .inr (.inl (jm_upd (sy_ai F 45) ((5 : Int32)).toNatClampNeg (sy_i F 51))) → F1 82 = .inl (.int (sy_i F 82)) → hd_W Ls xs d jm_M90 Q (142, sy_dL F1 [some (.inl (.ref 8)), none, some (.inr (.inl 82)), none], sy_dS F1 [.inl (.int 5), .inl (.ref 20), .inl (.ref 38), .inr (.inl 82)], sy_dh F1 X1 X2 (iv_H 3), 0, 0)) :
    hd_W Ls xs d jm_M90 Q (116, sy_dL F [some (.inl (.ref 8)), none, some (.inr (.inl 82)), none], sy_dS F [], sy_dh F X1 X2 (iv_H 3), 0, 0) := by
  refine hd_run (s := 3) (nv := 83) (pc := 142) (L := [some (.inl (.ref 8)), none, some (.inr (.inl 82)), none]) (S := [.inl (.int 5), .inl (.ref 20), .inl (.ref 38), .inr (.inl 82)]) (uh := hd_ov (iv_id 0 iv_B0) [(45, .inr (.inr (.inl 83)))]) (ul := [.inl (.inr (.inl 82))]) (f := false) (sp := [142]) (d0 := 0) (O := []) (T := [(40, [.inl (.int 5), .inr (.inl 51)], [.inr (.inl 45)])]) (P := []) jm_ok90 (by decide +kernel) (by decide +kernel) hd F X1 X2 (fun F' hF hs => ?_)
  have b51 := hd_b (F := F) (F' := F') (k := 51) (hF 51 (by decide))
  have a45 := hd_ba (F := F) (F' := F') (k := 45) (hF 45 (by decide))
  have t83 : sy_da F' (.inr (.inl 83)) = .inl (jm_upd (sy_ai F 45) ((5 : Int32)).toNatClampNeg (sy_i F 51)) := hd_up (hs 0 _ rfl) rfl b51 a45
  have b82 := hd_b (F := F) (F' := F') (k := 82) (hF 82 (by decide))
  have hB' : iv_in F' iv_B0 := iv_in_eq hB (fun j hj => hF j (Nat.lt_of_lt_of_le hj (by decide +kernel)))
  refine ⟨fun _ h => absurd h List.not_mem_nil, ?_⟩
  refine k _ ?_ ?_ ?_
  · exact fun j hj hn => (hd_keep hB' (Nat.lt_of_lt_of_le hj (by decide +kernel)) (by simp; omega)).trans (hF j (Nat.lt_of_lt_of_le hj (by decide)))
  · exact hd_ga (a := .inr (.inl 83)) (by decide +kernel) t83
  · exact hd_gi (x := .inr (.inl 82)) (by decide +kernel) b82
theorem j3sq_116 {Ls : Nat} {xs : Nat → Int32} {d : Nat} {Q : Option Value → jm_h → Prop} (hd : 1 ≤ d) (F : Nat → sy_d) (X1 X2 : List jm_c) (hB : iv_in F iv_B0)
    (k0 : ∀ F1 : Nat → sy_d, iv_in F1 iv_B0 → (∀ j, j < 82 → j ∉ ([45] : List Nat) → F1 j = F j) → sy_ai F1 45 = jm_upd (sy_ai F 45) (5 : Int).toNat (sy_i F 51) → (sy_i F1 82).toInt = (sy_i F 82).toInt → sy_i F1 82 = sy_i F 82 → hd_W Ls xs d jm_M90 Q (142, sy_dL F1 [some (.inl (.ref 8)), none, some (.inr (.inl 82)), none], sy_dS F1 [.inl (.int 5), .inl (.ref 20), .inl (.ref 38), .inr (.inl 82)], sy_dh F1 X1 X2 (iv_H 3), 0, 0)) :
    hd_W Ls xs d jm_M90 Q (116, sy_dL F [some (.inl (.ref 8)), none, some (.inr (.inl 82)), none], sy_dS F [], sy_dh F X1 X2 (iv_H 3), 0, 0) := by
  have w83 : jm_upd (sy_ai F 45) ((5 : Int32)).toNatClampNeg (sy_i F 51) = jm_upd (sy_ai F 45) (5 : Int).toNat (sy_i F 51) := by simp only [nz_c, (by decide : ((5 : Int32)).toInt = 5)]
  exact j3sq_116_p0 hd F X1 X2 hB  (fun F1 g e45 e82 => k0 F1 (nz_in0 hB [45] (fun j hj hn => g j hj (by simp only [List.mem_cons, List.not_mem_nil, or_false, not_or] at hn; omega)) (List.forall_mem_cons.mpr ⟨fun t ht => (Option.some.inj ht) ▸ (nz_hz2 e45), List.forall_mem_nil _⟩)) (fun j hj hn => g j hj (by simp only [List.mem_cons, List.not_mem_nil, or_false, not_or] at hn; omega)) ((zz_ai e45).trans w83) ((congrArg Int32.toInt (zz_i e82)).trans (rfl : (sy_i F 82).toInt = (sy_i F 82).toInt)) ((zz_i e82).trans (rfl : sy_i F 82 = sy_i F 82)))
theorem j3sq_145_p0 {Ls : Nat} {xs : Nat → Int32} {d : Nat} {Q : Option Value → jm_h → Prop} (hd : 1 ≤ d) (F : Nat → sy_d) (X1 X2 : List jm_c) (hB : iv_in F iv_B0)
    (h0 : (sy_i F 83).toInt ≤ (sy_i F 82).toInt)
    (k : ∀ F1 : Nat → sy_d, (∀ j, j < 82 → True → F1 j = F j) → Q (some (.int ((0 : Int32)))) (sy_dh F1 X1 X2 (iv_H 3))) :
    hd_W Ls xs d jm_M90 Q (145, sy_dL F [some (.inl (.ref 8)), none, some (.inr (.inl 82)), none], sy_dS F [.inr (.inl 83), .inr (.inl 82)], sy_dh F X1 X2 (iv_H 3), 0, 0) := by
  refine hd_ret (s := 3) (nv := 84) (v := some (.inl (.int 0))) (uh := hd_ov (iv_id 0 iv_B0) []) (f := false) (sp := []) (d0 := 0) (O := [true]) (T := []) (P := [(4, .inr (.inl 83), .inr (.inl 82))]) jm_ok90 (by decide +kernel) (by decide +kernel) hd F X1 X2 (fun F' hF hs => ?_)
  have b83 := hd_b (F := F) (F' := F') (k := 83) (hF 83 (by decide))
  have b82 := hd_b (F := F) (F' := F') (k := 82) (hF 82 (by decide))
  have hB' : iv_in F' iv_B0 := iv_in_eq hB (fun j hj => hF j (Nat.lt_of_lt_of_le hj (by decide +kernel)))
  refine ⟨List.forall_mem_cons.mpr ⟨hd_p4 b83 b82 h0, fun _ h => absurd h List.not_mem_nil⟩, ?_⟩
  refine k _ ?_
  · exact fun j hj _ => (hd_keep hB' (Nat.lt_of_lt_of_le hj (by decide +kernel)) (by simp)).trans (hF j (Nat.lt_of_lt_of_le hj (by decide)))
theorem j3sq_145_p1 {Ls : Nat} {xs : Nat → Int32} {d : Nat} {Q : Option Value → jm_h → Prop} (hd : 1 ≤ d) (F : Nat → sy_d) (X1 X2 : List jm_c) (hB : iv_in F iv_B0)
    (h0 : (sy_i F 82).toInt < (sy_i F 83).toInt)
    (k : ∀ F1 : Nat → sy_d, (∀ j, j < 82 → j ≠ 52 → F1 j = F j) → F1 52 = .inl (.int ((sy_i F 52) + ((1 : Int32)))) → Q (some (.int ((1 : Int32)))) (sy_dh F1 X1 X2 (iv_H 3))) :
    hd_W Ls xs d jm_M90 Q (145, sy_dL F [some (.inl (.ref 8)), none, some (.inr (.inl 82)), none], sy_dS F [.inr (.inl 83), .inr (.inl 82)], sy_dh F X1 X2 (iv_H 3), 0, 0) := by
  refine hd_ret (s := 3) (nv := 84) (v := some (.inl (.int 1))) (uh := hd_ov (iv_id 0 iv_B0) [(52, .inl (.inr (.inl 84)))]) (f := false) (sp := []) (d0 := 0) (O := [false]) (T := [(0, [.inr (.inl 52), .inl (.int 1)], [])]) (P := [(5, .inr (.inl 83), .inr (.inl 82))]) jm_ok90 (by decide +kernel) (by decide +kernel) hd F X1 X2 (fun F' hF hs => ?_)
  have b83 := hd_b (F := F) (F' := F') (k := 83) (hF 83 (by decide))
  have b82 := hd_b (F := F) (F' := F') (k := 82) (hF 82 (by decide))
  have b52 := hd_b (F := F) (F' := F') (k := 52) (hF 52 (by decide))
  have t84 : sy_dv F' (.inr (.inl 84)) = .int ((sy_i F 52) + ((1 : Int32))) := hd_o (hs 0 _ rfl) b52 rfl rfl
  have hB' : iv_in F' iv_B0 := iv_in_eq hB (fun j hj => hF j (Nat.lt_of_lt_of_le hj (by decide +kernel)))
  refine ⟨List.forall_mem_cons.mpr ⟨hd_p5 b83 b82 h0, fun _ h => absurd h List.not_mem_nil⟩, ?_⟩
  refine k _ ?_ ?_
  · exact fun j hj hn => (hd_keep hB' (Nat.lt_of_lt_of_le hj (by decide +kernel)) (by simp; omega)).trans (hF j (Nat.lt_of_lt_of_le hj (by decide)))
  · exact hd_gi (x := .inr (.inl 84)) (by decide +kernel) t84
theorem j3sq_145 {Ls : Nat} {xs : Nat → Int32} {d : Nat} {Q : Option Value → jm_h → Prop} (hd : 1 ≤ d) (F : Nat → sy_d) (X1 X2 : List jm_c) (hB : iv_in F iv_B0)
    (k0 : (sy_i F 83).toInt ≤ (sy_i F 82).toInt → ∀ F1 : Nat → sy_d, iv_in F1 iv_B0 → (∀ j, j < 82 → j ∉ ([] : List Nat) → F1 j = F j) → Q (some (.int ((0 : Int32)))) (sy_dh F1 X1 X2 (iv_H 3)))
    (k1 : (sy_i F 82).toInt < (sy_i F 83).toInt → ∀ F1 : Nat → sy_d, iv_in F1 iv_B0 → (∀ j, j < 82 → j ∉ ([52] : List Nat) → F1 j = F j) → (sy_i F1 52).toInt = ((sy_i F 52) + ((1 : Int32))).toInt → sy_i F1 52 = (sy_i F 52) + ((1 : Int32)) → Q (some (.int ((1 : Int32)))) (sy_dh F1 X1 X2 (iv_H 3))) :
    hd_W Ls xs d jm_M90 Q (145, sy_dL F [some (.inl (.ref 8)), none, some (.inr (.inl 82)), none], sy_dS F [.inr (.inl 83), .inr (.inl 82)], sy_dh F X1 X2 (iv_H 3), 0, 0) := by
  by_cases g0 : (sy_i F 83).toInt ≤ (sy_i F 82).toInt
  · exact j3sq_145_p0 hd F X1 X2 hB (by first | exact g0 | (simp only [nz_c]; exact g0)) (fun F1 g  => k0 g0 F1 (nz_in0 hB [] (fun j hj hn => g j hj (by simp only [List.mem_cons, List.not_mem_nil, or_false, not_or] at hn; exact trivial)) (List.forall_mem_nil _)) (fun j hj hn => g j hj (by simp only [List.mem_cons, List.not_mem_nil, or_false, not_or] at hn; exact trivial)) )
  replace g0 : (sy_i F 82).toInt < (sy_i F 83).toInt := by omega
  have n84 : nzI ((sy_i F 52) + ((1 : Int32))) (((sy_i F 52) + ((1 : Int32))).toInt) := congrArg Int32.toInt (rfl : (sy_i F 52) + ((1 : Int32)) = (sy_i F 52) + ((1 : Int32)))
  exact j3sq_145_p1 hd F X1 X2 hB (by first | exact g0 | (simp only [nz_c]; exact g0)) (fun F1 g e52 => k1 g0 F1 (nz_in0 hB [52] (fun j hj hn => g j hj (by simp only [List.mem_cons, List.not_mem_nil, or_false, not_or] at hn; omega)) (List.forall_mem_cons.mpr ⟨fun t ht => (Option.some.inj ht) ▸ (nz_hz e52), List.forall_mem_nil _⟩)) (fun j hj hn => g j hj (by simp only [List.mem_cons, List.not_mem_nil, or_false, not_or] at hn; omega)) ((congrArg Int32.toInt (zz_i e52)).trans (nzE n84)) ((zz_i e52).trans (rfl : (sy_i F 52) + ((1 : Int32)) = (sy_i F 52) + ((1 : Int32)))))
theorem j3hq_0_p0 {Ls : Nat} {xs : Nat → Int32} {d : Nat} {Q : Option Value → jm_h → Prop} (hd : 2 ≤ d) (F : Nat → sy_d) (X1 X2 : List jm_c) (hB : iv_in F iv_B0)
    (h0 : (sy_i F 82).toInt < 0)
    (k : ∀ F1 : Nat → sy_d, (∀ j, j < 82 → True → F1 j = F j) → Q (some (.int (((-1) : Int32)))) (sy_dh F1 X1 X2 (iv_H 3))) :
    hd_W Ls xs d jm_M91 Q (0, sy_dL F [some (.inl (.ref 8)), some (.inr (.inl 82)), none], sy_dS F [], sy_dh F X1 X2 (iv_H 3), 0, 0) := by
  refine hd_ret (s := 3) (nv := 83) (v := some (.inl (.int (-1)))) (uh := hd_ov (iv_id 0 iv_B0) []) (f := true) (sp := [24]) (d0 := 1) (O := [true]) (T := []) (P := [(2, .inr (.inl 82), .inl (.int 0))]) jm_ok91 (by decide +kernel) (by decide +kernel) hd F X1 X2 (fun F' hF hs => ?_)
  have b82 := hd_b (F := F) (F' := F') (k := 82) (hF 82 (by decide))
  have hB' : iv_in F' iv_B0 := iv_in_eq hB (fun j hj => hF j (Nat.lt_of_lt_of_le hj (by decide +kernel)))
  refine ⟨List.forall_mem_cons.mpr ⟨hd_p2 b82 rfl (by have hc : ((0) : Int32).toInt = 0 := (by decide); omega), fun _ h => absurd h List.not_mem_nil⟩, ?_⟩
  refine k _ ?_
  · exact fun j hj _ => (hd_keep hB' (Nat.lt_of_lt_of_le hj (by decide +kernel)) (by simp)).trans (hF j (Nat.lt_of_lt_of_le hj (by decide)))
theorem j3hq_0_p1 {Ls : Nat} {xs : Nat → Int32} {d : Nat} {Q : Option Value → jm_h → Prop} (hd : 2 ≤ d) (F : Nat → sy_d) (X1 X2 : List jm_c) (hB : iv_in F iv_B0)
    (h0 : 0 ≤ (sy_i F 82).toInt)
    (h1 : 48 < (sy_i F 82).toInt)
    (k : ∀ F1 : Nat → sy_d, (∀ j, j < 82 → True → F1 j = F j) → Q (some (.int (((-1) : Int32)))) (sy_dh F1 X1 X2 (iv_H 3))) :
    hd_W Ls xs d jm_M91 Q (0, sy_dL F [some (.inl (.ref 8)), some (.inr (.inl 82)), none], sy_dS F [], sy_dh F X1 X2 (iv_H 3), 0, 0) := by
  refine hd_ret (s := 3) (nv := 83) (v := some (.inl (.int (-1)))) (uh := hd_ov (iv_id 0 iv_B0) []) (f := true) (sp := [24]) (d0 := 1) (O := [false, true]) (T := []) (P := [(3, .inr (.inl 82), .inl (.int 0)), (2, .inl (.int 48), .inr (.inl 82))]) jm_ok91 (by decide +kernel) (by decide +kernel) hd F X1 X2 (fun F' hF hs => ?_)
  have b82 := hd_b (F := F) (F' := F') (k := 82) (hF 82 (by decide))
  have hB' : iv_in F' iv_B0 := iv_in_eq hB (fun j hj => hF j (Nat.lt_of_lt_of_le hj (by decide +kernel)))
  refine ⟨List.forall_mem_cons.mpr ⟨hd_p3 b82 rfl (by have hc : ((0) : Int32).toInt = 0 := (by decide); omega), List.forall_mem_cons.mpr ⟨hd_p2 rfl b82 (by have hc : ((48) : Int32).toInt = 48 := (by decide); omega), fun _ h => absurd h List.not_mem_nil⟩⟩, ?_⟩
  refine k _ ?_
  · exact fun j hj _ => (hd_keep hB' (Nat.lt_of_lt_of_le hj (by decide +kernel)) (by simp)).trans (hF j (Nat.lt_of_lt_of_le hj (by decide)))
theorem j3hq_0_p2 {Ls : Nat} {xs : Nat → Int32} {d : Nat} {Q : Option Value → jm_h → Prop} (hd : 2 ≤ d) (F : Nat → sy_d) (X1 X2 : List jm_c) (hB : iv_in F iv_B0)
    (h0 : 0 ≤ (sy_i F 82).toInt)
    (h1 : (sy_i F 82).toInt ≤ 48)
    (h2 : (sy_i F 82).toInt ≤ 0)
    (k : ∀ F1 : Nat → sy_d, (∀ j, j < 82 → True → F1 j = F j) → Q (some (.int (sy_i F 50))) (sy_dh F1 X1 X2 (iv_H 3))) :
    hd_W Ls xs d jm_M91 Q (0, sy_dL F [some (.inl (.ref 8)), some (.inr (.inl 82)), none], sy_dS F [], sy_dh F X1 X2 (iv_H 3), 0, 0) := by
  refine hd_ret (s := 3) (nv := 83) (v := some (.inr (.inl 50))) (uh := hd_ov (iv_id 0 iv_B0) []) (f := true) (sp := [24]) (d0 := 1) (O := [false, false, true]) (T := []) (P := [(3, .inr (.inl 82), .inl (.int 0)), (3, .inl (.int 48), .inr (.inl 82)), (4, .inr (.inl 82), .inl (.int 0))]) jm_ok91 (by decide +kernel) (by decide +kernel) hd F X1 X2 (fun F' hF hs => ?_)
  have b82 := hd_b (F := F) (F' := F') (k := 82) (hF 82 (by decide))
  have b50 := hd_b (F := F) (F' := F') (k := 50) (hF 50 (by decide))
  have hB' : iv_in F' iv_B0 := iv_in_eq hB (fun j hj => hF j (Nat.lt_of_lt_of_le hj (by decide +kernel)))
  have hk := k (sy_cm F' (hd_ov (iv_id 0 iv_B0) [] ++ [])) (fun j hj _ => (hd_keep hB' (Nat.lt_of_lt_of_le hj (by decide +kernel)) (by simp)).trans (hF j (Nat.lt_of_lt_of_le hj (by decide))))
  refine ⟨List.forall_mem_cons.mpr ⟨hd_p3 b82 rfl (by have hc : ((0) : Int32).toInt = 0 := (by decide); omega), List.forall_mem_cons.mpr ⟨hd_p3 rfl b82 (by have hc : ((48) : Int32).toInt = 48 := (by decide); omega), List.forall_mem_cons.mpr ⟨hd_p4 b82 rfl (by have hc : ((0) : Int32).toInt = 0 := (by decide); omega), fun _ h => absurd h List.not_mem_nil⟩⟩⟩, ?_⟩
  show Q (some (sy_dv F' (.inr (.inl 50)))) _
  rw [b50]
  exact hk
theorem j3hq_0_p3 {Ls : Nat} {xs : Nat → Int32} {d : Nat} {Q : Option Value → jm_h → Prop} (hd : 2 ≤ d) (F : Nat → sy_d) (X1 X2 : List jm_c) (hB : iv_in F iv_B0)
    (h0 : 0 ≤ (sy_i F 82).toInt)
    (h1 : (sy_i F 82).toInt ≤ 48)
    (h2 : 0 < (sy_i F 82).toInt)
    (k : ∀ F1 : Nat → sy_d, (∀ j, j < 82 → True → F1 j = F j) → F1 82 = .inl (.int (sy_i F 82)) → hd_W Ls xs d jm_M91 Q (24, sy_dL F1 [some (.inl (.ref 8)), some (.inr (.inl 82)), none], sy_dS F1 [.inl (.ref 46), .inl (.ref 66)], sy_dh F1 X1 X2 (iv_H 3), 0, 0)) :
    hd_W Ls xs d jm_M91 Q (0, sy_dL F [some (.inl (.ref 8)), some (.inr (.inl 82)), none], sy_dS F [], sy_dh F X1 X2 (iv_H 3), 0, 0) := by
  refine hd_run (s := 3) (nv := 83) (pc := 24) (L := [some (.inl (.ref 8)), some (.inr (.inl 82)), none]) (S := [.inl (.ref 46), .inl (.ref 66)]) (uh := hd_ov (iv_id 0 iv_B0) []) (ul := [.inl (.inr (.inl 82))]) (f := true) (sp := [24]) (d0 := 1) (O := [false, false, false]) (T := []) (P := [(3, .inr (.inl 82), .inl (.int 0)), (3, .inl (.int 48), .inr (.inl 82)), (5, .inr (.inl 82), .inl (.int 0))]) jm_ok91 (by decide +kernel) (by decide +kernel) hd F X1 X2 (fun F' hF hs => ?_)
  have b82 := hd_b (F := F) (F' := F') (k := 82) (hF 82 (by decide))
  have hB' : iv_in F' iv_B0 := iv_in_eq hB (fun j hj => hF j (Nat.lt_of_lt_of_le hj (by decide +kernel)))
  refine ⟨List.forall_mem_cons.mpr ⟨hd_p3 b82 rfl (by have hc : ((0) : Int32).toInt = 0 := (by decide); omega), List.forall_mem_cons.mpr ⟨hd_p3 rfl b82 (by have hc : ((48) : Int32).toInt = 48 := (by decide); omega), List.forall_mem_cons.mpr ⟨hd_p5 b82 rfl (by have hc : ((0) : Int32).toInt = 0 := (by decide); omega), fun _ h => absurd h List.not_mem_nil⟩⟩⟩, ?_⟩
  refine k _ ?_ ?_
  · exact fun j hj _ => (hd_keep hB' (Nat.lt_of_lt_of_le hj (by decide +kernel)) (by simp)).trans (hF j (Nat.lt_of_lt_of_le hj (by decide)))
  · exact hd_gi (x := .inr (.inl 82)) (by decide +kernel) b82
theorem j3hq_0 {Ls : Nat} {xs : Nat → Int32} {d : Nat} {Q : Option Value → jm_h → Prop} (hd : 2 ≤ d) (F : Nat → sy_d) (X1 X2 : List jm_c) (hB : iv_in F iv_B0)
    (k0 : (sy_i F 82).toInt < 0 → ∀ F1 : Nat → sy_d, iv_in F1 iv_B0 → (∀ j, j < 82 → j ∉ ([] : List Nat) → F1 j = F j) → Q (some (.int (((-1) : Int32)))) (sy_dh F1 X1 X2 (iv_H 3)))
    (k1 : 0 ≤ (sy_i F 82).toInt → 48 < (sy_i F 82).toInt → ∀ F1 : Nat → sy_d, iv_in F1 iv_B0 → (∀ j, j < 82 → j ∉ ([] : List Nat) → F1 j = F j) → Q (some (.int (((-1) : Int32)))) (sy_dh F1 X1 X2 (iv_H 3)))
    (k2 : 0 ≤ (sy_i F 82).toInt → (sy_i F 82).toInt ≤ 48 → (sy_i F 82).toInt ≤ 0 → ∀ F1 : Nat → sy_d, iv_in F1 iv_B0 → (∀ j, j < 82 → j ∉ ([] : List Nat) → F1 j = F j) → Q (some (.int (sy_i F 50))) (sy_dh F1 X1 X2 (iv_H 3)))
    (k3 : 0 ≤ (sy_i F 82).toInt → (sy_i F 82).toInt ≤ 48 → 0 < (sy_i F 82).toInt → ∀ F1 : Nat → sy_d, iv_in F1 iv_B0 → (∀ j, j < 82 → j ∉ ([] : List Nat) → F1 j = F j) → (sy_i F1 82).toInt = (sy_i F 82).toInt → sy_i F1 82 = sy_i F 82 → hd_W Ls xs d jm_M91 Q (24, sy_dL F1 [some (.inl (.ref 8)), some (.inr (.inl 82)), none], sy_dS F1 [.inl (.ref 46), .inl (.ref 66)], sy_dh F1 X1 X2 (iv_H 3), 0, 0)) :
    hd_W Ls xs d jm_M91 Q (0, sy_dL F [some (.inl (.ref 8)), some (.inr (.inl 82)), none], sy_dS F [], sy_dh F X1 X2 (iv_H 3), 0, 0) := by
  by_cases g0 : (sy_i F 82).toInt < 0
  · exact j3hq_0_p0 hd F X1 X2 hB (by first | exact g0 | (simp only [nz_c]; exact g0)) (fun F1 g  => k0 g0 F1 (nz_in0 hB [] (fun j hj hn => g j hj (by simp only [List.mem_cons, List.not_mem_nil, or_false, not_or] at hn; exact trivial)) (List.forall_mem_nil _)) (fun j hj hn => g j hj (by simp only [List.mem_cons, List.not_mem_nil, or_false, not_or] at hn; exact trivial)) )
  replace g0 : 0 ≤ (sy_i F 82).toInt := by omega
  by_cases g1 : 48 < (sy_i F 82).toInt
  · exact j3hq_0_p1 hd F X1 X2 hB (by first | exact g0 | (simp only [nz_c]; exact g0)) (by first | exact g1 | (simp only [nz_c]; exact g1)) (fun F1 g  => k1 g0 g1 F1 (nz_in0 hB [] (fun j hj hn => g j hj (by simp only [List.mem_cons, List.not_mem_nil, or_false, not_or] at hn; exact trivial)) (List.forall_mem_nil _)) (fun j hj hn => g j hj (by simp only [List.mem_cons, List.not_mem_nil, or_false, not_or] at hn; exact trivial)) )
  replace g1 : (sy_i F 82).toInt ≤ 48 := by omega
  by_cases g2 : (sy_i F 82).toInt ≤ 0
  · exact j3hq_0_p2 hd F X1 X2 hB (by first | exact g0 | (simp only [nz_c]; exact g0)) (by first | exact g1 | (simp only [nz_c]; exact g1)) (by first | exact g2 | (simp only [nz_c]; exact g2)) (fun F1 g  => by rw [(rfl : sy_i F 50 = sy_i F 50)]; exact k2 g0 g1 g2 F1 (nz_in0 hB [] (fun j hj hn => g j hj (by simp only [List.mem_cons, List.not_mem_nil, or_false, not_or] at hn; exact trivial)) (List.forall_mem_nil _)) (fun j hj hn => g j hj (by simp only [List.mem_cons, List.not_mem_nil, or_false, not_or] at hn; exact trivial)) )
  replace g2 : 0 < (sy_i F 82).toInt := by omega
  exact j3hq_0_p3 hd F X1 X2 hB (by first | exact g0 | (simp only [nz_c]; exact g0)) (by first | exact g1 | (simp only [nz_c]; exact g1)) (by first | exact g2 | (simp only [nz_c]; exact g2)) (fun F1 g e82 => k3 g0 g1 g2 F1 (nz_in0 hB [] (fun j hj hn => g j hj (by simp only [List.mem_cons, List.not_mem_nil, or_false, not_or] at hn; exact trivial)) (List.forall_mem_nil _)) (fun j hj hn => g j hj (by simp only [List.mem_cons, List.not_mem_nil, or_false, not_or] at hn; exact trivial)) ((congrArg Int32.toInt (zz_i e82)).trans (rfl : (sy_i F 82).toInt = (sy_i F 82).toInt)) ((zz_i e82).trans (rfl : sy_i F 82 = sy_i F 82)))
theorem j3hq_27_p0 {Ls : Nat} {xs : Nat → Int32} {d : Nat} {Q : Option Value → jm_h → Prop} (hd : 1 ≤ d) (F : Nat → sy_d) (X1 X2 : List jm_c) (hB : iv_in F iv_B0)
    (k : ∀ F1 : Nat → sy_d, (∀ j, j < 82 → True → F1 j = F j) → F1 82 = .inl (.int (sy_i F 82)) → F1 83 = .inl (.int ((0 : Int32))) → hd_W Ls xs d jm_M91 Q (29, sy_dL F1 [some (.inl (.ref 8)), some (.inr (.inl 82)), some (.inr (.inl 83))], sy_dS F1 [], sy_dh F1 X1 X2 (iv_H 3), 0, 0)) :
    hd_W Ls xs d jm_M91 Q (27, sy_dL F [some (.inl (.ref 8)), some (.inr (.inl 82)), none], sy_dS F [], sy_dh F X1 X2 (iv_H 3), 0, 0) := by
  refine hd_run (s := 3) (nv := 83) (pc := 29) (L := [some (.inl (.ref 8)), some (.inr (.inl 82)), some (.inr (.inl 83))]) (S := []) (uh := hd_ov (iv_id 0 iv_B0) []) (ul := [.inl (.inr (.inl 82)), .inl (.inl (.int 0))]) (f := false) (sp := [29]) (d0 := 0) (O := []) (T := []) (P := []) jm_ok91 (by decide +kernel) (by decide +kernel) hd F X1 X2 (fun F' hF hs => ?_)
  have b82 := hd_b (F := F) (F' := F') (k := 82) (hF 82 (by decide))
  have hB' : iv_in F' iv_B0 := iv_in_eq hB (fun j hj => hF j (Nat.lt_of_lt_of_le hj (by decide +kernel)))
  refine ⟨fun _ h => absurd h List.not_mem_nil, ?_⟩
  refine k _ ?_ ?_ ?_
  · exact fun j hj _ => (hd_keep hB' (Nat.lt_of_lt_of_le hj (by decide +kernel)) (by simp)).trans (hF j (Nat.lt_of_lt_of_le hj (by decide)))
  · exact hd_gi (x := .inr (.inl 82)) (by decide +kernel) b82
  · exact hd_gi (x := .inl (.int 0)) (by decide +kernel) rfl
theorem j3hq_27 {Ls : Nat} {xs : Nat → Int32} {d : Nat} {Q : Option Value → jm_h → Prop} (hd : 1 ≤ d) (F : Nat → sy_d) (X1 X2 : List jm_c) (hB : iv_in F iv_B0)
    (k0 : ∀ F1 : Nat → sy_d, iv_in F1 iv_B0 → (∀ j, j < 82 → j ∉ ([] : List Nat) → F1 j = F j) → (sy_i F1 82).toInt = (sy_i F 82).toInt → sy_i F1 82 = sy_i F 82 → (sy_i F1 83).toInt = 0 → sy_i F1 83 = (0 : Int32) → hd_W Ls xs d jm_M91 Q (29, sy_dL F1 [some (.inl (.ref 8)), some (.inr (.inl 82)), some (.inr (.inl 83))], sy_dS F1 [], sy_dh F1 X1 X2 (iv_H 3), 0, 0)) :
    hd_W Ls xs d jm_M91 Q (27, sy_dL F [some (.inl (.ref 8)), some (.inr (.inl 82)), none], sy_dS F [], sy_dh F X1 X2 (iv_H 3), 0, 0) := by
  exact j3hq_27_p0 hd F X1 X2 hB  (fun F1 g e82 e83 => k0 F1 (nz_in0 hB [] (fun j hj hn => g j hj (by simp only [List.mem_cons, List.not_mem_nil, or_false, not_or] at hn; exact trivial)) (List.forall_mem_nil _)) (fun j hj hn => g j hj (by simp only [List.mem_cons, List.not_mem_nil, or_false, not_or] at hn; exact trivial)) ((congrArg Int32.toInt (zz_i e82)).trans (rfl : (sy_i F 82).toInt = (sy_i F 82).toInt)) ((zz_i e82).trans (rfl : sy_i F 82 = sy_i F 82)) ((congrArg Int32.toInt (zz_i e83)).trans (by decide : ((0 : Int32)).toInt = 0)) ((zz_i e83).trans (rfl : (0 : Int32) = (0 : Int32))))
theorem j3hq_29_p0 {Ls : Nat} {xs : Nat → Int32} {d : Nat} {Q : Option Value → jm_h → Prop} (hd : 1 ≤ d) (F : Nat → sy_d) (X1 X2 : List jm_c) (hB : iv_in F iv_B0)
    (h0 : (sy_i F 82).toInt ≤ (sy_i F 83).toInt)
    (k : ∀ F1 : Nat → sy_d, (∀ j, j < 82 → True → F1 j = F j) → Q (some (.int (sy_i F 50))) (sy_dh F1 X1 X2 (iv_H 3))) :
    hd_W Ls xs d jm_M91 Q (29, sy_dL F [some (.inl (.ref 8)), some (.inr (.inl 82)), some (.inr (.inl 83))], sy_dS F [], sy_dh F X1 X2 (iv_H 3), 0, 0) := by
  refine hd_ret (s := 3) (nv := 84) (v := some (.inr (.inl 50))) (uh := hd_ov (iv_id 0 iv_B0) []) (f := true) (sp := [53]) (d0 := 0) (O := [true]) (T := []) (P := [(4, .inr (.inl 82), .inr (.inl 83))]) jm_ok91 (by decide +kernel) (by decide +kernel) hd F X1 X2 (fun F' hF hs => ?_)
  have b82 := hd_b (F := F) (F' := F') (k := 82) (hF 82 (by decide))
  have b83 := hd_b (F := F) (F' := F') (k := 83) (hF 83 (by decide))
  have b50 := hd_b (F := F) (F' := F') (k := 50) (hF 50 (by decide))
  have hB' : iv_in F' iv_B0 := iv_in_eq hB (fun j hj => hF j (Nat.lt_of_lt_of_le hj (by decide +kernel)))
  have hk := k (sy_cm F' (hd_ov (iv_id 0 iv_B0) [] ++ [])) (fun j hj _ => (hd_keep hB' (Nat.lt_of_lt_of_le hj (by decide +kernel)) (by simp)).trans (hF j (Nat.lt_of_lt_of_le hj (by decide))))
  refine ⟨List.forall_mem_cons.mpr ⟨hd_p4 b82 b83 h0, fun _ h => absurd h List.not_mem_nil⟩, ?_⟩
  show Q (some (sy_dv F' (.inr (.inl 50)))) _
  rw [b50]
  exact hk
theorem j3hq_29_p1 {Ls : Nat} {xs : Nat → Int32} {d : Nat} {Q : Option Value → jm_h → Prop} (hd : 1 ≤ d) (F : Nat → sy_d) (X1 X2 : List jm_c) (hB : iv_in F iv_B0)
    (h0 : (sy_i F 83).toInt < (sy_i F 82).toInt)
    (k : ∀ F1 : Nat → sy_d, (∀ j, j < 82 → True → F1 j = F j) → F1 82 = .inl (.int (sy_i F 82)) → F1 83 = .inl (.int (sy_i F 83)) → F1 84 = .inl (.int (sy_i F 22)) → hd_W Ls xs d jm_M91 Q (53, sy_dL F1 [some (.inl (.ref 8)), some (.inr (.inl 82)), some (.inr (.inl 83))], sy_dS F1 [.inr (.inl 84), .inl (.ref 46), .inl (.ref 20), .inl (.ref 41)], sy_dh F1 X1 X2 (iv_H 3), 0, 0)) :
    hd_W Ls xs d jm_M91 Q (29, sy_dL F [some (.inl (.ref 8)), some (.inr (.inl 82)), some (.inr (.inl 83))], sy_dS F [], sy_dh F X1 X2 (iv_H 3), 0, 0) := by
  refine hd_run (s := 3) (nv := 84) (pc := 53) (L := [some (.inl (.ref 8)), some (.inr (.inl 82)), some (.inr (.inl 83))]) (S := [.inr (.inl 84), .inl (.ref 46), .inl (.ref 20), .inl (.ref 41)]) (uh := hd_ov (iv_id 0 iv_B0) []) (ul := [.inl (.inr (.inl 82)), .inl (.inr (.inl 83)), .inl (.inr (.inl 22))]) (f := true) (sp := [53]) (d0 := 0) (O := [false]) (T := []) (P := [(5, .inr (.inl 82), .inr (.inl 83))]) jm_ok91 (by decide +kernel) (by decide +kernel) hd F X1 X2 (fun F' hF hs => ?_)
  have b82 := hd_b (F := F) (F' := F') (k := 82) (hF 82 (by decide))
  have b83 := hd_b (F := F) (F' := F') (k := 83) (hF 83 (by decide))
  have b22 := hd_b (F := F) (F' := F') (k := 22) (hF 22 (by decide))
  have hB' : iv_in F' iv_B0 := iv_in_eq hB (fun j hj => hF j (Nat.lt_of_lt_of_le hj (by decide +kernel)))
  refine ⟨List.forall_mem_cons.mpr ⟨hd_p5 b82 b83 h0, fun _ h => absurd h List.not_mem_nil⟩, ?_⟩
  refine k _ ?_ ?_ ?_ ?_
  · exact fun j hj _ => (hd_keep hB' (Nat.lt_of_lt_of_le hj (by decide +kernel)) (by simp)).trans (hF j (Nat.lt_of_lt_of_le hj (by decide)))
  · exact hd_gi (x := .inr (.inl 82)) (by decide +kernel) b82
  · exact hd_gi (x := .inr (.inl 83)) (by decide +kernel) b83
  · exact hd_gi (x := .inr (.inl 22)) (by decide +kernel) b22
theorem j3hq_29 {Ls : Nat} {xs : Nat → Int32} {d : Nat} {Q : Option Value → jm_h → Prop} (hd : 1 ≤ d) (F : Nat → sy_d) (X1 X2 : List jm_c) (hB : iv_in F iv_B0)
    (a82 : 0 ≤ (sy_i F 82).toInt ∧ (sy_i F 82).toInt ≤ 48)
    (a83 : 0 ≤ (sy_i F 83).toInt ∧ (sy_i F 83).toInt ≤ 48)
    (k0 : (sy_i F 82).toInt ≤ (sy_i F 83).toInt → ∀ F1 : Nat → sy_d, iv_in F1 iv_B0 → (∀ j, j < 82 → j ∉ ([] : List Nat) → F1 j = F j) → Q (some (.int (sy_i F 50))) (sy_dh F1 X1 X2 (iv_H 3)))
    (k1 : (sy_i F 83).toInt < (sy_i F 82).toInt → ∀ F1 : Nat → sy_d, iv_in F1 iv_B0 → (∀ j, j < 82 → j ∉ ([] : List Nat) → F1 j = F j) → (sy_i F1 82).toInt = (sy_i F 82).toInt → sy_i F1 82 = sy_i F 82 → (sy_i F1 83).toInt = (sy_i F 83).toInt → sy_i F1 83 = sy_i F 83 → (sy_i F1 84).toInt = (sy_i F 22).toInt → sy_i F1 84 = sy_i F 22 → hd_W Ls xs d jm_M91 Q (53, sy_dL F1 [some (.inl (.ref 8)), some (.inr (.inl 82)), some (.inr (.inl 83))], sy_dS F1 [.inr (.inl 84), .inl (.ref 46), .inl (.ref 20), .inl (.ref 41)], sy_dh F1 X1 X2 (iv_H 3), 0, 0)) :
    hd_W Ls xs d jm_M91 Q (29, sy_dL F [some (.inl (.ref 8)), some (.inr (.inl 82)), some (.inr (.inl 83))], sy_dS F [], sy_dh F X1 X2 (iv_H 3), 0, 0) := by
  by_cases g0 : (sy_i F 82).toInt ≤ (sy_i F 83).toInt
  · exact j3hq_29_p0 hd F X1 X2 hB (by first | exact g0 | (simp only [nz_c]; exact g0)) (fun F1 g  => by rw [(rfl : sy_i F 50 = sy_i F 50)]; exact k0 g0 F1 (nz_in0 hB [] (fun j hj hn => g j hj (by simp only [List.mem_cons, List.not_mem_nil, or_false, not_or] at hn; exact trivial)) (List.forall_mem_nil _)) (fun j hj hn => g j hj (by simp only [List.mem_cons, List.not_mem_nil, or_false, not_or] at hn; exact trivial)) )
  replace g0 : (sy_i F 83).toInt < (sy_i F 82).toInt := by omega
  exact j3hq_29_p1 hd F X1 X2 hB (by first | exact g0 | (simp only [nz_c]; exact g0)) (fun F1 g e82 e83 e84 => k1 g0 F1 (nz_in0 hB [] (fun j hj hn => g j hj (by simp only [List.mem_cons, List.not_mem_nil, or_false, not_or] at hn; exact trivial)) (List.forall_mem_nil _)) (fun j hj hn => g j hj (by simp only [List.mem_cons, List.not_mem_nil, or_false, not_or] at hn; exact trivial)) ((congrArg Int32.toInt (zz_i e82)).trans (rfl : (sy_i F 82).toInt = (sy_i F 82).toInt)) ((zz_i e82).trans (rfl : sy_i F 82 = sy_i F 82)) ((congrArg Int32.toInt (zz_i e83)).trans (rfl : (sy_i F 83).toInt = (sy_i F 83).toInt)) ((zz_i e83).trans (rfl : sy_i F 83 = sy_i F 83)) ((congrArg Int32.toInt (zz_i e84)).trans (rfl : (sy_i F 22).toInt = (sy_i F 22).toInt)) ((zz_i e84).trans (rfl : sy_i F 22 = sy_i F 22)))
theorem j3hq_56_p0 {Ls : Nat} {xs : Nat → Int32} {d : Nat} {Q : Option Value → jm_h → Prop} (hd : 1 ≤ d) (F : Nat → sy_d) (X1 X2 : List jm_c) (hB : iv_in F iv_B0)
    (k : ∀ F1 : Nat → sy_d, (∀ j, j < 82 → True → F1 j = F j) → F1 82 = .inl (.int (sy_i F 82)) → F1 83 = .inl (.int ((sy_i F 83) + ((1 : Int32)))) → hd_W Ls xs d jm_M91 Q (29, sy_dL F1 [some (.inl (.ref 8)), some (.inr (.inl 82)), some (.inr (.inl 83))], sy_dS F1 [], sy_dh F1 X1 X2 (iv_H 3), 0, 0)) :
    hd_W Ls xs d jm_M91 Q (56, sy_dL F [some (.inl (.ref 8)), some (.inr (.inl 82)), some (.inr (.inl 83))], sy_dS F [], sy_dh F X1 X2 (iv_H 3), 0, 0) := by
  refine hd_run (s := 3) (nv := 84) (pc := 29) (L := [some (.inl (.ref 8)), some (.inr (.inl 82)), some (.inr (.inl 83))]) (S := []) (uh := hd_ov (iv_id 0 iv_B0) []) (ul := [.inl (.inr (.inl 82)), .inl (.inr (.inl 84))]) (f := false) (sp := [29]) (d0 := 0) (O := []) (T := [(0, [.inr (.inl 83), .inl (.int 1)], [])]) (P := []) jm_ok91 (by decide +kernel) (by decide +kernel) hd F X1 X2 (fun F' hF hs => ?_)
  have b82 := hd_b (F := F) (F' := F') (k := 82) (hF 82 (by decide))
  have b83 := hd_b (F := F) (F' := F') (k := 83) (hF 83 (by decide))
  have t84 : sy_dv F' (.inr (.inl 84)) = .int ((sy_i F 83) + ((1 : Int32))) := hd_o (hs 0 _ rfl) b83 rfl rfl
  have hB' : iv_in F' iv_B0 := iv_in_eq hB (fun j hj => hF j (Nat.lt_of_lt_of_le hj (by decide +kernel)))
  refine ⟨fun _ h => absurd h List.not_mem_nil, ?_⟩
  refine k _ ?_ ?_ ?_
  · exact fun j hj _ => (hd_keep hB' (Nat.lt_of_lt_of_le hj (by decide +kernel)) (by simp)).trans (hF j (Nat.lt_of_lt_of_le hj (by decide)))
  · exact hd_gi (x := .inr (.inl 82)) (by decide +kernel) b82
  · exact hd_gi (x := .inr (.inl 84)) (by decide +kernel) t84
theorem j3hq_56 {Ls : Nat} {xs : Nat → Int32} {d : Nat} {Q : Option Value → jm_h → Prop} (hd : 1 ≤ d) (F : Nat → sy_d) (X1 X2 : List jm_c) (hB : iv_in F iv_B0)
    (a83 : 0 ≤ (sy_i F 83).toInt ∧ (sy_i F 83).toInt ≤ 47)
    (k0 : ∀ F1 : Nat → sy_d, iv_in F1 iv_B0 → (∀ j, j < 82 → j ∉ ([] : List Nat) → F1 j = F j) → (sy_i F1 82).toInt = (sy_i F 82).toInt → sy_i F1 82 = sy_i F 82 → (sy_i F1 83).toInt = ((sy_i F 83).toInt + 1) → sy_i F1 83 = (sy_i F 83) + ((1 : Int32)) → hd_W Ls xs d jm_M91 Q (29, sy_dL F1 [some (.inl (.ref 8)), some (.inr (.inl 82)), some (.inr (.inl 83))], sy_dS F1 [], sy_dh F1 X1 X2 (iv_H 3), 0, 0)) :
    hd_W Ls xs d jm_M91 Q (56, sy_dL F [some (.inl (.ref 8)), some (.inr (.inl 82)), some (.inr (.inl 83))], sy_dS F [], sy_dh F X1 X2 (iv_H 3), 0, 0) := by
  have n84 : nzI ((sy_i F 83) + ((1 : Int32))) (((sy_i F 83).toInt + 1)) := nz_add (rfl : (sy_i F 83).toInt = (sy_i F 83).toInt) (by decide : ((1 : Int32)).toInt = 1) (by omega) (by omega)
  exact j3hq_56_p0 hd F X1 X2 hB  (fun F1 g e82 e83 => k0 F1 (nz_in0 hB [] (fun j hj hn => g j hj (by simp only [List.mem_cons, List.not_mem_nil, or_false, not_or] at hn; exact trivial)) (List.forall_mem_nil _)) (fun j hj hn => g j hj (by simp only [List.mem_cons, List.not_mem_nil, or_false, not_or] at hn; exact trivial)) ((congrArg Int32.toInt (zz_i e82)).trans (rfl : (sy_i F 82).toInt = (sy_i F 82).toInt)) ((zz_i e82).trans (rfl : sy_i F 82 = sy_i F 82)) ((congrArg Int32.toInt (zz_i e83)).trans (nzE n84)) ((zz_i e83).trans (rfl : (sy_i F 83) + ((1 : Int32)) = (sy_i F 83) + ((1 : Int32)))))
theorem j3pq_0_p0 {Ls : Nat} {xs : Nat → Int32} {d : Nat} {Q : Option Value → jm_h → Prop} (hd : 1 ≤ d) (F : Nat → sy_d) (X1 X2 : List jm_c) (hB : iv_in F iv_B0)
    (k : ∀ F1 : Nat → sy_d, (∀ j, j < 82 → True → F1 j = F j) → Q (some (.int (sy_i F 1))) (sy_dh F1 X1 X2 (iv_H 3))) :
    hd_W Ls xs d jm_M84 Q (0, sy_dL F [some (.inl (.ref 8))], sy_dS F [], sy_dh F X1 X2 (iv_H 3), 0, 0) := by
  refine hd_ret (s := 3) (nv := 82) (v := some (.inr (.inl 1))) (uh := hd_ov (iv_id 0 iv_B0) []) (f := true) (sp := []) (d0 := 0) (O := []) (T := []) (P := []) jm_ok84 (by decide +kernel) (by decide +kernel) hd F X1 X2 (fun F' hF hs => ?_)
  have b1 := hd_b (F := F) (F' := F') (k := 1) (hF 1 (by decide))
  have hB' : iv_in F' iv_B0 := iv_in_eq hB (fun j hj => hF j (Nat.lt_of_lt_of_le hj (by decide +kernel)))
  have hk := k (sy_cm F' (hd_ov (iv_id 0 iv_B0) [] ++ [])) (fun j hj _ => (hd_keep hB' (Nat.lt_of_lt_of_le hj (by decide +kernel)) (by simp)).trans (hF j (Nat.lt_of_lt_of_le hj (by decide))))
  refine ⟨fun _ h => absurd h List.not_mem_nil, ?_⟩
  show Q (some (sy_dv F' (.inr (.inl 1)))) _
  rw [b1]
  exact hk
theorem j3pq_0 {Ls : Nat} {xs : Nat → Int32} {d : Nat} {Q : Option Value → jm_h → Prop} (hd : 1 ≤ d) (F : Nat → sy_d) (X1 X2 : List jm_c) (hB : iv_in F iv_B0)
    (k0 : ∀ F1 : Nat → sy_d, iv_in F1 iv_B0 → (∀ j, j < 82 → j ∉ ([] : List Nat) → F1 j = F j) → Q (some (.int (sy_i F 1))) (sy_dh F1 X1 X2 (iv_H 3))) :
    hd_W Ls xs d jm_M84 Q (0, sy_dL F [some (.inl (.ref 8))], sy_dS F [], sy_dh F X1 X2 (iv_H 3), 0, 0) := by
  exact j3pq_0_p0 hd F X1 X2 hB  (fun F1 g  => by rw [(rfl : sy_i F 1 = sy_i F 1)]; exact k0 F1 (nz_in0 hB [] (fun j hj hn => g j hj (by simp only [List.mem_cons, List.not_mem_nil, or_false, not_or] at hn; exact trivial)) (List.forall_mem_nil _)) (fun j hj hn => g j hj (by simp only [List.mem_cons, List.not_mem_nil, or_false, not_or] at hn; exact trivial)) )
theorem j3fq_0_p0 {Ls : Nat} {xs : Nat → Int32} {d : Nat} {Q : Option Value → jm_h → Prop} (hd : 1 ≤ d) (F : Nat → sy_d) (X1 X2 : List jm_c) (hB : iv_in F iv_B0)
    (k : ∀ F1 : Nat → sy_d, (∀ j, j < 82 → j ≠ 79 → F1 j = F j) → F1 79 = .inl (.int ((0 : Int32))) → Q (some (.int (sy_i F 79))) (sy_dh F1 X1 X2 (iv_H 3))) :
    hd_W Ls xs d jm_M109 Q (0, sy_dL F [some (.inl (.ref 8)), none], sy_dS F [], sy_dh F X1 X2 (iv_H 3), 0, 0) := by
  refine hd_ret (s := 3) (nv := 82) (v := some (.inr (.inl 79))) (uh := hd_ov (iv_id 0 iv_B0) [(79, .inl (.inl (.int 0)))]) (f := true) (sp := []) (d0 := 0) (O := []) (T := []) (P := []) jm_ok109 (by decide +kernel) (by decide +kernel) hd F X1 X2 (fun F' hF hs => ?_)
  have b79 := hd_b (F := F) (F' := F') (k := 79) (hF 79 (by decide))
  have hB' : iv_in F' iv_B0 := iv_in_eq hB (fun j hj => hF j (Nat.lt_of_lt_of_le hj (by decide +kernel)))
  have hk := k (sy_cm F' (hd_ov (iv_id 0 iv_B0) [(79, .inl (.inl (.int 0)))] ++ [])) (fun j hj hn => (hd_keep hB' (Nat.lt_of_lt_of_le hj (by decide +kernel)) (by simp; omega)).trans (hF j (Nat.lt_of_lt_of_le hj (by decide)))) (hd_gi (x := .inl (.int 0)) (by decide +kernel) rfl)
  refine ⟨fun _ h => absurd h List.not_mem_nil, ?_⟩
  show Q (some (sy_dv F' (.inr (.inl 79)))) _
  rw [b79]
  exact hk
theorem j3fq_0 {Ls : Nat} {xs : Nat → Int32} {d : Nat} {Q : Option Value → jm_h → Prop} (hd : 1 ≤ d) (F : Nat → sy_d) (X1 X2 : List jm_c) (hB : iv_in F iv_B0)
    (k0 : ∀ F1 : Nat → sy_d, iv_in F1 iv_B0 → (∀ j, j < 82 → j ∉ ([79] : List Nat) → F1 j = F j) → (sy_i F1 79).toInt = 0 → sy_i F1 79 = (0 : Int32) → Q (some (.int (sy_i F 79))) (sy_dh F1 X1 X2 (iv_H 3))) :
    hd_W Ls xs d jm_M109 Q (0, sy_dL F [some (.inl (.ref 8)), none], sy_dS F [], sy_dh F X1 X2 (iv_H 3), 0, 0) := by
  exact j3fq_0_p0 hd F X1 X2 hB  (fun F1 g e79 => by rw [(rfl : sy_i F 79 = sy_i F 79)]; exact k0 F1 (nz_in0 hB [79] (fun j hj hn => g j hj (by simp only [List.mem_cons, List.not_mem_nil, or_false, not_or] at hn; omega)) (List.forall_mem_cons.mpr ⟨fun t ht => (Option.some.inj ht) ▸ (nz_hi e79 (by decide : ((0 : Int32)).toInt = 0) (by omega) (by omega)), List.forall_mem_nil _⟩)) (fun j hj hn => g j hj (by simp only [List.mem_cons, List.not_mem_nil, or_false, not_or] at hn; omega)) ((congrArg Int32.toInt (zz_i e79)).trans (by decide : ((0 : Int32)).toInt = 0)) ((zz_i e79).trans (rfl : (0 : Int32) = (0 : Int32))))
theorem j3bq_0_p0 {Ls : Nat} {xs : Nat → Int32} {d : Nat} {Q : Option Value → jm_h → Prop} (hd : 1 ≤ d) (F : Nat → sy_d) (X1 X2 : List jm_c) (hB : iv_in F iv_B0)
    (h0 : (sy_i F 82).toInt < 0)
    (k : ∀ F1 : Nat → sy_d, (∀ j, j < 82 → True → F1 j = F j) → Q (some (.int (((-1) : Int32)))) (sy_dh F1 X1 X2 (iv_H 3))) :
    hd_W Ls xs d jm_M82 Q (0, sy_dL F [some (.inl (.ref 8)), some (.inr (.inl 82))], sy_dS F [], sy_dh F X1 X2 (iv_H 3), 0, 0) := by
  refine hd_ret (s := 3) (nv := 83) (v := some (.inl (.int (-1)))) (uh := hd_ov (iv_id 0 iv_B0) []) (f := true) (sp := []) (d0 := 0) (O := [true]) (T := []) (P := [(2, .inr (.inl 82), .inl (.int 0))]) jm_ok82 (by decide +kernel) (by decide +kernel) hd F X1 X2 (fun F' hF hs => ?_)
  have b82 := hd_b (F := F) (F' := F') (k := 82) (hF 82 (by decide))
  have hB' : iv_in F' iv_B0 := iv_in_eq hB (fun j hj => hF j (Nat.lt_of_lt_of_le hj (by decide +kernel)))
  refine ⟨List.forall_mem_cons.mpr ⟨hd_p2 b82 rfl (by have hc : ((0) : Int32).toInt = 0 := (by decide); omega), fun _ h => absurd h List.not_mem_nil⟩, ?_⟩
  refine k _ ?_
  · exact fun j hj _ => (hd_keep hB' (Nat.lt_of_lt_of_le hj (by decide +kernel)) (by simp)).trans (hF j (Nat.lt_of_lt_of_le hj (by decide)))
theorem j3bq_0_p1 {Ls : Nat} {xs : Nat → Int32} {d : Nat} {Q : Option Value → jm_h → Prop} (hd : 1 ≤ d) (F : Nat → sy_d) (X1 X2 : List jm_c) (hB : iv_in F iv_B0)
    (h0 : 0 ≤ (sy_i F 82).toInt)
    (h1 : (sy_i F 82).toInt ≤ (sy_i F 0).toInt)
    (k : ∀ F1 : Nat → sy_d, (∀ j, j < 82 → j ≠ 0 → F1 j = F j) → F1 0 = .inl (.int ((sy_i F 0) - (sy_i F 82))) → Q (some (.int ((sy_i F 0) - (sy_i F 82)))) (sy_dh F1 X1 X2 (iv_H 3))) :
    hd_W Ls xs d jm_M82 Q (0, sy_dL F [some (.inl (.ref 8)), some (.inr (.inl 82))], sy_dS F [], sy_dh F X1 X2 (iv_H 3), 0, 0) := by
  refine hd_ret (s := 3) (nv := 83) (v := some (.inr (.inl 83))) (uh := hd_ov (iv_id 0 iv_B0) [(0, .inl (.inr (.inl 83)))]) (f := true) (sp := []) (d0 := 0) (O := [false, true]) (T := [(1, [.inr (.inl 0), .inr (.inl 82)], [])]) (P := [(3, .inr (.inl 82), .inl (.int 0)), (4, .inr (.inl 82), .inr (.inl 0))]) jm_ok82 (by decide +kernel) (by decide +kernel) hd F X1 X2 (fun F' hF hs => ?_)
  have b82 := hd_b (F := F) (F' := F') (k := 82) (hF 82 (by decide))
  have b0 := hd_b (F := F) (F' := F') (k := 0) (hF 0 (by decide))
  have t83 : sy_dv F' (.inr (.inl 83)) = .int ((sy_i F 0) - (sy_i F 82)) := hd_o (hs 0 _ rfl) b0 b82 rfl
  have hB' : iv_in F' iv_B0 := iv_in_eq hB (fun j hj => hF j (Nat.lt_of_lt_of_le hj (by decide +kernel)))
  have hk := k (sy_cm F' (hd_ov (iv_id 0 iv_B0) [(0, .inl (.inr (.inl 83)))] ++ [])) (fun j hj hn => (hd_keep hB' (Nat.lt_of_lt_of_le hj (by decide +kernel)) (by simp; omega)).trans (hF j (Nat.lt_of_lt_of_le hj (by decide)))) (hd_gi (x := .inr (.inl 83)) (by decide +kernel) t83)
  refine ⟨List.forall_mem_cons.mpr ⟨hd_p3 b82 rfl (by have hc : ((0) : Int32).toInt = 0 := (by decide); omega), List.forall_mem_cons.mpr ⟨hd_p4 b82 b0 h1, fun _ h => absurd h List.not_mem_nil⟩⟩, ?_⟩
  show Q (some (sy_dv F' (.inr (.inl 83)))) _
  rw [t83]
  exact hk
theorem j3bq_0_p2 {Ls : Nat} {xs : Nat → Int32} {d : Nat} {Q : Option Value → jm_h → Prop} (hd : 1 ≤ d) (F : Nat → sy_d) (X1 X2 : List jm_c) (hB : iv_in F iv_B0)
    (h0 : 0 ≤ (sy_i F 82).toInt)
    (h1 : (sy_i F 0).toInt < (sy_i F 82).toInt)
    (k : ∀ F1 : Nat → sy_d, (∀ j, j < 82 → True → F1 j = F j) → Q (some (.int (((-1) : Int32)))) (sy_dh F1 X1 X2 (iv_H 3))) :
    hd_W Ls xs d jm_M82 Q (0, sy_dL F [some (.inl (.ref 8)), some (.inr (.inl 82))], sy_dS F [], sy_dh F X1 X2 (iv_H 3), 0, 0) := by
  refine hd_ret (s := 3) (nv := 83) (v := some (.inl (.int (-1)))) (uh := hd_ov (iv_id 0 iv_B0) []) (f := true) (sp := []) (d0 := 0) (O := [false, false]) (T := []) (P := [(3, .inr (.inl 82), .inl (.int 0)), (5, .inr (.inl 82), .inr (.inl 0))]) jm_ok82 (by decide +kernel) (by decide +kernel) hd F X1 X2 (fun F' hF hs => ?_)
  have b82 := hd_b (F := F) (F' := F') (k := 82) (hF 82 (by decide))
  have b0 := hd_b (F := F) (F' := F') (k := 0) (hF 0 (by decide))
  have hB' : iv_in F' iv_B0 := iv_in_eq hB (fun j hj => hF j (Nat.lt_of_lt_of_le hj (by decide +kernel)))
  refine ⟨List.forall_mem_cons.mpr ⟨hd_p3 b82 rfl (by have hc : ((0) : Int32).toInt = 0 := (by decide); omega), List.forall_mem_cons.mpr ⟨hd_p5 b82 b0 h1, fun _ h => absurd h List.not_mem_nil⟩⟩, ?_⟩
  refine k _ ?_
  · exact fun j hj _ => (hd_keep hB' (Nat.lt_of_lt_of_le hj (by decide +kernel)) (by simp)).trans (hF j (Nat.lt_of_lt_of_le hj (by decide)))
theorem j3bq_0 {Ls : Nat} {xs : Nat → Int32} {d : Nat} {Q : Option Value → jm_h → Prop} (hd : 1 ≤ d) (F : Nat → sy_d) (X1 X2 : List jm_c) (hB : iv_in F iv_B0)
    (o0 : 0 ≤ (sy_i F 82).toInt → (sy_i F 82).toInt ≤ (sy_i F 0).toInt → (0 ≤ ((sy_i F 0).toInt - (sy_i F 82).toInt) ∧ ((sy_i F 0).toInt - (sy_i F 82).toInt) ≤ 2000))
    (k0 : (sy_i F 82).toInt < 0 → ∀ F1 : Nat → sy_d, iv_in F1 iv_B0 → (∀ j, j < 82 → j ∉ ([] : List Nat) → F1 j = F j) → Q (some (.int (((-1) : Int32)))) (sy_dh F1 X1 X2 (iv_H 3)))
    (k1 : 0 ≤ (sy_i F 82).toInt → (sy_i F 82).toInt ≤ (sy_i F 0).toInt → ∀ F1 : Nat → sy_d, iv_in F1 iv_B0 → (∀ j, j < 82 → j ∉ ([0] : List Nat) → F1 j = F j) → (sy_i F1 0).toInt = ((sy_i F 0).toInt - (sy_i F 82).toInt) → sy_i F1 0 = (sy_i F 0) - (sy_i F 82) → Q (some (.int ((sy_i F 0) - (sy_i F 82)))) (sy_dh F1 X1 X2 (iv_H 3)))
    (k2 : 0 ≤ (sy_i F 82).toInt → (sy_i F 0).toInt < (sy_i F 82).toInt → ∀ F1 : Nat → sy_d, iv_in F1 iv_B0 → (∀ j, j < 82 → j ∉ ([] : List Nat) → F1 j = F j) → Q (some (.int (((-1) : Int32)))) (sy_dh F1 X1 X2 (iv_H 3))) :
    hd_W Ls xs d jm_M82 Q (0, sy_dL F [some (.inl (.ref 8)), some (.inr (.inl 82))], sy_dS F [], sy_dh F X1 X2 (iv_H 3), 0, 0) := by
  by_cases g0 : (sy_i F 82).toInt < 0
  · exact j3bq_0_p0 hd F X1 X2 hB (by first | exact g0 | (simp only [nz_c]; exact g0)) (fun F1 g  => k0 g0 F1 (nz_in0 hB [] (fun j hj hn => g j hj (by simp only [List.mem_cons, List.not_mem_nil, or_false, not_or] at hn; exact trivial)) (List.forall_mem_nil _)) (fun j hj hn => g j hj (by simp only [List.mem_cons, List.not_mem_nil, or_false, not_or] at hn; exact trivial)) )
  replace g0 : 0 ≤ (sy_i F 82).toInt := by omega
  by_cases g1 : (sy_i F 82).toInt ≤ (sy_i F 0).toInt
  · have c0 := nz_bx hB (k := 0) (lo := 0) (hi := 2000) rfl
    have n83 : nzI ((sy_i F 0) - (sy_i F 82)) (((sy_i F 0).toInt - (sy_i F 82).toInt)) := nz_sub (rfl : (sy_i F 0).toInt = (sy_i F 0).toInt) (rfl : (sy_i F 82).toInt = (sy_i F 82).toInt) (by omega) (by omega)
    exact j3bq_0_p1 hd F X1 X2 hB (by first | exact g0 | (simp only [nz_c]; exact g0)) (by first | exact g1 | (simp only [nz_c]; exact g1)) (fun F1 g e0 => by rw [(rfl : (sy_i F 0) - (sy_i F 82) = (sy_i F 0) - (sy_i F 82))]; exact k1 g0 g1 F1 (nz_in0 hB [0] (fun j hj hn => g j hj (by simp only [List.mem_cons, List.not_mem_nil, or_false, not_or] at hn; omega)) (List.forall_mem_cons.mpr ⟨fun t ht => (Option.some.inj ht) ▸ (nz_hi e0 (nzE n83) (o0 g0 g1).1 (o0 g0 g1).2), List.forall_mem_nil _⟩)) (fun j hj hn => g j hj (by simp only [List.mem_cons, List.not_mem_nil, or_false, not_or] at hn; omega)) ((congrArg Int32.toInt (zz_i e0)).trans (nzE n83)) ((zz_i e0).trans (rfl : (sy_i F 0) - (sy_i F 82) = (sy_i F 0) - (sy_i F 82))))
  replace g1 : (sy_i F 0).toInt < (sy_i F 82).toInt := by omega
  have c0 := nz_bx hB (k := 0) (lo := 0) (hi := 2000) rfl
  exact j3bq_0_p2 hd F X1 X2 hB (by first | exact g0 | (simp only [nz_c]; exact g0)) (by first | exact g1 | (simp only [nz_c]; exact g1)) (fun F1 g  => k2 g0 g1 F1 (nz_in0 hB [] (fun j hj hn => g j hj (by simp only [List.mem_cons, List.not_mem_nil, or_false, not_or] at hn; exact trivial)) (List.forall_mem_nil _)) (fun j hj hn => g j hj (by simp only [List.mem_cons, List.not_mem_nil, or_false, not_or] at hn; exact trivial)) )
theorem j3tq_0_p0 {Ls : Nat} {xs : Nat → Int32} {d : Nat} {Q : Option Value → jm_h → Prop} (hd : 2 ≤ d) (F : Nat → sy_d) (X1 X2 : List jm_c) (hB : iv_in F iv_B0)
    (h0 : (sy_i F 82).toInt < 1)
    (k : ∀ F1 : Nat → sy_d, (∀ j, j < 82 → True → F1 j = F j) → Q (some (.int (((-1) : Int32)))) (sy_dh F1 X1 X2 (iv_H 3))) :
    hd_W Ls xs d jm_M108 Q (0, sy_dL F [some (.inl (.ref 8)), some (.inr (.inl 82)), some (.inr (.inl 83))], sy_dS F [], sy_dh F X1 X2 (iv_H 3), 0, 0) := by
  refine hd_ret (s := 3) (nv := 84) (v := some (.inl (.int (-1)))) (uh := hd_ov (iv_id 0 iv_B0) []) (f := true) (sp := []) (d0 := 1) (O := [true]) (T := []) (P := [(2, .inr (.inl 82), .inl (.int 1))]) jm_ok108 (by decide +kernel) (by decide +kernel) hd F X1 X2 (fun F' hF hs => ?_)
  have b82 := hd_b (F := F) (F' := F') (k := 82) (hF 82 (by decide))
  have hB' : iv_in F' iv_B0 := iv_in_eq hB (fun j hj => hF j (Nat.lt_of_lt_of_le hj (by decide +kernel)))
  refine ⟨List.forall_mem_cons.mpr ⟨hd_p2 b82 rfl (by have hc : ((1) : Int32).toInt = 1 := (by decide); omega), fun _ h => absurd h List.not_mem_nil⟩, ?_⟩
  refine k _ ?_
  · exact fun j hj _ => (hd_keep hB' (Nat.lt_of_lt_of_le hj (by decide +kernel)) (by simp)).trans (hF j (Nat.lt_of_lt_of_le hj (by decide)))
theorem j3tq_0_p1 {Ls : Nat} {xs : Nat → Int32} {d : Nat} {Q : Option Value → jm_h → Prop} (hd : 2 ≤ d) (F : Nat → sy_d) (X1 X2 : List jm_c) (hB : iv_in F iv_B0)
    (h0 : 1 ≤ (sy_i F 82).toInt)
    (h1 : 9 < (sy_i F 82).toInt)
    (k : ∀ F1 : Nat → sy_d, (∀ j, j < 82 → True → F1 j = F j) → Q (some (.int (((-1) : Int32)))) (sy_dh F1 X1 X2 (iv_H 3))) :
    hd_W Ls xs d jm_M108 Q (0, sy_dL F [some (.inl (.ref 8)), some (.inr (.inl 82)), some (.inr (.inl 83))], sy_dS F [], sy_dh F X1 X2 (iv_H 3), 0, 0) := by
  refine hd_ret (s := 3) (nv := 84) (v := some (.inl (.int (-1)))) (uh := hd_ov (iv_id 0 iv_B0) []) (f := true) (sp := []) (d0 := 1) (O := [false, true]) (T := []) (P := [(3, .inr (.inl 82), .inl (.int 1)), (2, .inl (.int 9), .inr (.inl 82))]) jm_ok108 (by decide +kernel) (by decide +kernel) hd F X1 X2 (fun F' hF hs => ?_)
  have b82 := hd_b (F := F) (F' := F') (k := 82) (hF 82 (by decide))
  have hB' : iv_in F' iv_B0 := iv_in_eq hB (fun j hj => hF j (Nat.lt_of_lt_of_le hj (by decide +kernel)))
  refine ⟨List.forall_mem_cons.mpr ⟨hd_p3 b82 rfl (by have hc : ((1) : Int32).toInt = 1 := (by decide); omega), List.forall_mem_cons.mpr ⟨hd_p2 rfl b82 (by have hc : ((9) : Int32).toInt = 9 := (by decide); omega), fun _ h => absurd h List.not_mem_nil⟩⟩, ?_⟩
  refine k _ ?_
  · exact fun j hj _ => (hd_keep hB' (Nat.lt_of_lt_of_le hj (by decide +kernel)) (by simp)).trans (hF j (Nat.lt_of_lt_of_le hj (by decide)))
theorem j3tq_0_p2 {Ls : Nat} {xs : Nat → Int32} {d : Nat} {Q : Option Value → jm_h → Prop} (hd : 2 ≤ d) (F : Nat → sy_d) (X1 X2 : List jm_c) (hB : iv_in F iv_B0)
    (h0 : 1 ≤ (sy_i F 82).toInt)
    (h1 : (sy_i F 82).toInt ≤ 9)
    (h2 : (sy_i F 83).toInt < 0)
    (k : ∀ F1 : Nat → sy_d, (∀ j, j < 82 → True → F1 j = F j) → Q (some (.int (((-1) : Int32)))) (sy_dh F1 X1 X2 (iv_H 3))) :
    hd_W Ls xs d jm_M108 Q (0, sy_dL F [some (.inl (.ref 8)), some (.inr (.inl 82)), some (.inr (.inl 83))], sy_dS F [], sy_dh F X1 X2 (iv_H 3), 0, 0) := by
  refine hd_ret (s := 3) (nv := 84) (v := some (.inl (.int (-1)))) (uh := hd_ov (iv_id 0 iv_B0) []) (f := true) (sp := []) (d0 := 1) (O := [false, false, true]) (T := []) (P := [(3, .inr (.inl 82), .inl (.int 1)), (3, .inl (.int 9), .inr (.inl 82)), (2, .inr (.inl 83), .inl (.int 0))]) jm_ok108 (by decide +kernel) (by decide +kernel) hd F X1 X2 (fun F' hF hs => ?_)
  have b82 := hd_b (F := F) (F' := F') (k := 82) (hF 82 (by decide))
  have b83 := hd_b (F := F) (F' := F') (k := 83) (hF 83 (by decide))
  have hB' : iv_in F' iv_B0 := iv_in_eq hB (fun j hj => hF j (Nat.lt_of_lt_of_le hj (by decide +kernel)))
  refine ⟨List.forall_mem_cons.mpr ⟨hd_p3 b82 rfl (by have hc : ((1) : Int32).toInt = 1 := (by decide); omega), List.forall_mem_cons.mpr ⟨hd_p3 rfl b82 (by have hc : ((9) : Int32).toInt = 9 := (by decide); omega), List.forall_mem_cons.mpr ⟨hd_p2 b83 rfl (by have hc : ((0) : Int32).toInt = 0 := (by decide); omega), fun _ h => absurd h List.not_mem_nil⟩⟩⟩, ?_⟩
  refine k _ ?_
  · exact fun j hj _ => (hd_keep hB' (Nat.lt_of_lt_of_le hj (by decide +kernel)) (by simp)).trans (hF j (Nat.lt_of_lt_of_le hj (by decide)))
theorem j3tq_0_p3 {Ls : Nat} {xs : Nat → Int32} {d : Nat} {Q : Option Value → jm_h → Prop} (hd : 2 ≤ d) (F : Nat → sy_d) (X1 X2 : List jm_c) (hB : iv_in F iv_B0)
    (h0 : 1 ≤ (sy_i F 82).toInt)
    (h1 : (sy_i F 82).toInt ≤ 9)
    (h2 : 0 ≤ (sy_i F 83).toInt)
    (h3 : 9 < (sy_i F 83).toInt)
    (k : ∀ F1 : Nat → sy_d, (∀ j, j < 82 → True → F1 j = F j) → Q (some (.int (((-1) : Int32)))) (sy_dh F1 X1 X2 (iv_H 3))) :
    hd_W Ls xs d jm_M108 Q (0, sy_dL F [some (.inl (.ref 8)), some (.inr (.inl 82)), some (.inr (.inl 83))], sy_dS F [], sy_dh F X1 X2 (iv_H 3), 0, 0) := by
  refine hd_ret (s := 3) (nv := 84) (v := some (.inl (.int (-1)))) (uh := hd_ov (iv_id 0 iv_B0) []) (f := true) (sp := []) (d0 := 1) (O := [false, false, false, true]) (T := []) (P := [(3, .inr (.inl 82), .inl (.int 1)), (3, .inl (.int 9), .inr (.inl 82)), (3, .inr (.inl 83), .inl (.int 0)), (2, .inl (.int 9), .inr (.inl 83))]) jm_ok108 (by decide +kernel) (by decide +kernel) hd F X1 X2 (fun F' hF hs => ?_)
  have b82 := hd_b (F := F) (F' := F') (k := 82) (hF 82 (by decide))
  have b83 := hd_b (F := F) (F' := F') (k := 83) (hF 83 (by decide))
  have hB' : iv_in F' iv_B0 := iv_in_eq hB (fun j hj => hF j (Nat.lt_of_lt_of_le hj (by decide +kernel)))
  refine ⟨List.forall_mem_cons.mpr ⟨hd_p3 b82 rfl (by have hc : ((1) : Int32).toInt = 1 := (by decide); omega), List.forall_mem_cons.mpr ⟨hd_p3 rfl b82 (by have hc : ((9) : Int32).toInt = 9 := (by decide); omega), List.forall_mem_cons.mpr ⟨hd_p3 b83 rfl (by have hc : ((0) : Int32).toInt = 0 := (by decide); omega), List.forall_mem_cons.mpr ⟨hd_p2 rfl b83 (by have hc : ((9) : Int32).toInt = 9 := (by decide); omega), fun _ h => absurd h List.not_mem_nil⟩⟩⟩⟩, ?_⟩
  refine k _ ?_
  · exact fun j hj _ => (hd_keep hB' (Nat.lt_of_lt_of_le hj (by decide +kernel)) (by simp)).trans (hF j (Nat.lt_of_lt_of_le hj (by decide)))
theorem j3tq_0_p4 {Ls : Nat} {xs : Nat → Int32} {d : Nat} {Q : Option Value → jm_h → Prop} (hd : 2 ≤ d) (F : Nat → sy_d) (X1 X2 : List jm_c) (hB : iv_in F iv_B0)
    (h0 : 1 ≤ (sy_i F 82).toInt)
    (h1 : (sy_i F 82).toInt ≤ 9)
    (h2 : 0 ≤ (sy_i F 83).toInt)
    (h3 : (sy_i F 83).toInt ≤ 9)
    (h4 : (sy_i F 79).toInt < 7)
    (h5 : 0 ≤ (sy_i F 79).toInt ∧ (sy_i F 79).toInt < 7)
    (h6 : 0 ≤ (sy_i F 79).toInt ∧ (sy_i F 79).toInt < 7)
    (k : ∀ F1 : Nat → sy_d, (∀ j, j < 82 → j ≠ 79 ∧ j ≠ 80 ∧ j ≠ 81 → F1 j = F j) → F1 79 = .inl (.int ((sy_i F 79) + ((1 : Int32)))) → F1 80 = .inr (.inl (jm_upd (sy_ai F 80) (sy_i F 79).toNatClampNeg (sy_i F 82))) → F1 81 = .inr (.inl (jm_upd (sy_ai F 81) (sy_i F 79).toNatClampNeg (sy_i F 83))) → Q (some (.int (((sy_i F 79) + ((1 : Int32))) - ((1 : Int32))))) (sy_dh F1 X1 X2 (iv_H 3))) :
    hd_W Ls xs d jm_M108 Q (0, sy_dL F [some (.inl (.ref 8)), some (.inr (.inl 82)), some (.inr (.inl 83))], sy_dS F [], sy_dh F X1 X2 (iv_H 3), 0, 0) := by
  refine hd_ret (s := 3) (nv := 84) (v := some (.inr (.inl 87))) (uh := hd_ov (iv_id 0 iv_B0) [(79, .inl (.inr (.inl 86))), (80, .inr (.inr (.inl 84))), (81, .inr (.inr (.inl 85)))]) (f := true) (sp := []) (d0 := 1) (O := [false, false, false, false, true]) (T := [(40, [.inr (.inl 79), .inr (.inl 82)], [.inr (.inl 80)]), (40, [.inr (.inl 79), .inr (.inl 83)], [.inr (.inl 81)]), (0, [.inr (.inl 79), .inl (.int 1)], []), (1, [.inr (.inl 86), .inl (.int 1)], [])]) (P := [(3, .inr (.inl 82), .inl (.int 1)), (3, .inl (.int 9), .inr (.inl 82)), (3, .inr (.inl 83), .inl (.int 0)), (3, .inl (.int 9), .inr (.inl 83)), (2, .inr (.inl 79), .inl (.int 7)), (6, .inr (.inl 79), .inl (.ref 7)), (6, .inr (.inl 79), .inl (.ref 7))]) jm_ok108 (by decide +kernel) (by decide +kernel) hd F X1 X2 (fun F' hF hs => ?_)
  have b82 := hd_b (F := F) (F' := F') (k := 82) (hF 82 (by decide))
  have b83 := hd_b (F := F) (F' := F') (k := 83) (hF 83 (by decide))
  have b79 := hd_b (F := F) (F' := F') (k := 79) (hF 79 (by decide))
  have t86 : sy_dv F' (.inr (.inl 86)) = .int ((sy_i F 79) + ((1 : Int32))) := hd_o (hs 2 _ rfl) b79 rfl rfl
  have a80 := hd_ba (F := F) (F' := F') (k := 80) (hF 80 (by decide))
  have t84 : sy_da F' (.inr (.inl 84)) = .inl (jm_upd (sy_ai F 80) (sy_i F 79).toNatClampNeg (sy_i F 82)) := hd_up (hs 0 _ rfl) b79 b82 a80
  have a81 := hd_ba (F := F) (F' := F') (k := 81) (hF 81 (by decide))
  have t85 : sy_da F' (.inr (.inl 85)) = .inl (jm_upd (sy_ai F 81) (sy_i F 79).toNatClampNeg (sy_i F 83)) := hd_up (hs 1 _ rfl) b79 b83 a81
  have t87 : sy_dv F' (.inr (.inl 87)) = .int (((sy_i F 79) + ((1 : Int32))) - ((1 : Int32))) := hd_o (hs 3 _ rfl) t86 rfl rfl
  have hB' : iv_in F' iv_B0 := iv_in_eq hB (fun j hj => hF j (Nat.lt_of_lt_of_le hj (by decide +kernel)))
  have hk := k (sy_cm F' (hd_ov (iv_id 0 iv_B0) [(79, .inl (.inr (.inl 86))), (80, .inr (.inr (.inl 84))), (81, .inr (.inr (.inl 85)))] ++ [])) (fun j hj hn => (hd_keep hB' (Nat.lt_of_lt_of_le hj (by decide +kernel)) (by simp; omega)).trans (hF j (Nat.lt_of_lt_of_le hj (by decide)))) (hd_gi (x := .inr (.inl 86)) (by decide +kernel) t86) (hd_ga (a := .inr (.inl 84)) (by decide +kernel) t84) (hd_ga (a := .inr (.inl 85)) (by decide +kernel) t85)
  refine ⟨List.forall_mem_cons.mpr ⟨hd_p3 b82 rfl (by have hc : ((1) : Int32).toInt = 1 := (by decide); omega), List.forall_mem_cons.mpr ⟨hd_p3 rfl b82 (by have hc : ((9) : Int32).toInt = 9 := (by decide); omega), List.forall_mem_cons.mpr ⟨hd_p3 b83 rfl (by have hc : ((0) : Int32).toInt = 0 := (by decide); omega), List.forall_mem_cons.mpr ⟨hd_p3 rfl b83 (by have hc : ((9) : Int32).toInt = 9 := (by decide); omega), List.forall_mem_cons.mpr ⟨hd_p2 b79 rfl (by have hc : ((7) : Int32).toInt = 7 := (by decide); omega), List.forall_mem_cons.mpr ⟨hd_pb b79 (by first | exact h5 | exact h5), List.forall_mem_cons.mpr ⟨hd_pb b79 (by first | exact h6 | exact h6), fun _ h => absurd h List.not_mem_nil⟩⟩⟩⟩⟩⟩⟩, ?_⟩
  show Q (some (sy_dv F' (.inr (.inl 87)))) _
  rw [t87]
  exact hk
theorem j3tq_0_p5 {Ls : Nat} {xs : Nat → Int32} {d : Nat} {Q : Option Value → jm_h → Prop} (hd : 2 ≤ d) (F : Nat → sy_d) (X1 X2 : List jm_c) (hB : iv_in F iv_B0)
    (h0 : 1 ≤ (sy_i F 82).toInt)
    (h1 : (sy_i F 82).toInt ≤ 9)
    (h2 : 0 ≤ (sy_i F 83).toInt)
    (h3 : (sy_i F 83).toInt ≤ 9)
    (h4 : 7 ≤ (sy_i F 79).toInt)
    (k : ∀ F1 : Nat → sy_d, (∀ j, j < 82 → True → F1 j = F j) → Q (some (.int (((-1) : Int32)))) (sy_dh F1 X1 X2 (iv_H 3))) :
    hd_W Ls xs d jm_M108 Q (0, sy_dL F [some (.inl (.ref 8)), some (.inr (.inl 82)), some (.inr (.inl 83))], sy_dS F [], sy_dh F X1 X2 (iv_H 3), 0, 0) := by
  refine hd_ret (s := 3) (nv := 84) (v := some (.inl (.int (-1)))) (uh := hd_ov (iv_id 0 iv_B0) []) (f := true) (sp := []) (d0 := 1) (O := [false, false, false, false, false]) (T := []) (P := [(3, .inr (.inl 82), .inl (.int 1)), (3, .inl (.int 9), .inr (.inl 82)), (3, .inr (.inl 83), .inl (.int 0)), (3, .inl (.int 9), .inr (.inl 83)), (3, .inr (.inl 79), .inl (.int 7))]) jm_ok108 (by decide +kernel) (by decide +kernel) hd F X1 X2 (fun F' hF hs => ?_)
  have b82 := hd_b (F := F) (F' := F') (k := 82) (hF 82 (by decide))
  have b83 := hd_b (F := F) (F' := F') (k := 83) (hF 83 (by decide))
  have b79 := hd_b (F := F) (F' := F') (k := 79) (hF 79 (by decide))
  have hB' : iv_in F' iv_B0 := iv_in_eq hB (fun j hj => hF j (Nat.lt_of_lt_of_le hj (by decide +kernel)))
  refine ⟨List.forall_mem_cons.mpr ⟨hd_p3 b82 rfl (by have hc : ((1) : Int32).toInt = 1 := (by decide); omega), List.forall_mem_cons.mpr ⟨hd_p3 rfl b82 (by have hc : ((9) : Int32).toInt = 9 := (by decide); omega), List.forall_mem_cons.mpr ⟨hd_p3 b83 rfl (by have hc : ((0) : Int32).toInt = 0 := (by decide); omega), List.forall_mem_cons.mpr ⟨hd_p3 rfl b83 (by have hc : ((9) : Int32).toInt = 9 := (by decide); omega), List.forall_mem_cons.mpr ⟨hd_p3 b79 rfl (by have hc : ((7) : Int32).toInt = 7 := (by decide); omega), fun _ h => absurd h List.not_mem_nil⟩⟩⟩⟩⟩, ?_⟩
  refine k _ ?_
  · exact fun j hj _ => (hd_keep hB' (Nat.lt_of_lt_of_le hj (by decide +kernel)) (by simp)).trans (hF j (Nat.lt_of_lt_of_le hj (by decide)))
theorem j3tq_0 {Ls : Nat} {xs : Nat → Int32} {d : Nat} {Q : Option Value → jm_h → Prop} (hd : 2 ≤ d) (F : Nat → sy_d) (X1 X2 : List jm_c) (hB : iv_in F iv_B0)
    (k0 : (sy_i F 82).toInt < 1 → ∀ F1 : Nat → sy_d, iv_in F1 iv_B0 → (∀ j, j < 82 → j ∉ ([] : List Nat) → F1 j = F j) → Q (some (.int (((-1) : Int32)))) (sy_dh F1 X1 X2 (iv_H 3)))
    (k1 : 1 ≤ (sy_i F 82).toInt → 9 < (sy_i F 82).toInt → ∀ F1 : Nat → sy_d, iv_in F1 iv_B0 → (∀ j, j < 82 → j ∉ ([] : List Nat) → F1 j = F j) → Q (some (.int (((-1) : Int32)))) (sy_dh F1 X1 X2 (iv_H 3)))
    (k2 : 1 ≤ (sy_i F 82).toInt → (sy_i F 82).toInt ≤ 9 → (sy_i F 83).toInt < 0 → ∀ F1 : Nat → sy_d, iv_in F1 iv_B0 → (∀ j, j < 82 → j ∉ ([] : List Nat) → F1 j = F j) → Q (some (.int (((-1) : Int32)))) (sy_dh F1 X1 X2 (iv_H 3)))
    (k3 : 1 ≤ (sy_i F 82).toInt → (sy_i F 82).toInt ≤ 9 → 0 ≤ (sy_i F 83).toInt → 9 < (sy_i F 83).toInt → ∀ F1 : Nat → sy_d, iv_in F1 iv_B0 → (∀ j, j < 82 → j ∉ ([] : List Nat) → F1 j = F j) → Q (some (.int (((-1) : Int32)))) (sy_dh F1 X1 X2 (iv_H 3)))
    (k4 : 1 ≤ (sy_i F 82).toInt → (sy_i F 82).toInt ≤ 9 → 0 ≤ (sy_i F 83).toInt → (sy_i F 83).toInt ≤ 9 → (sy_i F 79).toInt < 7 → ∀ F1 : Nat → sy_d, iv_in F1 iv_B0 → (∀ j, j < 82 → j ∉ ([79, 80, 81] : List Nat) → F1 j = F j) → (sy_i F1 79).toInt = ((sy_i F 79).toInt + 1) → sy_i F1 79 = (sy_i F 79) + ((1 : Int32)) → sy_ai F1 80 = jm_upd (sy_ai F 80) ((sy_i F 79).toInt).toNat (sy_i F 82) → sy_ai F1 81 = jm_upd (sy_ai F 81) ((sy_i F 79).toInt).toNat (sy_i F 83) → Q (some (.int (((sy_i F 79) + ((1 : Int32))) - ((1 : Int32))))) (sy_dh F1 X1 X2 (iv_H 3)))
    (k5 : 1 ≤ (sy_i F 82).toInt → (sy_i F 82).toInt ≤ 9 → 0 ≤ (sy_i F 83).toInt → (sy_i F 83).toInt ≤ 9 → 7 ≤ (sy_i F 79).toInt → ∀ F1 : Nat → sy_d, iv_in F1 iv_B0 → (∀ j, j < 82 → j ∉ ([] : List Nat) → F1 j = F j) → Q (some (.int (((-1) : Int32)))) (sy_dh F1 X1 X2 (iv_H 3))) :
    hd_W Ls xs d jm_M108 Q (0, sy_dL F [some (.inl (.ref 8)), some (.inr (.inl 82)), some (.inr (.inl 83))], sy_dS F [], sy_dh F X1 X2 (iv_H 3), 0, 0) := by
  by_cases g0 : (sy_i F 82).toInt < 1
  · exact j3tq_0_p0 hd F X1 X2 hB (by first | exact g0 | (simp only [nz_c]; exact g0)) (fun F1 g  => k0 g0 F1 (nz_in0 hB [] (fun j hj hn => g j hj (by simp only [List.mem_cons, List.not_mem_nil, or_false, not_or] at hn; exact trivial)) (List.forall_mem_nil _)) (fun j hj hn => g j hj (by simp only [List.mem_cons, List.not_mem_nil, or_false, not_or] at hn; exact trivial)) )
  replace g0 : 1 ≤ (sy_i F 82).toInt := by omega
  by_cases g1 : 9 < (sy_i F 82).toInt
  · exact j3tq_0_p1 hd F X1 X2 hB (by first | exact g0 | (simp only [nz_c]; exact g0)) (by first | exact g1 | (simp only [nz_c]; exact g1)) (fun F1 g  => k1 g0 g1 F1 (nz_in0 hB [] (fun j hj hn => g j hj (by simp only [List.mem_cons, List.not_mem_nil, or_false, not_or] at hn; exact trivial)) (List.forall_mem_nil _)) (fun j hj hn => g j hj (by simp only [List.mem_cons, List.not_mem_nil, or_false, not_or] at hn; exact trivial)) )
  replace g1 : (sy_i F 82).toInt ≤ 9 := by omega
  by_cases g2 : (sy_i F 83).toInt < 0
  · exact j3tq_0_p2 hd F X1 X2 hB (by first | exact g0 | (simp only [nz_c]; exact g0)) (by first | exact g1 | (simp only [nz_c]; exact g1)) (by first | exact g2 | (simp only [nz_c]; exact g2)) (fun F1 g  => k2 g0 g1 g2 F1 (nz_in0 hB [] (fun j hj hn => g j hj (by simp only [List.mem_cons, List.not_mem_nil, or_false, not_or] at hn; exact trivial)) (List.forall_mem_nil _)) (fun j hj hn => g j hj (by simp only [List.mem_cons, List.not_mem_nil, or_false, not_or] at hn; exact trivial)) )
  replace g2 : 0 ≤ (sy_i F 83).toInt := by omega
  by_cases g3 : 9 < (sy_i F 83).toInt
  · exact j3tq_0_p3 hd F X1 X2 hB (by first | exact g0 | (simp only [nz_c]; exact g0)) (by first | exact g1 | (simp only [nz_c]; exact g1)) (by first | exact g2 | (simp only [nz_c]; exact g2)) (by first | exact g3 | (simp only [nz_c]; exact g3)) (fun F1 g  => k3 g0 g1 g2 g3 F1 (nz_in0 hB [] (fun j hj hn => g j hj (by simp only [List.mem_cons, List.not_mem_nil, or_false, not_or] at hn; exact trivial)) (List.forall_mem_nil _)) (fun j hj hn => g j hj (by simp only [List.mem_cons, List.not_mem_nil, or_false, not_or] at hn; exact trivial)) )
  replace g3 : (sy_i F 83).toInt ≤ 9 := by omega
  by_cases g4 : (sy_i F 79).toInt < 7
  · have c79 := nz_bx hB (k := 79) (lo := 0) (hi := 7) rfl
    have n86 : nzI ((sy_i F 79) + ((1 : Int32))) (((sy_i F 79).toInt + 1)) := nz_add (rfl : (sy_i F 79).toInt = (sy_i F 79).toInt) (by decide : ((1 : Int32)).toInt = 1) (by omega) (by omega)
    have w84 : jm_upd (sy_ai F 80) (sy_i F 79).toNatClampNeg (sy_i F 82) = jm_upd (sy_ai F 80) ((sy_i F 79).toInt).toNat (sy_i F 82) := by simp only [nz_c]
    have w85 : jm_upd (sy_ai F 81) (sy_i F 79).toNatClampNeg (sy_i F 83) = jm_upd (sy_ai F 81) ((sy_i F 79).toInt).toNat (sy_i F 83) := by simp only [nz_c]
    exact j3tq_0_p4 hd F X1 X2 hB (by first | exact g0 | (simp only [nz_c]; exact g0)) (by first | exact g1 | (simp only [nz_c]; exact g1)) (by first | exact g2 | (simp only [nz_c]; exact g2)) (by first | exact g3 | (simp only [nz_c]; exact g3)) (by first | exact g4 | (simp only [nz_c]; exact g4)) (by first | exact ⟨by omega, by omega⟩ | (simp only [nz_c]; exact ⟨by omega, by omega⟩)) (by first | exact ⟨by omega, by omega⟩ | (simp only [nz_c]; exact ⟨by omega, by omega⟩)) (fun F1 g e79 e80 e81 => by rw [(rfl : ((sy_i F 79) + ((1 : Int32))) - ((1 : Int32)) = ((sy_i F 79) + ((1 : Int32))) - ((1 : Int32)))]; exact k4 g0 g1 g2 g3 g4 F1 (nz_in0 hB [79, 80, 81] (fun j hj hn => g j hj (by simp only [List.mem_cons, List.not_mem_nil, or_false, not_or] at hn; omega)) (List.forall_mem_cons.mpr ⟨fun t ht => (Option.some.inj ht) ▸ (nz_hi e79 (nzE n86) (by omega) (by omega)), List.forall_mem_cons.mpr ⟨fun t ht => (Option.some.inj ht) ▸ (nz_hz2 e80), List.forall_mem_cons.mpr ⟨fun t ht => (Option.some.inj ht) ▸ (nz_hz2 e81), List.forall_mem_nil _⟩⟩⟩)) (fun j hj hn => g j hj (by simp only [List.mem_cons, List.not_mem_nil, or_false, not_or] at hn; omega)) ((congrArg Int32.toInt (zz_i e79)).trans (nzE n86)) ((zz_i e79).trans (rfl : (sy_i F 79) + ((1 : Int32)) = (sy_i F 79) + ((1 : Int32)))) ((zz_ai e80).trans w84) ((zz_ai e81).trans w85))
  replace g4 : 7 ≤ (sy_i F 79).toInt := by omega
  have c79 := nz_bx hB (k := 79) (lo := 0) (hi := 7) rfl
  exact j3tq_0_p5 hd F X1 X2 hB (by first | exact g0 | (simp only [nz_c]; exact g0)) (by first | exact g1 | (simp only [nz_c]; exact g1)) (by first | exact g2 | (simp only [nz_c]; exact g2)) (by first | exact g3 | (simp only [nz_c]; exact g3)) (by first | exact g4 | (simp only [nz_c]; exact g4)) (fun F1 g  => k5 g0 g1 g2 g3 g4 F1 (nz_in0 hB [] (fun j hj hn => g j hj (by simp only [List.mem_cons, List.not_mem_nil, or_false, not_or] at hn; exact trivial)) (List.forall_mem_nil _)) (fun j hj hn => g j hj (by simp only [List.mem_cons, List.not_mem_nil, or_false, not_or] at hn; exact trivial)) )
end
section
/-! ===== prop, shake, hours on the class's side (shape 3) ===== -/
section SH3
variable {Ls : Nat} {xs : Nat → Int32} {T : tX} {g : gS} (F : Nat → sy_d) (X1 X2 : List jm_c)
theorem j3pr_W (hC : xC 18 T F) (hg : gC 50 (nfS T) (nbS T) F g) {U : List gS} (hT : trC (nfS T) (nbS T) F U) {f w : Int32} (hf : 0 ≤ f.toInt ∧ f.toInt < nfS T) (hw : 0 ≤ w.toInt ∧ w.toInt ≤ 1) {F1 : Nat → sy_d} (q1 : qC [] F F1) (j82 : sy_i F1 82 = f) (j83 : sy_i F1 83 = w) :
    hd_W Ls xs 3 jm_M89 (pI 3 X1 X2 (fun x F' => x = 1 ∧ qC [57, 74, 75, 76] F F' ∧ gC 50 (nfS T) (nbS T) F' (upS g 5 f.toInt.toNat w) ∧ trC (nfS T) (nbS T) F' (rmS g U))) (53, sy_dL F1 [some (.inl (.ref 8)), some (.inr (.inl 82)), none, some (.inr (.inl 83))], sy_dS F1 [.inl (.ref 46), .inl (.ref 66)], sy_dh F1 X1 X2 (iv_H 3), 0, 0) := by
  have l7 : nfS T ≤ 7 := hC.2.2.1.1.1
  have l4 : nbS T ≤ 4 := hC.2.2.1.1.2.1
  have f1 : ∀ j, j < 82 → F1 j = F j := fun j hj => q1.2 j hj (by simp)
  refine hd_calV (R := fun F' => qC [74, 75, 76] F1 F' ∧ trC (nfS T) (nbS T) F' (rmS g U)) (nh := 82) (nv := 84) (s := 3) (s1 := 3) (d1 := 2) (M1 := jm_M78) (As := [.inl (.ref 66), .inl (.ref 46)]) (rest := []) jm_ok89 rfl rfl (by decide) (by decide +kernel) (j3re_V F1 X1 X2 q1.1 l7 l4 (gC_eq hg (fun j h1 h2 => f1 j (by omega))) (trC_eq hT (f1 74 (by decide)) (f1 75 (by decide)) (f1 76 (by decide)))) (fun F3 F' hR p1 p2 => ?_)
  obtain ⟨r1, r2⟩ := hR
  have r1' : qC [74, 75, 76] F1 F3 := qC_dst r1 p1
  have k82 : sy_i F3 82 = f := (eI (p2 82 (by decide) (by decide))).trans j82
  have k83 : sy_i F3 83 = w := (eI (p2 83 (by decide) (by decide))).trans j83
  refine j3pr_56 (by decide) F3 X1 X2 r1'.1 (by rw [k82]; omega) (by rw [k83]; omega) ?_
  intro F4 hb4 g4 a57
  rw [k82, k83] at a57
  have f3 : ∀ j, 50 ≤ j → j < 62 → F3 j = F j := fun j h1 h2 => (r1'.2 j (by omega) (by simp; omega)).trans (f1 j (by omega))
  exact ⟨_, F4, rfl, rfl, rfl, qq_on (qq_trans (qq_up q1 (by decide)) (qq_up r1' (by decide))) hb4 g4 (by decide), gC_up (gC_eq hg (fun j h1 h2 => f3 j h1 (by omega))) (by decide) rfl a57 (fun j h1 h2 h3 => g4 j (by omega) (by intro z; simp at z; exact h3 z)), trC_eq r2 ((g4 74 (by decide) (by decide)).trans (p1 74 (by decide))) ((g4 75 (by decide) (by decide)).trans (p1 75 (by decide))) ((g4 76 (by decide) (by decide)).trans (p1 76 (by decide)))⟩
theorem j3pr_V (hC : xC 18 T F) (hg : gC 50 (nfS T) (nbS T) F g) {U : List gS} (hT : trC (nfS T) (nbS T) F U) (f v : Int32) (hv : 0 ≤ v.toInt ∧ v.toInt ≤ 1) : jm_T Ls xs 3 jm_M89 [.ref 8, .int f, .int v] (sy_dh F X1 X2 (iv_H 3)) 0 0 (pI 3 X1 X2 (fun x F' => (¬ (0 ≤ f.toInt ∧ f.toInt < nfS T ∧ (g 2 f.toInt.toNat).toInt = 0 ∧ g 5 f.toInt.toNat ≠ v) → x = 0 ∧ qC [] F F') ∧ (0 ≤ f.toInt ∧ f.toInt < nfS T ∧ (g 2 f.toInt.toNat).toInt = 0 ∧ g 5 f.toInt.toNat ≠ v → x = 1 ∧ qC [57, 74, 75, 76] F F' ∧ gC 50 (nfS T) (nbS T) F' (upS g 5 f.toInt.toNat v) ∧ trC (nfS T) (nbS T) F' (rmS g U)))) := by
  have l7 : nfS T ≤ 7 := hC.2.2.1.1.1
  have enf : (sy_i F 18).toInt = (nfS T : Int) := hC.2.1.1.1
  refine C_T (by decide) [f, v] [.inl (.ref 8), .inr (.inl 82), .inr (.inl 83)] jm_ok89 (by decide) rfl (fun F0 k0 ki => ?_)
  have i82 : sy_i F0 82 = f := ki 0
  have i83 : sy_i F0 83 = v := ki 1
  have enf0 : (sy_i F0 18).toInt = (nfS T : Int) := by rw [nz_fi (k0 18 (by decide))]; exact enf
  have rd : f.toInt.toNat < nfS T → ((sy_ai F0 54).getD f.toInt.toNat 0) = g 2 f.toInt.toNat := fun h => by
    rw [nz_fa (k0 54 (by decide))]
    exact hg.1 2 _ (by decide) (vF (by decide) h)
  have rp : f.toInt.toNat < nfS T → ((sy_ai F0 57).getD f.toInt.toNat 0) = g 5 f.toInt.toNat := fun h => by
    rw [nz_fa (k0 57 (by decide))]
    exact hg.1 5 _ (by decide) (vF (by decide) h)
  have no : ∀ F1 : Nat → sy_d, iv_in F1 iv_B0 → (∀ j, j < 82 → j ∉ ([] : List Nat) → F1 j = F0 j) → ¬ (0 ≤ f.toInt ∧ f.toInt < nfS T ∧ (g 2 f.toInt.toNat).toInt = 0 ∧ g 5 f.toInt.toNat ≠ v) → pI 3 X1 X2 (fun x F' => (¬ (0 ≤ f.toInt ∧ f.toInt < nfS T ∧ (g 2 f.toInt.toNat).toInt = 0 ∧ g 5 f.toInt.toNat ≠ v) → x = 0 ∧ qC [] F F') ∧ (0 ≤ f.toInt ∧ f.toInt < nfS T ∧ (g 2 f.toInt.toNat).toInt = 0 ∧ g 5 f.toInt.toNat ≠ v → x = 1 ∧ qC [57, 74, 75, 76] F F' ∧ gC 50 (nfS T) (nbS T) F' (upS g 5 f.toInt.toNat v) ∧ trC (nfS T) (nbS T) F' (rmS g U))) (some (.int (0 : Int32))) (sy_dh F1 X1 X2 (iv_H 3)) := fun F1 hb1 gg h => ⟨_, F1, rfl, rfl, fun _ => ⟨rfl, qq_src (qq_mk hb1 gg (by decide)) k0⟩, fun z => absurd z h⟩
  have yes : ∀ (F1 : Nat → sy_d) (w : Int32), w = v → iv_in F1 iv_B0 → (∀ j, j < 82 → j ∉ ([] : List Nat) → F1 j = F0 j) → sy_i F1 82 = sy_i F0 82 → sy_i F1 83 = w → (0 ≤ f.toInt ∧ f.toInt < nfS T ∧ (g 2 f.toInt.toNat).toInt = 0 ∧ g 5 f.toInt.toNat ≠ v) → hd_W Ls xs 3 jm_M89 (pI 3 X1 X2 (fun x F' => (¬ (0 ≤ f.toInt ∧ f.toInt < nfS T ∧ (g 2 f.toInt.toNat).toInt = 0 ∧ g 5 f.toInt.toNat ≠ v) → x = 0 ∧ qC [] F F') ∧ (0 ≤ f.toInt ∧ f.toInt < nfS T ∧ (g 2 f.toInt.toNat).toInt = 0 ∧ g 5 f.toInt.toNat ≠ v → x = 1 ∧ qC [57, 74, 75, 76] F F' ∧ gC 50 (nfS T) (nbS T) F' (upS g 5 f.toInt.toNat v) ∧ trC (nfS T) (nbS T) F' (rmS g U)))) (53, sy_dL F1 [some (.inl (.ref 8)), some (.inr (.inl 82)), none, some (.inr (.inl 83))], sy_dS F1 [.inl (.ref 46), .inl (.ref 66)], sy_dh F1 X1 X2 (iv_H 3), 0, 0) := fun F1 w ew hb1 gg j82 j83 h => by
    subst ew
    refine hd_mono (j3pr_W F X1 X2 hC hg hT ⟨h.1, h.2.1⟩ hv (qq_src (qq_mk hb1 gg (by decide)) k0) (j82.trans i82) j83) ?_
    rintro x G ⟨r, F', e1, e2, e3⟩
    exact ⟨r, F', e1, e2, fun z => absurd h z, fun _ => e3⟩
  have z0 : (0 : Int32).toInt = 0 := by decide
  have z1 : (1 : Int32).toInt = 1 := by decide
  refine j3pr_0 (by decide) F0 X1 X2 (hd_iveq0 hC.1 k0) ?_ ?_ ?_ ?_ ?_ ?_ ?_ ?_ ?_ ?_
  · intro cv c0 F1 hb1 gg
    rw [i82] at c0
    exact no F1 hb1 gg (fun h => absurd h.1 (by omega))
  · intro cv c0 c1 F1 hb1 gg
    rw [i82] at c0 c1
    exact no F1 hb1 gg (fun h => absurd h.2.1 (by omega))
  · intro cv c0 c1 c2 F1 hb1 gg
    rw [i82] at c0 c1 c2
    rw [rd (by omega)] at c2
    exact no F1 hb1 gg (fun h => c2 h.2.2.1)
  · intro cv c0 c1 c2 c3 F1 hb1 gg e82 j82 e83 j83
    rw [i83] at cv
    rw [i82] at c0 c1 c2 c3
    rw [rd (by omega)] at c2
    rw [rp (by omega)] at c3
    have ev : (0 : Int32) = v := Int32.toInt_inj.mp (by omega)
    exact yes F1 0 ev hb1 gg j82 j83 ⟨c0, by omega, c2, fun z => c3 (by rw [z, ← ev]; exact z0)⟩
  · intro cv c0 c1 c2 c3 F1 hb1 gg
    rw [i83] at cv
    rw [i82] at c0 c1 c2 c3
    rw [rp (by omega)] at c3
    have ev : (0 : Int32) = v := Int32.toInt_inj.mp (by omega)
    exact no F1 hb1 gg (fun h => h.2.2.2 (Int32.toInt_inj.mp (by rw [← ev]; omega)))
  · intro cv c0 F1 hb1 gg
    rw [i82] at c0
    exact no F1 hb1 gg (fun h => absurd h.1 (by omega))
  · intro cv c0 c1 F1 hb1 gg
    rw [i82] at c0 c1
    exact no F1 hb1 gg (fun h => absurd h.2.1 (by omega))
  · intro cv c0 c1 c2 F1 hb1 gg
    rw [i82] at c0 c1 c2
    rw [rd (by omega)] at c2
    exact no F1 hb1 gg (fun h => c2 h.2.2.1)
  · intro cv c0 c1 c2 c3 F1 hb1 gg e82 j82 e83 j83
    rw [i83] at cv
    rw [i82] at c0 c1 c2 c3
    rw [rd (by omega)] at c2
    rw [rp (by omega)] at c3
    have ev : (1 : Int32) = v := Int32.toInt_inj.mp (by omega)
    exact yes F1 1 ev hb1 gg j82 j83 ⟨c0, by omega, c2, fun z => c3 (by rw [z, ← ev]; exact z1)⟩
  · intro cv c0 c1 c2 c3 F1 hb1 gg
    rw [i83] at cv
    rw [i82] at c0 c1 c2 c3
    rw [rp (by omega)] at c3
    have ev : (1 : Int32) = v := Int32.toInt_inj.mp (by omega)
    exact no F1 hb1 gg (fun h => h.2.2.2 (Int32.toInt_inj.mp (by rw [← ev]; omega)))
noncomputable def j3sqP (T : tX) (g : gS) (U : List gS) (f : Nat) (F : Nat → sy_d) (x : Int32) (F' : Nat → sy_d) : Prop := qC [45, 46, 51, 52, 58, 74, 75, 76] F F' ∧ trC (nfS T) (nbS T) F' (rmS g U) ∧ (fdS T g → x = 1 ∧ gC 50 (nfS T) (nbS T) F' (fndS T g f)) ∧ (¬ fdS T g → x = 0 ∧ gC 50 (nfS T) (nbS T) F' (shkS g f))
theorem j3sq_V (hC : xC 18 T F) (hg : gC 50 (nfS T) (nbS T) F g) {U : List gS} (hT : trC (nfS T) (nbS T) F U) (f : Int32) : jm_T Ls xs 6 jm_M90 [.ref 8, .int f] (sy_dh F X1 X2 (iv_H 3)) 0 0 (pI 3 X1 X2 (fun x F' => (¬ (0 ≤ f.toInt ∧ f.toInt < nfS T) → x = -1 ∧ qC [] F F') ∧ (0 ≤ f.toInt ∧ f.toInt < nfS T → (g 2 f.toInt.toNat).toInt ≠ 0 → x = -2 ∧ qC [] F F') ∧ (0 ≤ f.toInt ∧ f.toInt < nfS T → (g 2 f.toInt.toNat).toInt = 0 → j3sqP T g U f.toInt.toNat F x F'))) := by
  have l7 : nfS T ≤ 7 := hC.2.2.1.1.1
  have l4 : nbS T ≤ 4 := hC.2.2.1.1.2.1
  have enf : (sy_i F 18).toInt = (nfS T : Int) := hC.2.1.1.1
  refine C_T (by decide) [f] [.inl (.ref 8), .inr (.inl 82)] jm_ok90 (by decide) rfl (fun F0 k0 ki => ?_)
  have i82 : sy_i F0 82 = f := ki 0
  have enf0 : (sy_i F0 18).toInt = (nfS T : Int) := by rw [nz_fi (k0 18 (by decide))]; exact enf
  have rd : f.toInt.toNat < nfS T → ((sy_ai F0 54).getD f.toInt.toNat 0) = g 2 f.toInt.toNat := fun h => by
    rw [nz_fa (k0 54 (by decide))]
    exact hg.1 2 _ (by decide) (vF (by decide) h)
  refine j3sq_0 (by decide) F0 X1 X2 (hd_iveq0 hC.1 k0) ?_ ?_ ?_ ?_
  · intro c0 F1 hb1 gg
    rw [i82] at c0
    exact ⟨_, F1, rfl, rfl, fun _ => ⟨rfl, qq_src (qq_mk hb1 gg (by decide)) k0⟩, fun h => absurd h.1 (by omega), fun h => absurd h.1 (by omega)⟩
  · intro c0 c1 F1 hb1 gg
    rw [i82] at c0 c1
    exact ⟨_, F1, rfl, rfl, fun _ => ⟨rfl, qq_src (qq_mk hb1 gg (by decide)) k0⟩, fun h => absurd h.2 (by omega), fun h => absurd h.2 (by omega)⟩
  · intro c0 c1 c2 F1 hb1 gg e82 j82
    rw [i82] at c0 c1 c2 j82
    have hlt : f.toInt.toNat < nfS T := by omega
    rw [rd hlt] at c2
    have q1 : qC [] F F1 := qq_src (qq_mk hb1 gg (by decide)) k0
    have f1 : ∀ j, j < 82 → F1 j = F j := fun j hj => q1.2 j hj (by simp)
    refine hd_calV (R := fun F' => qC [74, 75, 76] F1 F' ∧ trC (nfS T) (nbS T) F' (rmS g U)) (nh := 82) (nv := 83) (s := 3) (s1 := 3) (d1 := 2) (M1 := jm_M78) (As := [.inl (.ref 66), .inl (.ref 46)]) (rest := []) jm_ok90 rfl rfl (by decide) (by decide +kernel) (j3re_V F1 X1 X2 hb1 l7 l4 (gC_eq hg (fun j h1 h2 => f1 j (by omega))) (trC_eq hT (f1 74 (by decide)) (f1 75 (by decide)) (f1 76 (by decide)))) (fun F3 F' hR p1 p2 => ?_)
    obtain ⟨r1, r2⟩ := hR
    have r1' : qC [74, 75, 76] F1 F3 := qC_dst r1 p1
    have q3 : qC [74, 75, 76] F F3 := qq_trans (qq_up q1 (by decide)) r1'
    have t3 : trC (nfS T) (nbS T) F3 (rmS g U) := trC_eq r2 (p1 74 (by decide)) (p1 75 (by decide)) (p1 76 (by decide))
    have k82 : sy_i F3 82 = f := (eI (p2 82 (by decide) (by decide))).trans j82
    have g3 : gC 50 (nfS T) (nbS T) F3 g := gC_eq hg (fun j h1 h2 => q3.2 j (by omega) (by simp; omega))
    have sd3 : sy_i F3 22 = Int32.ofInt T.2.2.2.2.1 := (qq_i q3 (by decide) (by decide)).trans (ofi hC.2.1.2.2.2.2.1).symm
    have n3 : sy_i F3 51 = g 9 1 := g3.2 1 (by decide)
    have h3 : sy_i F3 50 = g 9 0 := g3.2 0 (by decide)
    refine j3sq_36 (by decide) F3 X1 X2 r1'.1 (by rw [k82]; omega) ?_
    intro F4 hb4 g4 e51 i51 a58 e82' i82' e83 i83 e84 i84
    rw [k82] at a58
    rw [n3] at i51
    rw [sd3, n3] at i82'
    rw [h3] at i83
    have i82' : sy_i F4 82 = lotS (Int32.ofInt T.2.2.2.2.1) ((1000000 : Int32) + g 9 1) := i82'
    have q4 : qC [51, 58, 74, 75, 76] F F4 := qq_on (qq_up q3 (by decide)) hb4 g4 (by decide)
    have r6 : (sy_ai F3 58).getD f.toInt.toNat 0 = g 6 f.toInt.toNat := g3.1 6 _ (by decide) (vF (by decide) hlt)
    rw [r6] at a58
    have g4' : gC 50 (nfS T) (nbS T) F4 (shkS g f.toInt.toNat) := gC_upn (k := 1) g3 (by decide) rfl (by decide) a58 i51 (fun j h1 h2 h3 h4 => g4 j (by omega) (by intro z; simp at z; rcases z with z | z; exact h4 z; exact h3 z))
    have t4 : trC (nfS T) (nbS T) F4 (rmS g U) := trC_eq t3 (g4 74 (by decide) (by decide)) (g4 75 (by decide) (by decide)) (g4 76 (by decide) (by decide))
    have c4 := xC_q (by decide) hC q4 (by decide)
    refine hd_calI (R := fun x F' => qC [] F4 F' ∧ x = ppS (mkS (shkS g f.toInt.toNat) (0 : Int32).toInt (nfS T))) (nh := 82) (nv := 84) (s := 3) (s1 := 3) (d1 := 2) (M1 := jm_M12) (As := [.inl (.ref 46), .inl (.int 0), .inr (.inl 84)]) (rest := [.inr (.inl 83), .inl (.ref 20), .inl (.ref 38)]) jm_ok90 rfl rfl (by decide) (by decide +kernel) (j3nhm_V F4 X1 X2 c4 g4' 0 _ (by rw [e84, qq_i q3 (j := 18) (by decide) (by decide)]; exact enf)) (fun F5 F6 x hR5 s1 s2 s3 => ?_)
    obtain ⟨u1, u2⟩ := hR5
    have q5 : qC [51, 58, 74, 75, 76] F F5 := qq_trans q4 (qq_up (qC_dst u1 s1) (by decide))
    have c5 := xC_q (by decide) hC q5 (by decide)
    have k84 : sy_i F5 84 = lfS T g := (zz_i s3).trans (u2.trans (lf_shk T g f.toInt.toNat))
    have k83 : sy_i F5 83 = g 9 0 := (eI (s2 83 (by decide) (by decide))).trans i83
    have k82b : sy_i F5 82 = lotS (Int32.ofInt T.2.2.2.2.1) ((1000000 : Int32) + g 9 1) := (eI (s2 82 (by decide) (by decide))).trans i82'
    have f45 : ∀ j, j < 82 → F5 j = F4 j := fun j hj => (s1 j hj).trans (u1.2 j hj (by simp))
    refine hd_calV (R := fun F' => qC [45, 46] F5 F' ∧ v45 F' 2 = sy_i F5 83 ∧ v45 F' 8 = sy_i F5 84 ∧ v45 F' 3 = Int32.ofInt (windT T (sy_i F5 83) (sy_i F5 84))) (nh := 82) (nv := 83) (s := 3) (s1 := 3) (d1 := 5) (M1 := jm_M17) (As := [.inl (.ref 38), .inl (.ref 20), .inr (.inl 83), .inr (.inl 84)]) (rest := []) jm_ok90 rfl rfl (by decide) (by decide +kernel) (j3sh_V F5 X1 X2 c5 _ _) (fun F7 F8 hR7 w1 w2 => ?_)
    obtain ⟨v1, v2, v3, v4⟩ := hR7
    rw [k83] at v2 v4
    rw [k84] at v3 v4
    have v1' : qC [45, 46] F5 F7 := qC_dst v1 w1
    have q7 : qC [45, 46, 51, 52, 58, 74, 75, 76] F F7 := qq_trans (qq_up q5 (by decide)) (qq_up v1' (by decide))
    have e45 : v45 F7 = v45 F8 := by unfold v45; rw [nz_fa (w1 45 (by decide))]
    have k82c : sy_i F7 82 = lotS (Int32.ofInt T.2.2.2.2.1) ((1000000 : Int32) + g 9 1) := (eI (w2 82 (by decide) (by decide))).trans k82b
    refine j3sq_116 (by decide) F7 X1 X2 q7.1 ?_
    intro F9 hb9 g9 a45 e82'' i82''
    have n7 : sy_i F7 51 = g 9 1 + 1 := (qq_i v1' (by decide) (by decide)).trans ((eI (f45 51 (by decide))).trans i51)
    rw [n7] at a45
    have q9 : qC [45, 46, 51, 52, 58, 74, 75, 76] F F9 := qq_on q7 hb9 g9 (by decide)
    have c9 := xC_q (by decide) hC q9 (by decide)
    have key : ∀ j : Nat, v45 F9 j = if j = (5 : Int).toNat then g 9 1 + 1 else v45 F7 j := fun j => by
      show (sy_ai F9 45).getD j 0 = _
      rw [a45, jm_upd_at]
      rfl
    have hfd : lwT T 5 (v45 F9) = foundT T (g 9 1 + 1) (Int32.ofInt (wiS T g)) (g 9 0) (lfS T g) := lwT_cg hC.2.2.1 (nine9 (fun t => absurd t (by decide)) (fun t => absurd t (by decide)) (fun _ => by rw [key, e45]; exact v2) (fun _ => by rw [key, e45]; exact v4) (fun t => absurd t (by decide)) (fun _ => by rw [key]; rfl) (fun t => absurd t (by decide)) (fun t => absurd t (by decide)) (fun _ => by rw [key, e45]; exact v3))
    refine hd_calI (R := fun x F' => qC [46] F9 F' ∧ x.toInt = lwT T 5 (v45 F9)) (nh := 82) (nv := 83) (s := 3) (s1 := 3) (d1 := 4) (M1 := jm_M21) (As := [.inl (.ref 38), .inl (.ref 20), .inl (.int 5)]) (rest := [.inr (.inl 82)]) jm_ok90 rfl rfl (by decide) (by decide +kernel) (j3tl_V F9 X1 X2 c9 (by decide) (by decide)) (fun FA FB y hRA y1 y2 y3 => ?_)
    obtain ⟨z1, z2⟩ := hRA
    rw [hfd] at z2
    have z1' : qC [46] F9 FA := qC_dst z1 y1
    have qA : qC [45, 46, 51, 52, 58, 74, 75, 76] F FA := qq_trans q9 (qq_up z1' (by decide))
    have m82 : sy_i FA 82 = lotS (Int32.ofInt T.2.2.2.2.1) ((1000000 : Int32) + g 9 1) := (eI (y2 82 (by decide) (by decide))).trans (i82''.trans k82c)
    have m83 : (sy_i FA 83).toInt = foundT T (g 9 1 + 1) (Int32.ofInt (wiS T g)) (g 9 0) (lfS T g) := by rw [zz_i y3]; exact z2
    have fA : ∀ j, j < 82 → j ≠ 45 → j ≠ 46 → FA j = F4 j := fun j hj n1 n2 => (z1'.2 j hj (by simp; omega)).trans ((g9 j hj (by simp; omega)).trans ((v1'.2 j hj (by simp; omega)).trans (f45 j hj)))
    have gA : gC 50 (nfS T) (nbS T) FA (shkS g f.toInt.toNat) := gC_eq g4' (fun j h1 h2 => fA j (by omega) (by omega) (by omega))
    have tA : trC (nfS T) (nbS T) FA (rmS g U) := trC_eq t4 (fA 74 (by decide) (by decide) (by decide)) (fA 75 (by decide) (by decide) (by decide)) (fA 76 (by decide) (by decide) (by decide))
    have hfd2 : fdS T g ↔ (sy_i FA 82).toInt < (sy_i FA 83).toInt := by rw [m82, m83]; exact Iff.rfl
    refine j3sq_145 (by decide) FA X1 X2 qA.1 ?_ ?_
    · intro d0 FC hbC gC'
      have hn : ¬ fdS T g := fun h => absurd (hfd2.mp h) (by omega)
      exact ⟨_, FC, rfl, rfl, fun h => absurd ⟨c0, by omega⟩ h, fun _ h => absurd c2 h, fun _ _ => ⟨qq_on qA hbC gC' (by decide), trC_eq tA (gC' 74 (by decide) (by decide)) (gC' 75 (by decide) (by decide)) (gC' 76 (by decide) (by decide)), fun h => absurd h hn, fun _ => ⟨rfl, gC_eq gA (fun j h1 h2 => gC' j (by omega) (by simp))⟩⟩⟩
    · intro d0 FC hbC gC' e52 i52
      have hy : fdS T g := hfd2.mpr d0
      have n52 : sy_i FA 52 = g 9 2 := (gA.2 2 (by decide)).trans (shkS_9 g f.toInt.toNat).2.2.1
      rw [n52] at i52
      exact ⟨_, FC, rfl, rfl, fun h => absurd ⟨c0, by omega⟩ h, fun _ h => absurd c2 h, fun _ _ => ⟨qq_on qA hbC gC' (by decide), trC_eq tA (gC' 74 (by decide) (by decide)) (gC' 75 (by decide) (by decide)) (gC' 76 (by decide) (by decide)), fun _ => ⟨rfl, gC_93 (gC_n gA (i := 2) (by decide) i52 (fun j h1 h2 h3 => gC' j (by omega) (by intro z; simp at z; exact h3 z))) _⟩, fun h => absurd hy h⟩⟩
  · intro c0 c1 c2 F1 hb1 gg
    rw [i82] at c0 c1 c2
    rw [rd (by omega)] at c2
    exact ⟨_, F1, rfl, rfl, fun h => absurd ⟨c0, by omega⟩ h, fun _ _ => ⟨rfl, qq_src (qq_mk hb1 gg (by decide)) k0⟩, fun _ z => absurd z c2⟩
theorem j3hq_L (hC : xC 18 T F) (hO : okS T g) {U : List gS} {N : Nat} (hN : N ≤ 48) : ∀ (m : Nat) (F1 : Nat → sy_d) (n : Nat), n + m = N → qC [45, 46, 50, 51, 52, 53, 54, 55, 56, 57, 58, 59, 60, 61, 74, 75, 76] F F1 → (sy_i F1 82).toInt = N → (sy_i F1 83).toInt = n → gC 50 (nfS T) (nbS T) F1 (hrsS T (Int32.ofInt T.2.2.2.2.1) g n) → trC (nfS T) (nbS T) F1 U →
    hd_W Ls xs 8 jm_M91 (pI 3 X1 X2 (fun x F' => x = hrsS T (Int32.ofInt T.2.2.2.2.1) g N 9 0 ∧ qC [45, 46, 50, 51, 52, 53, 54, 55, 56, 57, 58, 59, 60, 61, 74, 75, 76] F F' ∧ gC 50 (nfS T) (nbS T) F' (hrsS T (Int32.ofInt T.2.2.2.2.1) g N) ∧ trC (nfS T) (nbS T) F' U)) (29, sy_dL F1 [some (.inl (.ref 8)), some (.inr (.inl 82)), some (.inr (.inl 83))], sy_dS F1 [], sy_dh F1 X1 X2 (iv_H 3), 0, 0) := by
  intro m
  induction m with
  | zero =>
    intro F1 n hm hq e82 e83 hG hU
    have en : n = N := by omega
    subst en
    refine j3hq_29 (by decide) F1 X1 X2 hq.1 (by omega) (by omega) ?_ ?_
    · intro c0 F2 hb gg
      exact ⟨_, F2, rfl, rfl, hG.2 0 (by decide), qq_on hq hb gg (by decide), gC_eq hG (fun j h1 h2 => gg j (by omega) (by simp)), trC_eq hU (gg 74 (by decide) (by decide)) (gg 75 (by decide) (by decide)) (gg 76 (by decide) (by decide))⟩
    · intros
      omega
  | succ m ih =>
    intro F1 n hm hq e82 e83 hG hU
    refine j3hq_29 (by decide) F1 X1 X2 hq.1 (by omega) (by omega) ?_ ?_
    · intros
      omega
    · intro c0 F2 hb gg f82 i82 f83 i83 f84 i84
      have q2 := qq_on hq hb gg (by decide)
      have c2 := xC_q (by decide) hC q2 (by decide)
      have sd2 : sy_i F2 84 = Int32.ofInt T.2.2.2.2.1 := i84.trans ((qq_i hq (by decide) (by decide)).trans (ofi hC.2.1.2.2.2.2.1).symm)
      have g2 : gC 50 (nfS T) (nbS T) F2 (hrsS T (Int32.ofInt T.2.2.2.2.1) g n) := gC_eq hG (fun j h1 h2 => gg j (by omega) (by simp))
      have u2 : trC (nfS T) (nbS T) F2 U := trC_eq hU (gg 74 (by decide) (by decide)) (gg 75 (by decide) (by decide)) (gg 76 (by decide) (by decide))
      refine hd_calV (R := fun F' => qC W3n F2 F' ∧ gC 50 (nfS T) (nbS T) F' (hourS T (sy_i F2 84) (hrsS T (Int32.ofInt T.2.2.2.2.1) g n))) (nh := 82) (nv := 84) (s := 3) (s1 := 3) (d1 := 7) (M1 := jm_M3) (As := [.inl (.ref 41), .inl (.ref 20), .inl (.ref 46), .inr (.inl 84)]) (rest := []) jm_ok91 rfl rfl (by decide) (by decide +kernel) (j3nph_V F2 X1 X2 c2 g2 (okS_hrs hO n) _) (fun F3 F' hR p1 p2 => ?_)
      obtain ⟨r1, r2⟩ := hR
      rw [sd2] at r2
      have r1' : qC W3n F2 F3 := qC_dst r1 p1
      refine j3hq_56 (by decide) F3 X1 X2 r1'.1 (by rw [nz_fi (p2 83 (by decide) (by decide))]; omega) ?_
      intro F4 hb4 g4 h82 k82 h83 k83
      have q4 : qC [45, 46, 50, 51, 52, 53, 54, 55, 56, 57, 58, 59, 60, 61, 74, 75, 76] F F4 := qq_on (qq_trans q2 (qq_up r1' (by decide))) hb4 g4 (by decide)
      refine ih F4 (n + 1) (by omega) q4 (by rw [h82, nz_fi (p2 82 (by decide) (by decide))]; omega) (by rw [h83, nz_fi (p2 83 (by decide) (by decide))]; omega) (gC_eq r2 (fun j h1 h2 => (g4 j (by omega) (by simp)).trans (p1 j (by omega)))) (trC_eq u2 ?_ ?_ ?_)
      · exact (g4 74 (by decide) (by decide)).trans (r1'.2 74 (by decide) (by decide))
      · exact (g4 75 (by decide) (by decide)).trans (r1'.2 75 (by decide) (by decide))
      · exact (g4 76 (by decide) (by decide)).trans (r1'.2 76 (by decide) (by decide))
theorem j3hq_V (hC : xC 18 T F) (hg : gC 50 (nfS T) (nbS T) F g) (hO : okS T g) {U : List gS} (hT : trC (nfS T) (nbS T) F U) (n : Int32) : jm_T Ls xs 8 jm_M91 [.ref 8, .int n] (sy_dh F X1 X2 (iv_H 3)) 0 0 (pI 3 X1 X2 (fun x F' => (¬ (0 ≤ n.toInt ∧ n.toInt ≤ 48) → x = -1 ∧ qC [] F F') ∧ (n.toInt = 0 → x = g 9 0 ∧ qC [] F F') ∧ (1 ≤ n.toInt ∧ n.toInt ≤ 48 → x = hrsS T (Int32.ofInt T.2.2.2.2.1) g n.toInt.toNat 9 0 ∧ qC [45, 46, 50, 51, 52, 53, 54, 55, 56, 57, 58, 59, 60, 61, 74, 75, 76] F F' ∧ gC 50 (nfS T) (nbS T) F' (hrsS T (Int32.ofInt T.2.2.2.2.1) g n.toInt.toNat) ∧ trC (nfS T) (nbS T) F' (rmS g U)))) := by
  have l7 : nfS T ≤ 7 := hC.2.2.1.1.1
  have l4 : nbS T ≤ 4 := hC.2.2.1.1.2.1
  refine C_T (by decide) [n] [.inl (.ref 8), .inr (.inl 82)] jm_ok91 (by decide) rfl (fun F0 k0 ki => ?_)
  have i82 : sy_i F0 82 = n := ki 0
  refine j3hq_0 (by decide) F0 X1 X2 (hd_iveq0 hC.1 k0) ?_ ?_ ?_ ?_
  · intro c0 F1 hb1 gg
    rw [i82] at c0
    exact ⟨_, F1, rfl, rfl, fun _ => ⟨rfl, qq_src (qq_mk hb1 gg (by decide)) k0⟩, fun h => absurd h (by omega), fun h => absurd h.1 (by omega)⟩
  · intro c0 c1 F1 hb1 gg
    rw [i82] at c0 c1
    exact ⟨_, F1, rfl, rfl, fun _ => ⟨rfl, qq_src (qq_mk hb1 gg (by decide)) k0⟩, fun h => absurd h (by omega), fun h => absurd h.2 (by omega)⟩
  · intro c0 c1 c2 F1 hb1 gg
    rw [i82] at c0 c1 c2
    exact ⟨_, F1, rfl, rfl, fun h => absurd ⟨c0, c1⟩ h, fun _ => ⟨(eI (k0 50 (by decide))).trans (hg.2 0 (by decide)), qq_src (qq_mk hb1 gg (by decide)) k0⟩, fun h => absurd h.1 (by omega)⟩
  · intro c0 c1 c2 F1 hb1 gg e82 j82
    rw [i82] at c0 c1 c2 j82
    have q1 : qC [] F F1 := qq_src (qq_mk hb1 gg (by decide)) k0
    have f1 : ∀ j, j < 82 → F1 j = F j := fun j hj => q1.2 j hj (by simp)
    refine hd_calV (R := fun F' => qC [74, 75, 76] F1 F' ∧ trC (nfS T) (nbS T) F' (rmS g U)) (nh := 82) (nv := 83) (s := 3) (s1 := 3) (d1 := 2) (M1 := jm_M78) (As := [.inl (.ref 66), .inl (.ref 46)]) (rest := []) jm_ok91 rfl rfl (by decide) (by decide +kernel) (j3re_V F1 X1 X2 hb1 l7 l4 (gC_eq hg (fun j h1 h2 => f1 j (by omega))) (trC_eq hT (f1 74 (by decide)) (f1 75 (by decide)) (f1 76 (by decide)))) (fun F3 F' hR p1 p2 => ?_)
    obtain ⟨r1, r2⟩ := hR
    have r1' : qC [74, 75, 76] F1 F3 := qC_dst r1 p1
    have q3 : qC [74, 75, 76] F F3 := qq_trans (qq_up q1 (by decide)) r1'
    have k82 : sy_i F3 82 = n := (eI (p2 82 (by decide) (by decide))).trans j82
    refine j3hq_27 (by decide) F3 X1 X2 q3.1 ?_
    intro F4 hb4 g4 h82 m82 h83 m83
    have f4 : ∀ j, j < 82 → F4 j = F3 j := fun j hj => g4 j hj (by simp)
    refine hd_mono (j3hq_L F X1 X2 hC hO (U := rmS g U) (N := n.toInt.toNat) (by omega) n.toInt.toNat F4 0 (by omega) (qq_on (qq_up q3 (by decide)) hb4 g4 (by decide)) (by rw [h82, k82]; omega) h83 (gC_eq hg (fun j h1 h2 => (f4 j (by omega)).trans (q3.2 j (by omega) (by simp; omega)))) (trC_eq r2 ((f4 74 (by decide)).trans (p1 74 (by decide))) ((f4 75 (by decide)).trans (p1 75 (by decide))) ((f4 76 (by decide)).trans (p1 76 (by decide))))) ?_
    rintro x G ⟨r, F', e1, e2, e3⟩
    exact ⟨r, F', e1, e2, fun h => absurd ⟨c0, c1⟩ h, fun h => absurd h (by omega), fun _ => e3⟩
end SH3
end
section
/-! ===== what is told and taped, on the class's side (shape 3) ===== -/
section TT3
variable {Ls : Nat} {xs : Nat → Int32} (X1 X2 : List jm_c)
theorem j3pq_V (F : Nat → sy_d) (hB : iv_in F iv_B0) : jm_T Ls xs 1 jm_M84 [.ref 8] (sy_dh F X1 X2 (iv_H 3)) 0 0 (pI 3 X1 X2 (fun x F' => x = sy_i F 1 ∧ qC [] F F')) := by
  refine hd_T (As := [.inl (.ref 8)]) jm_ok84 (by decide) (j3pq_0 (by decide) F X1 X2 hB ?_)
  intro F1 hb gg
  exact ⟨_, F1, rfl, rfl, rfl, qq_mk hb gg (by decide)⟩
theorem j3fq_V (F : Nat → sy_d) (hB : iv_in F iv_B0) : jm_T Ls xs 1 jm_M109 [.ref 8] (sy_dh F X1 X2 (iv_H 3)) 0 0 (pI 3 X1 X2 (fun x F' => x = sy_i F 79 ∧ qC [79] F F' ∧ (sy_i F' 79).toInt = 0)) := by
  refine hd_T (As := [.inl (.ref 8)]) jm_ok109 (by decide) (j3fq_0 (by decide) F X1 X2 hB ?_)
  intro F1 hb gg e79 i79
  exact ⟨_, F1, rfl, rfl, rfl, qq_mk hb gg (by decide), e79⟩
theorem j3bq_V (F : Nat → sy_d) (hB : iv_in F iv_B0) (v : Int32) : jm_T Ls xs 1 jm_M82 [.ref 8, .int v] (sy_dh F X1 X2 (iv_H 3)) 0 0 (pI 3 X1 X2 (fun x F' => (v.toInt < 0 ∨ (sy_i F 0).toInt < v.toInt → x = -1 ∧ qC [] F F') ∧ (¬ (v.toInt < 0 ∨ (sy_i F 0).toInt < v.toInt) → x.toInt = (sy_i F 0).toInt - v.toInt ∧ qC [0] F F' ∧ (sy_i F' 0).toInt = (sy_i F 0).toInt - v.toInt))) := by
  have c1 := nz_bx hB (k := 0) (lo := 0) (hi := 2000) rfl
  refine C_T (by decide) [v] [.inl (.ref 8), .inr (.inl 82)] jm_ok82 (by decide) rfl (fun F0 k0 ki => ?_)
  have i82 : sy_i F0 82 = v := ki 0
  have e0 : (sy_i F0 0).toInt = (sy_i F 0).toInt := nz_fi (k0 0 (by decide))
  have z82 : (sy_i F0 82).toInt = v.toInt := congrArg Int32.toInt i82
  refine j3bq_0 (by decide) F0 X1 X2 (hd_iveq0 hB k0) (by intros; omega) ?_ ?_ ?_
  · intro c0 F1 hb1 gg
    exact ⟨_, F1, rfl, rfl, fun _ => ⟨rfl, qq_src (qq_mk hb1 gg (by decide)) k0⟩, fun h => absurd (Or.inl (by omega)) h⟩
  · intro c0 c2 F1 hb1 gg f0 i0
    exact ⟨_, F1, rfl, rfl, fun h => absurd h (by omega), fun _ => ⟨by rw [nz_sub rfl rfl (by omega) (by omega)]; omega, qq_src (qq_mk hb1 gg (by decide)) k0, by omega⟩⟩
  · intro c0 c2 F1 hb1 gg
    exact ⟨_, F1, rfl, rfl, fun _ => ⟨rfl, qq_src (qq_mk hb1 gg (by decide)) k0⟩, fun h => absurd (Or.inr (by omega)) h⟩
theorem j3tq_V (F : Nat → sy_d) (hB : iv_in F iv_B0) (a b : Int32) : jm_T Ls xs 2 jm_M108 [.ref 8, .int a, .int b] (sy_dh F X1 X2 (iv_H 3)) 0 0 (pI 3 X1 X2 (fun x F' => (¬ ((1 ≤ a.toInt ∧ a.toInt ≤ 9) ∧ (0 ≤ b.toInt ∧ b.toInt ≤ 9) ∧ (sy_i F 79).toInt < 7) → x = -1 ∧ qC [] F F') ∧ ((1 ≤ a.toInt ∧ a.toInt ≤ 9) ∧ (0 ≤ b.toInt ∧ b.toInt ≤ 9) ∧ (sy_i F 79).toInt < 7 → x.toInt = (sy_i F 79).toInt ∧ qC [79, 80, 81] F F' ∧ (sy_i F' 79).toInt = (sy_i F 79).toInt + 1 ∧ sy_ai F' 80 = jm_upd (sy_ai F 80) (sy_i F 79).toInt.toNat a ∧ sy_ai F' 81 = jm_upd (sy_ai F 81) (sy_i F 79).toInt.toNat b))) := by
  have c1 := nz_bx hB (k := 79) (lo := 0) (hi := 7) rfl
  refine C_T (by decide) [a, b] [.inl (.ref 8), .inr (.inl 82), .inr (.inl 83)] jm_ok108 (by decide) rfl (fun F0 k0 ki => ?_)
  have i82 : sy_i F0 82 = a := ki 0
  have i83 : sy_i F0 83 = b := ki 1
  have e0 : sy_i F0 79 = sy_i F 79 := eI (k0 79 (by decide))
  have z82 : (sy_i F0 82).toInt = a.toInt := congrArg Int32.toInt i82
  have z83 : (sy_i F0 83).toInt = b.toInt := congrArg Int32.toInt i83
  have z79 : (sy_i F0 79).toInt = (sy_i F 79).toInt := congrArg Int32.toInt e0
  have no : ∀ F1 : Nat → sy_d, iv_in F1 iv_B0 → (∀ j, j < 82 → j ∉ ([] : List Nat) → F1 j = F0 j) → ¬ ((1 ≤ a.toInt ∧ a.toInt ≤ 9) ∧ (0 ≤ b.toInt ∧ b.toInt ≤ 9) ∧ (sy_i F 79).toInt < 7) → pI 3 X1 X2 (fun x F' => (¬ ((1 ≤ a.toInt ∧ a.toInt ≤ 9) ∧ (0 ≤ b.toInt ∧ b.toInt ≤ 9) ∧ (sy_i F 79).toInt < 7) → x = -1 ∧ qC [] F F') ∧ ((1 ≤ a.toInt ∧ a.toInt ≤ 9) ∧ (0 ≤ b.toInt ∧ b.toInt ≤ 9) ∧ (sy_i F 79).toInt < 7 → x.toInt = (sy_i F 79).toInt ∧ qC [79, 80, 81] F F' ∧ (sy_i F' 79).toInt = (sy_i F 79).toInt + 1 ∧ sy_ai F' 80 = jm_upd (sy_ai F 80) (sy_i F 79).toInt.toNat a ∧ sy_ai F' 81 = jm_upd (sy_ai F 81) (sy_i F 79).toInt.toNat b)) (some (.int (-1 : Int32))) (sy_dh F1 X1 X2 (iv_H 3)) := fun F1 hb1 gg h => ⟨_, F1, rfl, rfl, fun _ => ⟨rfl, qq_src (qq_mk hb1 gg (by decide)) k0⟩, fun z => absurd z h⟩
  refine j3tq_0 (by decide) F0 X1 X2 (hd_iveq0 hB k0) ?_ ?_ ?_ ?_ ?_ ?_
  · intro d1 F1 hb1 gg
    exact no F1 hb1 gg (by omega)
  · intro d1 d2 F1 hb1 gg
    exact no F1 hb1 gg (by omega)
  · intro d1 d2 d3 F1 hb1 gg
    exact no F1 hb1 gg (by omega)
  · intro d1 d2 d3 d4 F1 hb1 gg
    exact no F1 hb1 gg (by omega)
  · intro d1 d2 d3 d4 d5 F1 hb1 gg f79 i79 a80 a81
    rw [i82, e0, nz_fa (k0 80 (by decide))] at a80
    rw [i83, e0, nz_fa (k0 81 (by decide))] at a81
    have o1 : (1 : Int32).toInt = 1 := by decide
    exact ⟨_, F1, rfl, rfl, fun h => absurd (by omega) h, fun _ => ⟨by rw [nz_sub (nz_add rfl o1 (by omega) (by omega)) o1 (by omega) (by omega)]; omega, qq_src (qq_mk hb1 gg (by decide)) k0, by omega, a80, a81⟩⟩
  · intro d1 d2 d3 d4 d5 F1 hb1 gg
    exact no F1 hb1 gg (by omega)
theorem j3fd_V (F : Nat → sy_d) (hB : iv_in F iv_B0) (a b c d e : Int32) : jm_T Ls xs 2 jm_M81 [.ref 8, .int a, .int b, .int c, .int d, .int e] (sy_dh F X1 X2 (iv_H 3)) 0 0 (pI 3 X1 X2 (fun x F' => (2000 < (sy_i F 0).toInt + 20 → x = -1 ∧ qC [] F F') ∧ (¬ 2000 < (sy_i F 0).toInt + 20 → x.toInt = (sy_i F 0).toInt + 20 ∧ qC [0, 2] F F' ∧ (sy_i F' 0).toInt = (sy_i F 0).toInt + 20 ∧ ub (sy_ai F' 2) ((sy_i F 0).toInt + 20).toNat = apB (apB (apB (apB (apB (ub (sy_ai F 2) (sy_i F 0).toInt.toNat) (sy_i F 0).toInt.toNat a) ((sy_i F 0).toInt.toNat + 4) b) ((sy_i F 0).toInt.toNat + 8) c) ((sy_i F 0).toInt.toNat + 12) d) ((sy_i F 0).toInt.toNat + 16) e))) := by
  obtain ⟨F0, hF0⟩ : ∃ F0, F0 = ny F (fun j => .inl (.int (if j = 0 then a else if j = 1 then b else if j = 2 then c else if j = 3 then d else e))) := ⟨_, rfl⟩
  have k0 : ∀ j, j < 82 → F0 j = F j := fun j hj => by rw [hF0]; exact ny_lt j hj
  have i82 : sy_i F0 82 = a := by rw [hF0]; rfl
  have i83 : sy_i F0 83 = b := by rw [hF0]; rfl
  have i84 : sy_i F0 84 = c := by rw [hF0]; rfl
  have i85 : sy_i F0 85 = d := by rw [hF0]; rfl
  have i86 : sy_i F0 86 = e := by rw [hF0]; rfl
  have hB0 := hd_iveq0 hB k0
  have e00 : (sy_i F0 0).toInt = (sy_i F 0).toInt := nz_fi (k0 0 (by decide))
  have c1 := nz_bx hB0 (k := 0) (lo := 0) (hi := 2000) rfl
  refine nyy_T (by decide) F (fun j => .inl (.int (if j = 0 then a else if j = 1 then b else if j = 2 then c else if j = 3 then d else e))) X1 X2 (A := [.inl (.ref 8), .inr (.inl 82), .inr (.inl 83), .inr (.inl 84), .inr (.inl 85), .inr (.inl 86)]) jm_ok81 (by decide) rfl ?_
  rw [← hF0]
  refine k3ofd_0 (by decide) F0 X1 X2 hB0 ?_ ?_
  · intro q F1 hb g e0 e1 e79 a2 a78 f82 f83 f84 f85 f86
    have hn : ¬ 2000 < (sy_i F 0).toInt + 20 := by omega
    obtain ⟨t, ht⟩ : ∃ t : Nat, t = (sy_i F0 0).toInt.toNat := ⟨_, rfl⟩
    have h1 : fC3 F0 F1 t (ub (sy_ai F0 2) t) := ⟨hb, fun j hj hn => g j hj (by simp), by omega, by rw [a2]⟩
    have v0 : sy_i F1 82 = sy_i F0 82 := Int32.toInt_inj.mp f82
    have v1 : sy_i F1 83 = sy_i F0 83 := Int32.toInt_inj.mp f83
    have v2 : sy_i F1 84 = sy_i F0 84 := Int32.toInt_inj.mp f84
    have v3 : sy_i F1 85 = sy_i F0 85 := Int32.toInt_inj.mp f85
    have v4 : sy_i F1 86 = sy_i F0 86 := Int32.toInt_inj.mp f86
    refine hd_calV (R := fun F' => fC3 F0 F' (t + 4) (apB (ub (sy_ai F0 2) t) (t) (sy_i F0 82))) (nh := 82) (nv := 87) (s := 3) (s1 := 3) (d1 := 1) (M1 := jm_M116) (As := [.inl (.ref 8), .inr (.inl 82)]) (rest := []) jm_ok81 rfl rfl (by decide) (by decide +kernel) (by rw [← v0]; exact k3oap_T X1 X2 F0 F1 h1 (by omega) _) (fun G0 H0 hR0 p0 r0 => ?_)
    have h0a := fC3_eq hR0 p0
    have w0_1 : sy_i G0 83 = sy_i F0 83 := (show sy_i G0 83 = sy_i F1 83 by unfold sy_i; rw [r0 83 (by decide) (by decide)]).trans v1
    have w0_2 : sy_i G0 84 = sy_i F0 84 := (show sy_i G0 84 = sy_i F1 84 by unfold sy_i; rw [r0 84 (by decide) (by decide)]).trans v2
    have w0_3 : sy_i G0 85 = sy_i F0 85 := (show sy_i G0 85 = sy_i F1 85 by unfold sy_i; rw [r0 85 (by decide) (by decide)]).trans v3
    have w0_4 : sy_i G0 86 = sy_i F0 86 := (show sy_i G0 86 = sy_i F1 86 by unfold sy_i; rw [r0 86 (by decide) (by decide)]).trans v4
    refine k3ofd_20 (by decide) G0 X1 X2 h0a.1 ?_
    intro K0 kb0 kg0 z0_e0 z0_e1 z0_e79 z0_a2 z0_a78 y0_0 y0_1 y0_2 y0_3 y0_4
    have h0b := fC3_eq h0a (fun j hj => kg0 j hj (by simp))
    have u0_1 : sy_i K0 83 = sy_i F0 83 := (Int32.toInt_inj.mp y0_1).trans w0_1
    have u0_2 : sy_i K0 84 = sy_i F0 84 := (Int32.toInt_inj.mp y0_2).trans w0_2
    have u0_3 : sy_i K0 85 = sy_i F0 85 := (Int32.toInt_inj.mp y0_3).trans w0_3
    have u0_4 : sy_i K0 86 = sy_i F0 86 := (Int32.toInt_inj.mp y0_4).trans w0_4
    refine hd_calV (R := fun F' => fC3 F0 F' (t + 4 + 4) (apB (apB (ub (sy_ai F0 2) t) (t) (sy_i F0 82)) (t + 4) (sy_i F0 83))) (nh := 82) (nv := 87) (s := 3) (s1 := 3) (d1 := 1) (M1 := jm_M116) (As := [.inl (.ref 8), .inr (.inl 83)]) (rest := []) jm_ok81 rfl rfl (by decide) (by decide +kernel) (by rw [← u0_1]; exact k3oap_T X1 X2 F0 K0 h0b (by omega) _) (fun G1 H1 hR1 p1 r1 => ?_)
    have h1a := fC3_eq hR1 p1
    have w1_2 : sy_i G1 84 = sy_i F0 84 := (show sy_i G1 84 = sy_i K0 84 by unfold sy_i; rw [r1 84 (by decide) (by decide)]).trans u0_2
    have w1_3 : sy_i G1 85 = sy_i F0 85 := (show sy_i G1 85 = sy_i K0 85 by unfold sy_i; rw [r1 85 (by decide) (by decide)]).trans u0_3
    have w1_4 : sy_i G1 86 = sy_i F0 86 := (show sy_i G1 86 = sy_i K0 86 by unfold sy_i; rw [r1 86 (by decide) (by decide)]).trans u0_4
    refine k3ofd_25 (by decide) G1 X1 X2 h1a.1 ?_
    intro K1 kb1 kg1 z1_e0 z1_e1 z1_e79 z1_a2 z1_a78 y1_0 y1_1 y1_2 y1_3 y1_4
    have h1b := fC3_eq h1a (fun j hj => kg1 j hj (by simp))
    have u1_2 : sy_i K1 84 = sy_i F0 84 := (Int32.toInt_inj.mp y1_2).trans w1_2
    have u1_3 : sy_i K1 85 = sy_i F0 85 := (Int32.toInt_inj.mp y1_3).trans w1_3
    have u1_4 : sy_i K1 86 = sy_i F0 86 := (Int32.toInt_inj.mp y1_4).trans w1_4
    refine hd_calV (R := fun F' => fC3 F0 F' (t + 4 + 4 + 4) (apB (apB (apB (ub (sy_ai F0 2) t) (t) (sy_i F0 82)) (t + 4) (sy_i F0 83)) (t + 4 + 4) (sy_i F0 84))) (nh := 82) (nv := 87) (s := 3) (s1 := 3) (d1 := 1) (M1 := jm_M116) (As := [.inl (.ref 8), .inr (.inl 84)]) (rest := []) jm_ok81 rfl rfl (by decide) (by decide +kernel) (by rw [← u1_2]; exact k3oap_T X1 X2 F0 K1 h1b (by omega) _) (fun G2 H2 hR2 p2 r2 => ?_)
    have h2a := fC3_eq hR2 p2
    have w2_3 : sy_i G2 85 = sy_i F0 85 := (show sy_i G2 85 = sy_i K1 85 by unfold sy_i; rw [r2 85 (by decide) (by decide)]).trans u1_3
    have w2_4 : sy_i G2 86 = sy_i F0 86 := (show sy_i G2 86 = sy_i K1 86 by unfold sy_i; rw [r2 86 (by decide) (by decide)]).trans u1_4
    refine k3ofd_30 (by decide) G2 X1 X2 h2a.1 ?_
    intro K2 kb2 kg2 z2_e0 z2_e1 z2_e79 z2_a2 z2_a78 y2_0 y2_1 y2_2 y2_3 y2_4
    have h2b := fC3_eq h2a (fun j hj => kg2 j hj (by simp))
    have u2_3 : sy_i K2 85 = sy_i F0 85 := (Int32.toInt_inj.mp y2_3).trans w2_3
    have u2_4 : sy_i K2 86 = sy_i F0 86 := (Int32.toInt_inj.mp y2_4).trans w2_4
    refine hd_calV (R := fun F' => fC3 F0 F' (t + 4 + 4 + 4 + 4) (apB (apB (apB (apB (ub (sy_ai F0 2) t) (t) (sy_i F0 82)) (t + 4) (sy_i F0 83)) (t + 4 + 4) (sy_i F0 84)) (t + 4 + 4 + 4) (sy_i F0 85))) (nh := 82) (nv := 87) (s := 3) (s1 := 3) (d1 := 1) (M1 := jm_M116) (As := [.inl (.ref 8), .inr (.inl 85)]) (rest := []) jm_ok81 rfl rfl (by decide) (by decide +kernel) (by rw [← u2_3]; exact k3oap_T X1 X2 F0 K2 h2b (by omega) _) (fun G3 H3 hR3 p3 r3 => ?_)
    have h3a := fC3_eq hR3 p3
    have w3_4 : sy_i G3 86 = sy_i F0 86 := (show sy_i G3 86 = sy_i K2 86 by unfold sy_i; rw [r3 86 (by decide) (by decide)]).trans u2_4
    refine k3ofd_36 (by decide) G3 X1 X2 h3a.1 ?_
    intro K3 kb3 kg3 z3_e0 z3_e1 z3_e79 z3_a2 z3_a78 y3_0 y3_1 y3_2 y3_3 y3_4
    have h3b := fC3_eq h3a (fun j hj => kg3 j hj (by simp))
    have u3_4 : sy_i K3 86 = sy_i F0 86 := (Int32.toInt_inj.mp y3_4).trans w3_4
    refine hd_calV (R := fun F' => fC3 F0 F' (t + 4 + 4 + 4 + 4 + 4) (apB (apB (apB (apB (apB (ub (sy_ai F0 2) t) (t) (sy_i F0 82)) (t + 4) (sy_i F0 83)) (t + 4 + 4) (sy_i F0 84)) (t + 4 + 4 + 4) (sy_i F0 85)) (t + 4 + 4 + 4 + 4) (sy_i F0 86))) (nh := 82) (nv := 87) (s := 3) (s1 := 3) (d1 := 1) (M1 := jm_M116) (As := [.inl (.ref 8), .inr (.inl 86)]) (rest := []) jm_ok81 rfl rfl (by decide) (by decide +kernel) (by rw [← u3_4]; exact k3oap_T X1 X2 F0 K3 h3b (by omega) _) (fun G4 H4 hR4 p4 r4 => ?_)
    have h4a := fC3_eq hR4 p4
    refine k3ofd_42 (by decide) G4 X1 X2 h4a.1 ?_
    intro F9 kb kg z_e0 z_e1 z_e79 z_a2 z_a78
    have h6 := h4a
    have q5 := fC3_eq h4a (fun j hj => kg j hj (by simp))
    have w5 := q5.2.2.1
    have w6 := h6.2.2.1
    refine ⟨_, F9, rfl, rfl, fun h => absurd h hn, fun _ => ⟨by omega, ⟨q5.1, fun j hj hn => (q5.2.1 j hj hn).trans (k0 j hj)⟩, by omega, ?_⟩⟩
    have hA := q5.2.2.2
    rw [i82, i83, i84, i85, i86, nz_fa (k0 2 (by decide))] at hA
    have ht2 : (sy_i F 0).toInt.toNat = t := by omega
    rw [ht2, show ((sy_i F 0).toInt + 20).toNat = t + 4 + 4 + 4 + 4 + 4 by omega]
    exact hA
  · intro q F1 hb g e0 e1 e79 a2 a78
    have hn : 2000 < (sy_i F 0).toInt + 20 := by omega
    exact ⟨_, F1, rfl, rfl, fun _ => ⟨rfl, qq_src (qq_mk hb g (by decide)) k0⟩, fun h => absurd hn h⟩
end TT3
end
section
/-! ===== the class reads: what is behind it (shape 3) ===== -/
section RV3
variable {Ls : Nat} {xs : Nat → Int32} (X1 X2 : List jm_c)
noncomputable def j3rdP (F : Nat → sy_d) (B : Nat → Int) (e : Nat) (v : Option Value) (G : jm_h) : Prop := ∃ (r : Int32) (t : Nat) (F' : Nat → sy_d), v = some (.int r) ∧ G = sy_dh F' X1 X2 (iv_H t) ∧ r.toInt = (rdA B e).1 ∧ iv_in F' iv_B0 ∧ jx_ok F' ∧ sy_al F' 42 = wls ∧ (sy_i F' 0).toInt = 0 ∧ (sy_i F' 1).toInt = (rdA B e).2 ∧ ((rdA B e).1 ≠ 0 → t = 3 ∧ ∀ j, j < 82 → j ∉ (0 :: 1 :: 39 :: 40 :: 41 :: 35 :: k3_WP) → F' j = F j) ∧ ((rdA B e).1 = 0 → t = 1 ∧ xC 3 (rdT B e) F' ∧ gC 50 (nfS (rdT B e)) (nbS (rdT B e)) F' (begS (rdT B e)) ∧ rstC 3 (rdT B e) F' ∧ (sy_i F' 75).toInt = 0 ∧ (sy_i F' 74).toInt = 0 ∧ (sy_i F' 79).toInt = 0 ∧ ∀ j, j < 3 → (sy_ai F' 78).getD j 0 = 0)
theorem j3rd_V (F : Nat → sy_d) (hB : iv_in F iv_B0) (hJ : jx_ok F) (hw : sy_al F 42 = wls) : jm_T Ls xs 29 jm_M83 [.ref 8] (sy_dh F X1 X2 (iv_H 3)) 0 0 (j3rdP X1 X2 F (ub (sy_ai F 2) (sy_i F 0).toInt.toNat) (sy_i F 0).toInt.toNat) := by
  have c0 := nz_bx hB (k := 0) (lo := 0) (hi := 2000) rfl
  refine hd_T (As := [.inl (.ref 8)]) jm_ok83 (by decide) (k3ord_0 (by decide) F X1 X2 hB ?_)
  intro F1 hb g e0 e1 e35 e79 a2 a78 f82
  have g1 : ∀ j, j < 82 → F1 j = F j := fun j hj => g j hj (by simp)
  refine hd_calI (R := fun x F' => gc (39 :: 40 :: 41 :: 35 :: k3_WP) F1 F' ∧ jx_ok F' ∧ x.toInt = (rdA (ub (sy_ai F1 2) (sy_i F 0).toInt.toNat) (sy_i F 0).toInt.toNat).1 ∧ (sy_i F' 35).toInt = (rdA (ub (sy_ai F1 2) (sy_i F 0).toInt.toNat) (sy_i F 0).toInt.toNat).2 ∧ (x.toInt = 0 → rXc 3 (rdT (ub (sy_ai F1 2) (sy_i F 0).toInt.toNat) (sy_i F 0).toInt.toNat) F' ∧ (sy_i F' 8).toInt ≤ 412)) (nh := 82) (nv := 82) (s := 3) (s1 := 3) (d1 := 28) (M1 := jm_M31) (As := [.inl (.ref 30), .inl (.ref 9), .inr (.inl 82), .inl (.ref 10)]) (rest := []) jm_ok83 rfl rfl (by decide) (by decide +kernel) (k3py_C X1 X2 F1 hb (jx_ok_eq (g1 39 (by decide)) (g1 41 (by decide)) hJ) ((nz_fl (g1 42 (by decide))).trans hw) _ (e := (sy_i F 0).toInt.toNat) (by omega) (by omega)) (fun F3 F' x hR p1 _ p3 => ?_)
  obtain ⟨r1, r2, r3, r4, r5⟩ := hR
  rw [a2] at r3 r4 r5
  have hb3 := hd_iveq0 r1.1 p1
  have m82 : (sy_i F3 82).toInt = (rdA (ub (sy_ai F 2) (sy_i F 0).toInt.toNat) (sy_i F 0).toInt.toNat).1 := by rw [zz_i p3, r3]
  have m35 : (sy_i F3 35).toInt = (rdA (ub (sy_ai F 2) (sy_i F 0).toInt.toNat) (sy_i F 0).toInt.toNat).2 := by rw [nz_fi (p1 35 (by decide)), r4]
  obtain ⟨B, eB⟩ : ∃ B, B = ub (sy_ai F 2) (sy_i F 0).toInt.toNat := ⟨_, rfl⟩
  obtain ⟨E, eE⟩ : ∃ E, E = (sy_i F 0).toInt.toNat := ⟨_, rfl⟩
  rw [← eB, ← eE] at m82 m35 r5
  rw [← eB, ← eE]
  have g3 : ∀ j, j < 82 → j ∉ (39 :: 40 :: 41 :: 35 :: k3_WP) → F3 j = F j := fun j hj hn => (p1 j hj).trans ((r1.2 j hj hn).trans (g1 j hj))
  have j3 : jx_ok F3 := jx_ok_eq (p1 39 (by decide)) (p1 41 (by decide)) r2
  have w3 : sy_al F3 42 = wls := (nz_fl (g3 42 (by decide) (by decide))).trans hw
  refine k3ord_19 (by decide) F3 X1 X2 hb3 ?_ ?_
  · intro q F4 hb4 g4 e0' e1' e35' e79' a2' a78'
    have gg : ∀ j, j < 82 → j ∉ (0 :: 1 :: 39 :: 40 :: 41 :: 35 :: k3_WP) → F4 j = F j := fun j hj hn => (g4 j hj (fun q => hn (by revert q; simp; omega))).trans (g3 j hj (fun q => hn (List.mem_cons_of_mem _ (List.mem_cons_of_mem _ q))))
    exact ⟨_, 3, F4, rfl, rfl, m82, hb4, jx_ok_eq (g4 39 (by decide) (by decide)) (g4 41 (by decide) (by decide)) j3, (nz_fl (g4 42 (by decide) (by decide))).trans w3, e0', e1'.trans m35, fun _ => ⟨rfl, gg⟩, fun z => absurd (m82.trans z) q⟩
  · intro q F4 hb4 g4 e0' e1' e35' e79' a2' a78' f82'
    have hA : (rdA B E).1 = 0 := m82.symm.trans q
    obtain ⟨x1, x2⟩ := r5 (by rw [← zz_i p3]; exact q)
    have hT : wT (rdT B E) := rdT_wf hA
    have f4 : ∀ j, j < 82 → j ≠ 0 → j ≠ 1 → F4 j = F' j := fun j hj n0 n1 => (g4 j hj (by simp; omega)).trans (p1 j hj)
    have j4 : jx_ok F4 := jx_ok_eq (g4 39 (by decide) (by decide)) (g4 41 (by decide) (by decide)) j3
    have c4 : xC 3 (rdT B E) F4 := ⟨hb4, rXc_e9 x1 (fun j h1 h2 h3 => f4 j (by omega) (by omega) (by omega)), hT, by rw [nz_fi (f4 8 (by decide) (by decide) (by decide))]; exact x2⟩
    refine hd_calV (R := fun F' => qC jw1_BE F4 F' ∧ gC 50 (nfS (rdT B E)) (nbS (rdT B E)) F' (begS (rdT B E)) ∧ rstC 3 (rdT B E) F' ∧ (sy_i F' 75).toInt = 0 ∧ (sy_i F' 74).toInt = 0 ∧ (sy_i F' 79).toInt = 0 ∧ ∀ j, j < 3 → (sy_ai F' 78).getD j 0 = 0) (nh := 82) (nv := 83) (s := 1) (s1 := 1) (d1 := 8) (M1 := jm_M117) (As := [.inl (.ref 8)]) (rest := []) jm_ok83 rfl rfl (by decide) (by decide +kernel) (j1be_V F4 X1 X2 c4 j4) (fun F5 F6 hR6 p5 u5 => ?_)
    obtain ⟨y1, y2, y3, y4, y5, y6, y7⟩ := hR6
    have n82 := nz_fi (u5 82 (by decide) (by decide))
    refine k1ord_62 (by decide) F5 X1 X2 (hd_iveq0 y1.1 p5) ?_
    intro F7 hb7 g7 e0'' e1'' e79'' a2'' a78''
    have p7 : ∀ j, j < 82 → F7 j = F6 j := fun j hj => (g7 j hj (by simp)).trans (p5 j hj)
    have q7 : qC jw1_BE F4 F7 := qC_dst y1 p7
    refine ⟨_, 1, F7, rfl, rfl, ?_, hb7, jx_ok_eq (q7.2 39 (by decide) (by decide)) (q7.2 41 (by decide) (by decide)) j4, ?_, ?_, ?_, fun z => absurd hA z, fun _ => ⟨rfl, xC_q (by decide) c4 q7 (by decide), gC_eq y2 (fun j h1 h2 => p7 j (by omega)), fun f hf => ?_, ?_, ?_, ?_, fun j hj => ?_⟩⟩
    · show (sy_i F5 82).toInt = _
      rw [n82, f82']
      exact m82
    · rw [nz_fl (q7.2 42 (by decide) (by decide)), nz_fl (g4 42 (by decide) (by decide))]
      exact w3
    · rw [nz_fi (q7.2 0 (by decide) (by decide))]
      exact e0'
    · rw [nz_fi (q7.2 1 (by decide) (by decide))]
      exact e1'.trans m35
    · rw [nz_fa (p7 (3 + 9) (by decide))]
      exact y3 f hf
    · rw [nz_fi (p7 75 (by decide))]
      exact y4
    · rw [nz_fi (p7 74 (by decide))]
      exact y5
    · rw [nz_fi (p7 79 (by decide))]
      exact y6
    · rw [nz_fa (p7 78 (by decide))]
      exact y7 j hj
end RV3
end
section
/-! ===== all that is seen and goes on: what is taped, the text, the ground, the grounds before, held ones, what is told ===== -/
abbrev fG : Type := sg × tX × gS × List gS × (Nat → gS) × (Nat → Int32 × Int32)
def bX (s : Nat) : Nat := if s < 2 then 3 else 18
theorem bX_or (s : Nat) : bX s = 3 ∨ bX s = 18 := by
  unfold bX
  split
  · exact Or.inl rfl
  · exact Or.inr rfl
def tdC (n : Int) (W : Nat → Int32 × Int32) (a b : List Int32) : Prop := ∀ i : Nat, (i : Int) < n → a.getD i 0 = (W i).1 ∧ b.getD i 0 = (W i).2
/-- a class whose text's cells are in shape s -/
noncomputable def xZ (s : Nat) (σ : fG) (F : Nat → sy_d) : Prop := (jx_ok F ∧ sy_al F 42 = wls ∧ ox F = σ.1) ∧ xC (bX s) σ.2.1 F ∧ gC 50 (nfS σ.2.1) (nbS σ.2.1) F σ.2.2.1 ∧ trC (nfS σ.2.1) (nbS σ.2.1) F σ.2.2.2.1 ∧ hlC (nfS σ.2.1) (nbS σ.2.1) F σ.2.2.2.2.1 ∧ tdC σ.1.2.2.2.1 σ.2.2.2.2.2 (sy_ai F 80) (sy_ai F 81) ∧ rstC (bX s) σ.2.1 F
noncomputable def mZ (σ : fG) (F : Nat → sy_d) : Prop := (jm_rpn F ∧ sy_al F 29 = wls ∧ om F = σ.1) ∧ cR σ.2.1 F ∧ gNw σ.2.1 F σ.2.2.1 ∧ hiR (nfS σ.2.1) (nbS σ.2.1) F σ.2.2.2.1 ∧ hrR (nfS σ.2.1) (nbS σ.2.1) F σ.2.2.2.2.1 ∧ tdC σ.1.2.2.2.1 σ.2.2.2.2.2 (sy_ai F 63) (sy_ai F 64)
def okG (T : tX) (g : gS) : Prop := okS T g ∧ ∀ f, f < nfS T → g 5 f = 0 ∨ g 5 f = 1
def okZ (σ : fG) : Prop := okG σ.2.1 σ.2.2.1 ∧ (∀ u, u ∈ σ.2.2.2.1 → okG σ.2.1 u) ∧ ∀ k, k < 3 → σ.1.2.2.2.2 k ≠ 0 → okG σ.2.1 (σ.2.2.2.2.1 k)
/-! what each call makes of it, and answers -/
noncomputable def t_feed (a b c d e : Int32) (σ : fG) : fG := (s_feed a b c d e σ.1, σ.2)
noncomputable def t_back (a : Int32) (σ : fG) : fG := (s_back a σ.1, σ.2)
noncomputable def t_read (σ : fG) : fG := if (rdA σ.1.2.1 σ.1.1.toNat).1 = 0 then (s_read σ.1, rdT σ.1.2.1 σ.1.1.toNat, begS (rdT σ.1.2.1 σ.1.1.toNat), [], σ.2.2.2.2) else (s_read σ.1, σ.2)
def c_go (b v : Int32) (σ : fG) : Prop := 0 ≤ b.toInt ∧ b.toInt < nbS σ.2.1 ∧ 0 ≤ v.toInt ∧ v.toInt ≤ 9 ∧ σ.2.2.1 7 b.toInt.toNat ≠ v
noncomputable def ifP {A : Type} (c : Prop) (a b : A) : A := @ite A c (Classical.propDecidable c) a b
theorem ifP_y {A : Type} {c : Prop} {a b : A} (h : c) : ifP c a b = a := @if_pos c (Classical.propDecidable c) h A a b
theorem ifP_n {A : Type} {c : Prop} {a b : A} (h : ¬ c) : ifP c a b = b := @if_neg c (Classical.propDecidable c) h A a b
noncomputable def t_go (b v : Int32) (σ : fG) : fG := ifP (c_go b v σ) (σ.1, σ.2.1, upS σ.2.2.1 7 b.toInt.toNat v, rmS σ.2.2.1 σ.2.2.2.1, σ.2.2.2.2) σ
noncomputable def a_go (b v : Int32) (σ : fG) : Int32 := ifP (c_go b v σ) 1 0
def c_prop (f v : Int32) (σ : fG) : Prop := 0 ≤ f.toInt ∧ f.toInt < nfS σ.2.1 ∧ (σ.2.2.1 2 f.toInt.toNat).toInt = 0 ∧ σ.2.2.1 5 f.toInt.toNat ≠ v
noncomputable def t_prop (f v : Int32) (σ : fG) : fG := ifP (c_prop f v σ) (σ.1, σ.2.1, upS σ.2.2.1 5 f.toInt.toNat v, rmS σ.2.2.1 σ.2.2.2.1, σ.2.2.2.2) σ
noncomputable def a_prop (f v : Int32) (σ : fG) : Int32 := ifP (c_prop f v σ) 1 0
def c_fr (f : Int32) (σ : fG) : Prop := 0 ≤ f.toInt ∧ f.toInt < nfS σ.2.1
def c_hang (f : Int32) (σ : fG) : Prop := (σ.2.2.1 2 f.toInt.toNat).toInt = 0
noncomputable def t_shake (f : Int32) (σ : fG) : fG := ifP (c_fr f σ ∧ c_hang f σ) (σ.1, σ.2.1, ifP (fdS σ.2.1 σ.2.2.1) (fndS σ.2.1 σ.2.2.1 f.toInt.toNat) (shkS σ.2.2.1 f.toInt.toNat), rmS σ.2.2.1 σ.2.2.2.1, σ.2.2.2.2) σ
noncomputable def a_shake (f : Int32) (σ : fG) : Int32 := ifP (c_fr f σ) (ifP (c_hang f σ) (ifP (fdS σ.2.1 σ.2.2.1) 1 0) (-2)) (-1)
noncomputable def sdT (σ : fG) : Int32 := Int32.ofInt σ.2.1.2.2.2.2.1
noncomputable def t_hours (n : Int32) (σ : fG) : fG := ifP (1 ≤ n.toInt ∧ n.toInt ≤ 48) (σ.1, σ.2.1, hrsS σ.2.1 (sdT σ) σ.2.2.1 n.toInt.toNat, rmS σ.2.2.1 σ.2.2.2.1, σ.2.2.2.2) σ
noncomputable def a_hours (n : Int32) (σ : fG) : Int32 := ifP (0 ≤ n.toInt ∧ n.toInt ≤ 48) (hrsS σ.2.1 (sdT σ) σ.2.2.1 n.toInt.toNat 9 0) (-1)
def t_undo (σ : fG) : fG := match σ.2.2.2.1 with
  | [] => σ
  | u :: U => (σ.1, σ.2.1, u, U, σ.2.2.2.2)
def a_undo (σ : fG) : Int32 := match σ.2.2.2.1 with
  | [] => 0
  | _ :: _ => 1
def c_tell (a b : Int32) (σ : fG) : Prop := (1 ≤ a.toInt ∧ a.toInt ≤ 9) ∧ (0 ≤ b.toInt ∧ b.toInt ≤ 9) ∧ σ.1.2.2.2.1 < 7
noncomputable def t_tell (a b : Int32) (σ : fG) : fG := (s_tell a b σ.1, σ.2.1, σ.2.2.1, σ.2.2.2.1, σ.2.2.2.2.1, ifP (c_tell a b σ) (fun i => if i = σ.1.2.2.2.1.toNat then (a, b) else σ.2.2.2.2.2 i) σ.2.2.2.2.2)
noncomputable def t_forget (σ : fG) : fG := (s_forget σ.1, σ.2)
noncomputable def t_hold (a : Int32) (σ : fG) : fG := (s_hold a σ.1, σ.2.1, σ.2.2.1, σ.2.2.2.1, ifP (0 ≤ a.toInt ∧ a.toInt ≤ 2) (fun j => if j = a.toInt.toNat then σ.2.2.1 else σ.2.2.2.2.1 j) σ.2.2.2.2.1, σ.2.2.2.2.2)
def c_rest (a : Int32) (σ : fG) : Prop := (0 ≤ a.toInt ∧ a.toInt ≤ 2) ∧ σ.1.2.2.2.2 a.toInt.toNat ≠ 0
noncomputable def t_rest (a : Int32) (σ : fG) : fG := ifP (c_rest a σ) (σ.1, σ.2.1, σ.2.2.2.2.1 a.toInt.toNat, [], σ.2.2.2.2) σ
/-! what holds stays so -/
section OK
variable {T : tX} {g : gS}
theorem okG_beg (hT : wT T) : okG T (begS T) := ⟨okS_beg hT, fun _ _ => Or.inl rfl⟩
theorem okG_go (h : okG T g) {b : Nat} {v : Int32} (hv : 0 ≤ v.toInt ∧ v.toInt ≤ 9) : okG T (upS g 7 b v) := by
  obtain ⟨⟨h1, h2, h3, h4⟩, h5⟩ := h
  refine ⟨⟨fun i hi => ?_, fun f hf z => ?_, fun f hf => ?_, ?_⟩, fun f hf => ?_⟩
  · by_cases q : i = b
    · rw [q, upS_s]
      exact hv
    · rw [upS_o (Or.inr q)]
      exact h1 i hi
  · rw [upS_o (Or.inl (by decide))] at z
    rw [upS_o (Or.inl (by decide)), upS_o (Or.inl (by decide))]
    exact h2 f hf z
  · rw [upS_o (Or.inl (by decide))]
    exact h3 f hf
  · rw [upS_o (Or.inl (by decide)), upS_o (Or.inl (by decide))]
    exact h4
  · rw [upS_o (Or.inl (by decide))]
    exact h5 f hf
theorem okG_prop (h : okG T g) {b : Nat} {v : Int32} (hv : v = 0 ∨ v = 1) : okG T (upS g 5 b v) := by
  obtain ⟨⟨h1, h2, h3, h4⟩, h5⟩ := h
  refine ⟨⟨fun i hi => ?_, fun f hf z => ?_, fun f hf => ?_, ?_⟩, fun f hf => ?_⟩
  · rw [upS_o (Or.inl (by decide))]
    exact h1 i hi
  · rw [upS_o (Or.inl (by decide))] at z
    rw [upS_o (Or.inl (by decide)), upS_o (Or.inl (by decide))]
    exact h2 f hf z
  · rw [upS_o (Or.inl (by decide))]
    exact h3 f hf
  · rw [upS_o (Or.inl (by decide)), upS_o (Or.inl (by decide))]
    exact h4
  · by_cases q : f = b
    · rw [q, upS_s]
      exact hv
    · rw [upS_o (Or.inr q)]
      exact h5 f hf
theorem okG_shk (h : okG T g) (b : Nat) : okG T (shkS g b) := by
  obtain ⟨⟨h1, h2, h3, h4⟩, h5⟩ := h
  have o : ∀ a i, a ≠ 6 → a ≠ 9 → shkS g b a i = g a i := fun a i z6 z9 => by
    unfold shkS
    rw [upS_o (Or.inl z9), upS_o (Or.inl z6)]
  refine ⟨⟨fun i hi => ?_, fun f hf z => ?_, fun f hf => ?_, ?_⟩, fun f hf => ?_⟩
  · rw [o _ _ (by decide) (by decide)]
    exact h1 i hi
  · rw [o _ _ (by decide) (by decide)] at z
    rw [o _ _ (by decide) (by decide), o _ _ (by decide) (by decide)]
    exact h2 f hf z
  · rw [o _ _ (by decide) (by decide)]
    exact h3 f hf
  · rw [(shkS_9 g b).2.2.1, (shkS_9 g b).2.2.2]
    exact h4
  · rw [o _ _ (by decide) (by decide)]
    exact h5 f hf
theorem okG_fnd (h : okG T g) (b : Nat) : okG T (fndS T g b) := by
  obtain ⟨⟨h1, h2, h3, h4⟩, h5⟩ := okG_shk h b
  have o : ∀ a i, a ≠ 9 → fndS T g b a i = shkS g b a i := fun a i z9 => by
    unfold fndS
    rw [upS_o (Or.inl z9), upS_o (Or.inl z9)]
  refine ⟨⟨fun i hi => ?_, fun f hf z => ?_, fun f hf => ?_, ?_⟩, fun f hf => ?_⟩
  · rw [o _ _ (by decide)]
    exact h1 i hi
  · rw [o _ _ (by decide)] at z
    rw [o _ _ (by decide), o _ _ (by decide)]
    exact h2 f hf z
  · rw [o _ _ (by decide)]
    exact h3 f hf
  · rw [(shkS_9 g b).2.2.1, (shkS_9 g b).2.2.2] at h4
    unfold fndS
    rw [upS_s, upS_o (Or.inr (by decide)), upS_s, h4, Int32.add_mul, Int32.one_mul]
  · rw [o _ _ (by decide)]
    exact h5 f hf
theorem okG_hrs (h : okG T g) (sd : Int32) (n : Nat) : okG T (hrsS T sd g n) := by
  refine ⟨okS_hrs h.1 n, fun f hf => ?_⟩
  have e : ∀ m : Nat, hrsS T sd g m 5 f = g 5 f := fun m => by
    induction m with
    | zero => rfl
    | succ m ih =>
      show hourS T sd (hrsS T sd g m) 5 f = _
      rw [hourS_o (by decide) (Or.inl (by decide)), p2_k _ _ _ (by omega)]
      exact ih
  rw [e n]
  exact h.2 f hf
theorem rmS_in {U : List gS} {u : gS} (h : u ∈ rmS g U) : u = g ∨ u ∈ U := by
  unfold rmS at h
  rcases List.mem_cons.mp h with z | z
  · exact Or.inl z
  · right
    split at z
    · exact List.dropLast_subset _ z
    · exact z
end OK
section OZ
variable {σ : fG}
theorem okZ_sg (h : okZ σ) {x : sg} (e : x.2.2.2.2 = σ.1.2.2.2.2) : okZ (x, σ.2) := ⟨h.1, h.2.1, fun k hk hz => h.2.2 k hk (by rw [← e]; exact hz)⟩
theorem okZ_feed (h : okZ σ) (a b c d e : Int32) : okZ (t_feed a b c d e σ) := okZ_sg h (by unfold s_feed; split <;> rfl)
theorem okZ_back (h : okZ σ) (a : Int32) : okZ (t_back a σ) := okZ_sg h (by unfold s_back; split <;> rfl)
theorem okZ_forget (h : okZ σ) : okZ (t_forget σ) := okZ_sg h rfl
theorem okZ_tell (h : okZ σ) (a b : Int32) : okZ (t_tell a b σ) := ⟨h.1, h.2.1, h.2.2⟩
theorem okZ_read (h : okZ σ) : okZ (t_read σ) := by
  unfold t_read
  by_cases q : (rdA σ.1.2.1 σ.1.1.toNat).1 = 0
  · rw [if_pos q]
    refine ⟨okG_beg (rdT_wf q), fun u hu => absurd hu List.not_mem_nil, fun k _ hz => absurd ?_ hz⟩
    show (s_read σ.1).2.2.2.2 k = 0
    unfold s_read
    rw [if_pos q]
  · rw [if_neg q]
    refine okZ_sg h ?_
    unfold s_read
    rw [if_neg q]
theorem okZ_step (h : okZ σ) {g : gS} (hg : okG σ.2.1 g) : okZ (σ.1, σ.2.1, g, rmS σ.2.2.1 σ.2.2.2.1, σ.2.2.2.2) := ⟨hg, fun u hu => by
  rcases rmS_in hu with z | z
  · rw [z]
    exact h.1
  · exact h.2.1 u z, h.2.2⟩
theorem okZ_go (h : okZ σ) (b v : Int32) : okZ (t_go b v σ) := by
  unfold t_go
  by_cases q : c_go b v σ
  · rw [ifP_y q]
    exact okZ_step h (okG_go h.1 ⟨q.2.2.1, q.2.2.2.1⟩)
  · rw [ifP_n q]
    exact h
theorem okZ_prop (h : okZ σ) (f : Int32) {v : Int32} (hv : v = 0 ∨ v = 1) : okZ (t_prop f v σ) := by
  unfold t_prop
  by_cases q : c_prop f v σ
  · rw [ifP_y q]
    exact okZ_step h (okG_prop h.1 hv)
  · rw [ifP_n q]
    exact h
theorem okZ_shake (h : okZ σ) (f : Int32) : okZ (t_shake f σ) := by
  unfold t_shake
  by_cases q : c_fr f σ ∧ c_hang f σ
  · rw [ifP_y q]
    refine okZ_step h ?_
    by_cases z : fdS σ.2.1 σ.2.2.1
    · rw [ifP_y z]
      exact okG_fnd h.1 _
    · rw [ifP_n z]
      exact okG_shk h.1 _
  · rw [ifP_n q]
    exact h
theorem okZ_hours (h : okZ σ) (n : Int32) : okZ (t_hours n σ) := by
  unfold t_hours
  by_cases q : 1 ≤ n.toInt ∧ n.toInt ≤ 48
  · rw [ifP_y q]
    exact okZ_step h (okG_hrs h.1 _ _)
  · rw [ifP_n q]
    exact h
theorem okZ_undo (h : okZ σ) : okZ (t_undo σ) := by
  unfold t_undo
  split
  · exact h
  · rename_i u U e
    exact ⟨h.2.1 u (by rw [e]; exact List.mem_cons_self), fun v hv => h.2.1 v (by rw [e]; exact List.mem_cons_of_mem _ hv), h.2.2⟩
theorem okZ_hold (h : okZ σ) (a : Int32) : okZ (t_hold a σ) := by
  refine ⟨h.1, h.2.1, fun k hk hz => ?_⟩
  show okG σ.2.1 ((ifP (0 ≤ a.toInt ∧ a.toInt ≤ 2) (fun j => if j = a.toInt.toNat then σ.2.2.1 else σ.2.2.2.2.1 j) σ.2.2.2.2.1) k)
  have hz : (s_hold a σ.1).2.2.2.2 k ≠ 0 := hz
  unfold s_hold at hz
  by_cases q : 0 ≤ a.toInt ∧ a.toInt ≤ 2
  · rw [ifP_y q]
    rw [if_pos q] at hz
    show okG σ.2.1 (if k = a.toInt.toNat then σ.2.2.1 else σ.2.2.2.2.1 k)
    by_cases z : k = a.toInt.toNat
    · rw [if_pos z]
      exact h.1
    · rw [if_neg z]
      have hz : (if k = a.toInt.toNat then 1 else σ.1.2.2.2.2 k) ≠ 0 := hz
      rw [if_neg z] at hz
      exact h.2.2 k hk hz
  · rw [ifP_n q]
    rw [if_neg q] at hz
    exact h.2.2 k hk hz
theorem okZ_rest (h : okZ σ) (a : Int32) : okZ (t_rest a σ) := by
  unfold t_rest
  by_cases q : c_rest a σ
  · rw [ifP_y q]
    exact ⟨h.2.2 _ (by have := q.1; omega) q.2, fun u hu => absurd hu List.not_mem_nil, h.2.2⟩
  · rw [ifP_n q]
    exact h
end OZ
/-! ===== a call of the class, of the reference ===== -/
noncomputable def oz1 (C2 : List jm_c) (σ : fG) (G : jm_h) : Prop := ∃ (t : Nat) (F : Nat → sy_d), t < 4 ∧ G = ((sy_dh F [] [] (iv_H t)).1, C2) ∧ xZ t σ F
noncomputable def oz2 (C1 : List jm_c) (σ : fG) (G : jm_h) : Prop := ∃ F : Nat → sy_d, G = (C1, (sy_dh F [] [] (iv_H 4)).2) ∧ mZ σ F
noncomputable def oz (G : jm_h) : Prop := ∃ (s : Nat) (F F2 : Nat → sy_d) (σ : fG), s < 4 ∧ G = ((sy_dh F [] [] (iv_H s)).1, (sy_dh F2 [] [] (iv_H 4)).2) ∧ xZ s σ F ∧ mZ σ F2 ∧ okZ σ
noncomputable def xzT (Ls : Nat) (xs : Nat → Int32) (M : jm_M) (As : List Value) (V : fG → Int32 → Prop) (f : fG → fG) : Prop := ∀ (s : Nat) (F : Nat → sy_d) (X2 : List jm_c) (σ : fG), s < 4 → xZ s σ F → okZ σ → ∃ d, d ≤ 60 ∧ jm_T Ls xs d M (.ref 8 :: As) ((sy_dh F [] [] (iv_H s)).1, X2) 0 0 (fun v G => (∃ r : Int32, v = some (.int r) ∧ V σ r) ∧ oz1 X2 (f σ) G)
noncomputable def mzT (Ls : Nat) (xs : Nat → Int32) (M : jm_M) (As : List Value) (V : fG → Int32 → Prop) (f : fG → fG) : Prop := ∃ d, d ≤ 60 ∧ ∀ (F : Nat → sy_d) (X1 : List jm_c) (σ : fG), mZ σ F → okZ σ → jm_T Ls xs d M (.ref 1000 :: As) (X1, (sy_dh F [] [] (iv_H 4)).2) 0 0 (fun v G => (∃ r : Int32, v = some (.int r) ∧ V σ r) ∧ oz2 X1 (f σ) G)
/-- both sides alike: a turn -/
theorem ozw_un_of {Ls : Nat} {xs : Nat → Int32} {kX kM : jm_M} {As : List Value} {V : fG → Int32 → Prop} {f : fG → fG} {G : jm_h} (hf : ∀ σ, okZ σ → okZ (f σ)) (hx : xzT Ls xs kX As V f) (hm : mzT Ls xs kM As V f) (hG : oz G) : ∃ (C2 : List jm_c) (σ : fG), (∃ F : Nat → sy_d, C2 = (sy_dh F [] [] (iv_H 4)).2) ∧ lw_un Ls xs kX kM As G (V σ) (oz1 C2 (f σ)) oz := by
  obtain ⟨s, F, F2, σ, hs, rfl, h1, h2, h3⟩ := hG
  obtain ⟨d1, hd1, k1⟩ := hx s F (sy_dh F2 [] [] (iv_H 4)).2 σ hs h1 h3
  obtain ⟨d2, hd2, k2⟩ := hm
  refine ⟨_, σ, ⟨F2, rfl⟩, d1, d2, hd1, hd2, k1, ?_⟩
  rintro G1 ⟨t, F', ht4, rfl, hF'⟩
  refine jm_T_mono (k2 F2 _ σ h2 h3) ?_
  rintro v G2 ⟨⟨r, hr, hV⟩, F3, rfl, hF3⟩
  exact ⟨⟨r, hr, hV⟩, t, F', F3, f σ, ht4, rfl, hF', hF3, hf σ h3⟩
theorem oz_8 : ∀ {G : jm_h}, oz G → ∃ fs, jm_g G 8 = some (.inr (9, fs)) := by
  rintro G ⟨s, F, F2, σ, hs, rfl, -⟩
  match s, hs with
  | 0, _ => exact ⟨_, rfl⟩
  | 1, _ => exact ⟨_, rfl⟩
  | 2, _ => exact ⟨_, rfl⟩
  | 3, _ => exact ⟨_, rfl⟩
  | n + 4, h => exact absurd h (by omega)
theorem oz1_1000 {C2 : List jm_c} {σ : fG} (h : ∃ F : Nat → sy_d, C2 = (sy_dh F [] [] (iv_H 4)).2) : ∀ G, oz1 C2 σ G → ∃ fs, jm_g G 1000 = some (.inr (10, fs)) := by
  obtain ⟨F, rfl⟩ := h
  rintro G ⟨t, F1, -, rfl, -⟩
  exact ⟨_, rfl⟩
/-! ===== what a call leaves ===== -/
theorem xZ_of {s : Nat} {σ σ' : fG} {F F1 : Nat → sy_d} {W : List Nat} (h : xZ s σ F) (q : qC W F F1) (hW : ∀ a ∈ W, a < 3 ∨ 43 ≤ a) (hT : σ'.2.1 = σ.2.1) (ho : ox F1 = σ'.1) (hg : gC 50 (nfS σ.2.1) (nbS σ.2.1) F1 σ'.2.2.1) (hu : trC (nfS σ.2.1) (nbS σ.2.1) F1 σ'.2.2.2.1) (hh : hlC (nfS σ.2.1) (nbS σ.2.1) F1 σ'.2.2.2.2.1) (ht : tdC σ'.1.2.2.2.1 σ'.2.2.2.2.2 (sy_ai F1 80) (sy_ai F1 81)) : xZ s σ' F1 := by
  have hb := bX_or s
  have n : ∀ j, 3 ≤ j → j < 43 → j ∉ W := fun j h1 h2 z => by have := hW j z; omega
  obtain ⟨⟨h1, h2, h3⟩, h4, h5, h6, h7, h8, h9⟩ := h
  refine ⟨⟨jx_ok_eq (q.2 39 (by decide) (n _ (by decide) (by decide))) (q.2 41 (by decide) (n _ (by decide) (by decide))) h1, (qq_l q (by decide) (n _ (by decide) (by decide))).trans h2, ho⟩, ?_, ?_, ?_, ?_, ht, ?_⟩
  · rw [hT]
    exact xC_q (by omega) h4 q (fun a ha => by have := hW a ha; omega)
  · rw [hT]
    exact hg
  · rw [hT]
    exact hu
  · rw [hT]
    exact hh
  · rw [hT]
    intro f hf
    rw [qq_a q (by omega) (n _ (by omega) (by omega))]
    exact h9 f hf
/-- nothing that counts changes -/
theorem xZ_q {s : Nat} {σ : fG} {F F1 : Nat → sy_d} {W : List Nat} (h : xZ s σ F) (q : qC W F F1) (hW : ∀ a ∈ W, (43 ≤ a ∧ a < 50) ∨ (62 ≤ a ∧ a < 74)) : xZ s σ F1 := by
  have n : ∀ j, j < 43 ∨ (50 ≤ j ∧ j < 62) ∨ 74 ≤ j → j ∉ W := fun j h1 z => by have := hW j z; omega
  have e : ∀ j, j < 82 → j < 43 ∨ (50 ≤ j ∧ j < 62) ∨ 74 ≤ j → F1 j = F j := fun j h1 h2 => q.2 j h1 (n j h2)
  obtain ⟨⟨h1, h2, h3⟩, h4, h5, h6, h7, h8, h9⟩ := id h
  refine xZ_of h q (fun a ha => by have := hW a ha; omega) rfl ?_ (gC_eq h5 (fun j h1 h2 => e j (by omega) (by omega))) (trC_eq h6 (e 74 (by decide) (by omega)) (e 75 (by decide) (by omega)) (e 76 (by decide) (by omega))) (hlC_eq h7 (e 77 (by decide) (by omega)) (e 78 (by decide) (by omega))) ?_
  · rw [ox_eq (e 0 (by decide) (by omega)) (e 1 (by decide) (by omega)) (e 2 (by decide) (by omega)) (e 78 (by decide) (by omega)) (e 79 (by decide) (by omega))]
    exact h3
  · rw [nz_fa (e 80 (by decide) (by omega)), nz_fa (e 81 (by decide) (by omega))]
    exact h8
abbrev KM : List Nat := [1, 10, 11, 20, 21, 23, 29, 54, 60, 63, 64, 67, 68]
theorem mZ_of {σ σ' : fG} {F F1 : Nat → sy_d} {W : List Nat} (h : mZ σ F) (q : qR W F F1) (hW : ∀ a ∈ W, (a < 31 ∨ 50 < a) ∧ a ≠ 11 ∧ a ≠ 29) (hT : σ'.2.1 = σ.2.1) (ho : om F1 = σ'.1) (hg : gNw σ.2.1 F1 σ'.2.2.1) (hu : hiR (nfS σ.2.1) (nbS σ.2.1) F1 σ'.2.2.2.1) (hh : hrR (nfS σ.2.1) (nbS σ.2.1) F1 σ'.2.2.2.2.1) (ht : tdC σ'.1.2.2.2.1 σ'.2.2.2.2.2 (sy_ai F1 63) (sy_ai F1 64)) : mZ σ' F1 := by
  have n : ∀ j, (31 ≤ j ∧ j ≤ 50) ∨ j = 11 ∨ j = 29 → j ∉ W := fun j h1 z => by have := hW j z; omega
  obtain ⟨⟨h1, h2, h3⟩, h4, h5, h6, h7, h8⟩ := h
  refine ⟨⟨jm_rpn_eq (fun p hp => q.2 p (by revert p; decide) (n p (by revert p; decide))) h1, (qq_l q (by decide) (n _ (by decide))).trans h2, ho⟩, ?_, ?_, ?_, ?_, ht⟩
  · rw [hT]
    exact cR_q h4 q (fun a ha => ⟨(hW a ha).1, (hW a ha).2.1⟩)
  · rw [hT]
    exact hg
  · rw [hT]
    exact hu
  · rw [hT]
    exact hh
theorem mZ_q {σ : fG} {F F1 : Nat → sy_d} {W : List Nat} (h : mZ σ F) (q : qR W F F1) (hW : ∀ a ∈ W, (a < 31 ∨ 50 < a) ∧ a ∉ KM) : mZ σ F1 := by
  have e : ∀ j, j ∈ KM → F1 j = F j := fun j hj => q.2 j (by revert j; decide) (fun z => (hW j z).2 hj)
  obtain ⟨⟨h1, h2, h3⟩, h4, h5, h6, h7, h8⟩ := id h
  refine mZ_of h q (fun a ha => ⟨(hW a ha).1, fun z => (hW a ha).2 (by rw [z]; decide), fun z => (hW a ha).2 (by rw [z]; decide)⟩) rfl ?_ (gNw_e F h5 (nz_fa (e 54 (by decide)))) (hiR_e h6 (e 20 (by decide)) (e 60 (by decide))) (hrR_e F h7 (e 67 (by decide)) (e 68 (by decide))) ?_
  · rw [om_eq (e 1 (by decide)) (e 10 (by decide)) (e 23 (by decide)) (e 67 (by decide)) (e 21 (by decide))]
    exact h3
  · rw [nz_fa (e 63 (by decide)), nz_fa (e 64 (by decide))]
    exact h8
section XP
variable {Ls : Nat} {xs : Nat → Int32}
/-- a contract of the class gives a turn -/
theorem xz_pI {s d : Nat} (hs : s < 4) (hd : d ≤ 60) {M : jm_M} {As : List Value} {F : Nat → sy_d} {X2 : List jm_c} {σ : fG} {V : fG → Int32 → Prop} {f : fG → fG} {P : Int32 → (Nat → sy_d) → Prop} (h : jm_T Ls xs d M (.ref 8 :: As) (sy_dh F [] X2 (iv_H s)) 0 0 (pI s [] X2 P)) (k : ∀ x F', P x F' → V σ x ∧ xZ s (f σ) F') : ∃ d, d ≤ 60 ∧ jm_T Ls xs d M (.ref 8 :: As) ((sy_dh F [] [] (iv_H s)).1, X2) 0 0 (fun v G => (∃ r : Int32, v = some (.int r) ∧ V σ r) ∧ oz1 X2 (f σ) G) := by
  refine ⟨d, hd, ?_⟩
  rw [← dh_x F [] X2 hs]
  refine jm_T_mono h ?_
  rintro v G ⟨x, F', rfl, rfl, hP⟩
  obtain ⟨k1, k2⟩ := k x F' hP
  exact ⟨⟨x, rfl, k1⟩, s, F', hs, dh_x F' [] X2 hs, k2⟩
theorem mz_pI {d : Nat} {M : jm_M} {As : List Value} {F : Nat → sy_d} {X1 : List jm_c} {σ : fG} {V : fG → Int32 → Prop} {f : fG → fG} {P : Int32 → (Nat → sy_d) → Prop} (h : jm_T Ls xs d M (.ref 1000 :: As) (sy_dh F X1 [] (iv_H 4)) 0 0 (pI 4 X1 [] P)) (k : ∀ x F', P x F' → V σ x ∧ mZ (f σ) F') : jm_T Ls xs d M (.ref 1000 :: As) (X1, (sy_dh F [] [] (iv_H 4)).2) 0 0 (fun v G => (∃ r : Int32, v = some (.int r) ∧ V σ r) ∧ oz2 X1 (f σ) G) := by
  rw [← dh_m F X1 []]
  refine jm_T_mono h ?_
  rintro v G ⟨x, F', rfl, rfl, hP⟩
  obtain ⟨k1, k2⟩ := k x F' hP
  exact ⟨⟨x, rfl, k1⟩, F', dh_m F' X1 [], k2⟩
theorem cnW {W : List Nat} {j : Nat} (h : j ∉ W) : W.contains j = false := by
  rw [← Bool.not_eq_true]
  intro z
  exact h (List.contains_iff_mem.mp z)
theorem octz_x {n s d : Nat} {Wr : List Nat} {A : List sy_v} {E : List iv_t} {r : iv_t} {M : jm_M} (as : List Int32) (h : ct_ok jj (n, A, s, [s], E, Wr, iv_B0, some r, d)) (hM : jm_TB[n]? = some M) (hs : s < 4) (hW : Wr.all (fun a => (decide (43 ≤ a) && decide (a < 50)) || (decide (62 ≤ a) && decide (a < 74))) = true) (hr : r.1 = 0) (hA : ∀ F, A.map (sy_dv (nx 82 F as)) = .ref 8 :: as.map .int) (hE : ∀ F, iv_in F iv_B0 → iv_in (nx 82 F as) E) (F : Nat → sy_d) (X2 : List jm_c) {σ : fG} (hZ : xZ s σ F) :
    jm_T Ls xs d M (.ref 8 :: as.map .int) ((sy_dh F [] [] (iv_H s)).1, X2) 0 0 (fun v G => (∃ x : Int32, v = some (.int x) ∧ True) ∧ oz1 X2 σ G) := by
  have k0 : ∀ j, j < 82 → nx 82 F as j = F j := nx_lt
  have hJ0 : jx_ok (nx 82 F as) := jx_ok_eq (k0 39 (by decide)) (k0 41 (by decide)) hZ.1.1
  rw [dh_nx hs k0, ← dh_x (nx 82 F as) [] X2 hs, ← hA F]
  refine jm_T_mono (h M hM Ls xs (nx 82 F as) [] X2 (hE F hZ.2.1.1) ((jj_x hs).mpr hJ0)) ?_
  rintro v G ⟨t, F', ht, hG, hf, hB', hv, hj⟩
  have e : t = s := List.mem_singleton.mp ht
  subst e
  have fr : ∀ j, j < 82 → j ∉ Wr → F' j = F j := fun j hj hn => (hf j (by
    show j < iv_nh t
    unfold iv_nh
    rw [if_neg (by omega)]
    exact hj) (cnW (W := Wr) hn)).trans (k0 j hj)
  obtain ⟨x, hx, -⟩ := iv_ri hv hr
  refine ⟨⟨x, hx, trivial⟩, t, F', hs, by rw [hG, dh_x F' [] X2 hs], xZ_q hZ ⟨hB', fr⟩ (fun a ha => ?_)⟩
  have := List.all_eq_true.mp hW a ha
  simp only [Bool.or_eq_true, Bool.and_eq_true, decide_eq_true_eq] at this
  exact this
theorem octz_m {n d : Nat} {Wr : List Nat} {A : List sy_v} {E : List iv_t} {r : iv_t} {M : jm_M} (as : List Int32) (h : ct_ok jj (n, A, 4, [4], E, Wr, iv_B4, some r, d)) (hM : jm_TB[n]? = some M) (hW : Wr.all (fun a => (decide (a < 31) || decide (50 < a)) && !(KM.contains a)) = true) (hr : r.1 = 0) (hA : ∀ F, A.map (sy_dv (nx 69 F as)) = .ref 1000 :: as.map .int) (hE : ∀ F, iv_in F iv_B4 → iv_in (nx 69 F as) E) (F : Nat → sy_d) (X1 : List jm_c) {σ : fG} (hZ : mZ σ F) :
    jm_T Ls xs d M (.ref 1000 :: as.map .int) (X1, (sy_dh F [] [] (iv_H 4)).2) 0 0 (fun v G => (∃ x : Int32, v = some (.int x) ∧ True) ∧ oz2 X1 σ G) := by
  have k0 : ∀ j, j < 69 → nx 69 F as j = F j := nx_lt
  have hJ0 : jm_rpn (nx 69 F as) := jm_rpn_eq (fun q hq => k0 q (by revert q; decide)) hZ.1.1
  rw [← dh_m F X1 [], nz_eH X1 [] k0, ← hA F]
  refine jm_T_mono (h M hM Ls xs (nx 69 F as) X1 [] (hE F hZ.2.1.1) hJ0) ?_
  rintro v G ⟨t, F', ht, hG, hf, hB', hv, hj⟩
  have ht : t ∈ [4] := ht
  have e : t = 4 := List.mem_singleton.mp ht
  subst e
  have fr : ∀ j, j < 69 → j ∉ Wr → F' j = F j := fun j hj hn => (hf j hj (cnW (W := Wr) hn)).trans (k0 j hj)
  obtain ⟨x, hx, -⟩ := iv_ri hv hr
  refine ⟨⟨x, hx, trivial⟩, F', by rw [hG, dh_m F' X1 []], mZ_q hZ ⟨hB', fr⟩ (fun a ha => ?_)⟩
  have := List.all_eq_true.mp hW a ha
  simp only [Bool.and_eq_true, Bool.or_eq_true, decide_eq_true_eq, Bool.not_eq_true'] at this
  exact ⟨this.1, by simpa using this.2⟩
end XP
end
section
/-! ===== what each call leaves, on the class's side ===== -/
section KX
variable {s : Nat} {R : tX × gS × List gS × (Nat → gS) × (Nat → Int32 × Int32)} {F F' : Nat → sy_d} {x : Int32}
theorem xZ_g {σ : fG} {W : List Nat} (h : xZ s σ F) (q : qC W F F') (hW : ∀ a ∈ W, 43 ≤ a ∧ a < 77) {g' : gS} {U' : List gS} (hg : gC 50 (nfS σ.2.1) (nbS σ.2.1) F' g') (hu : trC (nfS σ.2.1) (nbS σ.2.1) F' U') : xZ s (σ.1, σ.2.1, g', U', σ.2.2.2.2) F' := by
  have e : ∀ j, j < 82 → j < 43 ∨ 77 ≤ j → F' j = F j := fun j h1 h2 => q.2 j h1 (fun z => by have := hW j z; omega)
  refine xZ_of h q (fun a ha => Or.inr (hW a ha).1) rfl ?_ hg hu (hlC_eq h.2.2.2.2.1 (e 77 (by decide) (by omega)) (e 78 (by decide) (by omega))) ?_
  · rw [ox_eq (e 0 (by decide) (by omega)) (e 1 (by decide) (by omega)) (e 2 (by decide) (by omega)) (e 78 (by decide) (by omega)) (e 79 (by decide) (by omega))]
    exact h.1.2.2
  · rw [nz_fa (e 80 (by decide) (by omega)), nz_fa (e 81 (by decide) (by omega))]
    exact h.2.2.2.2.2.1
theorem xZ_0 {σ : fG} (h : xZ s σ F) (q : qC [] F F') : xZ s σ F' := xZ_q h q (fun a ha => absurd ha List.not_mem_nil)
/-- only what is seen of the tape, the told, the held changes -/
theorem xZ_s {σ : fG} {W : List Nat} (h : xZ s σ F) (q : qC W F F') (hW : ∀ a ∈ W, a < 3 ∨ 77 ≤ a) {x' : sg} {H' : Nat → gS} {W' : Nat → Int32 × Int32} (ho : ox F' = x') (hh : hlC (nfS σ.2.1) (nbS σ.2.1) F' H') (ht : tdC x'.2.2.2.1 W' (sy_ai F' 80) (sy_ai F' 81)) : xZ s (x', σ.2.1, σ.2.2.1, σ.2.2.2.1, H', W') F' := by
  have e : ∀ j, 3 ≤ j → j < 77 → F' j = F j := fun j h1 h2 => q.2 j (by omega) (fun z => by have := hW j z; omega)
  exact xZ_of h q (fun a ha => by have := hW a ha; omega) rfl ho (gC_eq h.2.2.1 (fun j h1 h2 => e j (by omega) (by omega))) (trC_eq h.2.2.2.1 (e 74 (by decide) (by decide)) (e 75 (by decide) (by decide)) (e 76 (by decide) (by decide))) hh ht
theorem kx_place (h : xZ s (ox F, R) F) (hP : x = sy_i F 1 ∧ qC [] F F') : x.toInt = (ox F).2.2.1 ∧ xZ s (ox F, R) F' := ⟨by rw [hP.1]; rfl, xZ_0 h hP.2⟩
theorem kx_feed (h : xZ s (ox F, R) F) {a b c d e : Int32} (hP : (2000 < (sy_i F 0).toInt + 20 → x = -1 ∧ qC [] F F') ∧ (¬ 2000 < (sy_i F 0).toInt + 20 → x.toInt = (sy_i F 0).toInt + 20 ∧ qC [0, 2] F F' ∧ (sy_i F' 0).toInt = (sy_i F 0).toInt + 20 ∧ ub (sy_ai F' 2) ((sy_i F 0).toInt + 20).toNat = apB (apB (apB (apB (apB (ub (sy_ai F 2) (sy_i F 0).toInt.toNat) (sy_i F 0).toInt.toNat a) ((sy_i F 0).toInt.toNat + 4) b) ((sy_i F 0).toInt.toNat + 8) c) ((sy_i F 0).toInt.toNat + 12) d) ((sy_i F 0).toInt.toNat + 16) e)) : x.toInt = a_feed (ox F) ∧ xZ s (t_feed a b c d e (ox F, R)) F' := by
  by_cases q : 2000 < (sy_i F 0).toInt + 20
  · obtain ⟨e1, q1⟩ := hP.1 q
    have q' : 2000 < (ox F).1 + 20 := q
    refine ⟨?_, ?_⟩
    · unfold a_feed
      rw [if_pos q', e1]
      decide
    · have e2 : t_feed a b c d e (ox F, R) = (ox F, R) := by
        unfold t_feed
        show (s_feed a b c d e (ox F), R) = _
        unfold s_feed
        rw [if_pos q']
      rw [e2]
      exact xZ_0 h q1
  · obtain ⟨e1, q1, e3, e4⟩ := hP.2 q
    have q' : ¬ 2000 < (ox F).1 + 20 := q
    refine ⟨?_, xZ_s h q1 (by decide) ?_ (hlC_eq h.2.2.2.2.1 (q1.2 77 (by decide) (by decide)) (q1.2 78 (by decide) (by decide))) ?_⟩
    · unfold a_feed
      rw [if_neg q']
      exact e1
    · show ox F' = s_feed a b c d e (ox F)
      unfold s_feed
      rw [if_neg q']
      exact ox0_mk e3 e4 (nz_fi (q1.2 1 (by decide) (by decide))) (nz_fi (q1.2 79 (by decide) (by decide))) (by rw [qq_a q1 (by decide) (by decide)])
    · show tdC (s_feed a b c d e (ox F)).2.2.2.1 _ _ _
      unfold s_feed
      rw [if_neg q', qq_a q1 (by decide) (by decide), qq_a q1 (by decide) (by decide)]
      exact h.2.2.2.2.2.1
theorem kx_back (h : xZ s (ox F, R) F) {v : Int32} (hP : (v.toInt < 0 ∨ (sy_i F 0).toInt < v.toInt → x = -1 ∧ qC [] F F') ∧ (¬ (v.toInt < 0 ∨ (sy_i F 0).toInt < v.toInt) → x.toInt = (sy_i F 0).toInt - v.toInt ∧ qC [0] F F' ∧ (sy_i F' 0).toInt = (sy_i F 0).toInt - v.toInt)) : x.toInt = a_back v (ox F) ∧ xZ s (t_back v (ox F, R)) F' := by
  by_cases q : v.toInt < 0 ∨ (sy_i F 0).toInt < v.toInt
  · obtain ⟨e1, q1⟩ := hP.1 q
    have q' : v.toInt < 0 ∨ (ox F).1 < v.toInt := q
    refine ⟨?_, ?_⟩
    · unfold a_back
      rw [if_pos q', e1]
      decide
    · have e2 : t_back v (ox F, R) = (ox F, R) := by
        unfold t_back
        show (s_back v (ox F), R) = _
        unfold s_back
        rw [if_pos q']
      rw [e2]
      exact xZ_0 h q1
  · obtain ⟨e1, q1, e3⟩ := hP.2 q
    have q' : ¬ (v.toInt < 0 ∨ (ox F).1 < v.toInt) := q
    refine ⟨?_, xZ_s h q1 (by decide) ?_ (hlC_eq h.2.2.2.2.1 (q1.2 77 (by decide) (by decide)) (q1.2 78 (by decide) (by decide))) ?_⟩
    · unfold a_back
      rw [if_neg q']
      exact e1
    · show ox F' = s_back v (ox F)
      unfold s_back
      rw [if_neg q']
      refine ox0_mk e3 ?_ (nz_fi (q1.2 1 (by decide) (by decide))) (nz_fi (q1.2 79 (by decide) (by decide))) (by rw [qq_a q1 (by decide) (by decide)])
      rw [qq_a q1 (by decide) (by decide), ub_cut (n := (sy_i F 0).toInt.toNat) (show ((ox F).1 - v.toInt).toNat ≤ _ from (show ((sy_i F 0).toInt - v.toInt).toNat ≤ (sy_i F 0).toInt.toNat by omega))]
      rfl
    · show tdC (s_back v (ox F)).2.2.2.1 _ _ _
      unfold s_back
      rw [if_neg q', qq_a q1 (by decide) (by decide), qq_a q1 (by decide) (by decide)]
      exact h.2.2.2.2.2.1
theorem kx_forget (h : xZ s (ox F, R) F) (hP : x = sy_i F 79 ∧ qC [79] F F' ∧ (sy_i F' 79).toInt = 0) : x.toInt = (ox F).2.2.2.1 ∧ xZ s (t_forget (ox F, R)) F' := by
  obtain ⟨e1, q1, e3⟩ := hP
  refine ⟨by rw [e1]; rfl, xZ_s h q1 (by decide) ?_ (hlC_eq h.2.2.2.2.1 (q1.2 77 (by decide) (by decide)) (q1.2 78 (by decide) (by decide))) ?_⟩
  · exact ox0_mk (nz_fi (q1.2 0 (by decide) (by decide))) (by rw [qq_a q1 (by decide) (by decide)]; rfl) (nz_fi (q1.2 1 (by decide) (by decide))) e3 (by rw [qq_a q1 (by decide) (by decide)]; rfl)
  · intro i hi
    have hi : (i : Int) < 0 := hi
    exact absurd hi (by omega)
theorem kx_tell (h : xZ s (ox F, R) F) {a b : Int32} (hP : (¬ ((1 ≤ a.toInt ∧ a.toInt ≤ 9) ∧ (0 ≤ b.toInt ∧ b.toInt ≤ 9) ∧ (sy_i F 79).toInt < 7) → x = -1 ∧ qC [] F F') ∧ ((1 ≤ a.toInt ∧ a.toInt ≤ 9) ∧ (0 ≤ b.toInt ∧ b.toInt ≤ 9) ∧ (sy_i F 79).toInt < 7 → x.toInt = (sy_i F 79).toInt ∧ qC [79, 80, 81] F F' ∧ (sy_i F' 79).toInt = (sy_i F 79).toInt + 1 ∧ sy_ai F' 80 = jm_upd (sy_ai F 80) (sy_i F 79).toInt.toNat a ∧ sy_ai F' 81 = jm_upd (sy_ai F 81) (sy_i F 79).toInt.toNat b)) : x.toInt = a_tell a b (ox F) ∧ xZ s (t_tell a b (ox F, R)) F' := by
  have c0 := nz_bx h.2.1.1 (k := 79) (lo := 0) (hi := 7) rfl
  by_cases q : (1 ≤ a.toInt ∧ a.toInt ≤ 9) ∧ (0 ≤ b.toInt ∧ b.toInt ≤ 9) ∧ (sy_i F 79).toInt < 7
  · obtain ⟨e1, q1, e3, e4, e5⟩ := hP.2 q
    have q' : (1 ≤ a.toInt ∧ a.toInt ≤ 9) ∧ (0 ≤ b.toInt ∧ b.toInt ≤ 9) ∧ (ox F).2.2.2.1 < 7 := q
    have qc : c_tell a b (ox F, R) := q
    refine ⟨?_, xZ_s h q1 (by decide) ?_ (hlC_eq h.2.2.2.2.1 (q1.2 77 (by decide) (by decide)) (q1.2 78 (by decide) (by decide))) ?_⟩
    · unfold a_tell
      rw [if_pos q']
      exact e1
    · show ox F' = s_tell a b (ox F)
      unfold s_tell
      rw [if_pos q']
      exact ox0_mk (nz_fi (q1.2 0 (by decide) (by decide))) (by rw [qq_a q1 (by decide) (by decide)]; rfl) (nz_fi (q1.2 1 (by decide) (by decide))) e3 (by rw [qq_a q1 (by decide) (by decide)]; rfl)
    · rw [ifP_y qc]
      intro i hi
      have hi : (i : Int) < (s_tell a b (ox F)).2.2.2.1 := hi
      unfold s_tell at hi
      rw [if_pos q'] at hi
      have hi : (i : Int) < (sy_i F 79).toInt + 1 := hi
      rw [e4, e5, jm_upd_at, jm_upd_at]
      show _ = (if i = (sy_i F 79).toInt.toNat then (a, b) else R.2.2.2.2 i).1 ∧ _ = (if i = (sy_i F 79).toInt.toNat then (a, b) else R.2.2.2.2 i).2
      by_cases z : i = (sy_i F 79).toInt.toNat
      · rw [if_pos z, if_pos z, if_pos z]
        exact ⟨rfl, rfl⟩
      · rw [if_neg z, if_neg z, if_neg z]
        exact h.2.2.2.2.2.1 i (show (i : Int) < (sy_i F 79).toInt by omega)
  · obtain ⟨e1, q1⟩ := hP.1 q
    have q' : ¬ ((1 ≤ a.toInt ∧ a.toInt ≤ 9) ∧ (0 ≤ b.toInt ∧ b.toInt ≤ 9) ∧ (ox F).2.2.2.1 < 7) := q
    have qc : ¬ c_tell a b (ox F, R) := q
    refine ⟨?_, ?_⟩
    · unfold a_tell
      rw [if_neg q', e1]
      decide
    · have e2 : t_tell a b (ox F, R) = (ox F, R) := by
        unfold t_tell
        rw [ifP_n qc]
        show (s_tell a b (ox F), R) = _
        unfold s_tell
        rw [if_neg q']
      rw [e2]
      exact xZ_0 h q1
theorem kx_hold (h : xZ s (ox F, R) F) {v : Int32} (hP : (¬ (0 ≤ v.toInt ∧ v.toInt ≤ 2) → x = 0 ∧ qC [] F F') ∧ (0 ≤ v.toInt ∧ v.toInt ≤ 2 → x = 1 ∧ qC [77, 78] F F' ∧ hlC (nfS R.1) (nbS R.1) F' (fun j => if j = v.toInt.toNat then R.2.1 else R.2.2.2.1 j) ∧ sy_ai F' 78 = jm_upd (sy_ai F 78) v.toInt.toNat 1)) : x.toInt = a_hold v (ox F) ∧ xZ s (t_hold v (ox F, R)) F' := by
  by_cases q : 0 ≤ v.toInt ∧ v.toInt ≤ 2
  · obtain ⟨e1, q1, e3, e4⟩ := hP.2 q
    refine ⟨?_, xZ_s h q1 (by decide) ?_ ?_ ?_⟩
    · unfold a_hold
      rw [if_pos q, e1]
      decide
    · show ox F' = s_hold v (ox F)
      unfold s_hold
      rw [if_pos q]
      refine ox0_mk (nz_fi (q1.2 0 (by decide) (by decide))) (by rw [qq_a q1 (by decide) (by decide)]; rfl) (nz_fi (q1.2 1 (by decide) (by decide))) (nz_fi (q1.2 79 (by decide) (by decide))) ?_
      rw [e4, hl_u (by omega)]
      rfl
    · rw [ifP_y q]
      exact e3
    · show tdC (s_hold v (ox F)).2.2.2.1 _ _ _
      unfold s_hold
      rw [if_pos q, qq_a q1 (by decide) (by decide), qq_a q1 (by decide) (by decide)]
      exact h.2.2.2.2.2.1
  · obtain ⟨e1, q1⟩ := hP.1 q
    refine ⟨?_, ?_⟩
    · unfold a_hold
      rw [if_neg q, e1]
      decide
    · have e2 : t_hold v (ox F, R) = (ox F, R) := by
        unfold t_hold
        rw [ifP_n q]
        show (s_hold v (ox F), R) = _
        unfold s_hold
        rw [if_neg q]
      rw [e2]
      exact xZ_0 h q1
theorem kx_rest (h : xZ s (ox F, R) F) {v : Int32} (hP : (¬ (0 ≤ v.toInt ∧ v.toInt ≤ 2 ∧ ((sy_ai F 78).getD v.toInt.toNat 0).toInt ≠ 0) → x = 0 ∧ qC [] F F') ∧ (0 ≤ v.toInt ∧ v.toInt ≤ 2 ∧ ((sy_ai F 78).getD v.toInt.toNat 0).toInt ≠ 0 → x = 1 ∧ qC (74 :: 75 :: [50, 51, 52, 53, 54, 55, 56, 57, 58, 59, 60, 61]) F F' ∧ gC 50 (nfS R.1) (nbS R.1) F' (R.2.2.2.1 v.toInt.toNat) ∧ trC (nfS R.1) (nbS R.1) F' [])) : x.toInt = a_rest v (ox F) ∧ xZ s (t_rest v (ox F, R)) F' := by
  have hc : c_rest v (ox F, R) ↔ (0 ≤ v.toInt ∧ v.toInt ≤ 2 ∧ ((sy_ai F 78).getD v.toInt.toNat 0).toInt ≠ 0) := by
    refine ⟨fun z => ⟨z.1.1, z.1.2, fun y => z.2 ?_⟩, fun z => ⟨⟨z.1, z.2.1⟩, fun y => z.2.2 ?_⟩⟩
    · show hl3 (sy_ai F 78) v.toInt.toNat = 0
      unfold hl3
      rw [if_pos (by have := z.1; omega)]
      exact y
    · have y : hl3 (sy_ai F 78) v.toInt.toNat = 0 := y
      unfold hl3 at y
      rw [if_pos (by omega)] at y
      exact y
  by_cases q : c_rest v (ox F, R)
  · obtain ⟨e1, q1, e3, e4⟩ := hP.2 (hc.mp q)
    refine ⟨?_, ?_⟩
    · unfold a_rest
      rw [if_pos (show (0 ≤ v.toInt ∧ v.toInt ≤ 2) ∧ (ox F).2.2.2.2 v.toInt.toNat ≠ 0 from q), e1]
      decide
    · unfold t_rest
      rw [ifP_y q]
      exact xZ_g h q1 (by decide) e3 e4
  · obtain ⟨e1, q1⟩ := hP.1 (fun z => q (hc.mpr z))
    refine ⟨?_, ?_⟩
    · unfold a_rest
      rw [if_neg (show ¬ ((0 ≤ v.toInt ∧ v.toInt ≤ 2) ∧ (ox F).2.2.2.2 v.toInt.toNat ≠ 0) from q), e1]
      decide
    · unfold t_rest
      rw [ifP_n q]
      exact xZ_0 h q1
theorem kx_go (h : xZ s (ox F, R) F) {b v : Int32} (hP : (¬ c_go b v (ox F, R) → x = 0 ∧ qC [] F F') ∧ (c_go b v (ox F, R) → x = 1 ∧ qC [60, 74, 75, 76] F F' ∧ gC 50 (nfS R.1) (nbS R.1) F' (upS R.2.1 7 b.toInt.toNat v) ∧ trC (nfS R.1) (nbS R.1) F' (rmS R.2.1 R.2.2.1))) : x = a_go b v (ox F, R) ∧ xZ s (t_go b v (ox F, R)) F' := by
  unfold a_go t_go
  by_cases q : c_go b v (ox F, R)
  · obtain ⟨e1, q1, e3, e4⟩ := hP.2 q
    rw [ifP_y q, ifP_y q]
    exact ⟨e1, xZ_g h q1 (by decide) e3 e4⟩
  · obtain ⟨e1, q1⟩ := hP.1 q
    rw [ifP_n q, ifP_n q]
    exact ⟨e1, xZ_0 h q1⟩
theorem kx_prop (h : xZ s (ox F, R) F) {b v : Int32} (hP : (¬ c_prop b v (ox F, R) → x = 0 ∧ qC [] F F') ∧ (c_prop b v (ox F, R) → x = 1 ∧ qC [57, 74, 75, 76] F F' ∧ gC 50 (nfS R.1) (nbS R.1) F' (upS R.2.1 5 b.toInt.toNat v) ∧ trC (nfS R.1) (nbS R.1) F' (rmS R.2.1 R.2.2.1))) : x = a_prop b v (ox F, R) ∧ xZ s (t_prop b v (ox F, R)) F' := by
  unfold a_prop t_prop
  by_cases q : c_prop b v (ox F, R)
  · obtain ⟨e1, q1, e3, e4⟩ := hP.2 q
    rw [ifP_y q, ifP_y q]
    exact ⟨e1, xZ_g h q1 (by decide) e3 e4⟩
  · obtain ⟨e1, q1⟩ := hP.1 q
    rw [ifP_n q, ifP_n q]
    exact ⟨e1, xZ_0 h q1⟩
theorem kx_shake (h : xZ s (ox F, R) F) {f : Int32} (hP : (¬ c_fr f (ox F, R) → x = -1 ∧ qC [] F F') ∧ (c_fr f (ox F, R) → ¬ c_hang f (ox F, R) → x = -2 ∧ qC [] F F') ∧ (c_fr f (ox F, R) → c_hang f (ox F, R) → qC [45, 46, 51, 52, 58, 74, 75, 76] F F' ∧ trC (nfS R.1) (nbS R.1) F' (rmS R.2.1 R.2.2.1) ∧ (fdS R.1 R.2.1 → x = 1 ∧ gC 50 (nfS R.1) (nbS R.1) F' (fndS R.1 R.2.1 f.toInt.toNat)) ∧ (¬ fdS R.1 R.2.1 → x = 0 ∧ gC 50 (nfS R.1) (nbS R.1) F' (shkS R.2.1 f.toInt.toNat)))) : x = a_shake f (ox F, R) ∧ xZ s (t_shake f (ox F, R)) F' := by
  obtain ⟨p1, p2, p3⟩ := hP
  unfold a_shake t_shake
  by_cases q : c_fr f (ox F, R)
  · rw [ifP_y q]
    by_cases z : c_hang f (ox F, R)
    · rw [ifP_y z, ifP_y (show _ ∧ _ from ⟨q, z⟩)]
      obtain ⟨q1, e2, e3, e4⟩ := p3 q z
      by_cases y : fdS R.1 R.2.1
      · rw [ifP_y y, ifP_y y]
        obtain ⟨e5, e6⟩ := e3 y
        exact ⟨e5, xZ_g h q1 (by decide) e6 e2⟩
      · rw [ifP_n y, ifP_n y]
        obtain ⟨e5, e6⟩ := e4 y
        exact ⟨e5, xZ_g h q1 (by decide) e6 e2⟩
    · rw [ifP_n z, ifP_n (show ¬ (_ ∧ _) from fun w => z w.2)]
      obtain ⟨e1, q1⟩ := p2 q z
      exact ⟨e1, xZ_0 h q1⟩
  · rw [ifP_n q, ifP_n (show ¬ (_ ∧ _) from fun w => q w.1)]
    obtain ⟨e1, q1⟩ := p1 q
    exact ⟨e1, xZ_0 h q1⟩
theorem kx_hours (h : xZ s (ox F, R) F) {n : Int32} (hP : (¬ (0 ≤ n.toInt ∧ n.toInt ≤ 48) → x = -1 ∧ qC [] F F') ∧ (n.toInt = 0 → x = R.2.1 9 0 ∧ qC [] F F') ∧ (1 ≤ n.toInt ∧ n.toInt ≤ 48 → x = hrsS R.1 (Int32.ofInt R.1.2.2.2.2.1) R.2.1 n.toInt.toNat 9 0 ∧ qC [45, 46, 50, 51, 52, 53, 54, 55, 56, 57, 58, 59, 60, 61, 74, 75, 76] F F' ∧ gC 50 (nfS R.1) (nbS R.1) F' (hrsS R.1 (Int32.ofInt R.1.2.2.2.2.1) R.2.1 n.toInt.toNat) ∧ trC (nfS R.1) (nbS R.1) F' (rmS R.2.1 R.2.2.1))) : x = a_hours n (ox F, R) ∧ xZ s (t_hours n (ox F, R)) F' := by
  obtain ⟨p1, p2, p3⟩ := hP
  unfold a_hours t_hours
  by_cases q : 1 ≤ n.toInt ∧ n.toInt ≤ 48
  · rw [ifP_y q, ifP_y (show _ ∧ _ from ⟨by omega, q.2⟩)]
    obtain ⟨e1, q1, e3, e4⟩ := p3 q
    exact ⟨e1, xZ_g h q1 (by decide) e3 e4⟩
  · rw [ifP_n q]
    by_cases z : n.toInt = 0
    · rw [ifP_y (show _ ∧ _ from ⟨by omega, by omega⟩)]
      obtain ⟨e1, q1⟩ := p2 z
      refine ⟨?_, xZ_0 h q1⟩
      rw [e1, z]
      rfl
    · rw [ifP_n (show ¬ (_ ∧ _) from fun w => by omega)]
      obtain ⟨e1, q1⟩ := p1 (fun w => by omega)
      exact ⟨e1, xZ_0 h q1⟩
theorem kx_undo0 {T : tX} {g : gS} {HW : (Nat → gS) × (Nat → Int32 × Int32)} (h : xZ s (ox F, T, g, [], HW) F) (hP : x = 0 ∧ qC [] F F') : x = a_undo (ox F, T, g, [], HW) ∧ xZ s (t_undo (ox F, T, g, [], HW)) F' := ⟨hP.1, xZ_0 h hP.2⟩
theorem kx_undo1 {T : tX} {g u : gS} {U : List gS} {HW : (Nat → gS) × (Nat → Int32 × Int32)} (h : xZ s (ox F, T, g, u :: U, HW) F) (hP : x = 1 ∧ qC (75 :: [50, 51, 52, 53, 54, 55, 56, 57, 58, 59, 60, 61]) F F' ∧ trC (nfS T) (nbS T) F' U ∧ gC 50 (nfS T) (nbS T) F' u) : x = a_undo (ox F, T, g, u :: U, HW) ∧ xZ s (t_undo (ox F, T, g, u :: U, HW)) F' := ⟨hP.1, xZ_g h hP.2.1 (by decide) hP.2.2.2 hP.2.2.1⟩
end KX
/-! ===== and on the reference's ===== -/
section KMM
variable {R : tX × gS × List gS × (Nat → gS) × (Nat → Int32 × Int32)} {F F' : Nat → sy_d} {x : Int32}
theorem mZ_g {σ : fG} {W : List Nat} (h : mZ σ F) (q : qR W F F') (hW : ∀ a ∈ W, a ∈ ([17, 18, 19, 20, 52, 53, 54, 55, 56, 57, 58, 59, 60] : List Nat)) {g' : gS} {U' : List gS} (hg : gNw σ.2.1 F' g') (hu : hiR (nfS σ.2.1) (nbS σ.2.1) F' U') : mZ (σ.1, σ.2.1, g', U', σ.2.2.2.2) F' := by
  have n : ∀ j, j ∈ ([1, 10, 21, 23, 63, 64, 67, 68] : List Nat) → F' j = F j := fun j hj => q.2 j ((by decide : ∀ j ∈ ([1, 10, 21, 23, 63, 64, 67, 68] : List Nat), j < 69) j hj) (fun z => (by decide : ∀ j ∈ ([1, 10, 21, 23, 63, 64, 67, 68] : List Nat), j ∉ ([17, 18, 19, 20, 52, 53, 54, 55, 56, 57, 58, 59, 60] : List Nat)) j hj (hW j z))
  refine mZ_of h q (fun a ha => (by decide : ∀ a ∈ ([17, 18, 19, 20, 52, 53, 54, 55, 56, 57, 58, 59, 60] : List Nat), (a < 31 ∨ 50 < a) ∧ a ≠ 11 ∧ a ≠ 29) a (hW a ha)) rfl ?_ hg hu (hrR_e F h.2.2.2.2.1 (n 67 (by decide)) (n 68 (by decide))) ?_
  · rw [om_eq (n 1 (by decide)) (n 10 (by decide)) (n 23 (by decide)) (n 67 (by decide)) (n 21 (by decide))]
    exact h.1.2.2
  · rw [nz_fa (n 63 (by decide)), nz_fa (n 64 (by decide))]
    exact h.2.2.2.2.2
theorem mZ_0 {σ : fG} (h : mZ σ F) (q : qR [] F F') : mZ σ F' := mZ_q h q (fun a ha => absurd ha List.not_mem_nil)
theorem mZ_s {σ : fG} {W : List Nat} (h : mZ σ F) (q : qR W F F') (hW : ∀ a ∈ W, a ∈ ([1, 10, 21, 23, 63, 64, 67, 68] : List Nat)) {x' : sg} {H' : Nat → gS} {W' : Nat → Int32 × Int32} (ho : om F' = x') (hh : hrR (nfS σ.2.1) (nbS σ.2.1) F' H') (ht : tdC x'.2.2.2.1 W' (sy_ai F' 63) (sy_ai F' 64)) : mZ (x', σ.2.1, σ.2.2.1, σ.2.2.2.1, H', W') F' := by
  have n : ∀ j, j ∈ ([20, 54, 60] : List Nat) → F' j = F j := fun j hj => q.2 j ((by decide : ∀ j ∈ ([20, 54, 60] : List Nat), j < 69) j hj) (fun z => (by decide : ∀ j ∈ ([20, 54, 60] : List Nat), j ∉ ([1, 10, 21, 23, 63, 64, 67, 68] : List Nat)) j hj (hW j z))
  exact mZ_of h q (fun a ha => (by decide : ∀ a ∈ ([1, 10, 21, 23, 63, 64, 67, 68] : List Nat), (a < 31 ∨ 50 < a) ∧ a ≠ 11 ∧ a ≠ 29) a (hW a ha)) rfl ho (gNw_e F h.2.2.1 (nz_fa (n 54 (by decide)))) (hiR_e h.2.2.2.1 (n 20 (by decide)) (n 60 (by decide))) hh ht
theorem km_place (h : mZ (om F, R) F) (hP : x = sy_i F 10 ∧ qR [] F F') : x.toInt = (om F).2.2.1 ∧ mZ (om F, R) F' := ⟨by rw [hP.1]; rfl, mZ_0 h hP.2⟩
theorem km_feed (h : mZ (om F, R) F) {a b c d e : Int32} (hP : (2000 < (sy_i F 1).toInt + 20 → x = -1 ∧ qR [] F F') ∧ (¬ 2000 < (sy_i F 1).toInt + 20 → x.toInt = (sy_i F 1).toInt + 20 ∧ qR [1, 23] F F' ∧ (sy_i F' 1).toInt = (sy_i F 1).toInt + 20 ∧ ub (sy_ai F' 23) ((sy_i F 1).toInt + 20).toNat = apB (apB (apB (apB (apB (ub (sy_ai F 23) (sy_i F 1).toInt.toNat) (sy_i F 1).toInt.toNat a) ((sy_i F 1).toInt.toNat + 4) b) ((sy_i F 1).toInt.toNat + 8) c) ((sy_i F 1).toInt.toNat + 12) d) ((sy_i F 1).toInt.toNat + 16) e)) : x.toInt = a_feed (om F) ∧ mZ (t_feed a b c d e (om F, R)) F' := by
  by_cases q : 2000 < (sy_i F 1).toInt + 20
  · obtain ⟨e1, q1⟩ := hP.1 q
    have q' : 2000 < (om F).1 + 20 := q
    refine ⟨?_, ?_⟩
    · unfold a_feed
      rw [if_pos q', e1]
      decide
    · have e2 : t_feed a b c d e (om F, R) = (om F, R) := by
        unfold t_feed
        show (s_feed a b c d e (om F), R) = _
        unfold s_feed
        rw [if_pos q']
      rw [e2]
      exact mZ_0 h q1
  · obtain ⟨e1, q1, e3, e4⟩ := hP.2 q
    have q' : ¬ 2000 < (om F).1 + 20 := q
    refine ⟨?_, mZ_s h q1 (by decide) ?_ (hrR_e F h.2.2.2.2.1 (q1.2 67 (by decide) (by decide)) (q1.2 68 (by decide) (by decide))) ?_⟩
    · unfold a_feed
      rw [if_neg q']
      exact e1
    · show om F' = s_feed a b c d e (om F)
      unfold s_feed
      rw [if_neg q']
      exact om_mk e3 e4 (nz_fi (q1.2 10 (by decide) (by decide))) (nz_fi (q1.2 21 (by decide) (by decide))) (by rw [qq_a q1 (by decide) (by decide)])
    · show tdC (s_feed a b c d e (om F)).2.2.2.1 _ _ _
      unfold s_feed
      rw [if_neg q', qq_a q1 (by decide) (by decide), qq_a q1 (by decide) (by decide)]
      exact h.2.2.2.2.2
theorem km_back (h : mZ (om F, R) F) {v : Int32} (hP : (v.toInt < 0 ∨ (sy_i F 1).toInt < v.toInt → x = -1 ∧ qR [] F F') ∧ (¬ (v.toInt < 0 ∨ (sy_i F 1).toInt < v.toInt) → x.toInt = (sy_i F 1).toInt - v.toInt ∧ qR [1] F F' ∧ (sy_i F' 1).toInt = (sy_i F 1).toInt - v.toInt)) : x.toInt = a_back v (om F) ∧ mZ (t_back v (om F, R)) F' := by
  by_cases q : v.toInt < 0 ∨ (sy_i F 1).toInt < v.toInt
  · obtain ⟨e1, q1⟩ := hP.1 q
    have q' : v.toInt < 0 ∨ (om F).1 < v.toInt := q
    refine ⟨?_, ?_⟩
    · unfold a_back
      rw [if_pos q', e1]
      decide
    · have e2 : t_back v (om F, R) = (om F, R) := by
        unfold t_back
        show (s_back v (om F), R) = _
        unfold s_back
        rw [if_pos q']
      rw [e2]
      exact mZ_0 h q1
  · obtain ⟨e1, q1, e3⟩ := hP.2 q
    have q' : ¬ (v.toInt < 0 ∨ (om F).1 < v.toInt) := q
    refine ⟨?_, mZ_s h q1 (by decide) ?_ (hrR_e F h.2.2.2.2.1 (q1.2 67 (by decide) (by decide)) (q1.2 68 (by decide) (by decide))) ?_⟩
    · unfold a_back
      rw [if_neg q']
      exact e1
    · show om F' = s_back v (om F)
      unfold s_back
      rw [if_neg q']
      refine om_mk e3 ?_ (nz_fi (q1.2 10 (by decide) (by decide))) (nz_fi (q1.2 21 (by decide) (by decide))) (by rw [qq_a q1 (by decide) (by decide)])
      rw [qq_a q1 (by decide) (by decide), ub_cut (n := (sy_i F 1).toInt.toNat) (show ((om F).1 - v.toInt).toNat ≤ _ from (show ((sy_i F 1).toInt - v.toInt).toNat ≤ (sy_i F 1).toInt.toNat by omega))]
      rfl
    · show tdC (s_back v (om F)).2.2.2.1 _ _ _
      unfold s_back
      rw [if_neg q', qq_a q1 (by decide) (by decide), qq_a q1 (by decide) (by decide)]
      exact h.2.2.2.2.2
theorem km_forget (h : mZ (om F, R) F) (hP : x = sy_i F 21 ∧ qR [21] F F' ∧ (sy_i F' 21).toInt = 0) : x.toInt = (om F).2.2.2.1 ∧ mZ (t_forget (om F, R)) F' := by
  obtain ⟨e1, q1, e3⟩ := hP
  refine ⟨by rw [e1]; rfl, mZ_s h q1 (by decide) ?_ (hrR_e F h.2.2.2.2.1 (q1.2 67 (by decide) (by decide)) (q1.2 68 (by decide) (by decide))) ?_⟩
  · exact om_mk (nz_fi (q1.2 1 (by decide) (by decide))) (by rw [qq_a q1 (by decide) (by decide)]; rfl) (nz_fi (q1.2 10 (by decide) (by decide))) e3 (by rw [qq_a q1 (by decide) (by decide)]; rfl)
  · intro i hi
    have hi : (i : Int) < 0 := hi
    exact absurd hi (by omega)
theorem km_tell (h : mZ (om F, R) F) {a b : Int32} (hP : (¬ ((1 ≤ a.toInt ∧ a.toInt ≤ 9) ∧ (0 ≤ b.toInt ∧ b.toInt ≤ 9) ∧ (sy_i F 21).toInt < 7) → x = -1 ∧ qR [] F F') ∧ ((1 ≤ a.toInt ∧ a.toInt ≤ 9) ∧ (0 ≤ b.toInt ∧ b.toInt ≤ 9) ∧ (sy_i F 21).toInt < 7 → x.toInt = (sy_i F 21).toInt ∧ qR [21, 63, 64] F F' ∧ (sy_i F' 21).toInt = (sy_i F 21).toInt + 1 ∧ sy_ai F' 63 = jm_upd (sy_ai F 63) (sy_i F 21).toInt.toNat a ∧ sy_ai F' 64 = jm_upd (sy_ai F 64) (sy_i F 21).toInt.toNat b)) : x.toInt = a_tell a b (om F) ∧ mZ (t_tell a b (om F, R)) F' := by
  have c0 := nz_bx h.2.1.1 (k := 21) (lo := 0) (hi := 7) rfl
  by_cases q : (1 ≤ a.toInt ∧ a.toInt ≤ 9) ∧ (0 ≤ b.toInt ∧ b.toInt ≤ 9) ∧ (sy_i F 21).toInt < 7
  · obtain ⟨e1, q1, e3, e4, e5⟩ := hP.2 q
    have q' : (1 ≤ a.toInt ∧ a.toInt ≤ 9) ∧ (0 ≤ b.toInt ∧ b.toInt ≤ 9) ∧ (om F).2.2.2.1 < 7 := q
    have qc : c_tell a b (om F, R) := q
    refine ⟨?_, mZ_s h q1 (by decide) ?_ (hrR_e F h.2.2.2.2.1 (q1.2 67 (by decide) (by decide)) (q1.2 68 (by decide) (by decide))) ?_⟩
    · unfold a_tell
      rw [if_pos q']
      exact e1
    · show om F' = s_tell a b (om F)
      unfold s_tell
      rw [if_pos q']
      exact om_mk (nz_fi (q1.2 1 (by decide) (by decide))) (by rw [qq_a q1 (by decide) (by decide)]; rfl) (nz_fi (q1.2 10 (by decide) (by decide))) e3 (by rw [qq_a q1 (by decide) (by decide)]; rfl)
    · rw [ifP_y qc]
      intro i hi
      have hi : (i : Int) < (s_tell a b (om F)).2.2.2.1 := hi
      unfold s_tell at hi
      rw [if_pos q'] at hi
      have hi : (i : Int) < (sy_i F 21).toInt + 1 := hi
      rw [e4, e5, jm_upd_at, jm_upd_at]
      show _ = (if i = (sy_i F 21).toInt.toNat then (a, b) else R.2.2.2.2 i).1 ∧ _ = (if i = (sy_i F 21).toInt.toNat then (a, b) else R.2.2.2.2 i).2
      by_cases z : i = (sy_i F 21).toInt.toNat
      · rw [if_pos z, if_pos z, if_pos z]
        exact ⟨rfl, rfl⟩
      · rw [if_neg z, if_neg z, if_neg z]
        exact h.2.2.2.2.2 i (show (i : Int) < (sy_i F 21).toInt by omega)
  · obtain ⟨e1, q1⟩ := hP.1 q
    have q' : ¬ ((1 ≤ a.toInt ∧ a.toInt ≤ 9) ∧ (0 ≤ b.toInt ∧ b.toInt ≤ 9) ∧ (om F).2.2.2.1 < 7) := q
    have qc : ¬ c_tell a b (om F, R) := q
    refine ⟨?_, ?_⟩
    · unfold a_tell
      rw [if_neg q', e1]
      decide
    · have e2 : t_tell a b (om F, R) = (om F, R) := by
        unfold t_tell
        rw [ifP_n qc]
        show (s_tell a b (om F), R) = _
        unfold s_tell
        rw [if_neg q']
      rw [e2]
      exact mZ_0 h q1
theorem km_hold (h : mZ (om F, R) F) {v : Int32} (hP : (¬ (0 ≤ v.toInt ∧ v.toInt ≤ 2) → x = 0 ∧ qR [] F F') ∧ (0 ≤ v.toInt ∧ v.toInt ≤ 2 → x = 1 ∧ qR [67, 68] F F' ∧ hrR (nfS R.1) (nbS R.1) F' (fun j => if j = v.toInt.toNat then R.2.1 else R.2.2.2.1 j) ∧ sy_ai F' 67 = jm_upd (sy_ai F 67) v.toInt.toNat 1)) : x.toInt = a_hold v (om F) ∧ mZ (t_hold v (om F, R)) F' := by
  by_cases q : 0 ≤ v.toInt ∧ v.toInt ≤ 2
  · obtain ⟨e1, q1, e3, e4⟩ := hP.2 q
    refine ⟨?_, mZ_s h q1 (by decide) ?_ ?_ ?_⟩
    · unfold a_hold
      rw [if_pos q, e1]
      decide
    · show om F' = s_hold v (om F)
      unfold s_hold
      rw [if_pos q]
      refine om_mk (nz_fi (q1.2 1 (by decide) (by decide))) (by rw [qq_a q1 (by decide) (by decide)]; rfl) (nz_fi (q1.2 10 (by decide) (by decide))) (nz_fi (q1.2 21 (by decide) (by decide))) ?_
      rw [e4, hl_u (by omega)]
      rfl
    · rw [ifP_y q]
      exact e3
    · show tdC (s_hold v (om F)).2.2.2.1 _ _ _
      unfold s_hold
      rw [if_pos q, qq_a q1 (by decide) (by decide), qq_a q1 (by decide) (by decide)]
      exact h.2.2.2.2.2
  · obtain ⟨e1, q1⟩ := hP.1 q
    refine ⟨?_, ?_⟩
    · unfold a_hold
      rw [if_neg q, e1]
      decide
    · have e2 : t_hold v (om F, R) = (om F, R) := by
        unfold t_hold
        rw [ifP_n q]
        show (s_hold v (om F), R) = _
        unfold s_hold
        rw [if_neg q]
      rw [e2]
      exact mZ_0 h q1
theorem km_rest (h : mZ (om F, R) F) {v : Int32} (hP : (¬ (0 ≤ v.toInt ∧ v.toInt ≤ 2 ∧ ((sy_ai F 67).getD v.toInt.toNat 0).toInt ≠ 0) → x = 0 ∧ qR [] F F') ∧ (0 ≤ v.toInt ∧ v.toInt ≤ 2 ∧ ((sy_ai F 67).getD v.toInt.toNat 0).toInt ≠ 0 → x = 1 ∧ qR [20, 54] F F' ∧ gNw R.1 F' (R.2.2.2.1 v.toInt.toNat) ∧ hiR (nfS R.1) (nbS R.1) F' [])) : x.toInt = a_rest v (om F) ∧ mZ (t_rest v (om F, R)) F' := by
  have hc : c_rest v (om F, R) ↔ (0 ≤ v.toInt ∧ v.toInt ≤ 2 ∧ ((sy_ai F 67).getD v.toInt.toNat 0).toInt ≠ 0) := by
    refine ⟨fun z => ⟨z.1.1, z.1.2, fun y => z.2 ?_⟩, fun z => ⟨⟨z.1, z.2.1⟩, fun y => z.2.2 ?_⟩⟩
    · show hl3 (sy_ai F 67) v.toInt.toNat = 0
      unfold hl3
      rw [if_pos (by have := z.1; omega)]
      exact y
    · have y : hl3 (sy_ai F 67) v.toInt.toNat = 0 := y
      unfold hl3 at y
      rw [if_pos (by omega)] at y
      exact y
  by_cases q : c_rest v (om F, R)
  · obtain ⟨e1, q1, e3, e4⟩ := hP.2 (hc.mp q)
    refine ⟨?_, ?_⟩
    · unfold a_rest
      rw [if_pos (show (0 ≤ v.toInt ∧ v.toInt ≤ 2) ∧ (om F).2.2.2.2 v.toInt.toNat ≠ 0 from q), e1]
      decide
    · unfold t_rest
      rw [ifP_y q]
      exact mZ_g h q1 (by decide) e3 e4
  · obtain ⟨e1, q1⟩ := hP.1 (fun z => q (hc.mpr z))
    refine ⟨?_, ?_⟩
    · unfold a_rest
      rw [if_neg (show ¬ ((0 ≤ v.toInt ∧ v.toInt ≤ 2) ∧ (om F).2.2.2.2 v.toInt.toNat ≠ 0) from q), e1]
      decide
    · unfold t_rest
      rw [ifP_n q]
      exact mZ_0 h q1
theorem km_go (h : mZ (om F, R) F) {b v : Int32} (hP : (¬ c_go b v (om F, R) → x = 0 ∧ qR [] F F') ∧ (c_go b v (om F, R) → x = 1 ∧ qR [18, 20, 54, 55, 60] F F' ∧ gNw R.1 F' (upS R.2.1 7 b.toInt.toNat v) ∧ hiR (nfS R.1) (nbS R.1) F' (rmS R.2.1 R.2.2.1))) : x = a_go b v (om F, R) ∧ mZ (t_go b v (om F, R)) F' := by
  unfold a_go t_go
  by_cases q : c_go b v (om F, R)
  · obtain ⟨e1, q1, e3, e4⟩ := hP.2 q
    rw [ifP_y q, ifP_y q]
    exact ⟨e1, mZ_g h q1 (by decide) e3 e4⟩
  · obtain ⟨e1, q1⟩ := hP.1 q
    rw [ifP_n q, ifP_n q]
    exact ⟨e1, mZ_0 h q1⟩
theorem km_prop (h : mZ (om F, R) F) {b v : Int32} (hP : (¬ c_prop b v (om F, R) → x = 0 ∧ qR [] F F') ∧ (c_prop b v (om F, R) → x = 1 ∧ qR [18, 20, 54, 55, 60] F F' ∧ gNw R.1 F' (upS R.2.1 5 b.toInt.toNat v) ∧ hiR (nfS R.1) (nbS R.1) F' (rmS R.2.1 R.2.2.1))) : x = a_prop b v (om F, R) ∧ mZ (t_prop b v (om F, R)) F' := by
  unfold a_prop t_prop
  by_cases q : c_prop b v (om F, R)
  · obtain ⟨e1, q1, e3, e4⟩ := hP.2 q
    rw [ifP_y q, ifP_y q]
    exact ⟨e1, mZ_g h q1 (by decide) e3 e4⟩
  · obtain ⟨e1, q1⟩ := hP.1 q
    rw [ifP_n q, ifP_n q]
    exact ⟨e1, mZ_0 h q1⟩
theorem km_shake (h : mZ (om F, R) F) {f : Int32} (hP : (¬ c_fr f (om F, R) → x = -1 ∧ qR [] F F') ∧ (c_fr f (om F, R) → ¬ c_hang f (om F, R) → x = -2 ∧ qR [] F F') ∧ (c_fr f (om F, R) → c_hang f (om F, R) → rskP R.1 R.2.1 R.2.2.1 f.toInt.toNat F x F')) : x = a_shake f (om F, R) ∧ mZ (t_shake f (om F, R)) F' := by
  obtain ⟨p1, p2, p3⟩ := hP
  unfold a_shake t_shake
  by_cases q : c_fr f (om F, R)
  · rw [ifP_y q]
    by_cases z : c_hang f (om F, R)
    · rw [ifP_y z, ifP_y (show _ ∧ _ from ⟨q, z⟩)]
      obtain ⟨q1, e2, e3, e4⟩ := p3 q z
      by_cases y : fdS R.1 R.2.1
      · rw [ifP_y y, ifP_y y]
        obtain ⟨e5, e6⟩ := e3 y
        exact ⟨e5, mZ_g h q1 (by decide) e6 e2⟩
      · rw [ifP_n y, ifP_n y]
        obtain ⟨e5, e6⟩ := e4 y
        exact ⟨e5, mZ_g h q1 (by decide) e6 e2⟩
    · rw [ifP_n z, ifP_n (show ¬ (_ ∧ _) from fun w => z w.2)]
      obtain ⟨e1, q1⟩ := p2 q z
      exact ⟨e1, mZ_0 h q1⟩
  · rw [ifP_n q, ifP_n (show ¬ (_ ∧ _) from fun w => q w.1)]
    obtain ⟨e1, q1⟩ := p1 q
    exact ⟨e1, mZ_0 h q1⟩
theorem km_hours (h : mZ (om F, R) F) {n : Int32} (hP : (¬ (0 ≤ n.toInt ∧ n.toInt ≤ 48) → x = -1 ∧ qR [] F F') ∧ (n.toInt = 0 → x = R.2.1 9 0 ∧ qR [] F F') ∧ (1 ≤ n.toInt ∧ n.toInt ≤ 48 → x = hrsS R.1 (Int32.ofInt R.1.2.2.2.2.1) R.2.1 n.toInt.toNat 9 0 ∧ qR [17, 18, 19, 20, 52, 53, 54, 55, 56, 57, 58, 59, 60] F F' ∧ gNw R.1 F' (hrsS R.1 (Int32.ofInt R.1.2.2.2.2.1) R.2.1 n.toInt.toNat) ∧ hiR (nfS R.1) (nbS R.1) F' (rmS R.2.1 R.2.2.1))) : x = a_hours n (om F, R) ∧ mZ (t_hours n (om F, R)) F' := by
  obtain ⟨p1, p2, p3⟩ := hP
  unfold a_hours t_hours
  by_cases q : 1 ≤ n.toInt ∧ n.toInt ≤ 48
  · rw [ifP_y q, ifP_y (show _ ∧ _ from ⟨by omega, q.2⟩)]
    obtain ⟨e1, q1, e3, e4⟩ := p3 q
    exact ⟨e1, mZ_g h q1 (by decide) e3 e4⟩
  · rw [ifP_n q]
    by_cases z : n.toInt = 0
    · rw [ifP_y (show _ ∧ _ from ⟨by omega, by omega⟩)]
      obtain ⟨e1, q1⟩ := p2 z
      refine ⟨?_, mZ_0 h q1⟩
      rw [e1, z]
      rfl
    · rw [ifP_n (show ¬ (_ ∧ _) from fun w => by omega)]
      obtain ⟨e1, q1⟩ := p1 (fun w => by omega)
      exact ⟨e1, mZ_0 h q1⟩
theorem km_undo0 {T : tX} {g : gS} {HW : (Nat → gS) × (Nat → Int32 × Int32)} (h : mZ (om F, T, g, [], HW) F) (hP : x = 0 ∧ qR [] F F') : x = a_undo (om F, T, g, [], HW) ∧ mZ (t_undo (om F, T, g, [], HW)) F' := ⟨hP.1, mZ_0 h hP.2⟩
theorem km_undo1 {T : tX} {g u : gS} {U : List gS} {HW : (Nat → gS) × (Nat → Int32 × Int32)} (h : mZ (om F, T, g, u :: U, HW) F) (hP : x = 1 ∧ qR [20, 54] F F' ∧ gNw T F' u ∧ hiR (nfS T) (nbS T) F' U) : x = a_undo (om F, T, g, u :: U, HW) ∧ mZ (t_undo (om F, T, g, u :: U, HW)) F' := ⟨hP.1, mZ_g h hP.2.1 (by decide) hP.2.2.1 hP.2.2.2⟩
end KMM
end
section
/-! ===== what reading leaves ===== -/
theorem kx_read0 {R : tX × gS × List gS × (Nat → gS) × (Nat → Int32 × Int32)} {F : Nat → sy_d} {X2 : List jm_c} (h : xZ 0 (ox F, R) F) {v : Option Value} {G : jm_h} (hP : j0rdP [] X2 F (ub (sy_ai F 2) (sy_i F 0).toInt.toNat) (sy_i F 0).toInt.toNat v G) : (∃ r : Int32, v = some (.int r) ∧ r.toInt = a_read (ox F)) ∧ oz1 X2 (t_read (ox F, R)) G := by
  obtain ⟨r, t, F', rfl, rfl, e1, b1, j1, w1, e0, ep, hf, hs⟩ := hP
  refine ⟨⟨r, rfl, e1⟩, ?_⟩
  by_cases q : (rdA (ub (sy_ai F 2) (sy_i F 0).toInt.toNat) (sy_i F 0).toInt.toNat).1 = 0
  · obtain ⟨et, c1, g1, r1, u75, u74, d79, z78⟩ := hs q
    subst et
    have q' : (rdA (ox F).2.1 (ox F).1.toNat).1 = 0 := q
    have e2 : t_read (ox F, R) = ((0, (fun _ => 0), (rdA (ox F).2.1 (ox F).1.toNat).2, 0, fun _ => 0), rdT (ox F).2.1 (ox F).1.toNat, begS (rdT (ox F).2.1 (ox F).1.toNat), [], R.2.2.2) := by
      unfold t_read
      rw [if_pos q']
      show (s_read (ox F), _) = _
      unfold s_read
      rw [if_pos q']
    rw [e2]
    exact ⟨2, F', by decide, dh_x F' [] X2 (by decide), ⟨⟨j1, w1, ox0_mk e0 ub_z ep d79 (hl_z z78)⟩, c1, g1, ⟨0, by decide, Nat.zero_le _, u74, u75, trivial⟩, fun k hk hz => absurd (by rw [z78 k hk]; decide) hz, fun i hi => absurd (show (i : Int) < 0 from hi) (by omega), r1⟩⟩
  · obtain ⟨et, fr⟩ := hf q
    subst et
    have q' : ¬ (rdA (ox F).2.1 (ox F).1.toNat).1 = 0 := q
    have e2 : t_read (ox F, R) = ((0, (fun _ => 0), (rdA (ox F).2.1 (ox F).1.toNat).2, (ox F).2.2.2), R) := by
      unfold t_read
      rw [if_neg q']
      show (s_read (ox F), R) = _
      unfold s_read
      rw [if_neg q']
    rw [e2]
    have q1 : qC (0 :: 1 :: 39 :: 40 :: 41 :: 35 :: k0_WP) F F' := ⟨b1, fr⟩
    obtain ⟨-, h4, h5, h6, h7, h8, h9⟩ := h
    exact ⟨0, F', by decide, dh_x F' [] X2 (by decide), ⟨⟨j1, w1, ox0_mk e0 ub_z ep (nz_fi (fr 79 (by decide) (by decide))) (by rw [nz_fa (fr 78 (by decide) (by decide))])⟩, xC_q (by decide) h4 q1 (by decide), gC_eq h5 (fun j h1 h2 => fr j (by omega) (by intro z; simp [k0_WP] at z; omega)), trC_eq h6 (fr 74 (by decide) (by decide)) (fr 75 (by decide) (by decide)) (fr 76 (by decide) (by decide)), hlC_eq h7 (fr 77 (by decide) (by decide)) (fr 78 (by decide) (by decide)), by rw [nz_fa (fr 80 (by decide) (by decide)), nz_fa (fr 81 (by decide) (by decide))]; exact h8, fun f hf => (congrArg (fun l : List Int32 => l.getD f 0) (nz_fa (fr (3 + 9) (by decide) (by decide)))).trans (h9 f hf)⟩⟩
theorem kx_read1 {R : tX × gS × List gS × (Nat → gS) × (Nat → Int32 × Int32)} {F : Nat → sy_d} {X2 : List jm_c} (h : xZ 1 (ox F, R) F) {v : Option Value} {G : jm_h} (hP : j1rdP [] X2 F (ub (sy_ai F 2) (sy_i F 0).toInt.toNat) (sy_i F 0).toInt.toNat v G) : (∃ r : Int32, v = some (.int r) ∧ r.toInt = a_read (ox F)) ∧ oz1 X2 (t_read (ox F, R)) G := by
  obtain ⟨r, t, F', rfl, rfl, e1, b1, j1, w1, e0, ep, hf, hs⟩ := hP
  refine ⟨⟨r, rfl, e1⟩, ?_⟩
  by_cases q : (rdA (ub (sy_ai F 2) (sy_i F 0).toInt.toNat) (sy_i F 0).toInt.toNat).1 = 0
  · obtain ⟨et, c1, g1, r1, u75, u74, d79, z78⟩ := hs q
    subst et
    have q' : (rdA (ox F).2.1 (ox F).1.toNat).1 = 0 := q
    have e2 : t_read (ox F, R) = ((0, (fun _ => 0), (rdA (ox F).2.1 (ox F).1.toNat).2, 0, fun _ => 0), rdT (ox F).2.1 (ox F).1.toNat, begS (rdT (ox F).2.1 (ox F).1.toNat), [], R.2.2.2) := by
      unfold t_read
      rw [if_pos q']
      show (s_read (ox F), _) = _
      unfold s_read
      rw [if_pos q']
    rw [e2]
    exact ⟨2, F', by decide, dh_x F' [] X2 (by decide), ⟨⟨j1, w1, ox0_mk e0 ub_z ep d79 (hl_z z78)⟩, c1, g1, ⟨0, by decide, Nat.zero_le _, u74, u75, trivial⟩, fun k hk hz => absurd (by rw [z78 k hk]; decide) hz, fun i hi => absurd (show (i : Int) < 0 from hi) (by omega), r1⟩⟩
  · obtain ⟨et, fr⟩ := hf q
    subst et
    have q' : ¬ (rdA (ox F).2.1 (ox F).1.toNat).1 = 0 := q
    have e2 : t_read (ox F, R) = ((0, (fun _ => 0), (rdA (ox F).2.1 (ox F).1.toNat).2, (ox F).2.2.2), R) := by
      unfold t_read
      rw [if_neg q']
      show (s_read (ox F), R) = _
      unfold s_read
      rw [if_neg q']
    rw [e2]
    have q1 : qC (0 :: 1 :: 39 :: 40 :: 41 :: 35 :: k0_WP) F F' := ⟨b1, fr⟩
    obtain ⟨-, h4, h5, h6, h7, h8, h9⟩ := h
    exact ⟨0, F', by decide, dh_x F' [] X2 (by decide), ⟨⟨j1, w1, ox0_mk e0 ub_z ep (nz_fi (fr 79 (by decide) (by decide))) (by rw [nz_fa (fr 78 (by decide) (by decide))])⟩, xC_q (by decide) h4 q1 (by decide), gC_eq h5 (fun j h1 h2 => fr j (by omega) (by intro z; simp [k0_WP] at z; omega)), trC_eq h6 (fr 74 (by decide) (by decide)) (fr 75 (by decide) (by decide)) (fr 76 (by decide) (by decide)), hlC_eq h7 (fr 77 (by decide) (by decide)) (fr 78 (by decide) (by decide)), by rw [nz_fa (fr 80 (by decide) (by decide)), nz_fa (fr 81 (by decide) (by decide))]; exact h8, fun f hf => (congrArg (fun l : List Int32 => l.getD f 0) (nz_fa (fr (3 + 9) (by decide) (by decide)))).trans (h9 f hf)⟩⟩
theorem kx_read2 {R : tX × gS × List gS × (Nat → gS) × (Nat → Int32 × Int32)} {F : Nat → sy_d} {X2 : List jm_c} (h : xZ 2 (ox F, R) F) {v : Option Value} {G : jm_h} (hP : j2rdP [] X2 F (ub (sy_ai F 2) (sy_i F 0).toInt.toNat) (sy_i F 0).toInt.toNat v G) : (∃ r : Int32, v = some (.int r) ∧ r.toInt = a_read (ox F)) ∧ oz1 X2 (t_read (ox F, R)) G := by
  obtain ⟨r, t, F', rfl, rfl, e1, b1, j1, w1, e0, ep, hf, hs⟩ := hP
  refine ⟨⟨r, rfl, e1⟩, ?_⟩
  by_cases q : (rdA (ub (sy_ai F 2) (sy_i F 0).toInt.toNat) (sy_i F 0).toInt.toNat).1 = 0
  · obtain ⟨et, c1, g1, r1, u75, u74, d79, z78⟩ := hs q
    subst et
    have q' : (rdA (ox F).2.1 (ox F).1.toNat).1 = 0 := q
    have e2 : t_read (ox F, R) = ((0, (fun _ => 0), (rdA (ox F).2.1 (ox F).1.toNat).2, 0, fun _ => 0), rdT (ox F).2.1 (ox F).1.toNat, begS (rdT (ox F).2.1 (ox F).1.toNat), [], R.2.2.2) := by
      unfold t_read
      rw [if_pos q']
      show (s_read (ox F), _) = _
      unfold s_read
      rw [if_pos q']
    rw [e2]
    exact ⟨1, F', by decide, dh_x F' [] X2 (by decide), ⟨⟨j1, w1, ox0_mk e0 ub_z ep d79 (hl_z z78)⟩, c1, g1, ⟨0, by decide, Nat.zero_le _, u74, u75, trivial⟩, fun k hk hz => absurd (by rw [z78 k hk]; decide) hz, fun i hi => absurd (show (i : Int) < 0 from hi) (by omega), r1⟩⟩
  · obtain ⟨et, fr⟩ := hf q
    subst et
    have q' : ¬ (rdA (ox F).2.1 (ox F).1.toNat).1 = 0 := q
    have e2 : t_read (ox F, R) = ((0, (fun _ => 0), (rdA (ox F).2.1 (ox F).1.toNat).2, (ox F).2.2.2), R) := by
      unfold t_read
      rw [if_neg q']
      show (s_read (ox F), R) = _
      unfold s_read
      rw [if_neg q']
    rw [e2]
    have q1 : qC (0 :: 1 :: 39 :: 40 :: 41 :: 35 :: k3_WP) F F' := ⟨b1, fr⟩
    obtain ⟨-, h4, h5, h6, h7, h8, h9⟩ := h
    exact ⟨3, F', by decide, dh_x F' [] X2 (by decide), ⟨⟨j1, w1, ox0_mk e0 ub_z ep (nz_fi (fr 79 (by decide) (by decide))) (by rw [nz_fa (fr 78 (by decide) (by decide))])⟩, xC_q (by decide) h4 q1 (by decide), gC_eq h5 (fun j h1 h2 => fr j (by omega) (by intro z; simp [k3_WP] at z; omega)), trC_eq h6 (fr 74 (by decide) (by decide)) (fr 75 (by decide) (by decide)) (fr 76 (by decide) (by decide)), hlC_eq h7 (fr 77 (by decide) (by decide)) (fr 78 (by decide) (by decide)), by rw [nz_fa (fr 80 (by decide) (by decide)), nz_fa (fr 81 (by decide) (by decide))]; exact h8, fun f hf => (congrArg (fun l : List Int32 => l.getD f 0) (nz_fa (fr (18 + 9) (by decide) (by decide)))).trans (h9 f hf)⟩⟩
theorem kx_read3 {R : tX × gS × List gS × (Nat → gS) × (Nat → Int32 × Int32)} {F : Nat → sy_d} {X2 : List jm_c} (h : xZ 3 (ox F, R) F) {v : Option Value} {G : jm_h} (hP : j3rdP [] X2 F (ub (sy_ai F 2) (sy_i F 0).toInt.toNat) (sy_i F 0).toInt.toNat v G) : (∃ r : Int32, v = some (.int r) ∧ r.toInt = a_read (ox F)) ∧ oz1 X2 (t_read (ox F, R)) G := by
  obtain ⟨r, t, F', rfl, rfl, e1, b1, j1, w1, e0, ep, hf, hs⟩ := hP
  refine ⟨⟨r, rfl, e1⟩, ?_⟩
  by_cases q : (rdA (ub (sy_ai F 2) (sy_i F 0).toInt.toNat) (sy_i F 0).toInt.toNat).1 = 0
  · obtain ⟨et, c1, g1, r1, u75, u74, d79, z78⟩ := hs q
    subst et
    have q' : (rdA (ox F).2.1 (ox F).1.toNat).1 = 0 := q
    have e2 : t_read (ox F, R) = ((0, (fun _ => 0), (rdA (ox F).2.1 (ox F).1.toNat).2, 0, fun _ => 0), rdT (ox F).2.1 (ox F).1.toNat, begS (rdT (ox F).2.1 (ox F).1.toNat), [], R.2.2.2) := by
      unfold t_read
      rw [if_pos q']
      show (s_read (ox F), _) = _
      unfold s_read
      rw [if_pos q']
    rw [e2]
    exact ⟨1, F', by decide, dh_x F' [] X2 (by decide), ⟨⟨j1, w1, ox0_mk e0 ub_z ep d79 (hl_z z78)⟩, c1, g1, ⟨0, by decide, Nat.zero_le _, u74, u75, trivial⟩, fun k hk hz => absurd (by rw [z78 k hk]; decide) hz, fun i hi => absurd (show (i : Int) < 0 from hi) (by omega), r1⟩⟩
  · obtain ⟨et, fr⟩ := hf q
    subst et
    have q' : ¬ (rdA (ox F).2.1 (ox F).1.toNat).1 = 0 := q
    have e2 : t_read (ox F, R) = ((0, (fun _ => 0), (rdA (ox F).2.1 (ox F).1.toNat).2, (ox F).2.2.2), R) := by
      unfold t_read
      rw [if_neg q']
      show (s_read (ox F), R) = _
      unfold s_read
      rw [if_neg q']
    rw [e2]
    have q1 : qC (0 :: 1 :: 39 :: 40 :: 41 :: 35 :: k3_WP) F F' := ⟨b1, fr⟩
    obtain ⟨-, h4, h5, h6, h7, h8, h9⟩ := h
    exact ⟨3, F', by decide, dh_x F' [] X2 (by decide), ⟨⟨j1, w1, ox0_mk e0 ub_z ep (nz_fi (fr 79 (by decide) (by decide))) (by rw [nz_fa (fr 78 (by decide) (by decide))])⟩, xC_q (by decide) h4 q1 (by decide), gC_eq h5 (fun j h1 h2 => fr j (by omega) (by intro z; simp [k3_WP] at z; omega)), trC_eq h6 (fr 74 (by decide) (by decide)) (fr 75 (by decide) (by decide)) (fr 76 (by decide) (by decide)), hlC_eq h7 (fr 77 (by decide) (by decide)) (fr 78 (by decide) (by decide)), by rw [nz_fa (fr 80 (by decide) (by decide)), nz_fa (fr 81 (by decide) (by decide))]; exact h8, fun f hf => (congrArg (fun l : List Int32 => l.getD f 0) (nz_fa (fr (18 + 9) (by decide) (by decide)))).trans (h9 f hf)⟩⟩
theorem km_read {R : tX × gS × List gS × (Nat → gS) × (Nat → Int32 × Int32)} {F : Nat → sy_d} {X1 : List jm_c} (h : mZ (om F, R) F) {v : Option Value} {G : jm_h} (hP : rq_Q X1 [] (rdA (ub (sy_ai F 23) (sy_i F 1).toInt.toNat) (sy_i F 1).toInt.toNat) (rdT (ub (sy_ai F 23) (sy_i F 1).toInt.toNat) (sy_i F 1).toInt.toNat) R.1 F v G) : (∃ r : Int32, v = some (.int r) ∧ r.toInt = a_read (om F)) ∧ oz2 X1 (t_read (om F, R)) G := by
  obtain ⟨x, F', rfl, rfl, b1, j1, e1, ex, e10, e29, hs, hf⟩ := hP
  refine ⟨⟨x, rfl, ex⟩, ?_⟩
  have w1 : sy_al F' 29 = wls := (nz_fl e29).trans h.1.2.1
  by_cases q : (rdA (ub (sy_ai F 23) (sy_i F 1).toInt.toNat) (sy_i F 1).toInt.toNat).1 = 0
  · obtain ⟨e20, e21, z67, x1, gw⟩ := hs q
    have hT := rdT_wf q
    have q' : (rdA (om F).2.1 (om F).1.toNat).1 = 0 := q
    have e2 : t_read (om F, R) = ((0, (fun _ => 0), (rdA (om F).2.1 (om F).1.toNat).2, 0, fun _ => 0), rdT (om F).2.1 (om F).1.toNat, begS (rdT (om F).2.1 (om F).1.toNat), [], R.2.2.2) := by
      unfold t_read
      rw [if_pos q']
      show (s_read (om F), _) = _
      unfold s_read
      rw [if_pos q']
    rw [e2]
    exact ⟨F', dh_m F' X1 [], ⟨⟨j1, w1, om_mk e1 ub_z e10 e21 (hl_z z67)⟩, ⟨b1, x1, hT⟩, gw hT, ⟨e20, Nat.zero_le _, trivial⟩, fun k hk hz => absurd (by rw [z67 k hk]; decide) hz, fun i hi => absurd (show (i : Int) < 0 from hi) (by omega)⟩⟩
  · obtain ⟨fk, x1⟩ := hf q
    have q' : ¬ (rdA (om F).2.1 (om F).1.toNat).1 = 0 := q
    have e2 : t_read (om F, R) = ((0, (fun _ => 0), (rdA (om F).2.1 (om F).1.toNat).2, (om F).2.2.2), R) := by
      unfold t_read
      rw [if_neg q']
      show (s_read (om F), R) = _
      unfold s_read
      rw [if_neg q']
    rw [e2]
    obtain ⟨-, h4, h5, h6, h7, h8⟩ := h
    exact ⟨F', dh_m F' X1 [], ⟨⟨j1, w1, om_mk e1 ub_z e10 (nz_fi (fk 21 (by decide))) (by rw [nz_fa (fk 67 (by decide))])⟩, ⟨b1, x1, h4.2.2⟩, gNw_e F h5 (nz_fa (fk 54 (by decide))), hiR_e h6 (fk 20 (by decide)) (fk 60 (by decide)), hrR_e F h7 (fk 67 (by decide)) (fk 68 (by decide)), by rw [nz_fa (fk 63 (by decide)), nz_fa (fk 64 (by decide))]; exact h8⟩⟩
end
section
/-! ===== the thirteen, on both sides ===== -/
theorem b01 (b : Int32) : ((if b = 0 then 0 else 1 : Int32) = 0 ∨ (if b = 0 then 0 else 1 : Int32) = 1) ∧ 0 ≤ (if b = 0 then 0 else 1 : Int32).toInt ∧ (if b = 0 then 0 else 1 : Int32).toInt ≤ 1 := by
  split
  · exact ⟨Or.inl rfl, by decide, by decide⟩
  · exact ⟨Or.inr rfl, by decide, by decide⟩
section TH
variable {Ls : Nat} {xs : Nat → Int32}
theorem x_81 (a : Int32) (b : Int32) (c : Int32) (d : Int32) (e : Int32) : xzT Ls xs jm_M81 [.int (a), .int (b), .int (c), .int (d), .int (e)] (fun σ r => r.toInt = a_feed σ.1) (t_feed a b c d e) := by
  intro s F X2 σ hs hZ hO
  obtain ⟨x0, R⟩ := σ
  have e0 : ox F = x0 := hZ.1.2.2
  subst e0
  match s, hs, hZ with
  | 0, _, hZ => exact xz_pI (σ := (ox F, R)) (V := fun σ r => r.toInt = a_feed σ.1) (f := t_feed a b c d e) (by decide) (by decide) (j0fd_V [] X2 F hZ.2.1.1 a b c d e) (fun x F' hP => kx_feed hZ hP)
  | 1, _, hZ => exact xz_pI (σ := (ox F, R)) (V := fun σ r => r.toInt = a_feed σ.1) (f := t_feed a b c d e) (by decide) (by decide) (j1fd_V [] X2 F hZ.2.1.1 a b c d e) (fun x F' hP => kx_feed hZ hP)
  | 2, _, hZ => exact xz_pI (σ := (ox F, R)) (V := fun σ r => r.toInt = a_feed σ.1) (f := t_feed a b c d e) (by decide) (by decide) (j2fd_V [] X2 F hZ.2.1.1 a b c d e) (fun x F' hP => kx_feed hZ hP)
  | 3, _, hZ => exact xz_pI (σ := (ox F, R)) (V := fun σ r => r.toInt = a_feed σ.1) (f := t_feed a b c d e) (by decide) (by decide) (j3fd_V [] X2 F hZ.2.1.1 a b c d e) (fun x F' hP => kx_feed hZ hP)
  | n + 4, h, _ => exact absurd h (by omega)
theorem m_133 (a : Int32) (b : Int32) (c : Int32) (d : Int32) (e : Int32) : mzT Ls xs jm_M133 [.int (a), .int (b), .int (c), .int (d), .int (e)] (fun σ r => r.toInt = a_feed σ.1) (t_feed a b c d e) := ⟨2, by decide, fun F X1 σ hZ hO => by
  obtain ⟨x0, R⟩ := σ
  have e0 : om F = x0 := hZ.1.2.2
  subst e0
  exact mz_pI (σ := (om F, R)) (V := fun σ r => r.toInt = a_feed σ.1) (f := t_feed a b c d e) (rfd_V F X1 [] hZ.2.1.1 a b c d e) (fun x F' hP => km_feed hZ hP)⟩
theorem z_81 (a : Int32) (b : Int32) (c : Int32) (d : Int32) (e : Int32) : ∀ σ, okZ σ → okZ ((t_feed a b c d e) σ) := fun σ h => okZ_feed h a b c d e
theorem x_82 (a : Int32) : xzT Ls xs jm_M82 [.int (a)] (fun σ r => r.toInt = a_back a σ.1) (t_back a) := by
  intro s F X2 σ hs hZ hO
  obtain ⟨x0, R⟩ := σ
  have e0 : ox F = x0 := hZ.1.2.2
  subst e0
  match s, hs, hZ with
  | 0, _, hZ => exact xz_pI (σ := (ox F, R)) (V := fun σ r => r.toInt = a_back a σ.1) (f := t_back a) (by decide) (by decide) (j0bq_V [] X2 F hZ.2.1.1 a) (fun x F' hP => kx_back hZ hP)
  | 1, _, hZ => exact xz_pI (σ := (ox F, R)) (V := fun σ r => r.toInt = a_back a σ.1) (f := t_back a) (by decide) (by decide) (j1bq_V [] X2 F hZ.2.1.1 a) (fun x F' hP => kx_back hZ hP)
  | 2, _, hZ => exact xz_pI (σ := (ox F, R)) (V := fun σ r => r.toInt = a_back a σ.1) (f := t_back a) (by decide) (by decide) (j2bq_V [] X2 F hZ.2.1.1 a) (fun x F' hP => kx_back hZ hP)
  | 3, _, hZ => exact xz_pI (σ := (ox F, R)) (V := fun σ r => r.toInt = a_back a σ.1) (f := t_back a) (by decide) (by decide) (j3bq_V [] X2 F hZ.2.1.1 a) (fun x F' hP => kx_back hZ hP)
  | n + 4, h, _ => exact absurd h (by omega)
theorem m_135 (a : Int32) : mzT Ls xs jm_M135 [.int (a)] (fun σ r => r.toInt = a_back a σ.1) (t_back a) := ⟨1, by decide, fun F X1 σ hZ hO => by
  obtain ⟨x0, R⟩ := σ
  have e0 : om F = x0 := hZ.1.2.2
  subst e0
  exact mz_pI (σ := (om F, R)) (V := fun σ r => r.toInt = a_back a σ.1) (f := t_back a) (rbk_V F X1 [] hZ.2.1.1 a) (fun x F' hP => km_back hZ hP)⟩
theorem z_82 (a : Int32) : ∀ σ, okZ σ → okZ ((t_back a) σ) := fun σ h => okZ_back h a
theorem x_84  : xzT Ls xs jm_M84 [] (fun σ r => r.toInt = σ.1.2.2.1) (fun σ => σ) := by
  intro s F X2 σ hs hZ hO
  obtain ⟨x0, R⟩ := σ
  have e0 : ox F = x0 := hZ.1.2.2
  subst e0
  match s, hs, hZ with
  | 0, _, hZ => exact xz_pI (σ := (ox F, R)) (V := fun σ r => r.toInt = σ.1.2.2.1) (f := fun σ => σ) (by decide) (by decide) (j0pq_V [] X2 F hZ.2.1.1) (fun x F' hP => kx_place hZ hP)
  | 1, _, hZ => exact xz_pI (σ := (ox F, R)) (V := fun σ r => r.toInt = σ.1.2.2.1) (f := fun σ => σ) (by decide) (by decide) (j1pq_V [] X2 F hZ.2.1.1) (fun x F' hP => kx_place hZ hP)
  | 2, _, hZ => exact xz_pI (σ := (ox F, R)) (V := fun σ r => r.toInt = σ.1.2.2.1) (f := fun σ => σ) (by decide) (by decide) (j2pq_V [] X2 F hZ.2.1.1) (fun x F' hP => kx_place hZ hP)
  | 3, _, hZ => exact xz_pI (σ := (ox F, R)) (V := fun σ r => r.toInt = σ.1.2.2.1) (f := fun σ => σ) (by decide) (by decide) (j3pq_V [] X2 F hZ.2.1.1) (fun x F' hP => kx_place hZ hP)
  | n + 4, h, _ => exact absurd h (by omega)
theorem m_151  : mzT Ls xs jm_M151 [] (fun σ r => r.toInt = σ.1.2.2.1) (fun σ => σ) := ⟨1, by decide, fun F X1 σ hZ hO => by
  obtain ⟨x0, R⟩ := σ
  have e0 : om F = x0 := hZ.1.2.2
  subst e0
  exact mz_pI (σ := (om F, R)) (V := fun σ r => r.toInt = σ.1.2.2.1) (f := fun σ => σ) (rpl_V F X1 [] hZ.2.1.1) (fun x F' hP => km_place hZ hP)⟩
theorem z_84  : ∀ σ, okZ σ → okZ ((fun σ => σ) σ) := fun σ h => h
theorem x_109  : xzT Ls xs jm_M109 [] (fun σ r => r.toInt = σ.1.2.2.2.1) (t_forget) := by
  intro s F X2 σ hs hZ hO
  obtain ⟨x0, R⟩ := σ
  have e0 : ox F = x0 := hZ.1.2.2
  subst e0
  match s, hs, hZ with
  | 0, _, hZ => exact xz_pI (σ := (ox F, R)) (V := fun σ r => r.toInt = σ.1.2.2.2.1) (f := t_forget) (by decide) (by decide) (j0fq_V [] X2 F hZ.2.1.1) (fun x F' hP => kx_forget hZ hP)
  | 1, _, hZ => exact xz_pI (σ := (ox F, R)) (V := fun σ r => r.toInt = σ.1.2.2.2.1) (f := t_forget) (by decide) (by decide) (j1fq_V [] X2 F hZ.2.1.1) (fun x F' hP => kx_forget hZ hP)
  | 2, _, hZ => exact xz_pI (σ := (ox F, R)) (V := fun σ r => r.toInt = σ.1.2.2.2.1) (f := t_forget) (by decide) (by decide) (j2fq_V [] X2 F hZ.2.1.1) (fun x F' hP => kx_forget hZ hP)
  | 3, _, hZ => exact xz_pI (σ := (ox F, R)) (V := fun σ r => r.toInt = σ.1.2.2.2.1) (f := t_forget) (by decide) (by decide) (j3fq_V [] X2 F hZ.2.1.1) (fun x F' hP => kx_forget hZ hP)
  | n + 4, h, _ => exact absurd h (by omega)
theorem m_229  : mzT Ls xs jm_M229 [] (fun σ r => r.toInt = σ.1.2.2.2.1) (t_forget) := ⟨1, by decide, fun F X1 σ hZ hO => by
  obtain ⟨x0, R⟩ := σ
  have e0 : om F = x0 := hZ.1.2.2
  subst e0
  exact mz_pI (σ := (om F, R)) (V := fun σ r => r.toInt = σ.1.2.2.2.1) (f := t_forget) (rfo_V F X1 [] hZ.2.1.1) (fun x F' hP => km_forget hZ hP)⟩
theorem z_109  : ∀ σ, okZ σ → okZ ((t_forget) σ) := fun σ h => okZ_forget h
theorem x_108 (a : Int32) (b : Int32) : xzT Ls xs jm_M108 [.int (a), .int (b)] (fun σ r => r.toInt = a_tell a b σ.1) (t_tell a b) := by
  intro s F X2 σ hs hZ hO
  obtain ⟨x0, R⟩ := σ
  have e0 : ox F = x0 := hZ.1.2.2
  subst e0
  match s, hs, hZ with
  | 0, _, hZ => exact xz_pI (σ := (ox F, R)) (V := fun σ r => r.toInt = a_tell a b σ.1) (f := t_tell a b) (by decide) (by decide) (j0tq_V [] X2 F hZ.2.1.1 a b) (fun x F' hP => kx_tell hZ hP)
  | 1, _, hZ => exact xz_pI (σ := (ox F, R)) (V := fun σ r => r.toInt = a_tell a b σ.1) (f := t_tell a b) (by decide) (by decide) (j1tq_V [] X2 F hZ.2.1.1 a b) (fun x F' hP => kx_tell hZ hP)
  | 2, _, hZ => exact xz_pI (σ := (ox F, R)) (V := fun σ r => r.toInt = a_tell a b σ.1) (f := t_tell a b) (by decide) (by decide) (j2tq_V [] X2 F hZ.2.1.1 a b) (fun x F' hP => kx_tell hZ hP)
  | 3, _, hZ => exact xz_pI (σ := (ox F, R)) (V := fun σ r => r.toInt = a_tell a b σ.1) (f := t_tell a b) (by decide) (by decide) (j3tq_V [] X2 F hZ.2.1.1 a b) (fun x F' hP => kx_tell hZ hP)
  | n + 4, h, _ => exact absurd h (by omega)
theorem m_228 (a : Int32) (b : Int32) : mzT Ls xs jm_M228 [.int (a), .int (b)] (fun σ r => r.toInt = a_tell a b σ.1) (t_tell a b) := ⟨2, by decide, fun F X1 σ hZ hO => by
  obtain ⟨x0, R⟩ := σ
  have e0 : om F = x0 := hZ.1.2.2
  subst e0
  exact mz_pI (σ := (om F, R)) (V := fun σ r => r.toInt = a_tell a b σ.1) (f := t_tell a b) (rtl_V F X1 [] hZ.2.1.1 a b) (fun x F' hP => km_tell hZ hP)⟩
theorem z_108 (a : Int32) (b : Int32) : ∀ σ, okZ σ → okZ ((t_tell a b) σ) := fun σ h => okZ_tell h a b
theorem x_113 (a : Int32) : xzT Ls xs jm_M113 [.int (a)] (fun σ r => r.toInt = a_hold a σ.1) (t_hold a) := by
  intro s F X2 σ hs hZ hO
  obtain ⟨x0, R⟩ := σ
  have e0 : ox F = x0 := hZ.1.2.2
  subst e0
  match s, hs, hZ with
  | 0, _, hZ => exact xz_pI (σ := (ox F, R)) (V := fun σ r => r.toInt = a_hold a σ.1) (f := t_hold a) (by decide) (by decide) (j0hd_V F [] X2 hZ.2.1.1 hZ.2.1.2.2.1.1.1 hZ.2.1.2.2.1.1.2.1 hZ.2.2.1 hZ.2.2.2.2.1 a) (fun x F' hP => kx_hold hZ hP)
  | 1, _, hZ => exact xz_pI (σ := (ox F, R)) (V := fun σ r => r.toInt = a_hold a σ.1) (f := t_hold a) (by decide) (by decide) (j1hd_V F [] X2 hZ.2.1.1 hZ.2.1.2.2.1.1.1 hZ.2.1.2.2.1.1.2.1 hZ.2.2.1 hZ.2.2.2.2.1 a) (fun x F' hP => kx_hold hZ hP)
  | 2, _, hZ => exact xz_pI (σ := (ox F, R)) (V := fun σ r => r.toInt = a_hold a σ.1) (f := t_hold a) (by decide) (by decide) (j2hd_V F [] X2 hZ.2.1.1 hZ.2.1.2.2.1.1.1 hZ.2.1.2.2.1.1.2.1 hZ.2.2.1 hZ.2.2.2.2.1 a) (fun x F' hP => kx_hold hZ hP)
  | 3, _, hZ => exact xz_pI (σ := (ox F, R)) (V := fun σ r => r.toInt = a_hold a σ.1) (f := t_hold a) (by decide) (by decide) (j3hd_V F [] X2 hZ.2.1.1 hZ.2.1.2.2.1.1.1 hZ.2.1.2.2.1.1.2.1 hZ.2.2.1 hZ.2.2.2.2.1 a) (fun x F' hP => kx_hold hZ hP)
  | n + 4, h, _ => exact absurd h (by omega)
theorem m_236 (a : Int32) : mzT Ls xs jm_M236 [.int (a)] (fun σ r => r.toInt = a_hold a σ.1) (t_hold a) := ⟨2, by decide, fun F X1 σ hZ hO => by
  obtain ⟨x0, R⟩ := σ
  have e0 : om F = x0 := hZ.1.2.2
  subst e0
  exact mz_pI (σ := (om F, R)) (V := fun σ r => r.toInt = a_hold a σ.1) (f := t_hold a) (rhd_V F X1 [] hZ.2.1 hZ.2.2.1 hZ.2.2.2.2.1 a) (fun x F' hP => km_hold hZ hP)⟩
theorem z_113 (a : Int32) : ∀ σ, okZ σ → okZ ((t_hold a) σ) := fun σ h => okZ_hold h a
theorem x_114 (a : Int32) : xzT Ls xs jm_M114 [.int (a)] (fun σ r => r.toInt = a_rest a σ.1) (t_rest a) := by
  intro s F X2 σ hs hZ hO
  obtain ⟨x0, R⟩ := σ
  have e0 : ox F = x0 := hZ.1.2.2
  subst e0
  match s, hs, hZ with
  | 0, _, hZ => exact xz_pI (σ := (ox F, R)) (V := fun σ r => r.toInt = a_rest a σ.1) (f := t_rest a) (by decide) (by decide) (j0rs_V F [] X2 hZ.2.1.1 hZ.2.1.2.2.1.1.1 hZ.2.1.2.2.1.1.2.1 hZ.2.2.2.2.1 a) (fun x F' hP => kx_rest hZ hP)
  | 1, _, hZ => exact xz_pI (σ := (ox F, R)) (V := fun σ r => r.toInt = a_rest a σ.1) (f := t_rest a) (by decide) (by decide) (j1rs_V F [] X2 hZ.2.1.1 hZ.2.1.2.2.1.1.1 hZ.2.1.2.2.1.1.2.1 hZ.2.2.2.2.1 a) (fun x F' hP => kx_rest hZ hP)
  | 2, _, hZ => exact xz_pI (σ := (ox F, R)) (V := fun σ r => r.toInt = a_rest a σ.1) (f := t_rest a) (by decide) (by decide) (j2rs_V F [] X2 hZ.2.1.1 hZ.2.1.2.2.1.1.1 hZ.2.1.2.2.1.1.2.1 hZ.2.2.2.2.1 a) (fun x F' hP => kx_rest hZ hP)
  | 3, _, hZ => exact xz_pI (σ := (ox F, R)) (V := fun σ r => r.toInt = a_rest a σ.1) (f := t_rest a) (by decide) (by decide) (j3rs_V F [] X2 hZ.2.1.1 hZ.2.1.2.2.1.1.1 hZ.2.1.2.2.1.1.2.1 hZ.2.2.2.2.1 a) (fun x F' hP => kx_rest hZ hP)
  | n + 4, h, _ => exact absurd h (by omega)
theorem m_237 (a : Int32) : mzT Ls xs jm_M237 [.int (a)] (fun σ r => r.toInt = a_rest a σ.1) (t_rest a) := ⟨2, by decide, fun F X1 σ hZ hO => by
  obtain ⟨x0, R⟩ := σ
  have e0 : om F = x0 := hZ.1.2.2
  subst e0
  exact mz_pI (σ := (om F, R)) (V := fun σ r => r.toInt = a_rest a σ.1) (f := t_rest a) (rrs_V F X1 [] hZ.2.1 hZ.2.2.2.2.1 a) (fun x F' hP => km_rest hZ hP)⟩
theorem z_114 (a : Int32) : ∀ σ, okZ σ → okZ ((t_rest a) σ) := fun σ h => okZ_rest h a
theorem x_88 (a : Int32) (b : Int32) : xzT Ls xs jm_M88 [.int (a), .int (b)] (fun σ r => r = a_go a b σ) (t_go a b) := by
  intro s F X2 σ hs hZ hO
  obtain ⟨x0, R⟩ := σ
  have e0 : ox F = x0 := hZ.1.2.2
  subst e0
  match s, hs, hZ with
  | 0, _, hZ => exact xz_pI (σ := (ox F, R)) (V := fun σ r => r = a_go a b σ) (f := t_go a b) (by decide) (by decide) (j0go_V F [] X2 hZ.2.1 hZ.2.2.1 hZ.2.2.2.1 a b) (fun x F' hP => kx_go hZ hP)
  | 1, _, hZ => exact xz_pI (σ := (ox F, R)) (V := fun σ r => r = a_go a b σ) (f := t_go a b) (by decide) (by decide) (j1go_V F [] X2 hZ.2.1 hZ.2.2.1 hZ.2.2.2.1 a b) (fun x F' hP => kx_go hZ hP)
  | 2, _, hZ => exact xz_pI (σ := (ox F, R)) (V := fun σ r => r = a_go a b σ) (f := t_go a b) (by decide) (by decide) (j2go_V F [] X2 hZ.2.1 hZ.2.2.1 hZ.2.2.2.1 a b) (fun x F' hP => kx_go hZ hP)
  | 3, _, hZ => exact xz_pI (σ := (ox F, R)) (V := fun σ r => r = a_go a b σ) (f := t_go a b) (by decide) (by decide) (j3go_V F [] X2 hZ.2.1 hZ.2.2.1 hZ.2.2.2.1 a b) (fun x F' hP => kx_go hZ hP)
  | n + 4, h, _ => exact absurd h (by omega)
theorem m_201 (a : Int32) (b : Int32) : mzT Ls xs jm_M201 [.int (a), .int (b)] (fun σ r => r = a_go a b σ) (t_go a b) := ⟨3, by decide, fun F X1 σ hZ hO => by
  obtain ⟨x0, R⟩ := σ
  have e0 : om F = x0 := hZ.1.2.2
  subst e0
  exact mz_pI (σ := (om F, R)) (V := fun σ r => r = a_go a b σ) (f := t_go a b) (rgo_V F X1 [] hZ.2.1 hZ.2.2.1 hZ.2.2.2.1 a b) (fun x F' hP => km_go hZ hP)⟩
theorem z_88 (a : Int32) (b : Int32) : ∀ σ, okZ σ → okZ ((t_go a b) σ) := fun σ h => okZ_go h a b
theorem x_89 (a : Int32) (b : Int32) : xzT Ls xs jm_M89 [.int (a), .int (if b = 0 then 0 else 1)] (fun σ r => r = a_prop a (if b = 0 then 0 else 1) σ) (t_prop a (if b = 0 then 0 else 1)) := by
  intro s F X2 σ hs hZ hO
  obtain ⟨x0, R⟩ := σ
  have e0 : ox F = x0 := hZ.1.2.2
  subst e0
  match s, hs, hZ with
  | 0, _, hZ => exact xz_pI (σ := (ox F, R)) (V := fun σ r => r = a_prop a (if b = 0 then 0 else 1) σ) (f := t_prop a (if b = 0 then 0 else 1)) (by decide) (by decide) (j0pr_V F [] X2 hZ.2.1 hZ.2.2.1 hZ.2.2.2.1 a _ (b01 b).2) (fun x F' hP => kx_prop hZ hP)
  | 1, _, hZ => exact xz_pI (σ := (ox F, R)) (V := fun σ r => r = a_prop a (if b = 0 then 0 else 1) σ) (f := t_prop a (if b = 0 then 0 else 1)) (by decide) (by decide) (j1pr_V F [] X2 hZ.2.1 hZ.2.2.1 hZ.2.2.2.1 a _ (b01 b).2) (fun x F' hP => kx_prop hZ hP)
  | 2, _, hZ => exact xz_pI (σ := (ox F, R)) (V := fun σ r => r = a_prop a (if b = 0 then 0 else 1) σ) (f := t_prop a (if b = 0 then 0 else 1)) (by decide) (by decide) (j2pr_V F [] X2 hZ.2.1 hZ.2.2.1 hZ.2.2.2.1 a _ (b01 b).2) (fun x F' hP => kx_prop hZ hP)
  | 3, _, hZ => exact xz_pI (σ := (ox F, R)) (V := fun σ r => r = a_prop a (if b = 0 then 0 else 1) σ) (f := t_prop a (if b = 0 then 0 else 1)) (by decide) (by decide) (j3pr_V F [] X2 hZ.2.1 hZ.2.2.1 hZ.2.2.2.1 a _ (b01 b).2) (fun x F' hP => kx_prop hZ hP)
  | n + 4, h, _ => exact absurd h (by omega)
theorem m_202 (a : Int32) (b : Int32) : mzT Ls xs jm_M202 [.int (a), .int (if b = 0 then 0 else 1)] (fun σ r => r = a_prop a (if b = 0 then 0 else 1) σ) (t_prop a (if b = 0 then 0 else 1)) := ⟨3, by decide, fun F X1 σ hZ hO => by
  obtain ⟨x0, R⟩ := σ
  have e0 : om F = x0 := hZ.1.2.2
  subst e0
  exact mz_pI (σ := (om F, R)) (V := fun σ r => r = a_prop a (if b = 0 then 0 else 1) σ) (f := t_prop a (if b = 0 then 0 else 1)) (rpr_V F X1 [] hZ.2.1 hZ.2.2.1 hO.1.2 hZ.2.2.2.1 a _ (b01 b).2) (fun x F' hP => km_prop hZ hP)⟩
theorem z_89 (a : Int32) (b : Int32) : ∀ σ, okZ σ → okZ ((t_prop a (if b = 0 then 0 else 1)) σ) := fun σ h => okZ_prop h a (b01 b).1
theorem x_90 (a : Int32) : xzT Ls xs jm_M90 [.int (a)] (fun σ r => r = a_shake a σ) (t_shake a) := by
  intro s F X2 σ hs hZ hO
  obtain ⟨x0, R⟩ := σ
  have e0 : ox F = x0 := hZ.1.2.2
  subst e0
  match s, hs, hZ with
  | 0, _, hZ => exact xz_pI (σ := (ox F, R)) (V := fun σ r => r = a_shake a σ) (f := t_shake a) (by decide) (by decide) (j0sq_V F [] X2 hZ.2.1 hZ.2.2.1 hZ.2.2.2.1 a) (fun x F' hP => kx_shake hZ hP)
  | 1, _, hZ => exact xz_pI (σ := (ox F, R)) (V := fun σ r => r = a_shake a σ) (f := t_shake a) (by decide) (by decide) (j1sq_V F [] X2 hZ.2.1 hZ.2.2.1 hZ.2.2.2.1 a) (fun x F' hP => kx_shake hZ hP)
  | 2, _, hZ => exact xz_pI (σ := (ox F, R)) (V := fun σ r => r = a_shake a σ) (f := t_shake a) (by decide) (by decide) (j2sq_V F [] X2 hZ.2.1 hZ.2.2.1 hZ.2.2.2.1 a) (fun x F' hP => kx_shake hZ hP)
  | 3, _, hZ => exact xz_pI (σ := (ox F, R)) (V := fun σ r => r = a_shake a σ) (f := t_shake a) (by decide) (by decide) (j3sq_V F [] X2 hZ.2.1 hZ.2.2.1 hZ.2.2.2.1 a) (fun x F' hP => kx_shake hZ hP)
  | n + 4, h, _ => exact absurd h (by omega)
theorem m_203 (a : Int32) : mzT Ls xs jm_M203 [.int (a)] (fun σ r => r = a_shake a σ) (t_shake a) := ⟨7, by decide, fun F X1 σ hZ hO => by
  obtain ⟨x0, R⟩ := σ
  have e0 : om F = x0 := hZ.1.2.2
  subst e0
  exact mz_pI (σ := (om F, R)) (V := fun σ r => r = a_shake a σ) (f := t_shake a) (rsk_V F X1 [] hZ.2.1 hZ.2.2.1 hZ.2.2.2.1 a) (fun x F' hP => km_shake hZ hP)⟩
theorem z_90 (a : Int32) : ∀ σ, okZ σ → okZ ((t_shake a) σ) := fun σ h => okZ_shake h a
theorem x_91 (a : Int32) : xzT Ls xs jm_M91 [.int (a)] (fun σ r => r = a_hours a σ) (t_hours a) := by
  intro s F X2 σ hs hZ hO
  obtain ⟨x0, R⟩ := σ
  have e0 : ox F = x0 := hZ.1.2.2
  subst e0
  match s, hs, hZ with
  | 0, _, hZ => exact xz_pI (σ := (ox F, R)) (V := fun σ r => r = a_hours a σ) (f := t_hours a) (by decide) (by decide) (j0hq_V F [] X2 hZ.2.1 hZ.2.2.1 hO.1.1 hZ.2.2.2.1 a) (fun x F' hP => kx_hours hZ hP)
  | 1, _, hZ => exact xz_pI (σ := (ox F, R)) (V := fun σ r => r = a_hours a σ) (f := t_hours a) (by decide) (by decide) (j1hq_V F [] X2 hZ.2.1 hZ.2.2.1 hO.1.1 hZ.2.2.2.1 a) (fun x F' hP => kx_hours hZ hP)
  | 2, _, hZ => exact xz_pI (σ := (ox F, R)) (V := fun σ r => r = a_hours a σ) (f := t_hours a) (by decide) (by decide) (j2hq_V F [] X2 hZ.2.1 hZ.2.2.1 hO.1.1 hZ.2.2.2.1 a) (fun x F' hP => kx_hours hZ hP)
  | 3, _, hZ => exact xz_pI (σ := (ox F, R)) (V := fun σ r => r = a_hours a σ) (f := t_hours a) (by decide) (by decide) (j3hq_V F [] X2 hZ.2.1 hZ.2.2.1 hO.1.1 hZ.2.2.2.1 a) (fun x F' hP => kx_hours hZ hP)
  | n + 4, h, _ => exact absurd h (by omega)
theorem m_204 (a : Int32) : mzT Ls xs jm_M204 [.int (a)] (fun σ r => r = a_hours a σ) (t_hours a) := ⟨9, by decide, fun F X1 σ hZ hO => by
  obtain ⟨x0, R⟩ := σ
  have e0 : om F = x0 := hZ.1.2.2
  subst e0
  exact mz_pI (σ := (om F, R)) (V := fun σ r => r = a_hours a σ) (f := t_hours a) (rhr_V F X1 [] hZ.2.1 hZ.2.2.1 hO.1.1 hZ.2.2.2.1 a) (fun x F' hP => km_hours hZ hP)⟩
theorem z_91 (a : Int32) : ∀ σ, okZ σ → okZ ((t_hours a) σ) := fun σ h => okZ_hours h a
theorem x_92 : xzT Ls xs jm_M92 [] (fun σ r => r = a_undo σ) t_undo := by
  intro s F X2 σ hs hZ hO
  obtain ⟨x0, T, g, U, HW⟩ := σ
  have e0 : ox F = x0 := hZ.1.2.2
  subst e0
  match U, s, hs, hZ with
  | [], 0, _, hZ => exact xz_pI (σ := (ox F, T, g, [], HW)) (V := fun σ r => r = a_undo σ) (f := t_undo) (by decide) (by decide) (j0un_V0 F [] X2 hZ.2.1.1 hZ.2.2.2.1) (fun x F' hP => kx_undo0 hZ hP)
  | u :: U, 0, _, hZ => exact xz_pI (σ := (ox F, T, g, u :: U, HW)) (V := fun σ r => r = a_undo σ) (f := t_undo) (by decide) (by decide) (j0un_V1 F [] X2 hZ.2.1.1 hZ.2.1.2.2.1.1.1 hZ.2.1.2.2.1.1.2.1 hZ.2.2.2.1) (fun x F' hP => kx_undo1 hZ hP)
  | [], 1, _, hZ => exact xz_pI (σ := (ox F, T, g, [], HW)) (V := fun σ r => r = a_undo σ) (f := t_undo) (by decide) (by decide) (j1un_V0 F [] X2 hZ.2.1.1 hZ.2.2.2.1) (fun x F' hP => kx_undo0 hZ hP)
  | u :: U, 1, _, hZ => exact xz_pI (σ := (ox F, T, g, u :: U, HW)) (V := fun σ r => r = a_undo σ) (f := t_undo) (by decide) (by decide) (j1un_V1 F [] X2 hZ.2.1.1 hZ.2.1.2.2.1.1.1 hZ.2.1.2.2.1.1.2.1 hZ.2.2.2.1) (fun x F' hP => kx_undo1 hZ hP)
  | [], 2, _, hZ => exact xz_pI (σ := (ox F, T, g, [], HW)) (V := fun σ r => r = a_undo σ) (f := t_undo) (by decide) (by decide) (j2un_V0 F [] X2 hZ.2.1.1 hZ.2.2.2.1) (fun x F' hP => kx_undo0 hZ hP)
  | u :: U, 2, _, hZ => exact xz_pI (σ := (ox F, T, g, u :: U, HW)) (V := fun σ r => r = a_undo σ) (f := t_undo) (by decide) (by decide) (j2un_V1 F [] X2 hZ.2.1.1 hZ.2.1.2.2.1.1.1 hZ.2.1.2.2.1.1.2.1 hZ.2.2.2.1) (fun x F' hP => kx_undo1 hZ hP)
  | [], 3, _, hZ => exact xz_pI (σ := (ox F, T, g, [], HW)) (V := fun σ r => r = a_undo σ) (f := t_undo) (by decide) (by decide) (j3un_V0 F [] X2 hZ.2.1.1 hZ.2.2.2.1) (fun x F' hP => kx_undo0 hZ hP)
  | u :: U, 3, _, hZ => exact xz_pI (σ := (ox F, T, g, u :: U, HW)) (V := fun σ r => r = a_undo σ) (f := t_undo) (by decide) (by decide) (j3un_V1 F [] X2 hZ.2.1.1 hZ.2.1.2.2.1.1.1 hZ.2.1.2.2.1.1.2.1 hZ.2.2.2.1) (fun x F' hP => kx_undo1 hZ hP)
  | _, n + 4, h, _ => exact absurd h (by omega)
theorem m_205 : mzT Ls xs jm_M205 [] (fun σ r => r = a_undo σ) t_undo := ⟨1, by decide, fun F X1 σ hZ hO => by
  obtain ⟨x0, T, g, U, HW⟩ := σ
  have e0 : om F = x0 := hZ.1.2.2
  subst e0
  match U, hZ with
  | [], hZ => exact mz_pI (σ := (om F, T, g, [], HW)) (V := fun σ r => r = a_undo σ) (f := t_undo) (run_V0 F X1 [] hZ.2.1.1 hZ.2.2.2.1) (fun x F' hP => km_undo0 hZ hP)
  | u :: U, hZ => exact mz_pI (σ := (om F, T, g, u :: U, HW)) (V := fun σ r => r = a_undo σ) (f := t_undo) (run_V1 F X1 [] hZ.2.1 hZ.2.2.2.1) (fun x F' hP => km_undo1 hZ hP)⟩
theorem z_92 : ∀ σ, okZ σ → okZ (t_undo σ) := fun σ h => okZ_undo h
theorem x_83 : xzT Ls xs jm_M83 [] (fun σ r => r.toInt = a_read σ.1) t_read := by
  intro s F X2 σ hs hZ hO
  obtain ⟨x0, R⟩ := σ
  have e0 : ox F = x0 := hZ.1.2.2
  subst e0
  match s, hs, hZ with
  | 0, _, hZ =>
    refine ⟨29, by decide, ?_⟩
    rw [← dh_x F [] X2 (by decide : 0 < 4)]
    exact jm_T_mono (j0rd_V [] X2 F hZ.2.1.1 hZ.1.1 hZ.1.2.1) (fun v G hP => kx_read0 hZ hP)
  | 1, _, hZ =>
    refine ⟨29, by decide, ?_⟩
    rw [← dh_x F [] X2 (by decide : 1 < 4)]
    exact jm_T_mono (j1rd_V [] X2 F hZ.2.1.1 hZ.1.1 hZ.1.2.1) (fun v G hP => kx_read1 hZ hP)
  | 2, _, hZ =>
    refine ⟨29, by decide, ?_⟩
    rw [← dh_x F [] X2 (by decide : 2 < 4)]
    exact jm_T_mono (j2rd_V [] X2 F hZ.2.1.1 hZ.1.1 hZ.1.2.1) (fun v G hP => kx_read2 hZ hP)
  | 3, _, hZ =>
    refine ⟨29, by decide, ?_⟩
    rw [← dh_x F [] X2 (by decide : 3 < 4)]
    exact jm_T_mono (j3rd_V [] X2 F hZ.2.1.1 hZ.1.1 hZ.1.2.1) (fun v G hP => kx_read3 hZ hP)
  | n + 4, h, _ => exact absurd h (by omega)
theorem m_150 : mzT Ls xs jm_M150 [] (fun σ r => r.toInt = a_read σ.1) t_read := ⟨8, by decide, fun F X1 σ hZ hO => by
  obtain ⟨x0, R⟩ := σ
  have e0 : om F = x0 := hZ.1.2.2
  subst e0
  rw [← dh_m F X1 []]
  exact jm_T_mono (rrd_V X1 [] R.1 F hZ.2.1.1 hZ.1.1 hZ.1.2.1 hZ.2.1.2.1) (fun v G hP => km_read hZ hP)⟩
theorem z_83 : ∀ σ, okZ σ → okZ (t_read σ) := fun σ h => okZ_read h
end TH
end
section
/-! ===== how many ways a told row may be: by trying all codes, and by a product ===== -/
def cntN (P : Nat → Bool) : Nat → Nat
  | 0 => 0
  | n + 1 => cntN P n + (if P n = true then 1 else 0)
def smN (f : Nat → Nat) : Nat → Nat
  | 0 => 0
  | n + 1 => smN f n + f n
theorem cnt_cg {P Q : Nat → Bool} : ∀ n : Nat, (∀ i, i < n → P i = Q i) → cntN P n = cntN Q n
  | 0, _ => rfl
  | n + 1, h => by
    show cntN P n + (if P n = true then 1 else 0) = cntN Q n + (if Q n = true then 1 else 0)
    rw [cnt_cg n (fun i hi => h i (by omega)), h n (by omega)]
theorem sm_cg {f g : Nat → Nat} : ∀ n : Nat, (∀ i, i < n → f i = g i) → smN f n = smN g n
  | 0, _ => rfl
  | n + 1, h => by
    show smN f n + f n = smN g n + g n
    rw [sm_cg n (fun i hi => h i (by omega)), h n (by omega)]
theorem cnt_add (P : Nat → Bool) (a : Nat) : ∀ b : Nat, cntN P (a + b) = cntN P a + cntN (fun d => P (a + d)) b
  | 0 => rfl
  | b + 1 => by
    show cntN P (a + b) + (if P (a + b) = true then 1 else 0) = cntN P a + (cntN (fun d => P (a + d)) b + (if P (a + b) = true then 1 else 0))
    rw [cnt_add P a b]
    omega
theorem cnt_7 (P : Nat → Bool) : ∀ m : Nat, cntN P (m * 7) = smN (fun c => cntN (fun d => P (c * 7 + d)) 7) m
  | 0 => rfl
  | m + 1 => by
    show cntN P ((m + 1) * 7) = smN (fun c => cntN (fun d => P (c * 7 + d)) 7) m + cntN (fun d => P (m * 7 + d)) 7
    rw [show (m + 1) * 7 = m * 7 + 7 by omega, cnt_add P (m * 7) 7, cnt_7 P m]
theorem cnt_no {P : Nat → Bool} : ∀ n : Nat, (∀ i, i < n → P i = false) → cntN P n = 0
  | 0, _ => rfl
  | n + 1, h => by
    show cntN P n + (if P n = true then 1 else 0) = 0
    rw [cnt_no n (fun i hi => h i (by omega)), h n (by omega)]
    rfl
theorem cnt_le (P : Nat → Bool) : ∀ n : Nat, cntN P n ≤ n
  | 0 => Nat.le_refl _
  | n + 1 => by
    have ih := cnt_le P n
    show cntN P n + (if P n = true then 1 else 0) ≤ n + 1
    split <;> omega
theorem cnt_pos {P : Nat → Bool} : ∀ n : Nat, 0 < cntN P n → ∃ i, i < n ∧ P i = true
  | 0, h => absurd h (Nat.lt_irrefl 0)
  | n + 1, h => by
    by_cases q : P n = true
    · exact ⟨n, Nat.lt_succ_self n, q⟩
    · have h : 0 < cntN P n + (if P n = true then 1 else 0) := h
      rw [if_neg q] at h
      obtain ⟨i, h1, h2⟩ := cnt_pos n h
      exact ⟨i, by omega, h2⟩
/-- split by a second property -/
theorem cnt_sp (P Q : Nat → Bool) : ∀ n : Nat, cntN P n = cntN (fun i => P i && Q i) n + cntN (fun i => P i && !Q i) n
  | 0 => rfl
  | n + 1 => by
    have ih := cnt_sp P Q n
    show cntN P n + (if P n = true then 1 else 0) = (cntN (fun i => P i && Q i) n + (if (P n && Q n) = true then 1 else 0)) + (cntN (fun i => P i && !Q i) n + (if (P n && !Q n) = true then 1 else 0))
    cases P n <;> cases Q n <;> simp <;> omega
/-- one more -/
theorem cnt_in {P Q : Nat → Bool} {k : Nat} : ∀ n : Nat, k < n → P k = false → Q k = true → (∀ i, i ≠ k → Q i = P i) → cntN Q n = cntN P n + 1
  | 0, h, _, _, _ => absurd h (by omega)
  | n + 1, h, h1, h2, h3 => by
    show cntN Q n + (if Q n = true then 1 else 0) = cntN P n + (if P n = true then 1 else 0) + 1
    by_cases q : n = k
    · subst q
      rw [h1, h2, cnt_cg n (fun i hi => h3 i (by omega))]
      simp
    · rw [cnt_in n (by omega) h1 h2 h3, h3 n q]
      omega
theorem sm_mul (P : Nat → Bool) (k : Nat) : ∀ n : Nat, smN (fun c => if P c = true then k else 0) n = cntN P n * k
  | 0 => (Nat.zero_mul k).symm
  | n + 1 => by
    show smN (fun c => if P c = true then k else 0) n + (if P n = true then k else 0) = (cntN P n + (if P n = true then 1 else 0)) * k
    rw [sm_mul P k n, Nat.add_mul]
    cases P n <;> simp
theorem sm_add (f g : Nat → Nat) : ∀ n : Nat, smN (fun c => f c + g c) n = smN f n + smN g n
  | 0 => rfl
  | n + 1 => by
    show smN (fun c => f c + g c) n + (f n + g n) = (smN f n + f n) + (smN g n + g n)
    rw [sm_add f g n]
    omega
theorem sm_one (P : Nat → Bool) : ∀ n : Nat, smN (fun c => if P c = true then 1 else 0) n = cntN P n
  | 0 => rfl
  | n + 1 => by
    show smN (fun c => if P c = true then 1 else 0) n + _ = cntN P n + _
    rw [sm_one P n]
theorem sm_0 : ∀ n : Nat, smN (fun _ => 0) n = 0
  | 0 => rfl
  | n + 1 => sm_0 n
/-- sums change places -/
theorem sm_sw (f : Nat → Nat → Nat) (m : Nat) : ∀ n : Nat, smN (fun c => smN (fun j => f c j) m) n = smN (fun j => smN (fun c => f c j) n) m
  | 0 => (sm_0 m).symm
  | n + 1 => by
    show smN (fun c => smN (fun j => f c j) m) n + smN (fun j => f n j) m = smN (fun j => smN (fun c => f c j) n + f n j) m
    rw [sm_sw f m n, sm_add]
section CT
variable (K W : Nat → Int32 × Int32) (nf : Nat)
/-- which fruit row i may be; which rows before are alike -/
def mtN (i : Nat) : Nat := cntN (fun f => decide (K f = W i)) nf
def eqN (i : Nat) : Nat := cntN (fun j => decide (W j = W i)) i
def usd : Nat → Nat → List Nat
  | 0, _ => []
  | n + 1, c => c % 7 :: usd n (c / 7)
def dgN : Nat → Nat → Nat → Nat
  | 0, _, _ => 7
  | n + 1, i, c => if i = n then c % 7 else dgN n i (c / 7)
def okc : Nat → Nat → Bool
  | 0, _ => true
  | n + 1, c => okc n (c / 7) && (decide (c % 7 < nf) && !(usd n (c / 7)).contains (c % 7) && decide (K (c % 7) = W n))
def rwN (n : Nat) : Nat := cntN (okc K W nf n) (7 ^ n)
def prN : Nat → Nat
  | 0 => 1
  | n + 1 => prN n * (mtN K W nf n - eqN W n)
/-- what is free for row n behind code c -/
def frN (n c : Nat) : Nat := cntN (fun d => decide (d < nf) && !(usd n c).contains d && decide (K d = W n)) 7
variable {K W nf}
theorem us_cnt (h7 : nf ≤ 7) (w : Int32 × Int32) : ∀ (n c : Nat), okc K W nf n c = true → cntN (fun d => (decide (d < nf) && decide (K d = w)) && (usd n c).contains d) 7 = cntN (fun j => decide (W j = w)) n
  | 0, c, _ => cnt_no 7 (fun i _ => by
    show ((decide (i < nf) && decide (K i = w)) && ([] : List Nat).contains i) = false
    simp)
  | n + 1, c, h => by
    have h : (okc K W nf n (c / 7) && (decide (c % 7 < nf) && !(usd n (c / 7)).contains (c % 7) && decide (K (c % 7) = W n))) = true := h
    simp only [Bool.and_eq_true, decide_eq_true_eq, Bool.not_eq_true'] at h
    obtain ⟨h1, ⟨h2, h3⟩, h4⟩ := h
    have ih := us_cnt h7 w n (c / 7) h1
    show cntN (fun d => (decide (d < nf) && decide (K d = w)) && (c % 7 :: usd n (c / 7)).contains d) 7 = cntN (fun j => decide (W j = w)) n + (if decide (W n = w) = true then 1 else 0)
    by_cases q : W n = w
    · rw [if_pos (decide_eq_true q), ← ih]
      refine cnt_in (k := c % 7) 7 (by omega) ?_ ?_ ?_
      · rw [h3, Bool.and_false]
      · rw [decide_eq_true h2, decide_eq_true (h4.trans q)]
        simp
      · intro i hi
        have : (c % 7 :: usd n (c / 7)).contains i = (usd n (c / 7)).contains i := by
          rw [List.contains_cons, show (i == c % 7) = false from beq_eq_false_iff_ne.mpr hi, Bool.false_or]
        rw [this]
    · rw [if_neg (fun z => q (of_decide_eq_true z)), Nat.add_zero, ← ih]
      refine cnt_cg 7 (fun i _ => ?_)
      by_cases e : i = c % 7
      · have : decide (K i = w) = false := decide_eq_false (fun z => q (by rw [← h4, ← e]; exact z))
        rw [this]
        simp
      · rw [List.contains_cons, show (i == c % 7) = false from beq_eq_false_iff_ne.mpr e, Bool.false_or]
theorem cnt_nf (h7 : nf ≤ 7) (P : Nat → Bool) : cntN P nf = cntN (fun d => decide (d < nf) && P d) 7 := by
  have e : 7 = nf + (7 - nf) := by omega
  have k := cnt_add (fun d => decide (d < nf) && P d) nf (7 - nf)
  rw [← e] at k
  rw [k, cnt_no (7 - nf) (fun i _ => by rw [decide_eq_false (by omega : ¬ nf + i < nf), Bool.false_and]), Nat.add_zero]
  exact cnt_cg nf (fun i hi => by rw [decide_eq_true hi, Bool.true_and])
theorem fr_of (h7 : nf ≤ 7) {n c : Nat} (h : okc K W nf n c = true) : frN K W nf n c + eqN W n = mtN K W nf n := by
  unfold mtN
  rw [cnt_nf h7, cnt_sp _ (fun d => (usd n c).contains d) 7, us_cnt h7 (W n) n c h]
  unfold frN eqN
  rw [Nat.add_comm]
  congr 1
  exact cnt_cg 7 (fun i _ => by
    cases decide (i < nf) <;> cases (usd n c).contains i <;> cases decide (K i = W n) <;> rfl)
theorem ok_s (n c d : Nat) (hd : d < 7) : okc K W nf (n + 1) (c * 7 + d) = (okc K W nf n c && (decide (d < nf) && !(usd n c).contains d && decide (K d = W n))) := by
  show (okc K W nf n ((c * 7 + d) / 7) && (decide ((c * 7 + d) % 7 < nf) && !(usd n ((c * 7 + d) / 7)).contains ((c * 7 + d) % 7) && decide (K ((c * 7 + d) % 7) = W n))) = _
  rw [show (c * 7 + d) / 7 = c by omega, show (c * 7 + d) % 7 = d by omega]
theorem ok_row (n c : Nat) : cntN (fun d => okc K W nf (n + 1) (c * 7 + d)) 7 = if okc K W nf n c = true then frN K W nf n c else 0 := by
  by_cases q : okc K W nf n c = true
  · rw [if_pos q]
    exact cnt_cg 7 (fun d hd => by rw [ok_s n c d hd, q, Bool.true_and])
  · rw [if_neg q]
    exact cnt_no 7 (fun d hd => by rw [ok_s n c d hd, Bool.eq_false_iff.mpr q, Bool.false_and])
theorem rw_s (h7 : nf ≤ 7) (n : Nat) : rwN K W nf (n + 1) = rwN K W nf n * (mtN K W nf n - eqN W n) := by
  unfold rwN
  rw [Nat.pow_succ, cnt_7, ← sm_mul]
  refine sm_cg _ (fun c _ => ?_)
  rw [ok_row]
  by_cases q : okc K W nf n c = true
  · rw [if_pos q, if_pos q]
    have := fr_of h7 q
    omega
  · rw [if_neg q, if_neg q]
/-- all codes tried are as many as the product says -/
theorem rw_pr (h7 : nf ≤ 7) : ∀ n : Nat, rwN K W nf n = prN K W nf n
  | 0 => rfl
  | n + 1 => by
    rw [rw_s h7, rw_pr h7 n]
    rfl
end CT
end
section
/-! ===== in how many of the ways a row is a certain fruit ===== -/
section TL
variable (K W : Nat → Int32 × Int32) (nf : Nat)
def tlN (n i f : Nat) : Nat := cntN (fun c => okc K W nf n c && decide (dgN n i c = f)) (7 ^ n)
variable {K W nf}
theorem dg_us : ∀ (n c f : Nat), f < 7 → okc K W nf n c = true → (if (usd n c).contains f = true then 1 else 0) = cntN (fun j => decide (dgN n j c = f)) n
  | 0, c, f, _, _ => rfl
  | n + 1, c, f, hf, h => by
    have h : (okc K W nf n (c / 7) && (decide (c % 7 < nf) && !(usd n (c / 7)).contains (c % 7) && decide (K (c % 7) = W n))) = true := h
    simp only [Bool.and_eq_true, decide_eq_true_eq, Bool.not_eq_true'] at h
    obtain ⟨h1, ⟨h2, h3⟩, h4⟩ := h
    have ih := dg_us n (c / 7) f hf h1
    show (if (c % 7 :: usd n (c / 7)).contains f = true then 1 else 0) = cntN (fun j => decide (dgN (n + 1) j c = f)) n + (if decide (dgN (n + 1) n c = f) = true then 1 else 0)
    have e1 : cntN (fun j => decide (dgN (n + 1) j c = f)) n = cntN (fun j => decide (dgN n j (c / 7) = f)) n := cnt_cg n (fun i hi => by
      show decide ((if i = n then c % 7 else dgN n i (c / 7)) = f) = _
      rw [if_neg (by omega)])
    have e2 : dgN (n + 1) n c = c % 7 := if_pos rfl
    rw [e1, e2, ← ih]
    by_cases q : c % 7 = f
    · subst q
      rw [h3]
      simp
    · rw [List.contains_cons, show (f == c % 7) = false from beq_eq_false_iff_ne.mpr (fun z => q z.symm), Bool.false_or, decide_eq_false q]
      simp
theorem dg_ok : ∀ (n c j : Nat), j < n → okc K W nf n c = true → dgN n j c < nf ∧ K (dgN n j c) = W j
  | 0, c, j, h, _ => absurd h (by omega)
  | n + 1, c, j, hj, h => by
    have h : (okc K W nf n (c / 7) && (decide (c % 7 < nf) && !(usd n (c / 7)).contains (c % 7) && decide (K (c % 7) = W n))) = true := h
    simp only [Bool.and_eq_true, decide_eq_true_eq, Bool.not_eq_true'] at h
    obtain ⟨h1, ⟨h2, h3⟩, h4⟩ := h
    show (if j = n then c % 7 else dgN n j (c / 7)) < nf ∧ K (if j = n then c % 7 else dgN n j (c / 7)) = W j
    by_cases q : j = n
    · rw [if_pos q, q]
      exact ⟨h2, h4⟩
    · rw [if_neg q]
      exact dg_ok n (c / 7) j (by omega) h1
/-- a row before goes on as often as there are ways for the next -/
theorem tl_s (h7 : nf ≤ 7) {n i f : Nat} (hi : i < n) : tlN K W nf (n + 1) i f = tlN K W nf n i f * (mtN K W nf n - eqN W n) := by
  unfold tlN
  rw [Nat.pow_succ, cnt_7, ← sm_mul]
  refine sm_cg _ (fun c _ => ?_)
  have e : cntN (fun d => okc K W nf (n + 1) (c * 7 + d) && decide (dgN (n + 1) i (c * 7 + d) = f)) 7 = cntN (fun d => okc K W nf (n + 1) (c * 7 + d) && decide (dgN n i c = f)) 7 := cnt_cg 7 (fun d hd => by
    show (_ && decide ((if i = n then (c * 7 + d) % 7 else dgN n i ((c * 7 + d) / 7)) = f)) = _
    rw [if_neg (by omega), show (c * 7 + d) / 7 = c by omega])
  rw [e]
  by_cases q : dgN n i c = f
  · rw [decide_eq_true q]
    have e2 : cntN (fun d => okc K W nf (n + 1) (c * 7 + d) && true) 7 = cntN (fun d => okc K W nf (n + 1) (c * 7 + d)) 7 := cnt_cg 7 (fun d _ => Bool.and_true _)
    rw [e2, ok_row, Bool.and_true]
    by_cases o : okc K W nf n c = true
    · rw [if_pos o, if_pos o]
      have := fr_of h7 o
      omega
    · rw [if_neg o, if_neg o]
  · rw [decide_eq_false q, Bool.and_false, if_neg (by decide)]
    exact cnt_no 7 (fun d _ => Bool.and_false _)
/-- the last row -/
theorem tl_l (h7 : nf ≤ 7) {n f : Nat} (hf : f < nf) (hk : K f = W n) : tlN K W nf (n + 1) n f + smN (fun j => tlN K W nf n j f) n = rwN K W nf n := by
  have f7 : f < 7 := by omega
  have e1 : tlN K W nf (n + 1) n f = cntN (fun c => okc K W nf n c && !(usd n c).contains f) (7 ^ n) := by
    unfold tlN
    rw [Nat.pow_succ, cnt_7, ← sm_one]
    refine sm_cg _ (fun c _ => ?_)
    have e : ∀ d, d < 7 → (okc K W nf (n + 1) (c * 7 + d) && decide (dgN (n + 1) n (c * 7 + d) = f)) = ((okc K W nf n c && !(usd n c).contains f) && decide (d = f)) := fun d hd => by
      rw [ok_s n c d hd, show dgN (n + 1) n (c * 7 + d) = (c * 7 + d) % 7 from if_pos rfl, show (c * 7 + d) % 7 = d by omega]
      by_cases q : d = f
      · subst q
        rw [decide_eq_true hf, decide_eq_true hk]
        cases okc K W nf n c <;> cases (usd n c).contains d <;> simp
      · rw [decide_eq_false q]
        simp
    rw [cnt_cg 7 e]
    by_cases q : (okc K W nf n c && !(usd n c).contains f) = true
    · rw [if_pos q, q]
      have k := cnt_in (P := fun _ => false) (Q := fun d => true && decide (d = f)) (k := f) 7 f7 rfl (by simp) (fun i hi => by rw [decide_eq_false hi]; rfl)
      rw [k, cnt_no 7 (fun _ _ => rfl)]
    · rw [if_neg q, Bool.eq_false_iff.mpr q]
      exact cnt_no 7 (fun d _ => Bool.false_and _)
  have e2 : smN (fun j => tlN K W nf n j f) n = cntN (fun c => okc K W nf n c && (usd n c).contains f) (7 ^ n) := by
    have a : smN (fun j => tlN K W nf n j f) n = smN (fun j => smN (fun c => if (okc K W nf n c && decide (dgN n j c = f)) = true then 1 else 0) (7 ^ n)) n := sm_cg n (fun j _ => (sm_one _ _).symm)
    rw [a, ← sm_sw, ← sm_one]
    refine sm_cg _ (fun c _ => ?_)
    rw [sm_one]
    by_cases o : okc K W nf n c = true
    · rw [o, Bool.true_and]
      have b : cntN (fun j => true && decide (dgN n j c = f)) n = cntN (fun j => decide (dgN n j c = f)) n := cnt_cg n (fun _ _ => Bool.true_and _)
      rw [b]
      exact (dg_us n c f f7 o).symm
    · rw [Bool.eq_false_iff.mpr o, Bool.false_and, if_neg (by decide)]
      exact cnt_no n (fun _ _ => Bool.false_and _)
  rw [e1, e2, Nat.add_comm]
  unfold rwN
  exact (cnt_sp _ _ _).symm
theorem tz_0 {n j f : Nat} (hj : j < n) (h : K f ≠ W j) : tlN K W nf n j f = 0 := cnt_no _ (fun c _ => by
  by_cases o : okc K W nf n c = true
  · by_cases q : dgN n j c = f
    · exact absurd (by rw [← q]; exact (dg_ok n c j hj o).2) h
    · rw [decide_eq_false q, Bool.and_false]
  · rw [Bool.eq_false_iff.mpr o, Bool.false_and])
theorem tl_nf {n j f : Nat} (hj : j < n) (h : nf ≤ f) : tlN K W nf n j f = 0 := cnt_no _ (fun c _ => by
  by_cases o : okc K W nf n c = true
  · by_cases q : dgN n j c = f
    · have z := (dg_ok n c j hj o).1
      exact absurd (Nat.lt_of_lt_of_le z h) (by rw [q]; exact Nat.lt_irrefl f)
    · rw [decide_eq_false q, Bool.and_false]
  · rw [Bool.eq_false_iff.mpr o, Bool.false_and])
/-- each fruit that a row may be, it is in as many of the ways -/
theorem tl_mt (h7 : nf ≤ 7) : ∀ (n i f : Nat), i < n → f < nf → K f = W i → mtN K W nf i * tlN K W nf n i f = rwN K W nf n
  | 0, i, f, h, _, _ => absurd h (by omega)
  | n + 1, i, f, hi, hf, hk => by
    rw [rw_s h7]
    by_cases q : i = n
    · subst q
      have l := tl_l h7 hf hk
      have s : mtN K W nf i * smN (fun j => tlN K W nf i j f) i = eqN W i * rwN K W nf i := by
        have k : ∀ m : Nat, m ≤ i → mtN K W nf i * smN (fun j => tlN K W nf i j f) m = cntN (fun j => decide (W j = W i)) m * rwN K W nf i := fun m => by
          induction m with
          | zero => intro _; show _ * 0 = 0 * _; omega
          | succ m ihm =>
            intro hm
            show mtN K W nf i * (smN (fun j => tlN K W nf i j f) m + tlN K W nf i m f) = (cntN (fun j => decide (W j = W i)) m + (if decide (W m = W i) = true then 1 else 0)) * rwN K W nf i
            rw [Nat.mul_add, ihm (by omega), Nat.add_mul]
            by_cases z : W m = W i
            · rw [if_pos (decide_eq_true z), Nat.one_mul]
              have e := tl_mt h7 i m f (by omega) hf (hk.trans z.symm)
              have em : mtN K W nf m = mtN K W nf i := by
                unfold mtN
                rw [z]
              rw [em] at e
              rw [e]
            · rw [if_neg (fun w => z (of_decide_eq_true w)), Nat.zero_mul, tz_0 (by omega) (fun w => z (w.symm.trans hk)), Nat.mul_zero]
        exact k i (Nat.le_refl _)
      have e3 : mtN K W nf i * tlN K W nf (i + 1) i f + eqN W i * rwN K W nf i = mtN K W nf i * rwN K W nf i := by
        rw [← s, ← Nat.mul_add, l]
      rw [Nat.mul_sub, Nat.mul_comm (rwN K W nf i) (mtN K W nf i), Nat.mul_comm (rwN K W nf i) (eqN W i)]
      omega
    · rw [tl_s h7 (by omega), ← Nat.mul_assoc, tl_mt h7 n i f (by omega) hf hk]
end TL
end
