/-! ===== shake, hours, what is told and taped, way by way (shape 2) ===== -/
theorem j2sq_0_p0 {Ls : Nat} {xs : Nat → Int32} {d : Nat} {Q : Option Value → jm_h → Prop} (hd : 2 ≤ d) (F : Nat → sy_d) (X1 X2 : List jm_c) (hB : iv_in F iv_B0)
    (h0 : (sy_i F 82).toInt < 0)
    (k : ∀ F1 : Nat → sy_d, (∀ j, j < 82 → True → F1 j = F j) → Q (some (.int (((-1) : Int32)))) (sy_dh F1 X1 X2 (iv_H 2))) :
    hd_W Ls xs d jm_M90 Q (0, sy_dL F [some (.inl (.ref 8)), some (.inr (.inl 82)), none, none], sy_dS F [], sy_dh F X1 X2 (iv_H 2), 0, 0) := by
  refine hd_ret (s := 2) (nv := 83) (v := some (.inl (.int (-1)))) (uh := hd_ov (iv_id 0 iv_B0) []) (f := true) (sp := [33]) (d0 := 1) (O := [true]) (T := []) (P := [(2, .inr (.inl 82), .inl (.int 0))]) jm_ok90 (by decide +kernel) (by decide +kernel) hd F X1 X2 (fun F' hF hs => ?_)
  have b82 := hd_b (F := F) (F' := F') (k := 82) (hF 82 (by decide))
  have hB' : iv_in F' iv_B0 := iv_in_eq hB (fun j hj => hF j (Nat.lt_of_lt_of_le hj (by decide +kernel)))
  refine ⟨List.forall_mem_cons.mpr ⟨hd_p2 b82 rfl (by have hc : ((0) : Int32).toInt = 0 := (by decide); omega), fun _ h => absurd h List.not_mem_nil⟩, ?_⟩
  refine k _ ?_
  · exact fun j hj _ => (hd_keep hB' (Nat.lt_of_lt_of_le hj (by decide +kernel)) (by simp)).trans (hF j (by omega))
theorem j2sq_0_p1 {Ls : Nat} {xs : Nat → Int32} {d : Nat} {Q : Option Value → jm_h → Prop} (hd : 2 ≤ d) (F : Nat → sy_d) (X1 X2 : List jm_c) (hB : iv_in F iv_B0)
    (h0 : 0 ≤ (sy_i F 82).toInt)
    (h1 : (sy_i F 18).toInt ≤ (sy_i F 82).toInt)
    (k : ∀ F1 : Nat → sy_d, (∀ j, j < 82 → True → F1 j = F j) → Q (some (.int (((-1) : Int32)))) (sy_dh F1 X1 X2 (iv_H 2))) :
    hd_W Ls xs d jm_M90 Q (0, sy_dL F [some (.inl (.ref 8)), some (.inr (.inl 82)), none, none], sy_dS F [], sy_dh F X1 X2 (iv_H 2), 0, 0) := by
  refine hd_ret (s := 2) (nv := 83) (v := some (.inl (.int (-1)))) (uh := hd_ov (iv_id 0 iv_B0) []) (f := true) (sp := [33]) (d0 := 1) (O := [false, true]) (T := []) (P := [(3, .inr (.inl 82), .inl (.int 0)), (4, .inr (.inl 18), .inr (.inl 82))]) jm_ok90 (by decide +kernel) (by decide +kernel) hd F X1 X2 (fun F' hF hs => ?_)
  have b82 := hd_b (F := F) (F' := F') (k := 82) (hF 82 (by decide))
  have b18 := hd_b (F := F) (F' := F') (k := 18) (hF 18 (by decide))
  have hB' : iv_in F' iv_B0 := iv_in_eq hB (fun j hj => hF j (Nat.lt_of_lt_of_le hj (by decide +kernel)))
  refine ⟨List.forall_mem_cons.mpr ⟨hd_p3 b82 rfl (by have hc : ((0) : Int32).toInt = 0 := (by decide); omega), List.forall_mem_cons.mpr ⟨hd_p4 b18 b82 h1, fun _ h => absurd h List.not_mem_nil⟩⟩, ?_⟩
  refine k _ ?_
  · exact fun j hj _ => (hd_keep hB' (Nat.lt_of_lt_of_le hj (by decide +kernel)) (by simp)).trans (hF j (by omega))
theorem j2sq_0_p2 {Ls : Nat} {xs : Nat → Int32} {d : Nat} {Q : Option Value → jm_h → Prop} (hd : 2 ≤ d) (F : Nat → sy_d) (X1 X2 : List jm_c) (hB : iv_in F iv_B0)
    (h0 : 0 ≤ (sy_i F 82).toInt)
    (h1 : (sy_i F 82).toInt < (sy_i F 18).toInt)
    (h2 : 0 ≤ (sy_i F 82).toInt ∧ (sy_i F 82).toInt < 7)
    (h3 : ((sy_ai F 54).getD (sy_i F 82).toNatClampNeg 0).toInt = 0)
    (k : ∀ F1 : Nat → sy_d, (∀ j, j < 82 → True → F1 j = F j) → F1 82 = .inl (.int (sy_i F 82)) → hd_W Ls xs d jm_M90 Q (33, sy_dL F1 [some (.inl (.ref 8)), some (.inr (.inl 82)), none, none], sy_dS F1 [.inl (.ref 46), .inl (.ref 66)], sy_dh F1 X1 X2 (iv_H 2), 0, 0)) :
    hd_W Ls xs d jm_M90 Q (0, sy_dL F [some (.inl (.ref 8)), some (.inr (.inl 82)), none, none], sy_dS F [], sy_dh F X1 X2 (iv_H 2), 0, 0) := by
  refine hd_run (s := 2) (nv := 83) (pc := 33) (L := [some (.inl (.ref 8)), some (.inr (.inl 82)), none, none]) (S := [.inl (.ref 46), .inl (.ref 66)]) (uh := hd_ov (iv_id 0 iv_B0) []) (ul := [.inl (.inr (.inl 82))]) (f := true) (sp := [33]) (d0 := 1) (O := [false, false, true]) (T := [(30, [.inr (.inl 82)], [.inr (.inl 54)])]) (P := [(3, .inr (.inl 82), .inl (.int 0)), (5, .inr (.inl 18), .inr (.inl 82)), (6, .inr (.inl 82), .inl (.ref 7)), (0, .inr (.inl 83), .inl (.int 0))]) jm_ok90 (by decide +kernel) (by decide +kernel) hd F X1 X2 (fun F' hF hs => ?_)
  have b82 := hd_b (F := F) (F' := F') (k := 82) (hF 82 (by decide))
  have b18 := hd_b (F := F) (F' := F') (k := 18) (hF 18 (by decide))
  have a54 := hd_ba (F := F) (F' := F') (k := 54) (hF 54 (by decide))
  have t83 : sy_dv F' (.inr (.inl 83)) = .int ((sy_ai F 54).getD (sy_i F 82).toNatClampNeg 0) := hd_rd (hs 0 _ rfl) b82 a54
  have hB' : iv_in F' iv_B0 := iv_in_eq hB (fun j hj => hF j (Nat.lt_of_lt_of_le hj (by decide +kernel)))
  refine ⟨List.forall_mem_cons.mpr ⟨hd_p3 b82 rfl (by have hc : ((0) : Int32).toInt = 0 := (by decide); omega), List.forall_mem_cons.mpr ⟨hd_p5 b18 b82 h1, List.forall_mem_cons.mpr ⟨hd_pb b82 (by first | exact h2 | exact h2), List.forall_mem_cons.mpr ⟨hd_p0 t83 rfl (by have hc : ((0) : Int32).toInt = 0 := (by decide); omega), fun _ h => absurd h List.not_mem_nil⟩⟩⟩⟩, ?_⟩
  refine k _ ?_ ?_
  · exact fun j hj _ => (hd_keep hB' (Nat.lt_of_lt_of_le hj (by decide +kernel)) (by simp)).trans (hF j (by omega))
  · exact hd_gi (x := .inr (.inl 82)) (by decide +kernel) b82
theorem j2sq_0_p3 {Ls : Nat} {xs : Nat → Int32} {d : Nat} {Q : Option Value → jm_h → Prop} (hd : 2 ≤ d) (F : Nat → sy_d) (X1 X2 : List jm_c) (hB : iv_in F iv_B0)
    (h0 : 0 ≤ (sy_i F 82).toInt)
    (h1 : (sy_i F 82).toInt < (sy_i F 18).toInt)
    (h2 : 0 ≤ (sy_i F 82).toInt ∧ (sy_i F 82).toInt < 7)
    (h3 : ((sy_ai F 54).getD (sy_i F 82).toNatClampNeg 0).toInt ≠ 0)
    (k : ∀ F1 : Nat → sy_d, (∀ j, j < 82 → True → F1 j = F j) → Q (some (.int (((-2) : Int32)))) (sy_dh F1 X1 X2 (iv_H 2))) :
    hd_W Ls xs d jm_M90 Q (0, sy_dL F [some (.inl (.ref 8)), some (.inr (.inl 82)), none, none], sy_dS F [], sy_dh F X1 X2 (iv_H 2), 0, 0) := by
  refine hd_ret (s := 2) (nv := 83) (v := some (.inl (.int (-2)))) (uh := hd_ov (iv_id 0 iv_B0) []) (f := true) (sp := [33]) (d0 := 1) (O := [false, false, false]) (T := [(30, [.inr (.inl 82)], [.inr (.inl 54)])]) (P := [(3, .inr (.inl 82), .inl (.int 0)), (5, .inr (.inl 18), .inr (.inl 82)), (6, .inr (.inl 82), .inl (.ref 7)), (1, .inr (.inl 83), .inl (.int 0))]) jm_ok90 (by decide +kernel) (by decide +kernel) hd F X1 X2 (fun F' hF hs => ?_)
  have b82 := hd_b (F := F) (F' := F') (k := 82) (hF 82 (by decide))
  have b18 := hd_b (F := F) (F' := F') (k := 18) (hF 18 (by decide))
  have a54 := hd_ba (F := F) (F' := F') (k := 54) (hF 54 (by decide))
  have t83 : sy_dv F' (.inr (.inl 83)) = .int ((sy_ai F 54).getD (sy_i F 82).toNatClampNeg 0) := hd_rd (hs 0 _ rfl) b82 a54
  have hB' : iv_in F' iv_B0 := iv_in_eq hB (fun j hj => hF j (Nat.lt_of_lt_of_le hj (by decide +kernel)))
  refine ⟨List.forall_mem_cons.mpr ⟨hd_p3 b82 rfl (by have hc : ((0) : Int32).toInt = 0 := (by decide); omega), List.forall_mem_cons.mpr ⟨hd_p5 b18 b82 h1, List.forall_mem_cons.mpr ⟨hd_pb b82 (by first | exact h2 | exact h2), List.forall_mem_cons.mpr ⟨hd_p1 t83 rfl (by have hc : ((0) : Int32).toInt = 0 := (by decide); omega), fun _ h => absurd h List.not_mem_nil⟩⟩⟩⟩, ?_⟩
  refine k _ ?_
  · exact fun j hj _ => (hd_keep hB' (Nat.lt_of_lt_of_le hj (by decide +kernel)) (by simp)).trans (hF j (by omega))
theorem j2sq_0 {Ls : Nat} {xs : Nat → Int32} {d : Nat} {Q : Option Value → jm_h → Prop} (hd : 2 ≤ d) (F : Nat → sy_d) (X1 X2 : List jm_c) (hB : iv_in F iv_B0)
    (k0 : (sy_i F 82).toInt < 0 → ∀ F1 : Nat → sy_d, iv_in F1 iv_B0 → (∀ j, j < 82 → j ∉ ([] : List Nat) → F1 j = F j) → Q (some (.int (((-1) : Int32)))) (sy_dh F1 X1 X2 (iv_H 2)))
    (k1 : 0 ≤ (sy_i F 82).toInt → (sy_i F 18).toInt ≤ (sy_i F 82).toInt → ∀ F1 : Nat → sy_d, iv_in F1 iv_B0 → (∀ j, j < 82 → j ∉ ([] : List Nat) → F1 j = F j) → Q (some (.int (((-1) : Int32)))) (sy_dh F1 X1 X2 (iv_H 2)))
    (k2 : 0 ≤ (sy_i F 82).toInt → (sy_i F 82).toInt < (sy_i F 18).toInt → ((sy_ai F 54).getD ((sy_i F 82).toInt).toNat 0).toInt = 0 → ∀ F1 : Nat → sy_d, iv_in F1 iv_B0 → (∀ j, j < 82 → j ∉ ([] : List Nat) → F1 j = F j) → (sy_i F1 82).toInt = (sy_i F 82).toInt → sy_i F1 82 = sy_i F 82 → hd_W Ls xs d jm_M90 Q (33, sy_dL F1 [some (.inl (.ref 8)), some (.inr (.inl 82)), none, none], sy_dS F1 [.inl (.ref 46), .inl (.ref 66)], sy_dh F1 X1 X2 (iv_H 2), 0, 0))
    (k3 : 0 ≤ (sy_i F 82).toInt → (sy_i F 82).toInt < (sy_i F 18).toInt → ((sy_ai F 54).getD ((sy_i F 82).toInt).toNat 0).toInt ≠ 0 → ∀ F1 : Nat → sy_d, iv_in F1 iv_B0 → (∀ j, j < 82 → j ∉ ([] : List Nat) → F1 j = F j) → Q (some (.int (((-2) : Int32)))) (sy_dh F1 X1 X2 (iv_H 2))) :
    hd_W Ls xs d jm_M90 Q (0, sy_dL F [some (.inl (.ref 8)), some (.inr (.inl 82)), none, none], sy_dS F [], sy_dh F X1 X2 (iv_H 2), 0, 0) := by
  by_cases g0 : (sy_i F 82).toInt < 0
  · exact j2sq_0_p0 hd F X1 X2 hB (by first | exact g0 | (simp only [nz_c]; exact g0)) (fun F1 g  => k0 g0 F1 (nz_in0 hB [] (fun j hj hn => g j hj (by simp only [List.mem_cons, List.not_mem_nil, or_false, not_or] at hn; exact trivial)) (List.forall_mem_nil _)) (fun j hj hn => g j hj (by simp only [List.mem_cons, List.not_mem_nil, or_false, not_or] at hn; exact trivial)) )
  replace g0 : 0 ≤ (sy_i F 82).toInt := by omega
  by_cases g1 : (sy_i F 18).toInt ≤ (sy_i F 82).toInt
  · have c18 := nz_bx hB (k := 18) (lo := 0) (hi := 7) rfl
    exact j2sq_0_p1 hd F X1 X2 hB (by first | exact g0 | (simp only [nz_c]; exact g0)) (by first | exact g1 | (simp only [nz_c]; exact g1)) (fun F1 g  => k1 g0 g1 F1 (nz_in0 hB [] (fun j hj hn => g j hj (by simp only [List.mem_cons, List.not_mem_nil, or_false, not_or] at hn; exact trivial)) (List.forall_mem_nil _)) (fun j hj hn => g j hj (by simp only [List.mem_cons, List.not_mem_nil, or_false, not_or] at hn; exact trivial)) )
  replace g1 : (sy_i F 82).toInt < (sy_i F 18).toInt := by omega
  by_cases g2 : ((sy_ai F 54).getD ((sy_i F 82).toInt).toNat 0).toInt = 0
  · have c18 := nz_bx hB (k := 18) (lo := 0) (hi := 7) rfl
    have q83 : (sy_ai F 54).getD (sy_i F 82).toNatClampNeg 0 = (sy_ai F 54).getD ((sy_i F 82).toInt).toNat 0 := by simp only [nz_c]
    have n83 : nzI ((sy_ai F 54).getD (sy_i F 82).toNatClampNeg 0) (((sy_ai F 54).getD ((sy_i F 82).toInt).toNat 0).toInt) := congrArg Int32.toInt q83
    exact j2sq_0_p2 hd F X1 X2 hB (by first | exact g0 | (simp only [nz_c]; exact g0)) (by first | exact g1 | (simp only [nz_c]; exact g1)) (by first | exact ⟨by omega, by omega⟩ | (simp only [nz_c]; exact ⟨by omega, by omega⟩)) (by first | exact g2 | (simp only [nz_c]; exact g2) | (rw [(nzE n83)]; exact g2)) (fun F1 g e82 => k2 g0 g1 g2 F1 (nz_in0 hB [] (fun j hj hn => g j hj (by simp only [List.mem_cons, List.not_mem_nil, or_false, not_or] at hn; exact trivial)) (List.forall_mem_nil _)) (fun j hj hn => g j hj (by simp only [List.mem_cons, List.not_mem_nil, or_false, not_or] at hn; exact trivial)) ((congrArg Int32.toInt (zz_i e82)).trans (rfl : (sy_i F 82).toInt = (sy_i F 82).toInt)) ((zz_i e82).trans (rfl : sy_i F 82 = sy_i F 82)))
  replace g2 : ((sy_ai F 54).getD ((sy_i F 82).toInt).toNat 0).toInt ≠ 0 := by omega
  have c18 := nz_bx hB (k := 18) (lo := 0) (hi := 7) rfl
  have q83 : (sy_ai F 54).getD (sy_i F 82).toNatClampNeg 0 = (sy_ai F 54).getD ((sy_i F 82).toInt).toNat 0 := by simp only [nz_c]
  have n83 : nzI ((sy_ai F 54).getD (sy_i F 82).toNatClampNeg 0) (((sy_ai F 54).getD ((sy_i F 82).toInt).toNat 0).toInt) := congrArg Int32.toInt q83
  exact j2sq_0_p3 hd F X1 X2 hB (by first | exact g0 | (simp only [nz_c]; exact g0)) (by first | exact g1 | (simp only [nz_c]; exact g1)) (by first | exact ⟨by omega, by omega⟩ | (simp only [nz_c]; exact ⟨by omega, by omega⟩)) (by first | exact g2 | (simp only [nz_c]; exact g2) | (rw [(nzE n83)]; exact g2)) (fun F1 g  => k3 g0 g1 g2 F1 (nz_in0 hB [] (fun j hj hn => g j hj (by simp only [List.mem_cons, List.not_mem_nil, or_false, not_or] at hn; exact trivial)) (List.forall_mem_nil _)) (fun j hj hn => g j hj (by simp only [List.mem_cons, List.not_mem_nil, or_false, not_or] at hn; exact trivial)) )
theorem j2sq_36_p0 {Ls : Nat} {xs : Nat → Int32} {d : Nat} {Q : Option Value → jm_h → Prop} (hd : 3 ≤ d) (F : Nat → sy_d) (X1 X2 : List jm_c) (hB : iv_in F iv_B0)
    (h1 : 0 ≤ (sy_i F 82).toInt ∧ (sy_i F 82).toInt < 7)
    (h2 : 0 ≤ (sy_i F 82).toInt ∧ (sy_i F 82).toInt < 7)
    (k : ∀ F1 : Nat → sy_d, (∀ j, j < 82 → j ≠ 51 ∧ j ≠ 58 → F1 j = F j) → F1 51 = .inl (.int ((sy_i F 51) + ((1 : Int32)))) → F1 58 = .inr (.inl (jm_upd (sy_ai F 58) (sy_i F 82).toNatClampNeg (((sy_ai F 58).getD (sy_i F 82).toNatClampNeg 0) + ((1 : Int32))))) → F1 82 = .inl (.int (((((((((((((sy_i F 22) ^^^ ((101 : Int32))) * ((1103515245 : Int32))) + ((12345 : Int32))) ^^^ (((((((sy_i F 22) ^^^ ((101 : Int32))) * ((1103515245 : Int32))) + ((12345 : Int32)))).toUInt32 >>> ((((15 : Int32))).toUInt32 &&& Int32.toUInt32 31)).toInt32)) ^^^ (((1000000 : Int32)) + (sy_i F 51))) * ((1103515245 : Int32))) + ((12345 : Int32))) ^^^ (((((((((((sy_i F 22) ^^^ ((101 : Int32))) * ((1103515245 : Int32))) + ((12345 : Int32))) ^^^ (((((((sy_i F 22) ^^^ ((101 : Int32))) * ((1103515245 : Int32))) + ((12345 : Int32)))).toUInt32 >>> ((((15 : Int32))).toUInt32 &&& Int32.toUInt32 31)).toInt32)) ^^^ (((1000000 : Int32)) + (sy_i F 51))) * ((1103515245 : Int32))) + ((12345 : Int32)))).toUInt32 >>> ((((15 : Int32))).toUInt32 &&& Int32.toUInt32 31)).toInt32))).toUInt32 >>> ((((1 : Int32))).toUInt32 &&& Int32.toUInt32 31)).toInt32) - ((((((((((((sy_i F 22) ^^^ ((101 : Int32))) * ((1103515245 : Int32))) + ((12345 : Int32))) ^^^ (((((((sy_i F 22) ^^^ ((101 : Int32))) * ((1103515245 : Int32))) + ((12345 : Int32)))).toUInt32 >>> ((((15 : Int32))).toUInt32 &&& Int32.toUInt32 31)).toInt32)) ^^^ (((1000000 : Int32)) + (sy_i F 51))) * ((1103515245 : Int32))) + ((12345 : Int32))) ^^^ (((((((((((sy_i F 22) ^^^ ((101 : Int32))) * ((1103515245 : Int32))) + ((12345 : Int32))) ^^^ (((((((sy_i F 22) ^^^ ((101 : Int32))) * ((1103515245 : Int32))) + ((12345 : Int32)))).toUInt32 >>> ((((15 : Int32))).toUInt32 &&& Int32.toUInt32 31)).toInt32)) ^^^ (((1000000 : Int32)) + (sy_i F 51))) * ((1103515245 : Int32))) + ((12345 : Int32)))).toUInt32 >>> ((((15 : Int32))).toUInt32 &&& Int32.toUInt32 31)).toInt32))).toUInt32 >>> ((((1 : Int32))).toUInt32 &&& Int32.toUInt32 31)).toInt32) / ((100 : Int32)) * ((100 : Int32)))) → F1 83 = .inl (.int (sy_i F 50)) → F1 84 = .inl (.int (sy_i F 18)) → hd_W Ls xs d jm_M90 Q (110, sy_dL F1 [some (.inl (.ref 8)), none, some (.inr (.inl 82)), none], sy_dS F1 [.inr (.inl 84), .inl (.int 0), .inl (.ref 46), .inr (.inl 83), .inl (.ref 20), .inl (.ref 38)], sy_dh F1 X1 X2 (iv_H 2), 0, 0)) :
    hd_W Ls xs d jm_M90 Q (36, sy_dL F [some (.inl (.ref 8)), some (.inr (.inl 82)), none, none], sy_dS F [], sy_dh F X1 X2 (iv_H 2), 0, 0) := by
  refine hd_run (s := 2) (nv := 83) (pc := 110) (L := [some (.inl (.ref 8)), none, some (.inr (.inl 82)), none]) (S := [.inr (.inl 84), .inl (.int 0), .inl (.ref 46), .inr (.inl 83), .inl (.ref 20), .inl (.ref 38)]) (uh := hd_ov (iv_id 0 iv_B0) [(51, .inl (.inr (.inl 99))), (58, .inr (.inr (.inl 98)))]) (ul := [.inl (.inr (.inl 95)), .inl (.inr (.inl 50)), .inl (.inr (.inl 18))]) (f := false) (sp := [110]) (d0 := 2) (O := []) (T := [(0, [.inl (.int 1000000), .inr (.inl 51)], []), (5, [.inr (.inl 22), .inl (.int 101)], []), (2, [.inr (.inl 84), .inl (.int 1103515245)], []), (0, [.inr (.inl 85), .inl (.int 12345)], []), (8, [.inr (.inl 86), .inl (.int 15)], []), (5, [.inr (.inl 86), .inr (.inl 87)], []), (5, [.inr (.inl 88), .inr (.inl 83)], []), (2, [.inr (.inl 89), .inl (.int 1103515245)], []), (0, [.inr (.inl 90), .inl (.int 12345)], []), (8, [.inr (.inl 91), .inl (.int 15)], []), (5, [.inr (.inl 91), .inr (.inl 92)], []), (8, [.inr (.inl 93), .inl (.int 1)], []), (10, [.inr (.inl 94), .inl (.int 100)], []), (30, [.inr (.inl 82)], [.inr (.inl 58)]), (0, [.inr (.inl 96), .inl (.int 1)], []), (40, [.inr (.inl 82), .inr (.inl 97)], [.inr (.inl 58)]), (0, [.inr (.inl 51), .inl (.int 1)], [])]) (P := [(1, .inl (.int 100), .inl (.int 0)), (6, .inr (.inl 82), .inl (.ref 7)), (6, .inr (.inl 82), .inl (.ref 7))]) jm_ok90 (by decide +kernel) (by decide +kernel) hd F X1 X2 (fun F' hF hs => ?_)
  have b82 := hd_b (F := F) (F' := F') (k := 82) (hF 82 (by decide))
  have b51 := hd_b (F := F) (F' := F') (k := 51) (hF 51 (by decide))
  have t99 : sy_dv F' (.inr (.inl 99)) = .int ((sy_i F 51) + ((1 : Int32))) := hd_o (hs 16 _ rfl) b51 rfl rfl
  have a58 := hd_ba (F := F) (F' := F') (k := 58) (hF 58 (by decide))
  have t96 : sy_dv F' (.inr (.inl 96)) = .int ((sy_ai F 58).getD (sy_i F 82).toNatClampNeg 0) := hd_rd (hs 13 _ rfl) b82 a58
  have t97 : sy_dv F' (.inr (.inl 97)) = .int (((sy_ai F 58).getD (sy_i F 82).toNatClampNeg 0) + ((1 : Int32))) := hd_o (hs 14 _ rfl) t96 rfl rfl
  have t98 : sy_da F' (.inr (.inl 98)) = .inl (jm_upd (sy_ai F 58) (sy_i F 82).toNatClampNeg (((sy_ai F 58).getD (sy_i F 82).toNatClampNeg 0) + ((1 : Int32)))) := hd_up (hs 15 _ rfl) b82 t97 a58
  have b22 := hd_b (F := F) (F' := F') (k := 22) (hF 22 (by decide))
  have t84 : sy_dv F' (.inr (.inl 84)) = .int ((sy_i F 22) ^^^ ((101 : Int32))) := hd_o (hs 1 _ rfl) b22 rfl rfl
  have t85 : sy_dv F' (.inr (.inl 85)) = .int (((sy_i F 22) ^^^ ((101 : Int32))) * ((1103515245 : Int32))) := hd_o (hs 2 _ rfl) t84 rfl rfl
  have t86 : sy_dv F' (.inr (.inl 86)) = .int ((((sy_i F 22) ^^^ ((101 : Int32))) * ((1103515245 : Int32))) + ((12345 : Int32))) := hd_o (hs 3 _ rfl) t85 rfl rfl
  have t87 : sy_dv F' (.inr (.inl 87)) = .int (((((((sy_i F 22) ^^^ ((101 : Int32))) * ((1103515245 : Int32))) + ((12345 : Int32)))).toUInt32 >>> ((((15 : Int32))).toUInt32 &&& Int32.toUInt32 31)).toInt32) := hd_o (hs 4 _ rfl) t86 rfl rfl
  have t88 : sy_dv F' (.inr (.inl 88)) = .int (((((sy_i F 22) ^^^ ((101 : Int32))) * ((1103515245 : Int32))) + ((12345 : Int32))) ^^^ (((((((sy_i F 22) ^^^ ((101 : Int32))) * ((1103515245 : Int32))) + ((12345 : Int32)))).toUInt32 >>> ((((15 : Int32))).toUInt32 &&& Int32.toUInt32 31)).toInt32)) := hd_o (hs 5 _ rfl) t86 t87 rfl
  have t83 : sy_dv F' (.inr (.inl 83)) = .int (((1000000 : Int32)) + (sy_i F 51)) := hd_o (hs 0 _ rfl) rfl b51 rfl
  have t89 : sy_dv F' (.inr (.inl 89)) = .int ((((((sy_i F 22) ^^^ ((101 : Int32))) * ((1103515245 : Int32))) + ((12345 : Int32))) ^^^ (((((((sy_i F 22) ^^^ ((101 : Int32))) * ((1103515245 : Int32))) + ((12345 : Int32)))).toUInt32 >>> ((((15 : Int32))).toUInt32 &&& Int32.toUInt32 31)).toInt32)) ^^^ (((1000000 : Int32)) + (sy_i F 51))) := hd_o (hs 6 _ rfl) t88 t83 rfl
  have t90 : sy_dv F' (.inr (.inl 90)) = .int (((((((sy_i F 22) ^^^ ((101 : Int32))) * ((1103515245 : Int32))) + ((12345 : Int32))) ^^^ (((((((sy_i F 22) ^^^ ((101 : Int32))) * ((1103515245 : Int32))) + ((12345 : Int32)))).toUInt32 >>> ((((15 : Int32))).toUInt32 &&& Int32.toUInt32 31)).toInt32)) ^^^ (((1000000 : Int32)) + (sy_i F 51))) * ((1103515245 : Int32))) := hd_o (hs 7 _ rfl) t89 rfl rfl
  have t91 : sy_dv F' (.inr (.inl 91)) = .int ((((((((sy_i F 22) ^^^ ((101 : Int32))) * ((1103515245 : Int32))) + ((12345 : Int32))) ^^^ (((((((sy_i F 22) ^^^ ((101 : Int32))) * ((1103515245 : Int32))) + ((12345 : Int32)))).toUInt32 >>> ((((15 : Int32))).toUInt32 &&& Int32.toUInt32 31)).toInt32)) ^^^ (((1000000 : Int32)) + (sy_i F 51))) * ((1103515245 : Int32))) + ((12345 : Int32))) := hd_o (hs 8 _ rfl) t90 rfl rfl
  have t92 : sy_dv F' (.inr (.inl 92)) = .int (((((((((((sy_i F 22) ^^^ ((101 : Int32))) * ((1103515245 : Int32))) + ((12345 : Int32))) ^^^ (((((((sy_i F 22) ^^^ ((101 : Int32))) * ((1103515245 : Int32))) + ((12345 : Int32)))).toUInt32 >>> ((((15 : Int32))).toUInt32 &&& Int32.toUInt32 31)).toInt32)) ^^^ (((1000000 : Int32)) + (sy_i F 51))) * ((1103515245 : Int32))) + ((12345 : Int32)))).toUInt32 >>> ((((15 : Int32))).toUInt32 &&& Int32.toUInt32 31)).toInt32) := hd_o (hs 9 _ rfl) t91 rfl rfl
  have t93 : sy_dv F' (.inr (.inl 93)) = .int (((((((((sy_i F 22) ^^^ ((101 : Int32))) * ((1103515245 : Int32))) + ((12345 : Int32))) ^^^ (((((((sy_i F 22) ^^^ ((101 : Int32))) * ((1103515245 : Int32))) + ((12345 : Int32)))).toUInt32 >>> ((((15 : Int32))).toUInt32 &&& Int32.toUInt32 31)).toInt32)) ^^^ (((1000000 : Int32)) + (sy_i F 51))) * ((1103515245 : Int32))) + ((12345 : Int32))) ^^^ (((((((((((sy_i F 22) ^^^ ((101 : Int32))) * ((1103515245 : Int32))) + ((12345 : Int32))) ^^^ (((((((sy_i F 22) ^^^ ((101 : Int32))) * ((1103515245 : Int32))) + ((12345 : Int32)))).toUInt32 >>> ((((15 : Int32))).toUInt32 &&& Int32.toUInt32 31)).toInt32)) ^^^ (((1000000 : Int32)) + (sy_i F 51))) * ((1103515245 : Int32))) + ((12345 : Int32)))).toUInt32 >>> ((((15 : Int32))).toUInt32 &&& Int32.toUInt32 31)).toInt32)) := hd_o (hs 10 _ rfl) t91 t92 rfl
  have t94 : sy_dv F' (.inr (.inl 94)) = .int ((((((((((((sy_i F 22) ^^^ ((101 : Int32))) * ((1103515245 : Int32))) + ((12345 : Int32))) ^^^ (((((((sy_i F 22) ^^^ ((101 : Int32))) * ((1103515245 : Int32))) + ((12345 : Int32)))).toUInt32 >>> ((((15 : Int32))).toUInt32 &&& Int32.toUInt32 31)).toInt32)) ^^^ (((1000000 : Int32)) + (sy_i F 51))) * ((1103515245 : Int32))) + ((12345 : Int32))) ^^^ (((((((((((sy_i F 22) ^^^ ((101 : Int32))) * ((1103515245 : Int32))) + ((12345 : Int32))) ^^^ (((((((sy_i F 22) ^^^ ((101 : Int32))) * ((1103515245 : Int32))) + ((12345 : Int32)))).toUInt32 >>> ((((15 : Int32))).toUInt32 &&& Int32.toUInt32 31)).toInt32)) ^^^ (((1000000 : Int32)) + (sy_i F 51))) * ((1103515245 : Int32))) + ((12345 : Int32)))).toUInt32 >>> ((((15 : Int32))).toUInt32 &&& Int32.toUInt32 31)).toInt32))).toUInt32 >>> ((((1 : Int32))).toUInt32 &&& Int32.toUInt32 31)).toInt32) := hd_o (hs 11 _ rfl) t93 rfl rfl
  have t95 : sy_dv F' (.inr (.inl 95)) = .int (((((((((((((sy_i F 22) ^^^ ((101 : Int32))) * ((1103515245 : Int32))) + ((12345 : Int32))) ^^^ (((((((sy_i F 22) ^^^ ((101 : Int32))) * ((1103515245 : Int32))) + ((12345 : Int32)))).toUInt32 >>> ((((15 : Int32))).toUInt32 &&& Int32.toUInt32 31)).toInt32)) ^^^ (((1000000 : Int32)) + (sy_i F 51))) * ((1103515245 : Int32))) + ((12345 : Int32))) ^^^ (((((((((((sy_i F 22) ^^^ ((101 : Int32))) * ((1103515245 : Int32))) + ((12345 : Int32))) ^^^ (((((((sy_i F 22) ^^^ ((101 : Int32))) * ((1103515245 : Int32))) + ((12345 : Int32)))).toUInt32 >>> ((((15 : Int32))).toUInt32 &&& Int32.toUInt32 31)).toInt32)) ^^^ (((1000000 : Int32)) + (sy_i F 51))) * ((1103515245 : Int32))) + ((12345 : Int32)))).toUInt32 >>> ((((15 : Int32))).toUInt32 &&& Int32.toUInt32 31)).toInt32))).toUInt32 >>> ((((1 : Int32))).toUInt32 &&& Int32.toUInt32 31)).toInt32) - ((((((((((((sy_i F 22) ^^^ ((101 : Int32))) * ((1103515245 : Int32))) + ((12345 : Int32))) ^^^ (((((((sy_i F 22) ^^^ ((101 : Int32))) * ((1103515245 : Int32))) + ((12345 : Int32)))).toUInt32 >>> ((((15 : Int32))).toUInt32 &&& Int32.toUInt32 31)).toInt32)) ^^^ (((1000000 : Int32)) + (sy_i F 51))) * ((1103515245 : Int32))) + ((12345 : Int32))) ^^^ (((((((((((sy_i F 22) ^^^ ((101 : Int32))) * ((1103515245 : Int32))) + ((12345 : Int32))) ^^^ (((((((sy_i F 22) ^^^ ((101 : Int32))) * ((1103515245 : Int32))) + ((12345 : Int32)))).toUInt32 >>> ((((15 : Int32))).toUInt32 &&& Int32.toUInt32 31)).toInt32)) ^^^ (((1000000 : Int32)) + (sy_i F 51))) * ((1103515245 : Int32))) + ((12345 : Int32)))).toUInt32 >>> ((((15 : Int32))).toUInt32 &&& Int32.toUInt32 31)).toInt32))).toUInt32 >>> ((((1 : Int32))).toUInt32 &&& Int32.toUInt32 31)).toInt32) / ((100 : Int32)) * ((100 : Int32))) := hd_o (hs 12 _ rfl) t94 rfl rfl
  have b50 := hd_b (F := F) (F' := F') (k := 50) (hF 50 (by decide))
  have b18 := hd_b (F := F) (F' := F') (k := 18) (hF 18 (by decide))
  have hB' : iv_in F' iv_B0 := iv_in_eq hB (fun j hj => hF j (Nat.lt_of_lt_of_le hj (by decide +kernel)))
  refine ⟨List.forall_mem_cons.mpr ⟨(hd_p1 (X := 100) (Y := 0) rfl rfl (by decide)), List.forall_mem_cons.mpr ⟨hd_pb b82 (by first | exact h1 | exact h1), List.forall_mem_cons.mpr ⟨hd_pb b82 (by first | exact h2 | exact h2), fun _ h => absurd h List.not_mem_nil⟩⟩⟩, ?_⟩
  refine k _ ?_ ?_ ?_ ?_ ?_ ?_
  · exact fun j hj hn => (hd_keep hB' (Nat.lt_of_lt_of_le hj (by decide +kernel)) (by simp; omega)).trans (hF j (by omega))
  · exact hd_gi (x := .inr (.inl 99)) (by decide +kernel) t99
  · exact hd_ga (a := .inr (.inl 98)) (by decide +kernel) t98
  · exact hd_gi (x := .inr (.inl 95)) (by decide +kernel) t95
  · exact hd_gi (x := .inr (.inl 50)) (by decide +kernel) b50
  · exact hd_gi (x := .inr (.inl 18)) (by decide +kernel) b18
theorem j2sq_36 {Ls : Nat} {xs : Nat → Int32} {d : Nat} {Q : Option Value → jm_h → Prop} (hd : 3 ≤ d) (F : Nat → sy_d) (X1 X2 : List jm_c) (hB : iv_in F iv_B0)
    (a82 : 0 ≤ (sy_i F 82).toInt ∧ (sy_i F 82).toInt ≤ 6)
    (k0 : ∀ F1 : Nat → sy_d, iv_in F1 iv_B0 → (∀ j, j < 82 → j ∉ ([51, 58] : List Nat) → F1 j = F j) → (sy_i F1 51).toInt = ((sy_i F 51) + ((1 : Int32))).toInt → sy_i F1 51 = (sy_i F 51) + ((1 : Int32)) → sy_ai F1 58 = jm_upd (sy_ai F 58) ((sy_i F 82).toInt).toNat (((sy_ai F 58).getD ((sy_i F 82).toInt).toNat 0) + ((1 : Int32))) → (sy_i F1 82).toInt = (((((((((((((sy_i F 22) ^^^ ((101 : Int32))) * ((1103515245 : Int32))) + ((12345 : Int32))) ^^^ (((((((sy_i F 22) ^^^ ((101 : Int32))) * ((1103515245 : Int32))) + ((12345 : Int32)))).toUInt32 >>> ((((15 : Int32))).toUInt32 &&& Int32.toUInt32 31)).toInt32)) ^^^ (((1000000 : Int32)) + (sy_i F 51))) * ((1103515245 : Int32))) + ((12345 : Int32))) ^^^ (((((((((((sy_i F 22) ^^^ ((101 : Int32))) * ((1103515245 : Int32))) + ((12345 : Int32))) ^^^ (((((((sy_i F 22) ^^^ ((101 : Int32))) * ((1103515245 : Int32))) + ((12345 : Int32)))).toUInt32 >>> ((((15 : Int32))).toUInt32 &&& Int32.toUInt32 31)).toInt32)) ^^^ (((1000000 : Int32)) + (sy_i F 51))) * ((1103515245 : Int32))) + ((12345 : Int32)))).toUInt32 >>> ((((15 : Int32))).toUInt32 &&& Int32.toUInt32 31)).toInt32))).toUInt32 >>> ((((1 : Int32))).toUInt32 &&& Int32.toUInt32 31)).toInt32) - ((((((((((((sy_i F 22) ^^^ ((101 : Int32))) * ((1103515245 : Int32))) + ((12345 : Int32))) ^^^ (((((((sy_i F 22) ^^^ ((101 : Int32))) * ((1103515245 : Int32))) + ((12345 : Int32)))).toUInt32 >>> ((((15 : Int32))).toUInt32 &&& Int32.toUInt32 31)).toInt32)) ^^^ (((1000000 : Int32)) + (sy_i F 51))) * ((1103515245 : Int32))) + ((12345 : Int32))) ^^^ (((((((((((sy_i F 22) ^^^ ((101 : Int32))) * ((1103515245 : Int32))) + ((12345 : Int32))) ^^^ (((((((sy_i F 22) ^^^ ((101 : Int32))) * ((1103515245 : Int32))) + ((12345 : Int32)))).toUInt32 >>> ((((15 : Int32))).toUInt32 &&& Int32.toUInt32 31)).toInt32)) ^^^ (((1000000 : Int32)) + (sy_i F 51))) * ((1103515245 : Int32))) + ((12345 : Int32)))).toUInt32 >>> ((((15 : Int32))).toUInt32 &&& Int32.toUInt32 31)).toInt32))).toUInt32 >>> ((((1 : Int32))).toUInt32 &&& Int32.toUInt32 31)).toInt32) / ((100 : Int32)) * ((100 : Int32))).toInt → sy_i F1 82 = ((((((((((((sy_i F 22) ^^^ ((101 : Int32))) * ((1103515245 : Int32))) + ((12345 : Int32))) ^^^ (((((((sy_i F 22) ^^^ ((101 : Int32))) * ((1103515245 : Int32))) + ((12345 : Int32)))).toUInt32 >>> ((((15 : Int32))).toUInt32 &&& Int32.toUInt32 31)).toInt32)) ^^^ (((1000000 : Int32)) + (sy_i F 51))) * ((1103515245 : Int32))) + ((12345 : Int32))) ^^^ (((((((((((sy_i F 22) ^^^ ((101 : Int32))) * ((1103515245 : Int32))) + ((12345 : Int32))) ^^^ (((((((sy_i F 22) ^^^ ((101 : Int32))) * ((1103515245 : Int32))) + ((12345 : Int32)))).toUInt32 >>> ((((15 : Int32))).toUInt32 &&& Int32.toUInt32 31)).toInt32)) ^^^ (((1000000 : Int32)) + (sy_i F 51))) * ((1103515245 : Int32))) + ((12345 : Int32)))).toUInt32 >>> ((((15 : Int32))).toUInt32 &&& Int32.toUInt32 31)).toInt32))).toUInt32 >>> ((((1 : Int32))).toUInt32 &&& Int32.toUInt32 31)).toInt32) - ((((((((((((sy_i F 22) ^^^ ((101 : Int32))) * ((1103515245 : Int32))) + ((12345 : Int32))) ^^^ (((((((sy_i F 22) ^^^ ((101 : Int32))) * ((1103515245 : Int32))) + ((12345 : Int32)))).toUInt32 >>> ((((15 : Int32))).toUInt32 &&& Int32.toUInt32 31)).toInt32)) ^^^ (((1000000 : Int32)) + (sy_i F 51))) * ((1103515245 : Int32))) + ((12345 : Int32))) ^^^ (((((((((((sy_i F 22) ^^^ ((101 : Int32))) * ((1103515245 : Int32))) + ((12345 : Int32))) ^^^ (((((((sy_i F 22) ^^^ ((101 : Int32))) * ((1103515245 : Int32))) + ((12345 : Int32)))).toUInt32 >>> ((((15 : Int32))).toUInt32 &&& Int32.toUInt32 31)).toInt32)) ^^^ (((1000000 : Int32)) + (sy_i F 51))) * ((1103515245 : Int32))) + ((12345 : Int32)))).toUInt32 >>> ((((15 : Int32))).toUInt32 &&& Int32.toUInt32 31)).toInt32))).toUInt32 >>> ((((1 : Int32))).toUInt32 &&& Int32.toUInt32 31)).toInt32) / ((100 : Int32)) * ((100 : Int32)) → (sy_i F1 83).toInt = (sy_i F 50).toInt → sy_i F1 83 = sy_i F 50 → (sy_i F1 84).toInt = (sy_i F 18).toInt → sy_i F1 84 = sy_i F 18 → hd_W Ls xs d jm_M90 Q (110, sy_dL F1 [some (.inl (.ref 8)), none, some (.inr (.inl 82)), none], sy_dS F1 [.inr (.inl 84), .inl (.int 0), .inl (.ref 46), .inr (.inl 83), .inl (.ref 20), .inl (.ref 38)], sy_dh F1 X1 X2 (iv_H 2), 0, 0)) :
    hd_W Ls xs d jm_M90 Q (36, sy_dL F [some (.inl (.ref 8)), some (.inr (.inl 82)), none, none], sy_dS F [], sy_dh F X1 X2 (iv_H 2), 0, 0) := by
  have n99 : nzI ((sy_i F 51) + ((1 : Int32))) (((sy_i F 51) + ((1 : Int32))).toInt) := congrArg Int32.toInt (rfl : (sy_i F 51) + ((1 : Int32)) = (sy_i F 51) + ((1 : Int32)))
  have w98 : jm_upd (sy_ai F 58) (sy_i F 82).toNatClampNeg (((sy_ai F 58).getD (sy_i F 82).toNatClampNeg 0) + ((1 : Int32))) = jm_upd (sy_ai F 58) ((sy_i F 82).toInt).toNat (((sy_ai F 58).getD ((sy_i F 82).toInt).toNat 0) + ((1 : Int32))) := by simp only [nz_c, (by decide : ((1 : Int32)).toInt = 1)]
  have n95 : nzI (((((((((((((sy_i F 22) ^^^ ((101 : Int32))) * ((1103515245 : Int32))) + ((12345 : Int32))) ^^^ (((((((sy_i F 22) ^^^ ((101 : Int32))) * ((1103515245 : Int32))) + ((12345 : Int32)))).toUInt32 >>> ((((15 : Int32))).toUInt32 &&& Int32.toUInt32 31)).toInt32)) ^^^ (((1000000 : Int32)) + (sy_i F 51))) * ((1103515245 : Int32))) + ((12345 : Int32))) ^^^ (((((((((((sy_i F 22) ^^^ ((101 : Int32))) * ((1103515245 : Int32))) + ((12345 : Int32))) ^^^ (((((((sy_i F 22) ^^^ ((101 : Int32))) * ((1103515245 : Int32))) + ((12345 : Int32)))).toUInt32 >>> ((((15 : Int32))).toUInt32 &&& Int32.toUInt32 31)).toInt32)) ^^^ (((1000000 : Int32)) + (sy_i F 51))) * ((1103515245 : Int32))) + ((12345 : Int32)))).toUInt32 >>> ((((15 : Int32))).toUInt32 &&& Int32.toUInt32 31)).toInt32))).toUInt32 >>> ((((1 : Int32))).toUInt32 &&& Int32.toUInt32 31)).toInt32) - ((((((((((((sy_i F 22) ^^^ ((101 : Int32))) * ((1103515245 : Int32))) + ((12345 : Int32))) ^^^ (((((((sy_i F 22) ^^^ ((101 : Int32))) * ((1103515245 : Int32))) + ((12345 : Int32)))).toUInt32 >>> ((((15 : Int32))).toUInt32 &&& Int32.toUInt32 31)).toInt32)) ^^^ (((1000000 : Int32)) + (sy_i F 51))) * ((1103515245 : Int32))) + ((12345 : Int32))) ^^^ (((((((((((sy_i F 22) ^^^ ((101 : Int32))) * ((1103515245 : Int32))) + ((12345 : Int32))) ^^^ (((((((sy_i F 22) ^^^ ((101 : Int32))) * ((1103515245 : Int32))) + ((12345 : Int32)))).toUInt32 >>> ((((15 : Int32))).toUInt32 &&& Int32.toUInt32 31)).toInt32)) ^^^ (((1000000 : Int32)) + (sy_i F 51))) * ((1103515245 : Int32))) + ((12345 : Int32)))).toUInt32 >>> ((((15 : Int32))).toUInt32 &&& Int32.toUInt32 31)).toInt32))).toUInt32 >>> ((((1 : Int32))).toUInt32 &&& Int32.toUInt32 31)).toInt32) / ((100 : Int32)) * ((100 : Int32))) ((((((((((((((sy_i F 22) ^^^ ((101 : Int32))) * ((1103515245 : Int32))) + ((12345 : Int32))) ^^^ (((((((sy_i F 22) ^^^ ((101 : Int32))) * ((1103515245 : Int32))) + ((12345 : Int32)))).toUInt32 >>> ((((15 : Int32))).toUInt32 &&& Int32.toUInt32 31)).toInt32)) ^^^ (((1000000 : Int32)) + (sy_i F 51))) * ((1103515245 : Int32))) + ((12345 : Int32))) ^^^ (((((((((((sy_i F 22) ^^^ ((101 : Int32))) * ((1103515245 : Int32))) + ((12345 : Int32))) ^^^ (((((((sy_i F 22) ^^^ ((101 : Int32))) * ((1103515245 : Int32))) + ((12345 : Int32)))).toUInt32 >>> ((((15 : Int32))).toUInt32 &&& Int32.toUInt32 31)).toInt32)) ^^^ (((1000000 : Int32)) + (sy_i F 51))) * ((1103515245 : Int32))) + ((12345 : Int32)))).toUInt32 >>> ((((15 : Int32))).toUInt32 &&& Int32.toUInt32 31)).toInt32))).toUInt32 >>> ((((1 : Int32))).toUInt32 &&& Int32.toUInt32 31)).toInt32) - ((((((((((((sy_i F 22) ^^^ ((101 : Int32))) * ((1103515245 : Int32))) + ((12345 : Int32))) ^^^ (((((((sy_i F 22) ^^^ ((101 : Int32))) * ((1103515245 : Int32))) + ((12345 : Int32)))).toUInt32 >>> ((((15 : Int32))).toUInt32 &&& Int32.toUInt32 31)).toInt32)) ^^^ (((1000000 : Int32)) + (sy_i F 51))) * ((1103515245 : Int32))) + ((12345 : Int32))) ^^^ (((((((((((sy_i F 22) ^^^ ((101 : Int32))) * ((1103515245 : Int32))) + ((12345 : Int32))) ^^^ (((((((sy_i F 22) ^^^ ((101 : Int32))) * ((1103515245 : Int32))) + ((12345 : Int32)))).toUInt32 >>> ((((15 : Int32))).toUInt32 &&& Int32.toUInt32 31)).toInt32)) ^^^ (((1000000 : Int32)) + (sy_i F 51))) * ((1103515245 : Int32))) + ((12345 : Int32)))).toUInt32 >>> ((((15 : Int32))).toUInt32 &&& Int32.toUInt32 31)).toInt32))).toUInt32 >>> ((((1 : Int32))).toUInt32 &&& Int32.toUInt32 31)).toInt32) / ((100 : Int32)) * ((100 : Int32))).toInt) := congrArg Int32.toInt (rfl : ((((((((((((sy_i F 22) ^^^ ((101 : Int32))) * ((1103515245 : Int32))) + ((12345 : Int32))) ^^^ (((((((sy_i F 22) ^^^ ((101 : Int32))) * ((1103515245 : Int32))) + ((12345 : Int32)))).toUInt32 >>> ((((15 : Int32))).toUInt32 &&& Int32.toUInt32 31)).toInt32)) ^^^ (((1000000 : Int32)) + (sy_i F 51))) * ((1103515245 : Int32))) + ((12345 : Int32))) ^^^ (((((((((((sy_i F 22) ^^^ ((101 : Int32))) * ((1103515245 : Int32))) + ((12345 : Int32))) ^^^ (((((((sy_i F 22) ^^^ ((101 : Int32))) * ((1103515245 : Int32))) + ((12345 : Int32)))).toUInt32 >>> ((((15 : Int32))).toUInt32 &&& Int32.toUInt32 31)).toInt32)) ^^^ (((1000000 : Int32)) + (sy_i F 51))) * ((1103515245 : Int32))) + ((12345 : Int32)))).toUInt32 >>> ((((15 : Int32))).toUInt32 &&& Int32.toUInt32 31)).toInt32))).toUInt32 >>> ((((1 : Int32))).toUInt32 &&& Int32.toUInt32 31)).toInt32) - ((((((((((((sy_i F 22) ^^^ ((101 : Int32))) * ((1103515245 : Int32))) + ((12345 : Int32))) ^^^ (((((((sy_i F 22) ^^^ ((101 : Int32))) * ((1103515245 : Int32))) + ((12345 : Int32)))).toUInt32 >>> ((((15 : Int32))).toUInt32 &&& Int32.toUInt32 31)).toInt32)) ^^^ (((1000000 : Int32)) + (sy_i F 51))) * ((1103515245 : Int32))) + ((12345 : Int32))) ^^^ (((((((((((sy_i F 22) ^^^ ((101 : Int32))) * ((1103515245 : Int32))) + ((12345 : Int32))) ^^^ (((((((sy_i F 22) ^^^ ((101 : Int32))) * ((1103515245 : Int32))) + ((12345 : Int32)))).toUInt32 >>> ((((15 : Int32))).toUInt32 &&& Int32.toUInt32 31)).toInt32)) ^^^ (((1000000 : Int32)) + (sy_i F 51))) * ((1103515245 : Int32))) + ((12345 : Int32)))).toUInt32 >>> ((((15 : Int32))).toUInt32 &&& Int32.toUInt32 31)).toInt32))).toUInt32 >>> ((((1 : Int32))).toUInt32 &&& Int32.toUInt32 31)).toInt32) / ((100 : Int32)) * ((100 : Int32)) = ((((((((((((sy_i F 22) ^^^ ((101 : Int32))) * ((1103515245 : Int32))) + ((12345 : Int32))) ^^^ (((((((sy_i F 22) ^^^ ((101 : Int32))) * ((1103515245 : Int32))) + ((12345 : Int32)))).toUInt32 >>> ((((15 : Int32))).toUInt32 &&& Int32.toUInt32 31)).toInt32)) ^^^ (((1000000 : Int32)) + (sy_i F 51))) * ((1103515245 : Int32))) + ((12345 : Int32))) ^^^ (((((((((((sy_i F 22) ^^^ ((101 : Int32))) * ((1103515245 : Int32))) + ((12345 : Int32))) ^^^ (((((((sy_i F 22) ^^^ ((101 : Int32))) * ((1103515245 : Int32))) + ((12345 : Int32)))).toUInt32 >>> ((((15 : Int32))).toUInt32 &&& Int32.toUInt32 31)).toInt32)) ^^^ (((1000000 : Int32)) + (sy_i F 51))) * ((1103515245 : Int32))) + ((12345 : Int32)))).toUInt32 >>> ((((15 : Int32))).toUInt32 &&& Int32.toUInt32 31)).toInt32))).toUInt32 >>> ((((1 : Int32))).toUInt32 &&& Int32.toUInt32 31)).toInt32) - ((((((((((((sy_i F 22) ^^^ ((101 : Int32))) * ((1103515245 : Int32))) + ((12345 : Int32))) ^^^ (((((((sy_i F 22) ^^^ ((101 : Int32))) * ((1103515245 : Int32))) + ((12345 : Int32)))).toUInt32 >>> ((((15 : Int32))).toUInt32 &&& Int32.toUInt32 31)).toInt32)) ^^^ (((1000000 : Int32)) + (sy_i F 51))) * ((1103515245 : Int32))) + ((12345 : Int32))) ^^^ (((((((((((sy_i F 22) ^^^ ((101 : Int32))) * ((1103515245 : Int32))) + ((12345 : Int32))) ^^^ (((((((sy_i F 22) ^^^ ((101 : Int32))) * ((1103515245 : Int32))) + ((12345 : Int32)))).toUInt32 >>> ((((15 : Int32))).toUInt32 &&& Int32.toUInt32 31)).toInt32)) ^^^ (((1000000 : Int32)) + (sy_i F 51))) * ((1103515245 : Int32))) + ((12345 : Int32)))).toUInt32 >>> ((((15 : Int32))).toUInt32 &&& Int32.toUInt32 31)).toInt32))).toUInt32 >>> ((((1 : Int32))).toUInt32 &&& Int32.toUInt32 31)).toInt32) / ((100 : Int32)) * ((100 : Int32)))
  have c18 := nz_bx hB (k := 18) (lo := 0) (hi := 7) rfl
  exact j2sq_36_p0 hd F X1 X2 hB (by first | exact ⟨by omega, by omega⟩ | (simp only [nz_c]; exact ⟨by omega, by omega⟩)) (by first | exact ⟨by omega, by omega⟩ | (simp only [nz_c]; exact ⟨by omega, by omega⟩)) (fun F1 g e51 e58 e82 e83 e84 => k0 F1 (nz_in0 hB [51, 58] (fun j hj hn => g j hj (by simp only [List.mem_cons, List.not_mem_nil, or_false, not_or] at hn; omega)) (List.forall_mem_cons.mpr ⟨fun t ht => (Option.some.inj ht) ▸ (nz_hz e51), List.forall_mem_cons.mpr ⟨fun t ht => (Option.some.inj ht) ▸ (nz_hz2 e58), List.forall_mem_nil _⟩⟩)) (fun j hj hn => g j hj (by simp only [List.mem_cons, List.not_mem_nil, or_false, not_or] at hn; omega)) ((congrArg Int32.toInt (zz_i e51)).trans (nzE n99)) ((zz_i e51).trans (rfl : (sy_i F 51) + ((1 : Int32)) = (sy_i F 51) + ((1 : Int32)))) ((zz_ai e58).trans w98) ((congrArg Int32.toInt (zz_i e82)).trans (nzE n95)) ((zz_i e82).trans (rfl : ((((((((((((sy_i F 22) ^^^ ((101 : Int32))) * ((1103515245 : Int32))) + ((12345 : Int32))) ^^^ (((((((sy_i F 22) ^^^ ((101 : Int32))) * ((1103515245 : Int32))) + ((12345 : Int32)))).toUInt32 >>> ((((15 : Int32))).toUInt32 &&& Int32.toUInt32 31)).toInt32)) ^^^ (((1000000 : Int32)) + (sy_i F 51))) * ((1103515245 : Int32))) + ((12345 : Int32))) ^^^ (((((((((((sy_i F 22) ^^^ ((101 : Int32))) * ((1103515245 : Int32))) + ((12345 : Int32))) ^^^ (((((((sy_i F 22) ^^^ ((101 : Int32))) * ((1103515245 : Int32))) + ((12345 : Int32)))).toUInt32 >>> ((((15 : Int32))).toUInt32 &&& Int32.toUInt32 31)).toInt32)) ^^^ (((1000000 : Int32)) + (sy_i F 51))) * ((1103515245 : Int32))) + ((12345 : Int32)))).toUInt32 >>> ((((15 : Int32))).toUInt32 &&& Int32.toUInt32 31)).toInt32))).toUInt32 >>> ((((1 : Int32))).toUInt32 &&& Int32.toUInt32 31)).toInt32) - ((((((((((((sy_i F 22) ^^^ ((101 : Int32))) * ((1103515245 : Int32))) + ((12345 : Int32))) ^^^ (((((((sy_i F 22) ^^^ ((101 : Int32))) * ((1103515245 : Int32))) + ((12345 : Int32)))).toUInt32 >>> ((((15 : Int32))).toUInt32 &&& Int32.toUInt32 31)).toInt32)) ^^^ (((1000000 : Int32)) + (sy_i F 51))) * ((1103515245 : Int32))) + ((12345 : Int32))) ^^^ (((((((((((sy_i F 22) ^^^ ((101 : Int32))) * ((1103515245 : Int32))) + ((12345 : Int32))) ^^^ (((((((sy_i F 22) ^^^ ((101 : Int32))) * ((1103515245 : Int32))) + ((12345 : Int32)))).toUInt32 >>> ((((15 : Int32))).toUInt32 &&& Int32.toUInt32 31)).toInt32)) ^^^ (((1000000 : Int32)) + (sy_i F 51))) * ((1103515245 : Int32))) + ((12345 : Int32)))).toUInt32 >>> ((((15 : Int32))).toUInt32 &&& Int32.toUInt32 31)).toInt32))).toUInt32 >>> ((((1 : Int32))).toUInt32 &&& Int32.toUInt32 31)).toInt32) / ((100 : Int32)) * ((100 : Int32)) = ((((((((((((sy_i F 22) ^^^ ((101 : Int32))) * ((1103515245 : Int32))) + ((12345 : Int32))) ^^^ (((((((sy_i F 22) ^^^ ((101 : Int32))) * ((1103515245 : Int32))) + ((12345 : Int32)))).toUInt32 >>> ((((15 : Int32))).toUInt32 &&& Int32.toUInt32 31)).toInt32)) ^^^ (((1000000 : Int32)) + (sy_i F 51))) * ((1103515245 : Int32))) + ((12345 : Int32))) ^^^ (((((((((((sy_i F 22) ^^^ ((101 : Int32))) * ((1103515245 : Int32))) + ((12345 : Int32))) ^^^ (((((((sy_i F 22) ^^^ ((101 : Int32))) * ((1103515245 : Int32))) + ((12345 : Int32)))).toUInt32 >>> ((((15 : Int32))).toUInt32 &&& Int32.toUInt32 31)).toInt32)) ^^^ (((1000000 : Int32)) + (sy_i F 51))) * ((1103515245 : Int32))) + ((12345 : Int32)))).toUInt32 >>> ((((15 : Int32))).toUInt32 &&& Int32.toUInt32 31)).toInt32))).toUInt32 >>> ((((1 : Int32))).toUInt32 &&& Int32.toUInt32 31)).toInt32) - ((((((((((((sy_i F 22) ^^^ ((101 : Int32))) * ((1103515245 : Int32))) + ((12345 : Int32))) ^^^ (((((((sy_i F 22) ^^^ ((101 : Int32))) * ((1103515245 : Int32))) + ((12345 : Int32)))).toUInt32 >>> ((((15 : Int32))).toUInt32 &&& Int32.toUInt32 31)).toInt32)) ^^^ (((1000000 : Int32)) + (sy_i F 51))) * ((1103515245 : Int32))) + ((12345 : Int32))) ^^^ (((((((((((sy_i F 22) ^^^ ((101 : Int32))) * ((1103515245 : Int32))) + ((12345 : Int32))) ^^^ (((((((sy_i F 22) ^^^ ((101 : Int32))) * ((1103515245 : Int32))) + ((12345 : Int32)))).toUInt32 >>> ((((15 : Int32))).toUInt32 &&& Int32.toUInt32 31)).toInt32)) ^^^ (((1000000 : Int32)) + (sy_i F 51))) * ((1103515245 : Int32))) + ((12345 : Int32)))).toUInt32 >>> ((((15 : Int32))).toUInt32 &&& Int32.toUInt32 31)).toInt32))).toUInt32 >>> ((((1 : Int32))).toUInt32 &&& Int32.toUInt32 31)).toInt32) / ((100 : Int32)) * ((100 : Int32)))) ((congrArg Int32.toInt (zz_i e83)).trans (rfl : (sy_i F 50).toInt = (sy_i F 50).toInt)) ((zz_i e83).trans (rfl : sy_i F 50 = sy_i F 50)) ((congrArg Int32.toInt (zz_i e84)).trans (rfl : (sy_i F 18).toInt = (sy_i F 18).toInt)) ((zz_i e84).trans (rfl : sy_i F 18 = sy_i F 18)))
theorem j2sq_116_p0 {Ls : Nat} {xs : Nat → Int32} {d : Nat} {Q : Option Value → jm_h → Prop} (hd : 1 ≤ d) (F : Nat → sy_d) (X1 X2 : List jm_c) (hB : iv_in F iv_B0)
    (k : ∀ F1 : Nat → sy_d, (∀ j, j < 82 → j ≠ 45 → F1 j = F j) → F1 45 = .inr (.inl (jm_upd (sy_ai F 45) ((5 : Int32)).toNatClampNeg (sy_i F 51))) → F1 82 = .inl (.int (sy_i F 82)) → hd_W Ls xs d jm_M90 Q (142, sy_dL F1 [some (.inl (.ref 8)), none, some (.inr (.inl 82)), none], sy_dS F1 [.inl (.int 5), .inl (.ref 20), .inl (.ref 38), .inr (.inl 82)], sy_dh F1 X1 X2 (iv_H 2), 0, 0)) :
    hd_W Ls xs d jm_M90 Q (116, sy_dL F [some (.inl (.ref 8)), none, some (.inr (.inl 82)), none], sy_dS F [], sy_dh F X1 X2 (iv_H 2), 0, 0) := by
  refine hd_run (s := 2) (nv := 83) (pc := 142) (L := [some (.inl (.ref 8)), none, some (.inr (.inl 82)), none]) (S := [.inl (.int 5), .inl (.ref 20), .inl (.ref 38), .inr (.inl 82)]) (uh := hd_ov (iv_id 0 iv_B0) [(45, .inr (.inr (.inl 83)))]) (ul := [.inl (.inr (.inl 82))]) (f := false) (sp := [142]) (d0 := 0) (O := []) (T := [(40, [.inl (.int 5), .inr (.inl 51)], [.inr (.inl 45)])]) (P := []) jm_ok90 (by decide +kernel) (by decide +kernel) hd F X1 X2 (fun F' hF hs => ?_)
  have b51 := hd_b (F := F) (F' := F') (k := 51) (hF 51 (by decide))
  have a45 := hd_ba (F := F) (F' := F') (k := 45) (hF 45 (by decide))
  have t83 : sy_da F' (.inr (.inl 83)) = .inl (jm_upd (sy_ai F 45) ((5 : Int32)).toNatClampNeg (sy_i F 51)) := hd_up (hs 0 _ rfl) rfl b51 a45
  have b82 := hd_b (F := F) (F' := F') (k := 82) (hF 82 (by decide))
  have hB' : iv_in F' iv_B0 := iv_in_eq hB (fun j hj => hF j (Nat.lt_of_lt_of_le hj (by decide +kernel)))
  refine ⟨fun _ h => absurd h List.not_mem_nil, ?_⟩
  refine k _ ?_ ?_ ?_
  · exact fun j hj hn => (hd_keep hB' (Nat.lt_of_lt_of_le hj (by decide +kernel)) (by simp; omega)).trans (hF j (by omega))
  · exact hd_ga (a := .inr (.inl 83)) (by decide +kernel) t83
  · exact hd_gi (x := .inr (.inl 82)) (by decide +kernel) b82
theorem j2sq_116 {Ls : Nat} {xs : Nat → Int32} {d : Nat} {Q : Option Value → jm_h → Prop} (hd : 1 ≤ d) (F : Nat → sy_d) (X1 X2 : List jm_c) (hB : iv_in F iv_B0)
    (k0 : ∀ F1 : Nat → sy_d, iv_in F1 iv_B0 → (∀ j, j < 82 → j ∉ ([45] : List Nat) → F1 j = F j) → sy_ai F1 45 = jm_upd (sy_ai F 45) (5 : Int).toNat (sy_i F 51) → (sy_i F1 82).toInt = (sy_i F 82).toInt → sy_i F1 82 = sy_i F 82 → hd_W Ls xs d jm_M90 Q (142, sy_dL F1 [some (.inl (.ref 8)), none, some (.inr (.inl 82)), none], sy_dS F1 [.inl (.int 5), .inl (.ref 20), .inl (.ref 38), .inr (.inl 82)], sy_dh F1 X1 X2 (iv_H 2), 0, 0)) :
    hd_W Ls xs d jm_M90 Q (116, sy_dL F [some (.inl (.ref 8)), none, some (.inr (.inl 82)), none], sy_dS F [], sy_dh F X1 X2 (iv_H 2), 0, 0) := by
  have w83 : jm_upd (sy_ai F 45) ((5 : Int32)).toNatClampNeg (sy_i F 51) = jm_upd (sy_ai F 45) (5 : Int).toNat (sy_i F 51) := by simp only [nz_c, (by decide : ((5 : Int32)).toInt = 5)]
  exact j2sq_116_p0 hd F X1 X2 hB  (fun F1 g e45 e82 => k0 F1 (nz_in0 hB [45] (fun j hj hn => g j hj (by simp only [List.mem_cons, List.not_mem_nil, or_false, not_or] at hn; omega)) (List.forall_mem_cons.mpr ⟨fun t ht => (Option.some.inj ht) ▸ (nz_hz2 e45), List.forall_mem_nil _⟩)) (fun j hj hn => g j hj (by simp only [List.mem_cons, List.not_mem_nil, or_false, not_or] at hn; omega)) ((zz_ai e45).trans w83) ((congrArg Int32.toInt (zz_i e82)).trans (rfl : (sy_i F 82).toInt = (sy_i F 82).toInt)) ((zz_i e82).trans (rfl : sy_i F 82 = sy_i F 82)))
theorem j2sq_145_p0 {Ls : Nat} {xs : Nat → Int32} {d : Nat} {Q : Option Value → jm_h → Prop} (hd : 1 ≤ d) (F : Nat → sy_d) (X1 X2 : List jm_c) (hB : iv_in F iv_B0)
    (h0 : (sy_i F 83).toInt ≤ (sy_i F 82).toInt)
    (k : ∀ F1 : Nat → sy_d, (∀ j, j < 82 → True → F1 j = F j) → Q (some (.int ((0 : Int32)))) (sy_dh F1 X1 X2 (iv_H 2))) :
    hd_W Ls xs d jm_M90 Q (145, sy_dL F [some (.inl (.ref 8)), none, some (.inr (.inl 82)), none], sy_dS F [.inr (.inl 83), .inr (.inl 82)], sy_dh F X1 X2 (iv_H 2), 0, 0) := by
  refine hd_ret (s := 2) (nv := 84) (v := some (.inl (.int 0))) (uh := hd_ov (iv_id 0 iv_B0) []) (f := false) (sp := []) (d0 := 0) (O := [true]) (T := []) (P := [(4, .inr (.inl 83), .inr (.inl 82))]) jm_ok90 (by decide +kernel) (by decide +kernel) hd F X1 X2 (fun F' hF hs => ?_)
  have b83 := hd_b (F := F) (F' := F') (k := 83) (hF 83 (by decide))
  have b82 := hd_b (F := F) (F' := F') (k := 82) (hF 82 (by decide))
  have hB' : iv_in F' iv_B0 := iv_in_eq hB (fun j hj => hF j (Nat.lt_of_lt_of_le hj (by decide +kernel)))
  refine ⟨List.forall_mem_cons.mpr ⟨hd_p4 b83 b82 h0, fun _ h => absurd h List.not_mem_nil⟩, ?_⟩
  refine k _ ?_
  · exact fun j hj _ => (hd_keep hB' (Nat.lt_of_lt_of_le hj (by decide +kernel)) (by simp)).trans (hF j (by omega))
theorem j2sq_145_p1 {Ls : Nat} {xs : Nat → Int32} {d : Nat} {Q : Option Value → jm_h → Prop} (hd : 1 ≤ d) (F : Nat → sy_d) (X1 X2 : List jm_c) (hB : iv_in F iv_B0)
    (h0 : (sy_i F 82).toInt < (sy_i F 83).toInt)
    (k : ∀ F1 : Nat → sy_d, (∀ j, j < 82 → j ≠ 52 → F1 j = F j) → F1 52 = .inl (.int ((sy_i F 52) + ((1 : Int32)))) → Q (some (.int ((1 : Int32)))) (sy_dh F1 X1 X2 (iv_H 2))) :
    hd_W Ls xs d jm_M90 Q (145, sy_dL F [some (.inl (.ref 8)), none, some (.inr (.inl 82)), none], sy_dS F [.inr (.inl 83), .inr (.inl 82)], sy_dh F X1 X2 (iv_H 2), 0, 0) := by
  refine hd_ret (s := 2) (nv := 84) (v := some (.inl (.int 1))) (uh := hd_ov (iv_id 0 iv_B0) [(52, .inl (.inr (.inl 84)))]) (f := false) (sp := []) (d0 := 0) (O := [false]) (T := [(0, [.inr (.inl 52), .inl (.int 1)], [])]) (P := [(5, .inr (.inl 83), .inr (.inl 82))]) jm_ok90 (by decide +kernel) (by decide +kernel) hd F X1 X2 (fun F' hF hs => ?_)
  have b83 := hd_b (F := F) (F' := F') (k := 83) (hF 83 (by decide))
  have b82 := hd_b (F := F) (F' := F') (k := 82) (hF 82 (by decide))
  have b52 := hd_b (F := F) (F' := F') (k := 52) (hF 52 (by decide))
  have t84 : sy_dv F' (.inr (.inl 84)) = .int ((sy_i F 52) + ((1 : Int32))) := hd_o (hs 0 _ rfl) b52 rfl rfl
  have hB' : iv_in F' iv_B0 := iv_in_eq hB (fun j hj => hF j (Nat.lt_of_lt_of_le hj (by decide +kernel)))
  refine ⟨List.forall_mem_cons.mpr ⟨hd_p5 b83 b82 h0, fun _ h => absurd h List.not_mem_nil⟩, ?_⟩
  refine k _ ?_ ?_
  · exact fun j hj hn => (hd_keep hB' (Nat.lt_of_lt_of_le hj (by decide +kernel)) (by simp; omega)).trans (hF j (by omega))
  · exact hd_gi (x := .inr (.inl 84)) (by decide +kernel) t84
theorem j2sq_145 {Ls : Nat} {xs : Nat → Int32} {d : Nat} {Q : Option Value → jm_h → Prop} (hd : 1 ≤ d) (F : Nat → sy_d) (X1 X2 : List jm_c) (hB : iv_in F iv_B0)
    (k0 : (sy_i F 83).toInt ≤ (sy_i F 82).toInt → ∀ F1 : Nat → sy_d, iv_in F1 iv_B0 → (∀ j, j < 82 → j ∉ ([] : List Nat) → F1 j = F j) → Q (some (.int ((0 : Int32)))) (sy_dh F1 X1 X2 (iv_H 2)))
    (k1 : (sy_i F 82).toInt < (sy_i F 83).toInt → ∀ F1 : Nat → sy_d, iv_in F1 iv_B0 → (∀ j, j < 82 → j ∉ ([52] : List Nat) → F1 j = F j) → (sy_i F1 52).toInt = ((sy_i F 52) + ((1 : Int32))).toInt → sy_i F1 52 = (sy_i F 52) + ((1 : Int32)) → Q (some (.int ((1 : Int32)))) (sy_dh F1 X1 X2 (iv_H 2))) :
    hd_W Ls xs d jm_M90 Q (145, sy_dL F [some (.inl (.ref 8)), none, some (.inr (.inl 82)), none], sy_dS F [.inr (.inl 83), .inr (.inl 82)], sy_dh F X1 X2 (iv_H 2), 0, 0) := by
  by_cases g0 : (sy_i F 83).toInt ≤ (sy_i F 82).toInt
  · exact j2sq_145_p0 hd F X1 X2 hB (by first | exact g0 | (simp only [nz_c]; exact g0)) (fun F1 g  => k0 g0 F1 (nz_in0 hB [] (fun j hj hn => g j hj (by simp only [List.mem_cons, List.not_mem_nil, or_false, not_or] at hn; exact trivial)) (List.forall_mem_nil _)) (fun j hj hn => g j hj (by simp only [List.mem_cons, List.not_mem_nil, or_false, not_or] at hn; exact trivial)) )
  replace g0 : (sy_i F 82).toInt < (sy_i F 83).toInt := by omega
  have n84 : nzI ((sy_i F 52) + ((1 : Int32))) (((sy_i F 52) + ((1 : Int32))).toInt) := congrArg Int32.toInt (rfl : (sy_i F 52) + ((1 : Int32)) = (sy_i F 52) + ((1 : Int32)))
  exact j2sq_145_p1 hd F X1 X2 hB (by first | exact g0 | (simp only [nz_c]; exact g0)) (fun F1 g e52 => k1 g0 F1 (nz_in0 hB [52] (fun j hj hn => g j hj (by simp only [List.mem_cons, List.not_mem_nil, or_false, not_or] at hn; omega)) (List.forall_mem_cons.mpr ⟨fun t ht => (Option.some.inj ht) ▸ (nz_hz e52), List.forall_mem_nil _⟩)) (fun j hj hn => g j hj (by simp only [List.mem_cons, List.not_mem_nil, or_false, not_or] at hn; omega)) ((congrArg Int32.toInt (zz_i e52)).trans (nzE n84)) ((zz_i e52).trans (rfl : (sy_i F 52) + ((1 : Int32)) = (sy_i F 52) + ((1 : Int32)))))
theorem j2hq_0_p0 {Ls : Nat} {xs : Nat → Int32} {d : Nat} {Q : Option Value → jm_h → Prop} (hd : 2 ≤ d) (F : Nat → sy_d) (X1 X2 : List jm_c) (hB : iv_in F iv_B0)
    (h0 : (sy_i F 82).toInt < 0)
    (k : ∀ F1 : Nat → sy_d, (∀ j, j < 82 → True → F1 j = F j) → Q (some (.int (((-1) : Int32)))) (sy_dh F1 X1 X2 (iv_H 2))) :
    hd_W Ls xs d jm_M91 Q (0, sy_dL F [some (.inl (.ref 8)), some (.inr (.inl 82)), none], sy_dS F [], sy_dh F X1 X2 (iv_H 2), 0, 0) := by
  refine hd_ret (s := 2) (nv := 83) (v := some (.inl (.int (-1)))) (uh := hd_ov (iv_id 0 iv_B0) []) (f := true) (sp := [24]) (d0 := 1) (O := [true]) (T := []) (P := [(2, .inr (.inl 82), .inl (.int 0))]) jm_ok91 (by decide +kernel) (by decide +kernel) hd F X1 X2 (fun F' hF hs => ?_)
  have b82 := hd_b (F := F) (F' := F') (k := 82) (hF 82 (by decide))
  have hB' : iv_in F' iv_B0 := iv_in_eq hB (fun j hj => hF j (Nat.lt_of_lt_of_le hj (by decide +kernel)))
  refine ⟨List.forall_mem_cons.mpr ⟨hd_p2 b82 rfl (by have hc : ((0) : Int32).toInt = 0 := (by decide); omega), fun _ h => absurd h List.not_mem_nil⟩, ?_⟩
  refine k _ ?_
  · exact fun j hj _ => (hd_keep hB' (Nat.lt_of_lt_of_le hj (by decide +kernel)) (by simp)).trans (hF j (by omega))
theorem j2hq_0_p1 {Ls : Nat} {xs : Nat → Int32} {d : Nat} {Q : Option Value → jm_h → Prop} (hd : 2 ≤ d) (F : Nat → sy_d) (X1 X2 : List jm_c) (hB : iv_in F iv_B0)
    (h0 : 0 ≤ (sy_i F 82).toInt)
    (h1 : 48 < (sy_i F 82).toInt)
    (k : ∀ F1 : Nat → sy_d, (∀ j, j < 82 → True → F1 j = F j) → Q (some (.int (((-1) : Int32)))) (sy_dh F1 X1 X2 (iv_H 2))) :
    hd_W Ls xs d jm_M91 Q (0, sy_dL F [some (.inl (.ref 8)), some (.inr (.inl 82)), none], sy_dS F [], sy_dh F X1 X2 (iv_H 2), 0, 0) := by
  refine hd_ret (s := 2) (nv := 83) (v := some (.inl (.int (-1)))) (uh := hd_ov (iv_id 0 iv_B0) []) (f := true) (sp := [24]) (d0 := 1) (O := [false, true]) (T := []) (P := [(3, .inr (.inl 82), .inl (.int 0)), (2, .inl (.int 48), .inr (.inl 82))]) jm_ok91 (by decide +kernel) (by decide +kernel) hd F X1 X2 (fun F' hF hs => ?_)
  have b82 := hd_b (F := F) (F' := F') (k := 82) (hF 82 (by decide))
  have hB' : iv_in F' iv_B0 := iv_in_eq hB (fun j hj => hF j (Nat.lt_of_lt_of_le hj (by decide +kernel)))
  refine ⟨List.forall_mem_cons.mpr ⟨hd_p3 b82 rfl (by have hc : ((0) : Int32).toInt = 0 := (by decide); omega), List.forall_mem_cons.mpr ⟨hd_p2 rfl b82 (by have hc : ((48) : Int32).toInt = 48 := (by decide); omega), fun _ h => absurd h List.not_mem_nil⟩⟩, ?_⟩
  refine k _ ?_
  · exact fun j hj _ => (hd_keep hB' (Nat.lt_of_lt_of_le hj (by decide +kernel)) (by simp)).trans (hF j (by omega))
theorem j2hq_0_p2 {Ls : Nat} {xs : Nat → Int32} {d : Nat} {Q : Option Value → jm_h → Prop} (hd : 2 ≤ d) (F : Nat → sy_d) (X1 X2 : List jm_c) (hB : iv_in F iv_B0)
    (h0 : 0 ≤ (sy_i F 82).toInt)
    (h1 : (sy_i F 82).toInt ≤ 48)
    (h2 : (sy_i F 82).toInt ≤ 0)
    (k : ∀ F1 : Nat → sy_d, (∀ j, j < 82 → True → F1 j = F j) → Q (some (.int (sy_i F 50))) (sy_dh F1 X1 X2 (iv_H 2))) :
    hd_W Ls xs d jm_M91 Q (0, sy_dL F [some (.inl (.ref 8)), some (.inr (.inl 82)), none], sy_dS F [], sy_dh F X1 X2 (iv_H 2), 0, 0) := by
  refine hd_ret (s := 2) (nv := 83) (v := some (.inr (.inl 50))) (uh := hd_ov (iv_id 0 iv_B0) []) (f := true) (sp := [24]) (d0 := 1) (O := [false, false, true]) (T := []) (P := [(3, .inr (.inl 82), .inl (.int 0)), (3, .inl (.int 48), .inr (.inl 82)), (4, .inr (.inl 82), .inl (.int 0))]) jm_ok91 (by decide +kernel) (by decide +kernel) hd F X1 X2 (fun F' hF hs => ?_)
  have b82 := hd_b (F := F) (F' := F') (k := 82) (hF 82 (by decide))
  have b50 := hd_b (F := F) (F' := F') (k := 50) (hF 50 (by decide))
  have hB' : iv_in F' iv_B0 := iv_in_eq hB (fun j hj => hF j (Nat.lt_of_lt_of_le hj (by decide +kernel)))
  have hk := k (sy_cm F' (hd_ov (iv_id 0 iv_B0) [] ++ [])) (fun j hj _ => (hd_keep hB' (Nat.lt_of_lt_of_le hj (by decide +kernel)) (by simp)).trans (hF j (by omega)))
  refine ⟨List.forall_mem_cons.mpr ⟨hd_p3 b82 rfl (by have hc : ((0) : Int32).toInt = 0 := (by decide); omega), List.forall_mem_cons.mpr ⟨hd_p3 rfl b82 (by have hc : ((48) : Int32).toInt = 48 := (by decide); omega), List.forall_mem_cons.mpr ⟨hd_p4 b82 rfl (by have hc : ((0) : Int32).toInt = 0 := (by decide); omega), fun _ h => absurd h List.not_mem_nil⟩⟩⟩, ?_⟩
  show Q (some (sy_dv F' (.inr (.inl 50)))) _
  rw [b50]
  exact hk
theorem j2hq_0_p3 {Ls : Nat} {xs : Nat → Int32} {d : Nat} {Q : Option Value → jm_h → Prop} (hd : 2 ≤ d) (F : Nat → sy_d) (X1 X2 : List jm_c) (hB : iv_in F iv_B0)
    (h0 : 0 ≤ (sy_i F 82).toInt)
    (h1 : (sy_i F 82).toInt ≤ 48)
    (h2 : 0 < (sy_i F 82).toInt)
    (k : ∀ F1 : Nat → sy_d, (∀ j, j < 82 → True → F1 j = F j) → F1 82 = .inl (.int (sy_i F 82)) → hd_W Ls xs d jm_M91 Q (24, sy_dL F1 [some (.inl (.ref 8)), some (.inr (.inl 82)), none], sy_dS F1 [.inl (.ref 46), .inl (.ref 66)], sy_dh F1 X1 X2 (iv_H 2), 0, 0)) :
    hd_W Ls xs d jm_M91 Q (0, sy_dL F [some (.inl (.ref 8)), some (.inr (.inl 82)), none], sy_dS F [], sy_dh F X1 X2 (iv_H 2), 0, 0) := by
  refine hd_run (s := 2) (nv := 83) (pc := 24) (L := [some (.inl (.ref 8)), some (.inr (.inl 82)), none]) (S := [.inl (.ref 46), .inl (.ref 66)]) (uh := hd_ov (iv_id 0 iv_B0) []) (ul := [.inl (.inr (.inl 82))]) (f := true) (sp := [24]) (d0 := 1) (O := [false, false, false]) (T := []) (P := [(3, .inr (.inl 82), .inl (.int 0)), (3, .inl (.int 48), .inr (.inl 82)), (5, .inr (.inl 82), .inl (.int 0))]) jm_ok91 (by decide +kernel) (by decide +kernel) hd F X1 X2 (fun F' hF hs => ?_)
  have b82 := hd_b (F := F) (F' := F') (k := 82) (hF 82 (by decide))
  have hB' : iv_in F' iv_B0 := iv_in_eq hB (fun j hj => hF j (Nat.lt_of_lt_of_le hj (by decide +kernel)))
  refine ⟨List.forall_mem_cons.mpr ⟨hd_p3 b82 rfl (by have hc : ((0) : Int32).toInt = 0 := (by decide); omega), List.forall_mem_cons.mpr ⟨hd_p3 rfl b82 (by have hc : ((48) : Int32).toInt = 48 := (by decide); omega), List.forall_mem_cons.mpr ⟨hd_p5 b82 rfl (by have hc : ((0) : Int32).toInt = 0 := (by decide); omega), fun _ h => absurd h List.not_mem_nil⟩⟩⟩, ?_⟩
  refine k _ ?_ ?_
  · exact fun j hj _ => (hd_keep hB' (Nat.lt_of_lt_of_le hj (by decide +kernel)) (by simp)).trans (hF j (by omega))
  · exact hd_gi (x := .inr (.inl 82)) (by decide +kernel) b82
theorem j2hq_0 {Ls : Nat} {xs : Nat → Int32} {d : Nat} {Q : Option Value → jm_h → Prop} (hd : 2 ≤ d) (F : Nat → sy_d) (X1 X2 : List jm_c) (hB : iv_in F iv_B0)
    (k0 : (sy_i F 82).toInt < 0 → ∀ F1 : Nat → sy_d, iv_in F1 iv_B0 → (∀ j, j < 82 → j ∉ ([] : List Nat) → F1 j = F j) → Q (some (.int (((-1) : Int32)))) (sy_dh F1 X1 X2 (iv_H 2)))
    (k1 : 0 ≤ (sy_i F 82).toInt → 48 < (sy_i F 82).toInt → ∀ F1 : Nat → sy_d, iv_in F1 iv_B0 → (∀ j, j < 82 → j ∉ ([] : List Nat) → F1 j = F j) → Q (some (.int (((-1) : Int32)))) (sy_dh F1 X1 X2 (iv_H 2)))
    (k2 : 0 ≤ (sy_i F 82).toInt → (sy_i F 82).toInt ≤ 48 → (sy_i F 82).toInt ≤ 0 → ∀ F1 : Nat → sy_d, iv_in F1 iv_B0 → (∀ j, j < 82 → j ∉ ([] : List Nat) → F1 j = F j) → Q (some (.int (sy_i F 50))) (sy_dh F1 X1 X2 (iv_H 2)))
    (k3 : 0 ≤ (sy_i F 82).toInt → (sy_i F 82).toInt ≤ 48 → 0 < (sy_i F 82).toInt → ∀ F1 : Nat → sy_d, iv_in F1 iv_B0 → (∀ j, j < 82 → j ∉ ([] : List Nat) → F1 j = F j) → (sy_i F1 82).toInt = (sy_i F 82).toInt → sy_i F1 82 = sy_i F 82 → hd_W Ls xs d jm_M91 Q (24, sy_dL F1 [some (.inl (.ref 8)), some (.inr (.inl 82)), none], sy_dS F1 [.inl (.ref 46), .inl (.ref 66)], sy_dh F1 X1 X2 (iv_H 2), 0, 0)) :
    hd_W Ls xs d jm_M91 Q (0, sy_dL F [some (.inl (.ref 8)), some (.inr (.inl 82)), none], sy_dS F [], sy_dh F X1 X2 (iv_H 2), 0, 0) := by
  by_cases g0 : (sy_i F 82).toInt < 0
  · exact j2hq_0_p0 hd F X1 X2 hB (by first | exact g0 | (simp only [nz_c]; exact g0)) (fun F1 g  => k0 g0 F1 (nz_in0 hB [] (fun j hj hn => g j hj (by simp only [List.mem_cons, List.not_mem_nil, or_false, not_or] at hn; exact trivial)) (List.forall_mem_nil _)) (fun j hj hn => g j hj (by simp only [List.mem_cons, List.not_mem_nil, or_false, not_or] at hn; exact trivial)) )
  replace g0 : 0 ≤ (sy_i F 82).toInt := by omega
  by_cases g1 : 48 < (sy_i F 82).toInt
  · exact j2hq_0_p1 hd F X1 X2 hB (by first | exact g0 | (simp only [nz_c]; exact g0)) (by first | exact g1 | (simp only [nz_c]; exact g1)) (fun F1 g  => k1 g0 g1 F1 (nz_in0 hB [] (fun j hj hn => g j hj (by simp only [List.mem_cons, List.not_mem_nil, or_false, not_or] at hn; exact trivial)) (List.forall_mem_nil _)) (fun j hj hn => g j hj (by simp only [List.mem_cons, List.not_mem_nil, or_false, not_or] at hn; exact trivial)) )
  replace g1 : (sy_i F 82).toInt ≤ 48 := by omega
  by_cases g2 : (sy_i F 82).toInt ≤ 0
  · exact j2hq_0_p2 hd F X1 X2 hB (by first | exact g0 | (simp only [nz_c]; exact g0)) (by first | exact g1 | (simp only [nz_c]; exact g1)) (by first | exact g2 | (simp only [nz_c]; exact g2)) (fun F1 g  => by rw [(rfl : sy_i F 50 = sy_i F 50)]; exact k2 g0 g1 g2 F1 (nz_in0 hB [] (fun j hj hn => g j hj (by simp only [List.mem_cons, List.not_mem_nil, or_false, not_or] at hn; exact trivial)) (List.forall_mem_nil _)) (fun j hj hn => g j hj (by simp only [List.mem_cons, List.not_mem_nil, or_false, not_or] at hn; exact trivial)) )
  replace g2 : 0 < (sy_i F 82).toInt := by omega
  exact j2hq_0_p3 hd F X1 X2 hB (by first | exact g0 | (simp only [nz_c]; exact g0)) (by first | exact g1 | (simp only [nz_c]; exact g1)) (by first | exact g2 | (simp only [nz_c]; exact g2)) (fun F1 g e82 => k3 g0 g1 g2 F1 (nz_in0 hB [] (fun j hj hn => g j hj (by simp only [List.mem_cons, List.not_mem_nil, or_false, not_or] at hn; exact trivial)) (List.forall_mem_nil _)) (fun j hj hn => g j hj (by simp only [List.mem_cons, List.not_mem_nil, or_false, not_or] at hn; exact trivial)) ((congrArg Int32.toInt (zz_i e82)).trans (rfl : (sy_i F 82).toInt = (sy_i F 82).toInt)) ((zz_i e82).trans (rfl : sy_i F 82 = sy_i F 82)))
theorem j2hq_27_p0 {Ls : Nat} {xs : Nat → Int32} {d : Nat} {Q : Option Value → jm_h → Prop} (hd : 1 ≤ d) (F : Nat → sy_d) (X1 X2 : List jm_c) (hB : iv_in F iv_B0)
    (k : ∀ F1 : Nat → sy_d, (∀ j, j < 82 → True → F1 j = F j) → F1 82 = .inl (.int (sy_i F 82)) → F1 83 = .inl (.int ((0 : Int32))) → hd_W Ls xs d jm_M91 Q (29, sy_dL F1 [some (.inl (.ref 8)), some (.inr (.inl 82)), some (.inr (.inl 83))], sy_dS F1 [], sy_dh F1 X1 X2 (iv_H 2), 0, 0)) :
    hd_W Ls xs d jm_M91 Q (27, sy_dL F [some (.inl (.ref 8)), some (.inr (.inl 82)), none], sy_dS F [], sy_dh F X1 X2 (iv_H 2), 0, 0) := by
  refine hd_run (s := 2) (nv := 83) (pc := 29) (L := [some (.inl (.ref 8)), some (.inr (.inl 82)), some (.inr (.inl 83))]) (S := []) (uh := hd_ov (iv_id 0 iv_B0) []) (ul := [.inl (.inr (.inl 82)), .inl (.inl (.int 0))]) (f := false) (sp := [29]) (d0 := 0) (O := []) (T := []) (P := []) jm_ok91 (by decide +kernel) (by decide +kernel) hd F X1 X2 (fun F' hF hs => ?_)
  have b82 := hd_b (F := F) (F' := F') (k := 82) (hF 82 (by decide))
  have hB' : iv_in F' iv_B0 := iv_in_eq hB (fun j hj => hF j (Nat.lt_of_lt_of_le hj (by decide +kernel)))
  refine ⟨fun _ h => absurd h List.not_mem_nil, ?_⟩
  refine k _ ?_ ?_ ?_
  · exact fun j hj _ => (hd_keep hB' (Nat.lt_of_lt_of_le hj (by decide +kernel)) (by simp)).trans (hF j (by omega))
  · exact hd_gi (x := .inr (.inl 82)) (by decide +kernel) b82
  · exact hd_gi (x := .inl (.int 0)) (by decide +kernel) rfl
theorem j2hq_27 {Ls : Nat} {xs : Nat → Int32} {d : Nat} {Q : Option Value → jm_h → Prop} (hd : 1 ≤ d) (F : Nat → sy_d) (X1 X2 : List jm_c) (hB : iv_in F iv_B0)
    (k0 : ∀ F1 : Nat → sy_d, iv_in F1 iv_B0 → (∀ j, j < 82 → j ∉ ([] : List Nat) → F1 j = F j) → (sy_i F1 82).toInt = (sy_i F 82).toInt → sy_i F1 82 = sy_i F 82 → (sy_i F1 83).toInt = 0 → sy_i F1 83 = (0 : Int32) → hd_W Ls xs d jm_M91 Q (29, sy_dL F1 [some (.inl (.ref 8)), some (.inr (.inl 82)), some (.inr (.inl 83))], sy_dS F1 [], sy_dh F1 X1 X2 (iv_H 2), 0, 0)) :
    hd_W Ls xs d jm_M91 Q (27, sy_dL F [some (.inl (.ref 8)), some (.inr (.inl 82)), none], sy_dS F [], sy_dh F X1 X2 (iv_H 2), 0, 0) := by
  exact j2hq_27_p0 hd F X1 X2 hB  (fun F1 g e82 e83 => k0 F1 (nz_in0 hB [] (fun j hj hn => g j hj (by simp only [List.mem_cons, List.not_mem_nil, or_false, not_or] at hn; exact trivial)) (List.forall_mem_nil _)) (fun j hj hn => g j hj (by simp only [List.mem_cons, List.not_mem_nil, or_false, not_or] at hn; exact trivial)) ((congrArg Int32.toInt (zz_i e82)).trans (rfl : (sy_i F 82).toInt = (sy_i F 82).toInt)) ((zz_i e82).trans (rfl : sy_i F 82 = sy_i F 82)) ((congrArg Int32.toInt (zz_i e83)).trans (by decide : ((0 : Int32)).toInt = 0)) ((zz_i e83).trans (rfl : (0 : Int32) = (0 : Int32))))
theorem j2hq_29_p0 {Ls : Nat} {xs : Nat → Int32} {d : Nat} {Q : Option Value → jm_h → Prop} (hd : 1 ≤ d) (F : Nat → sy_d) (X1 X2 : List jm_c) (hB : iv_in F iv_B0)
    (h0 : (sy_i F 82).toInt ≤ (sy_i F 83).toInt)
    (k : ∀ F1 : Nat → sy_d, (∀ j, j < 82 → True → F1 j = F j) → Q (some (.int (sy_i F 50))) (sy_dh F1 X1 X2 (iv_H 2))) :
    hd_W Ls xs d jm_M91 Q (29, sy_dL F [some (.inl (.ref 8)), some (.inr (.inl 82)), some (.inr (.inl 83))], sy_dS F [], sy_dh F X1 X2 (iv_H 2), 0, 0) := by
  refine hd_ret (s := 2) (nv := 84) (v := some (.inr (.inl 50))) (uh := hd_ov (iv_id 0 iv_B0) []) (f := true) (sp := [53]) (d0 := 0) (O := [true]) (T := []) (P := [(4, .inr (.inl 82), .inr (.inl 83))]) jm_ok91 (by decide +kernel) (by decide +kernel) hd F X1 X2 (fun F' hF hs => ?_)
  have b82 := hd_b (F := F) (F' := F') (k := 82) (hF 82 (by decide))
  have b83 := hd_b (F := F) (F' := F') (k := 83) (hF 83 (by decide))
  have b50 := hd_b (F := F) (F' := F') (k := 50) (hF 50 (by decide))
  have hB' : iv_in F' iv_B0 := iv_in_eq hB (fun j hj => hF j (Nat.lt_of_lt_of_le hj (by decide +kernel)))
  have hk := k (sy_cm F' (hd_ov (iv_id 0 iv_B0) [] ++ [])) (fun j hj _ => (hd_keep hB' (Nat.lt_of_lt_of_le hj (by decide +kernel)) (by simp)).trans (hF j (by omega)))
  refine ⟨List.forall_mem_cons.mpr ⟨hd_p4 b82 b83 h0, fun _ h => absurd h List.not_mem_nil⟩, ?_⟩
  show Q (some (sy_dv F' (.inr (.inl 50)))) _
  rw [b50]
  exact hk
theorem j2hq_29_p1 {Ls : Nat} {xs : Nat → Int32} {d : Nat} {Q : Option Value → jm_h → Prop} (hd : 1 ≤ d) (F : Nat → sy_d) (X1 X2 : List jm_c) (hB : iv_in F iv_B0)
    (h0 : (sy_i F 83).toInt < (sy_i F 82).toInt)
    (k : ∀ F1 : Nat → sy_d, (∀ j, j < 82 → True → F1 j = F j) → F1 82 = .inl (.int (sy_i F 82)) → F1 83 = .inl (.int (sy_i F 83)) → F1 84 = .inl (.int (sy_i F 22)) → hd_W Ls xs d jm_M91 Q (53, sy_dL F1 [some (.inl (.ref 8)), some (.inr (.inl 82)), some (.inr (.inl 83))], sy_dS F1 [.inr (.inl 84), .inl (.ref 46), .inl (.ref 20), .inl (.ref 41)], sy_dh F1 X1 X2 (iv_H 2), 0, 0)) :
    hd_W Ls xs d jm_M91 Q (29, sy_dL F [some (.inl (.ref 8)), some (.inr (.inl 82)), some (.inr (.inl 83))], sy_dS F [], sy_dh F X1 X2 (iv_H 2), 0, 0) := by
  refine hd_run (s := 2) (nv := 84) (pc := 53) (L := [some (.inl (.ref 8)), some (.inr (.inl 82)), some (.inr (.inl 83))]) (S := [.inr (.inl 84), .inl (.ref 46), .inl (.ref 20), .inl (.ref 41)]) (uh := hd_ov (iv_id 0 iv_B0) []) (ul := [.inl (.inr (.inl 82)), .inl (.inr (.inl 83)), .inl (.inr (.inl 22))]) (f := true) (sp := [53]) (d0 := 0) (O := [false]) (T := []) (P := [(5, .inr (.inl 82), .inr (.inl 83))]) jm_ok91 (by decide +kernel) (by decide +kernel) hd F X1 X2 (fun F' hF hs => ?_)
  have b82 := hd_b (F := F) (F' := F') (k := 82) (hF 82 (by decide))
  have b83 := hd_b (F := F) (F' := F') (k := 83) (hF 83 (by decide))
  have b22 := hd_b (F := F) (F' := F') (k := 22) (hF 22 (by decide))
  have hB' : iv_in F' iv_B0 := iv_in_eq hB (fun j hj => hF j (Nat.lt_of_lt_of_le hj (by decide +kernel)))
  refine ⟨List.forall_mem_cons.mpr ⟨hd_p5 b82 b83 h0, fun _ h => absurd h List.not_mem_nil⟩, ?_⟩
  refine k _ ?_ ?_ ?_ ?_
  · exact fun j hj _ => (hd_keep hB' (Nat.lt_of_lt_of_le hj (by decide +kernel)) (by simp)).trans (hF j (by omega))
  · exact hd_gi (x := .inr (.inl 82)) (by decide +kernel) b82
  · exact hd_gi (x := .inr (.inl 83)) (by decide +kernel) b83
  · exact hd_gi (x := .inr (.inl 22)) (by decide +kernel) b22
theorem j2hq_29 {Ls : Nat} {xs : Nat → Int32} {d : Nat} {Q : Option Value → jm_h → Prop} (hd : 1 ≤ d) (F : Nat → sy_d) (X1 X2 : List jm_c) (hB : iv_in F iv_B0)
    (a82 : 0 ≤ (sy_i F 82).toInt ∧ (sy_i F 82).toInt ≤ 48)
    (a83 : 0 ≤ (sy_i F 83).toInt ∧ (sy_i F 83).toInt ≤ 48)
    (k0 : (sy_i F 82).toInt ≤ (sy_i F 83).toInt → ∀ F1 : Nat → sy_d, iv_in F1 iv_B0 → (∀ j, j < 82 → j ∉ ([] : List Nat) → F1 j = F j) → Q (some (.int (sy_i F 50))) (sy_dh F1 X1 X2 (iv_H 2)))
    (k1 : (sy_i F 83).toInt < (sy_i F 82).toInt → ∀ F1 : Nat → sy_d, iv_in F1 iv_B0 → (∀ j, j < 82 → j ∉ ([] : List Nat) → F1 j = F j) → (sy_i F1 82).toInt = (sy_i F 82).toInt → sy_i F1 82 = sy_i F 82 → (sy_i F1 83).toInt = (sy_i F 83).toInt → sy_i F1 83 = sy_i F 83 → (sy_i F1 84).toInt = (sy_i F 22).toInt → sy_i F1 84 = sy_i F 22 → hd_W Ls xs d jm_M91 Q (53, sy_dL F1 [some (.inl (.ref 8)), some (.inr (.inl 82)), some (.inr (.inl 83))], sy_dS F1 [.inr (.inl 84), .inl (.ref 46), .inl (.ref 20), .inl (.ref 41)], sy_dh F1 X1 X2 (iv_H 2), 0, 0)) :
    hd_W Ls xs d jm_M91 Q (29, sy_dL F [some (.inl (.ref 8)), some (.inr (.inl 82)), some (.inr (.inl 83))], sy_dS F [], sy_dh F X1 X2 (iv_H 2), 0, 0) := by
  by_cases g0 : (sy_i F 82).toInt ≤ (sy_i F 83).toInt
  · exact j2hq_29_p0 hd F X1 X2 hB (by first | exact g0 | (simp only [nz_c]; exact g0)) (fun F1 g  => by rw [(rfl : sy_i F 50 = sy_i F 50)]; exact k0 g0 F1 (nz_in0 hB [] (fun j hj hn => g j hj (by simp only [List.mem_cons, List.not_mem_nil, or_false, not_or] at hn; exact trivial)) (List.forall_mem_nil _)) (fun j hj hn => g j hj (by simp only [List.mem_cons, List.not_mem_nil, or_false, not_or] at hn; exact trivial)) )
  replace g0 : (sy_i F 83).toInt < (sy_i F 82).toInt := by omega
  exact j2hq_29_p1 hd F X1 X2 hB (by first | exact g0 | (simp only [nz_c]; exact g0)) (fun F1 g e82 e83 e84 => k1 g0 F1 (nz_in0 hB [] (fun j hj hn => g j hj (by simp only [List.mem_cons, List.not_mem_nil, or_false, not_or] at hn; exact trivial)) (List.forall_mem_nil _)) (fun j hj hn => g j hj (by simp only [List.mem_cons, List.not_mem_nil, or_false, not_or] at hn; exact trivial)) ((congrArg Int32.toInt (zz_i e82)).trans (rfl : (sy_i F 82).toInt = (sy_i F 82).toInt)) ((zz_i e82).trans (rfl : sy_i F 82 = sy_i F 82)) ((congrArg Int32.toInt (zz_i e83)).trans (rfl : (sy_i F 83).toInt = (sy_i F 83).toInt)) ((zz_i e83).trans (rfl : sy_i F 83 = sy_i F 83)) ((congrArg Int32.toInt (zz_i e84)).trans (rfl : (sy_i F 22).toInt = (sy_i F 22).toInt)) ((zz_i e84).trans (rfl : sy_i F 22 = sy_i F 22)))
theorem j2hq_56_p0 {Ls : Nat} {xs : Nat → Int32} {d : Nat} {Q : Option Value → jm_h → Prop} (hd : 1 ≤ d) (F : Nat → sy_d) (X1 X2 : List jm_c) (hB : iv_in F iv_B0)
    (k : ∀ F1 : Nat → sy_d, (∀ j, j < 82 → True → F1 j = F j) → F1 82 = .inl (.int (sy_i F 82)) → F1 83 = .inl (.int ((sy_i F 83) + ((1 : Int32)))) → hd_W Ls xs d jm_M91 Q (29, sy_dL F1 [some (.inl (.ref 8)), some (.inr (.inl 82)), some (.inr (.inl 83))], sy_dS F1 [], sy_dh F1 X1 X2 (iv_H 2), 0, 0)) :
    hd_W Ls xs d jm_M91 Q (56, sy_dL F [some (.inl (.ref 8)), some (.inr (.inl 82)), some (.inr (.inl 83))], sy_dS F [], sy_dh F X1 X2 (iv_H 2), 0, 0) := by
  refine hd_run (s := 2) (nv := 84) (pc := 29) (L := [some (.inl (.ref 8)), some (.inr (.inl 82)), some (.inr (.inl 83))]) (S := []) (uh := hd_ov (iv_id 0 iv_B0) []) (ul := [.inl (.inr (.inl 82)), .inl (.inr (.inl 84))]) (f := false) (sp := [29]) (d0 := 0) (O := []) (T := [(0, [.inr (.inl 83), .inl (.int 1)], [])]) (P := []) jm_ok91 (by decide +kernel) (by decide +kernel) hd F X1 X2 (fun F' hF hs => ?_)
  have b82 := hd_b (F := F) (F' := F') (k := 82) (hF 82 (by decide))
  have b83 := hd_b (F := F) (F' := F') (k := 83) (hF 83 (by decide))
  have t84 : sy_dv F' (.inr (.inl 84)) = .int ((sy_i F 83) + ((1 : Int32))) := hd_o (hs 0 _ rfl) b83 rfl rfl
  have hB' : iv_in F' iv_B0 := iv_in_eq hB (fun j hj => hF j (Nat.lt_of_lt_of_le hj (by decide +kernel)))
  refine ⟨fun _ h => absurd h List.not_mem_nil, ?_⟩
  refine k _ ?_ ?_ ?_
  · exact fun j hj _ => (hd_keep hB' (Nat.lt_of_lt_of_le hj (by decide +kernel)) (by simp)).trans (hF j (by omega))
  · exact hd_gi (x := .inr (.inl 82)) (by decide +kernel) b82
  · exact hd_gi (x := .inr (.inl 84)) (by decide +kernel) t84
theorem j2hq_56 {Ls : Nat} {xs : Nat → Int32} {d : Nat} {Q : Option Value → jm_h → Prop} (hd : 1 ≤ d) (F : Nat → sy_d) (X1 X2 : List jm_c) (hB : iv_in F iv_B0)
    (a83 : 0 ≤ (sy_i F 83).toInt ∧ (sy_i F 83).toInt ≤ 47)
    (k0 : ∀ F1 : Nat → sy_d, iv_in F1 iv_B0 → (∀ j, j < 82 → j ∉ ([] : List Nat) → F1 j = F j) → (sy_i F1 82).toInt = (sy_i F 82).toInt → sy_i F1 82 = sy_i F 82 → (sy_i F1 83).toInt = ((sy_i F 83).toInt + 1) → sy_i F1 83 = (sy_i F 83) + ((1 : Int32)) → hd_W Ls xs d jm_M91 Q (29, sy_dL F1 [some (.inl (.ref 8)), some (.inr (.inl 82)), some (.inr (.inl 83))], sy_dS F1 [], sy_dh F1 X1 X2 (iv_H 2), 0, 0)) :
    hd_W Ls xs d jm_M91 Q (56, sy_dL F [some (.inl (.ref 8)), some (.inr (.inl 82)), some (.inr (.inl 83))], sy_dS F [], sy_dh F X1 X2 (iv_H 2), 0, 0) := by
  have n84 : nzI ((sy_i F 83) + ((1 : Int32))) (((sy_i F 83).toInt + 1)) := nz_add (rfl : (sy_i F 83).toInt = (sy_i F 83).toInt) (by decide : ((1 : Int32)).toInt = 1) (by omega) (by omega)
  exact j2hq_56_p0 hd F X1 X2 hB  (fun F1 g e82 e83 => k0 F1 (nz_in0 hB [] (fun j hj hn => g j hj (by simp only [List.mem_cons, List.not_mem_nil, or_false, not_or] at hn; exact trivial)) (List.forall_mem_nil _)) (fun j hj hn => g j hj (by simp only [List.mem_cons, List.not_mem_nil, or_false, not_or] at hn; exact trivial)) ((congrArg Int32.toInt (zz_i e82)).trans (rfl : (sy_i F 82).toInt = (sy_i F 82).toInt)) ((zz_i e82).trans (rfl : sy_i F 82 = sy_i F 82)) ((congrArg Int32.toInt (zz_i e83)).trans (nzE n84)) ((zz_i e83).trans (rfl : (sy_i F 83) + ((1 : Int32)) = (sy_i F 83) + ((1 : Int32)))))
theorem j2pq_0_p0 {Ls : Nat} {xs : Nat → Int32} {d : Nat} {Q : Option Value → jm_h → Prop} (hd : 1 ≤ d) (F : Nat → sy_d) (X1 X2 : List jm_c) (hB : iv_in F iv_B0)
    (k : ∀ F1 : Nat → sy_d, (∀ j, j < 82 → True → F1 j = F j) → Q (some (.int (sy_i F 1))) (sy_dh F1 X1 X2 (iv_H 2))) :
    hd_W Ls xs d jm_M84 Q (0, sy_dL F [some (.inl (.ref 8))], sy_dS F [], sy_dh F X1 X2 (iv_H 2), 0, 0) := by
  refine hd_ret (s := 2) (nv := 82) (v := some (.inr (.inl 1))) (uh := hd_ov (iv_id 0 iv_B0) []) (f := true) (sp := []) (d0 := 0) (O := []) (T := []) (P := []) jm_ok84 (by decide +kernel) (by decide +kernel) hd F X1 X2 (fun F' hF hs => ?_)
  have b1 := hd_b (F := F) (F' := F') (k := 1) (hF 1 (by decide))
  have hB' : iv_in F' iv_B0 := iv_in_eq hB (fun j hj => hF j (Nat.lt_of_lt_of_le hj (by decide +kernel)))
  have hk := k (sy_cm F' (hd_ov (iv_id 0 iv_B0) [] ++ [])) (fun j hj _ => (hd_keep hB' (Nat.lt_of_lt_of_le hj (by decide +kernel)) (by simp)).trans (hF j (by omega)))
  refine ⟨fun _ h => absurd h List.not_mem_nil, ?_⟩
  show Q (some (sy_dv F' (.inr (.inl 1)))) _
  rw [b1]
  exact hk
theorem j2pq_0 {Ls : Nat} {xs : Nat → Int32} {d : Nat} {Q : Option Value → jm_h → Prop} (hd : 1 ≤ d) (F : Nat → sy_d) (X1 X2 : List jm_c) (hB : iv_in F iv_B0)
    (k0 : ∀ F1 : Nat → sy_d, iv_in F1 iv_B0 → (∀ j, j < 82 → j ∉ ([] : List Nat) → F1 j = F j) → Q (some (.int (sy_i F 1))) (sy_dh F1 X1 X2 (iv_H 2))) :
    hd_W Ls xs d jm_M84 Q (0, sy_dL F [some (.inl (.ref 8))], sy_dS F [], sy_dh F X1 X2 (iv_H 2), 0, 0) := by
  exact j2pq_0_p0 hd F X1 X2 hB  (fun F1 g  => by rw [(rfl : sy_i F 1 = sy_i F 1)]; exact k0 F1 (nz_in0 hB [] (fun j hj hn => g j hj (by simp only [List.mem_cons, List.not_mem_nil, or_false, not_or] at hn; exact trivial)) (List.forall_mem_nil _)) (fun j hj hn => g j hj (by simp only [List.mem_cons, List.not_mem_nil, or_false, not_or] at hn; exact trivial)) )
theorem j2fq_0_p0 {Ls : Nat} {xs : Nat → Int32} {d : Nat} {Q : Option Value → jm_h → Prop} (hd : 1 ≤ d) (F : Nat → sy_d) (X1 X2 : List jm_c) (hB : iv_in F iv_B0)
    (k : ∀ F1 : Nat → sy_d, (∀ j, j < 82 → j ≠ 79 → F1 j = F j) → F1 79 = .inl (.int ((0 : Int32))) → Q (some (.int (sy_i F 79))) (sy_dh F1 X1 X2 (iv_H 2))) :
    hd_W Ls xs d jm_M109 Q (0, sy_dL F [some (.inl (.ref 8)), none], sy_dS F [], sy_dh F X1 X2 (iv_H 2), 0, 0) := by
  refine hd_ret (s := 2) (nv := 82) (v := some (.inr (.inl 79))) (uh := hd_ov (iv_id 0 iv_B0) [(79, .inl (.inl (.int 0)))]) (f := true) (sp := []) (d0 := 0) (O := []) (T := []) (P := []) jm_ok109 (by decide +kernel) (by decide +kernel) hd F X1 X2 (fun F' hF hs => ?_)
  have b79 := hd_b (F := F) (F' := F') (k := 79) (hF 79 (by decide))
  have hB' : iv_in F' iv_B0 := iv_in_eq hB (fun j hj => hF j (Nat.lt_of_lt_of_le hj (by decide +kernel)))
  have hk := k (sy_cm F' (hd_ov (iv_id 0 iv_B0) [(79, .inl (.inl (.int 0)))] ++ [])) (fun j hj hn => (hd_keep hB' (Nat.lt_of_lt_of_le hj (by decide +kernel)) (by simp; omega)).trans (hF j (by omega))) (hd_gi (x := .inl (.int 0)) (by decide +kernel) rfl)
  refine ⟨fun _ h => absurd h List.not_mem_nil, ?_⟩
  show Q (some (sy_dv F' (.inr (.inl 79)))) _
  rw [b79]
  exact hk
theorem j2fq_0 {Ls : Nat} {xs : Nat → Int32} {d : Nat} {Q : Option Value → jm_h → Prop} (hd : 1 ≤ d) (F : Nat → sy_d) (X1 X2 : List jm_c) (hB : iv_in F iv_B0)
    (k0 : ∀ F1 : Nat → sy_d, iv_in F1 iv_B0 → (∀ j, j < 82 → j ∉ ([79] : List Nat) → F1 j = F j) → (sy_i F1 79).toInt = 0 → sy_i F1 79 = (0 : Int32) → Q (some (.int (sy_i F 79))) (sy_dh F1 X1 X2 (iv_H 2))) :
    hd_W Ls xs d jm_M109 Q (0, sy_dL F [some (.inl (.ref 8)), none], sy_dS F [], sy_dh F X1 X2 (iv_H 2), 0, 0) := by
  exact j2fq_0_p0 hd F X1 X2 hB  (fun F1 g e79 => by rw [(rfl : sy_i F 79 = sy_i F 79)]; exact k0 F1 (nz_in0 hB [79] (fun j hj hn => g j hj (by simp only [List.mem_cons, List.not_mem_nil, or_false, not_or] at hn; omega)) (List.forall_mem_cons.mpr ⟨fun t ht => (Option.some.inj ht) ▸ (nz_hi e79 (by decide : ((0 : Int32)).toInt = 0) (by omega) (by omega)), List.forall_mem_nil _⟩)) (fun j hj hn => g j hj (by simp only [List.mem_cons, List.not_mem_nil, or_false, not_or] at hn; omega)) ((congrArg Int32.toInt (zz_i e79)).trans (by decide : ((0 : Int32)).toInt = 0)) ((zz_i e79).trans (rfl : (0 : Int32) = (0 : Int32))))
theorem j2bq_0_p0 {Ls : Nat} {xs : Nat → Int32} {d : Nat} {Q : Option Value → jm_h → Prop} (hd : 1 ≤ d) (F : Nat → sy_d) (X1 X2 : List jm_c) (hB : iv_in F iv_B0)
    (h0 : (sy_i F 82).toInt < 0)
    (k : ∀ F1 : Nat → sy_d, (∀ j, j < 82 → True → F1 j = F j) → Q (some (.int (((-1) : Int32)))) (sy_dh F1 X1 X2 (iv_H 2))) :
    hd_W Ls xs d jm_M82 Q (0, sy_dL F [some (.inl (.ref 8)), some (.inr (.inl 82))], sy_dS F [], sy_dh F X1 X2 (iv_H 2), 0, 0) := by
  refine hd_ret (s := 2) (nv := 83) (v := some (.inl (.int (-1)))) (uh := hd_ov (iv_id 0 iv_B0) []) (f := true) (sp := []) (d0 := 0) (O := [true]) (T := []) (P := [(2, .inr (.inl 82), .inl (.int 0))]) jm_ok82 (by decide +kernel) (by decide +kernel) hd F X1 X2 (fun F' hF hs => ?_)
  have b82 := hd_b (F := F) (F' := F') (k := 82) (hF 82 (by decide))
  have hB' : iv_in F' iv_B0 := iv_in_eq hB (fun j hj => hF j (Nat.lt_of_lt_of_le hj (by decide +kernel)))
  refine ⟨List.forall_mem_cons.mpr ⟨hd_p2 b82 rfl (by have hc : ((0) : Int32).toInt = 0 := (by decide); omega), fun _ h => absurd h List.not_mem_nil⟩, ?_⟩
  refine k _ ?_
  · exact fun j hj _ => (hd_keep hB' (Nat.lt_of_lt_of_le hj (by decide +kernel)) (by simp)).trans (hF j (by omega))
theorem j2bq_0_p1 {Ls : Nat} {xs : Nat → Int32} {d : Nat} {Q : Option Value → jm_h → Prop} (hd : 1 ≤ d) (F : Nat → sy_d) (X1 X2 : List jm_c) (hB : iv_in F iv_B0)
    (h0 : 0 ≤ (sy_i F 82).toInt)
    (h1 : (sy_i F 82).toInt ≤ (sy_i F 0).toInt)
    (k : ∀ F1 : Nat → sy_d, (∀ j, j < 82 → j ≠ 0 → F1 j = F j) → F1 0 = .inl (.int ((sy_i F 0) - (sy_i F 82))) → Q (some (.int ((sy_i F 0) - (sy_i F 82)))) (sy_dh F1 X1 X2 (iv_H 2))) :
    hd_W Ls xs d jm_M82 Q (0, sy_dL F [some (.inl (.ref 8)), some (.inr (.inl 82))], sy_dS F [], sy_dh F X1 X2 (iv_H 2), 0, 0) := by
  refine hd_ret (s := 2) (nv := 83) (v := some (.inr (.inl 83))) (uh := hd_ov (iv_id 0 iv_B0) [(0, .inl (.inr (.inl 83)))]) (f := true) (sp := []) (d0 := 0) (O := [false, true]) (T := [(1, [.inr (.inl 0), .inr (.inl 82)], [])]) (P := [(3, .inr (.inl 82), .inl (.int 0)), (4, .inr (.inl 82), .inr (.inl 0))]) jm_ok82 (by decide +kernel) (by decide +kernel) hd F X1 X2 (fun F' hF hs => ?_)
  have b82 := hd_b (F := F) (F' := F') (k := 82) (hF 82 (by decide))
  have b0 := hd_b (F := F) (F' := F') (k := 0) (hF 0 (by decide))
  have t83 : sy_dv F' (.inr (.inl 83)) = .int ((sy_i F 0) - (sy_i F 82)) := hd_o (hs 0 _ rfl) b0 b82 rfl
  have hB' : iv_in F' iv_B0 := iv_in_eq hB (fun j hj => hF j (Nat.lt_of_lt_of_le hj (by decide +kernel)))
  have hk := k (sy_cm F' (hd_ov (iv_id 0 iv_B0) [(0, .inl (.inr (.inl 83)))] ++ [])) (fun j hj hn => (hd_keep hB' (Nat.lt_of_lt_of_le hj (by decide +kernel)) (by simp; omega)).trans (hF j (by omega))) (hd_gi (x := .inr (.inl 83)) (by decide +kernel) t83)
  refine ⟨List.forall_mem_cons.mpr ⟨hd_p3 b82 rfl (by have hc : ((0) : Int32).toInt = 0 := (by decide); omega), List.forall_mem_cons.mpr ⟨hd_p4 b82 b0 h1, fun _ h => absurd h List.not_mem_nil⟩⟩, ?_⟩
  show Q (some (sy_dv F' (.inr (.inl 83)))) _
  rw [t83]
  exact hk
theorem j2bq_0_p2 {Ls : Nat} {xs : Nat → Int32} {d : Nat} {Q : Option Value → jm_h → Prop} (hd : 1 ≤ d) (F : Nat → sy_d) (X1 X2 : List jm_c) (hB : iv_in F iv_B0)
    (h0 : 0 ≤ (sy_i F 82).toInt)
    (h1 : (sy_i F 0).toInt < (sy_i F 82).toInt)
    (k : ∀ F1 : Nat → sy_d, (∀ j, j < 82 → True → F1 j = F j) → Q (some (.int (((-1) : Int32)))) (sy_dh F1 X1 X2 (iv_H 2))) :
    hd_W Ls xs d jm_M82 Q (0, sy_dL F [some (.inl (.ref 8)), some (.inr (.inl 82))], sy_dS F [], sy_dh F X1 X2 (iv_H 2), 0, 0) := by
  refine hd_ret (s := 2) (nv := 83) (v := some (.inl (.int (-1)))) (uh := hd_ov (iv_id 0 iv_B0) []) (f := true) (sp := []) (d0 := 0) (O := [false, false]) (T := []) (P := [(3, .inr (.inl 82), .inl (.int 0)), (5, .inr (.inl 82), .inr (.inl 0))]) jm_ok82 (by decide +kernel) (by decide +kernel) hd F X1 X2 (fun F' hF hs => ?_)
  have b82 := hd_b (F := F) (F' := F') (k := 82) (hF 82 (by decide))
  have b0 := hd_b (F := F) (F' := F') (k := 0) (hF 0 (by decide))
  have hB' : iv_in F' iv_B0 := iv_in_eq hB (fun j hj => hF j (Nat.lt_of_lt_of_le hj (by decide +kernel)))
  refine ⟨List.forall_mem_cons.mpr ⟨hd_p3 b82 rfl (by have hc : ((0) : Int32).toInt = 0 := (by decide); omega), List.forall_mem_cons.mpr ⟨hd_p5 b82 b0 h1, fun _ h => absurd h List.not_mem_nil⟩⟩, ?_⟩
  refine k _ ?_
  · exact fun j hj _ => (hd_keep hB' (Nat.lt_of_lt_of_le hj (by decide +kernel)) (by simp)).trans (hF j (by omega))
theorem j2bq_0 {Ls : Nat} {xs : Nat → Int32} {d : Nat} {Q : Option Value → jm_h → Prop} (hd : 1 ≤ d) (F : Nat → sy_d) (X1 X2 : List jm_c) (hB : iv_in F iv_B0)
    (o0 : 0 ≤ (sy_i F 82).toInt → (sy_i F 82).toInt ≤ (sy_i F 0).toInt → (0 ≤ ((sy_i F 0).toInt - (sy_i F 82).toInt) ∧ ((sy_i F 0).toInt - (sy_i F 82).toInt) ≤ 2000))
    (k0 : (sy_i F 82).toInt < 0 → ∀ F1 : Nat → sy_d, iv_in F1 iv_B0 → (∀ j, j < 82 → j ∉ ([] : List Nat) → F1 j = F j) → Q (some (.int (((-1) : Int32)))) (sy_dh F1 X1 X2 (iv_H 2)))
    (k1 : 0 ≤ (sy_i F 82).toInt → (sy_i F 82).toInt ≤ (sy_i F 0).toInt → ∀ F1 : Nat → sy_d, iv_in F1 iv_B0 → (∀ j, j < 82 → j ∉ ([0] : List Nat) → F1 j = F j) → (sy_i F1 0).toInt = ((sy_i F 0).toInt - (sy_i F 82).toInt) → sy_i F1 0 = (sy_i F 0) - (sy_i F 82) → Q (some (.int ((sy_i F 0) - (sy_i F 82)))) (sy_dh F1 X1 X2 (iv_H 2)))
    (k2 : 0 ≤ (sy_i F 82).toInt → (sy_i F 0).toInt < (sy_i F 82).toInt → ∀ F1 : Nat → sy_d, iv_in F1 iv_B0 → (∀ j, j < 82 → j ∉ ([] : List Nat) → F1 j = F j) → Q (some (.int (((-1) : Int32)))) (sy_dh F1 X1 X2 (iv_H 2))) :
    hd_W Ls xs d jm_M82 Q (0, sy_dL F [some (.inl (.ref 8)), some (.inr (.inl 82))], sy_dS F [], sy_dh F X1 X2 (iv_H 2), 0, 0) := by
  by_cases g0 : (sy_i F 82).toInt < 0
  · exact j2bq_0_p0 hd F X1 X2 hB (by first | exact g0 | (simp only [nz_c]; exact g0)) (fun F1 g  => k0 g0 F1 (nz_in0 hB [] (fun j hj hn => g j hj (by simp only [List.mem_cons, List.not_mem_nil, or_false, not_or] at hn; exact trivial)) (List.forall_mem_nil _)) (fun j hj hn => g j hj (by simp only [List.mem_cons, List.not_mem_nil, or_false, not_or] at hn; exact trivial)) )
  replace g0 : 0 ≤ (sy_i F 82).toInt := by omega
  by_cases g1 : (sy_i F 82).toInt ≤ (sy_i F 0).toInt
  · have c0 := nz_bx hB (k := 0) (lo := 0) (hi := 2000) rfl
    have n83 : nzI ((sy_i F 0) - (sy_i F 82)) (((sy_i F 0).toInt - (sy_i F 82).toInt)) := nz_sub (rfl : (sy_i F 0).toInt = (sy_i F 0).toInt) (rfl : (sy_i F 82).toInt = (sy_i F 82).toInt) (by omega) (by omega)
    exact j2bq_0_p1 hd F X1 X2 hB (by first | exact g0 | (simp only [nz_c]; exact g0)) (by first | exact g1 | (simp only [nz_c]; exact g1)) (fun F1 g e0 => by rw [(rfl : (sy_i F 0) - (sy_i F 82) = (sy_i F 0) - (sy_i F 82))]; exact k1 g0 g1 F1 (nz_in0 hB [0] (fun j hj hn => g j hj (by simp only [List.mem_cons, List.not_mem_nil, or_false, not_or] at hn; omega)) (List.forall_mem_cons.mpr ⟨fun t ht => (Option.some.inj ht) ▸ (nz_hi e0 (nzE n83) (o0 g0 g1).1 (o0 g0 g1).2), List.forall_mem_nil _⟩)) (fun j hj hn => g j hj (by simp only [List.mem_cons, List.not_mem_nil, or_false, not_or] at hn; omega)) ((congrArg Int32.toInt (zz_i e0)).trans (nzE n83)) ((zz_i e0).trans (rfl : (sy_i F 0) - (sy_i F 82) = (sy_i F 0) - (sy_i F 82))))
  replace g1 : (sy_i F 0).toInt < (sy_i F 82).toInt := by omega
  have c0 := nz_bx hB (k := 0) (lo := 0) (hi := 2000) rfl
  exact j2bq_0_p2 hd F X1 X2 hB (by first | exact g0 | (simp only [nz_c]; exact g0)) (by first | exact g1 | (simp only [nz_c]; exact g1)) (fun F1 g  => k2 g0 g1 F1 (nz_in0 hB [] (fun j hj hn => g j hj (by simp only [List.mem_cons, List.not_mem_nil, or_false, not_or] at hn; exact trivial)) (List.forall_mem_nil _)) (fun j hj hn => g j hj (by simp only [List.mem_cons, List.not_mem_nil, or_false, not_or] at hn; exact trivial)) )
theorem j2tq_0_p0 {Ls : Nat} {xs : Nat → Int32} {d : Nat} {Q : Option Value → jm_h → Prop} (hd : 2 ≤ d) (F : Nat → sy_d) (X1 X2 : List jm_c) (hB : iv_in F iv_B0)
    (h0 : (sy_i F 82).toInt < 1)
    (k : ∀ F1 : Nat → sy_d, (∀ j, j < 82 → True → F1 j = F j) → Q (some (.int (((-1) : Int32)))) (sy_dh F1 X1 X2 (iv_H 2))) :
    hd_W Ls xs d jm_M108 Q (0, sy_dL F [some (.inl (.ref 8)), some (.inr (.inl 82)), some (.inr (.inl 83))], sy_dS F [], sy_dh F X1 X2 (iv_H 2), 0, 0) := by
  refine hd_ret (s := 2) (nv := 84) (v := some (.inl (.int (-1)))) (uh := hd_ov (iv_id 0 iv_B0) []) (f := true) (sp := []) (d0 := 1) (O := [true]) (T := []) (P := [(2, .inr (.inl 82), .inl (.int 1))]) jm_ok108 (by decide +kernel) (by decide +kernel) hd F X1 X2 (fun F' hF hs => ?_)
  have b82 := hd_b (F := F) (F' := F') (k := 82) (hF 82 (by decide))
  have hB' : iv_in F' iv_B0 := iv_in_eq hB (fun j hj => hF j (Nat.lt_of_lt_of_le hj (by decide +kernel)))
  refine ⟨List.forall_mem_cons.mpr ⟨hd_p2 b82 rfl (by have hc : ((1) : Int32).toInt = 1 := (by decide); omega), fun _ h => absurd h List.not_mem_nil⟩, ?_⟩
  refine k _ ?_
  · exact fun j hj _ => (hd_keep hB' (Nat.lt_of_lt_of_le hj (by decide +kernel)) (by simp)).trans (hF j (by omega))
theorem j2tq_0_p1 {Ls : Nat} {xs : Nat → Int32} {d : Nat} {Q : Option Value → jm_h → Prop} (hd : 2 ≤ d) (F : Nat → sy_d) (X1 X2 : List jm_c) (hB : iv_in F iv_B0)
    (h0 : 1 ≤ (sy_i F 82).toInt)
    (h1 : 9 < (sy_i F 82).toInt)
    (k : ∀ F1 : Nat → sy_d, (∀ j, j < 82 → True → F1 j = F j) → Q (some (.int (((-1) : Int32)))) (sy_dh F1 X1 X2 (iv_H 2))) :
    hd_W Ls xs d jm_M108 Q (0, sy_dL F [some (.inl (.ref 8)), some (.inr (.inl 82)), some (.inr (.inl 83))], sy_dS F [], sy_dh F X1 X2 (iv_H 2), 0, 0) := by
  refine hd_ret (s := 2) (nv := 84) (v := some (.inl (.int (-1)))) (uh := hd_ov (iv_id 0 iv_B0) []) (f := true) (sp := []) (d0 := 1) (O := [false, true]) (T := []) (P := [(3, .inr (.inl 82), .inl (.int 1)), (2, .inl (.int 9), .inr (.inl 82))]) jm_ok108 (by decide +kernel) (by decide +kernel) hd F X1 X2 (fun F' hF hs => ?_)
  have b82 := hd_b (F := F) (F' := F') (k := 82) (hF 82 (by decide))
  have hB' : iv_in F' iv_B0 := iv_in_eq hB (fun j hj => hF j (Nat.lt_of_lt_of_le hj (by decide +kernel)))
  refine ⟨List.forall_mem_cons.mpr ⟨hd_p3 b82 rfl (by have hc : ((1) : Int32).toInt = 1 := (by decide); omega), List.forall_mem_cons.mpr ⟨hd_p2 rfl b82 (by have hc : ((9) : Int32).toInt = 9 := (by decide); omega), fun _ h => absurd h List.not_mem_nil⟩⟩, ?_⟩
  refine k _ ?_
  · exact fun j hj _ => (hd_keep hB' (Nat.lt_of_lt_of_le hj (by decide +kernel)) (by simp)).trans (hF j (by omega))
theorem j2tq_0_p2 {Ls : Nat} {xs : Nat → Int32} {d : Nat} {Q : Option Value → jm_h → Prop} (hd : 2 ≤ d) (F : Nat → sy_d) (X1 X2 : List jm_c) (hB : iv_in F iv_B0)
    (h0 : 1 ≤ (sy_i F 82).toInt)
    (h1 : (sy_i F 82).toInt ≤ 9)
    (h2 : (sy_i F 83).toInt < 0)
    (k : ∀ F1 : Nat → sy_d, (∀ j, j < 82 → True → F1 j = F j) → Q (some (.int (((-1) : Int32)))) (sy_dh F1 X1 X2 (iv_H 2))) :
    hd_W Ls xs d jm_M108 Q (0, sy_dL F [some (.inl (.ref 8)), some (.inr (.inl 82)), some (.inr (.inl 83))], sy_dS F [], sy_dh F X1 X2 (iv_H 2), 0, 0) := by
  refine hd_ret (s := 2) (nv := 84) (v := some (.inl (.int (-1)))) (uh := hd_ov (iv_id 0 iv_B0) []) (f := true) (sp := []) (d0 := 1) (O := [false, false, true]) (T := []) (P := [(3, .inr (.inl 82), .inl (.int 1)), (3, .inl (.int 9), .inr (.inl 82)), (2, .inr (.inl 83), .inl (.int 0))]) jm_ok108 (by decide +kernel) (by decide +kernel) hd F X1 X2 (fun F' hF hs => ?_)
  have b82 := hd_b (F := F) (F' := F') (k := 82) (hF 82 (by decide))
  have b83 := hd_b (F := F) (F' := F') (k := 83) (hF 83 (by decide))
  have hB' : iv_in F' iv_B0 := iv_in_eq hB (fun j hj => hF j (Nat.lt_of_lt_of_le hj (by decide +kernel)))
  refine ⟨List.forall_mem_cons.mpr ⟨hd_p3 b82 rfl (by have hc : ((1) : Int32).toInt = 1 := (by decide); omega), List.forall_mem_cons.mpr ⟨hd_p3 rfl b82 (by have hc : ((9) : Int32).toInt = 9 := (by decide); omega), List.forall_mem_cons.mpr ⟨hd_p2 b83 rfl (by have hc : ((0) : Int32).toInt = 0 := (by decide); omega), fun _ h => absurd h List.not_mem_nil⟩⟩⟩, ?_⟩
  refine k _ ?_
  · exact fun j hj _ => (hd_keep hB' (Nat.lt_of_lt_of_le hj (by decide +kernel)) (by simp)).trans (hF j (by omega))
theorem j2tq_0_p3 {Ls : Nat} {xs : Nat → Int32} {d : Nat} {Q : Option Value → jm_h → Prop} (hd : 2 ≤ d) (F : Nat → sy_d) (X1 X2 : List jm_c) (hB : iv_in F iv_B0)
    (h0 : 1 ≤ (sy_i F 82).toInt)
    (h1 : (sy_i F 82).toInt ≤ 9)
    (h2 : 0 ≤ (sy_i F 83).toInt)
    (h3 : 9 < (sy_i F 83).toInt)
    (k : ∀ F1 : Nat → sy_d, (∀ j, j < 82 → True → F1 j = F j) → Q (some (.int (((-1) : Int32)))) (sy_dh F1 X1 X2 (iv_H 2))) :
    hd_W Ls xs d jm_M108 Q (0, sy_dL F [some (.inl (.ref 8)), some (.inr (.inl 82)), some (.inr (.inl 83))], sy_dS F [], sy_dh F X1 X2 (iv_H 2), 0, 0) := by
  refine hd_ret (s := 2) (nv := 84) (v := some (.inl (.int (-1)))) (uh := hd_ov (iv_id 0 iv_B0) []) (f := true) (sp := []) (d0 := 1) (O := [false, false, false, true]) (T := []) (P := [(3, .inr (.inl 82), .inl (.int 1)), (3, .inl (.int 9), .inr (.inl 82)), (3, .inr (.inl 83), .inl (.int 0)), (2, .inl (.int 9), .inr (.inl 83))]) jm_ok108 (by decide +kernel) (by decide +kernel) hd F X1 X2 (fun F' hF hs => ?_)
  have b82 := hd_b (F := F) (F' := F') (k := 82) (hF 82 (by decide))
  have b83 := hd_b (F := F) (F' := F') (k := 83) (hF 83 (by decide))
  have hB' : iv_in F' iv_B0 := iv_in_eq hB (fun j hj => hF j (Nat.lt_of_lt_of_le hj (by decide +kernel)))
  refine ⟨List.forall_mem_cons.mpr ⟨hd_p3 b82 rfl (by have hc : ((1) : Int32).toInt = 1 := (by decide); omega), List.forall_mem_cons.mpr ⟨hd_p3 rfl b82 (by have hc : ((9) : Int32).toInt = 9 := (by decide); omega), List.forall_mem_cons.mpr ⟨hd_p3 b83 rfl (by have hc : ((0) : Int32).toInt = 0 := (by decide); omega), List.forall_mem_cons.mpr ⟨hd_p2 rfl b83 (by have hc : ((9) : Int32).toInt = 9 := (by decide); omega), fun _ h => absurd h List.not_mem_nil⟩⟩⟩⟩, ?_⟩
  refine k _ ?_
  · exact fun j hj _ => (hd_keep hB' (Nat.lt_of_lt_of_le hj (by decide +kernel)) (by simp)).trans (hF j (by omega))
theorem j2tq_0_p4 {Ls : Nat} {xs : Nat → Int32} {d : Nat} {Q : Option Value → jm_h → Prop} (hd : 2 ≤ d) (F : Nat → sy_d) (X1 X2 : List jm_c) (hB : iv_in F iv_B0)
    (h0 : 1 ≤ (sy_i F 82).toInt)
    (h1 : (sy_i F 82).toInt ≤ 9)
    (h2 : 0 ≤ (sy_i F 83).toInt)
    (h3 : (sy_i F 83).toInt ≤ 9)
    (h4 : (sy_i F 79).toInt < 7)
    (h5 : 0 ≤ (sy_i F 79).toInt ∧ (sy_i F 79).toInt < 7)
    (h6 : 0 ≤ (sy_i F 79).toInt ∧ (sy_i F 79).toInt < 7)
    (k : ∀ F1 : Nat → sy_d, (∀ j, j < 82 → j ≠ 79 ∧ j ≠ 80 ∧ j ≠ 81 → F1 j = F j) → F1 79 = .inl (.int ((sy_i F 79) + ((1 : Int32)))) → F1 80 = .inr (.inl (jm_upd (sy_ai F 80) (sy_i F 79).toNatClampNeg (sy_i F 82))) → F1 81 = .inr (.inl (jm_upd (sy_ai F 81) (sy_i F 79).toNatClampNeg (sy_i F 83))) → Q (some (.int (((sy_i F 79) + ((1 : Int32))) - ((1 : Int32))))) (sy_dh F1 X1 X2 (iv_H 2))) :
    hd_W Ls xs d jm_M108 Q (0, sy_dL F [some (.inl (.ref 8)), some (.inr (.inl 82)), some (.inr (.inl 83))], sy_dS F [], sy_dh F X1 X2 (iv_H 2), 0, 0) := by
  refine hd_ret (s := 2) (nv := 84) (v := some (.inr (.inl 87))) (uh := hd_ov (iv_id 0 iv_B0) [(79, .inl (.inr (.inl 86))), (80, .inr (.inr (.inl 84))), (81, .inr (.inr (.inl 85)))]) (f := true) (sp := []) (d0 := 1) (O := [false, false, false, false, true]) (T := [(40, [.inr (.inl 79), .inr (.inl 82)], [.inr (.inl 80)]), (40, [.inr (.inl 79), .inr (.inl 83)], [.inr (.inl 81)]), (0, [.inr (.inl 79), .inl (.int 1)], []), (1, [.inr (.inl 86), .inl (.int 1)], [])]) (P := [(3, .inr (.inl 82), .inl (.int 1)), (3, .inl (.int 9), .inr (.inl 82)), (3, .inr (.inl 83), .inl (.int 0)), (3, .inl (.int 9), .inr (.inl 83)), (2, .inr (.inl 79), .inl (.int 7)), (6, .inr (.inl 79), .inl (.ref 7)), (6, .inr (.inl 79), .inl (.ref 7))]) jm_ok108 (by decide +kernel) (by decide +kernel) hd F X1 X2 (fun F' hF hs => ?_)
  have b82 := hd_b (F := F) (F' := F') (k := 82) (hF 82 (by decide))
  have b83 := hd_b (F := F) (F' := F') (k := 83) (hF 83 (by decide))
  have b79 := hd_b (F := F) (F' := F') (k := 79) (hF 79 (by decide))
  have t86 : sy_dv F' (.inr (.inl 86)) = .int ((sy_i F 79) + ((1 : Int32))) := hd_o (hs 2 _ rfl) b79 rfl rfl
  have a80 := hd_ba (F := F) (F' := F') (k := 80) (hF 80 (by decide))
  have t84 : sy_da F' (.inr (.inl 84)) = .inl (jm_upd (sy_ai F 80) (sy_i F 79).toNatClampNeg (sy_i F 82)) := hd_up (hs 0 _ rfl) b79 b82 a80
  have a81 := hd_ba (F := F) (F' := F') (k := 81) (hF 81 (by decide))
  have t85 : sy_da F' (.inr (.inl 85)) = .inl (jm_upd (sy_ai F 81) (sy_i F 79).toNatClampNeg (sy_i F 83)) := hd_up (hs 1 _ rfl) b79 b83 a81
  have t87 : sy_dv F' (.inr (.inl 87)) = .int (((sy_i F 79) + ((1 : Int32))) - ((1 : Int32))) := hd_o (hs 3 _ rfl) t86 rfl rfl
  have hB' : iv_in F' iv_B0 := iv_in_eq hB (fun j hj => hF j (Nat.lt_of_lt_of_le hj (by decide +kernel)))
  have hk := k (sy_cm F' (hd_ov (iv_id 0 iv_B0) [(79, .inl (.inr (.inl 86))), (80, .inr (.inr (.inl 84))), (81, .inr (.inr (.inl 85)))] ++ [])) (fun j hj hn => (hd_keep hB' (Nat.lt_of_lt_of_le hj (by decide +kernel)) (by simp; omega)).trans (hF j (by omega))) (hd_gi (x := .inr (.inl 86)) (by decide +kernel) t86) (hd_ga (a := .inr (.inl 84)) (by decide +kernel) t84) (hd_ga (a := .inr (.inl 85)) (by decide +kernel) t85)
  refine ⟨List.forall_mem_cons.mpr ⟨hd_p3 b82 rfl (by have hc : ((1) : Int32).toInt = 1 := (by decide); omega), List.forall_mem_cons.mpr ⟨hd_p3 rfl b82 (by have hc : ((9) : Int32).toInt = 9 := (by decide); omega), List.forall_mem_cons.mpr ⟨hd_p3 b83 rfl (by have hc : ((0) : Int32).toInt = 0 := (by decide); omega), List.forall_mem_cons.mpr ⟨hd_p3 rfl b83 (by have hc : ((9) : Int32).toInt = 9 := (by decide); omega), List.forall_mem_cons.mpr ⟨hd_p2 b79 rfl (by have hc : ((7) : Int32).toInt = 7 := (by decide); omega), List.forall_mem_cons.mpr ⟨hd_pb b79 (by first | exact h5 | exact h5), List.forall_mem_cons.mpr ⟨hd_pb b79 (by first | exact h6 | exact h6), fun _ h => absurd h List.not_mem_nil⟩⟩⟩⟩⟩⟩⟩, ?_⟩
  show Q (some (sy_dv F' (.inr (.inl 87)))) _
  rw [t87]
  exact hk
theorem j2tq_0_p5 {Ls : Nat} {xs : Nat → Int32} {d : Nat} {Q : Option Value → jm_h → Prop} (hd : 2 ≤ d) (F : Nat → sy_d) (X1 X2 : List jm_c) (hB : iv_in F iv_B0)
    (h0 : 1 ≤ (sy_i F 82).toInt)
    (h1 : (sy_i F 82).toInt ≤ 9)
    (h2 : 0 ≤ (sy_i F 83).toInt)
    (h3 : (sy_i F 83).toInt ≤ 9)
    (h4 : 7 ≤ (sy_i F 79).toInt)
    (k : ∀ F1 : Nat → sy_d, (∀ j, j < 82 → True → F1 j = F j) → Q (some (.int (((-1) : Int32)))) (sy_dh F1 X1 X2 (iv_H 2))) :
    hd_W Ls xs d jm_M108 Q (0, sy_dL F [some (.inl (.ref 8)), some (.inr (.inl 82)), some (.inr (.inl 83))], sy_dS F [], sy_dh F X1 X2 (iv_H 2), 0, 0) := by
  refine hd_ret (s := 2) (nv := 84) (v := some (.inl (.int (-1)))) (uh := hd_ov (iv_id 0 iv_B0) []) (f := true) (sp := []) (d0 := 1) (O := [false, false, false, false, false]) (T := []) (P := [(3, .inr (.inl 82), .inl (.int 1)), (3, .inl (.int 9), .inr (.inl 82)), (3, .inr (.inl 83), .inl (.int 0)), (3, .inl (.int 9), .inr (.inl 83)), (3, .inr (.inl 79), .inl (.int 7))]) jm_ok108 (by decide +kernel) (by decide +kernel) hd F X1 X2 (fun F' hF hs => ?_)
  have b82 := hd_b (F := F) (F' := F') (k := 82) (hF 82 (by decide))
  have b83 := hd_b (F := F) (F' := F') (k := 83) (hF 83 (by decide))
  have b79 := hd_b (F := F) (F' := F') (k := 79) (hF 79 (by decide))
  have hB' : iv_in F' iv_B0 := iv_in_eq hB (fun j hj => hF j (Nat.lt_of_lt_of_le hj (by decide +kernel)))
  refine ⟨List.forall_mem_cons.mpr ⟨hd_p3 b82 rfl (by have hc : ((1) : Int32).toInt = 1 := (by decide); omega), List.forall_mem_cons.mpr ⟨hd_p3 rfl b82 (by have hc : ((9) : Int32).toInt = 9 := (by decide); omega), List.forall_mem_cons.mpr ⟨hd_p3 b83 rfl (by have hc : ((0) : Int32).toInt = 0 := (by decide); omega), List.forall_mem_cons.mpr ⟨hd_p3 rfl b83 (by have hc : ((9) : Int32).toInt = 9 := (by decide); omega), List.forall_mem_cons.mpr ⟨hd_p3 b79 rfl (by have hc : ((7) : Int32).toInt = 7 := (by decide); omega), fun _ h => absurd h List.not_mem_nil⟩⟩⟩⟩⟩, ?_⟩
  refine k _ ?_
  · exact fun j hj _ => (hd_keep hB' (Nat.lt_of_lt_of_le hj (by decide +kernel)) (by simp)).trans (hF j (by omega))
theorem j2tq_0 {Ls : Nat} {xs : Nat → Int32} {d : Nat} {Q : Option Value → jm_h → Prop} (hd : 2 ≤ d) (F : Nat → sy_d) (X1 X2 : List jm_c) (hB : iv_in F iv_B0)
    (k0 : (sy_i F 82).toInt < 1 → ∀ F1 : Nat → sy_d, iv_in F1 iv_B0 → (∀ j, j < 82 → j ∉ ([] : List Nat) → F1 j = F j) → Q (some (.int (((-1) : Int32)))) (sy_dh F1 X1 X2 (iv_H 2)))
    (k1 : 1 ≤ (sy_i F 82).toInt → 9 < (sy_i F 82).toInt → ∀ F1 : Nat → sy_d, iv_in F1 iv_B0 → (∀ j, j < 82 → j ∉ ([] : List Nat) → F1 j = F j) → Q (some (.int (((-1) : Int32)))) (sy_dh F1 X1 X2 (iv_H 2)))
    (k2 : 1 ≤ (sy_i F 82).toInt → (sy_i F 82).toInt ≤ 9 → (sy_i F 83).toInt < 0 → ∀ F1 : Nat → sy_d, iv_in F1 iv_B0 → (∀ j, j < 82 → j ∉ ([] : List Nat) → F1 j = F j) → Q (some (.int (((-1) : Int32)))) (sy_dh F1 X1 X2 (iv_H 2)))
    (k3 : 1 ≤ (sy_i F 82).toInt → (sy_i F 82).toInt ≤ 9 → 0 ≤ (sy_i F 83).toInt → 9 < (sy_i F 83).toInt → ∀ F1 : Nat → sy_d, iv_in F1 iv_B0 → (∀ j, j < 82 → j ∉ ([] : List Nat) → F1 j = F j) → Q (some (.int (((-1) : Int32)))) (sy_dh F1 X1 X2 (iv_H 2)))
    (k4 : 1 ≤ (sy_i F 82).toInt → (sy_i F 82).toInt ≤ 9 → 0 ≤ (sy_i F 83).toInt → (sy_i F 83).toInt ≤ 9 → (sy_i F 79).toInt < 7 → ∀ F1 : Nat → sy_d, iv_in F1 iv_B0 → (∀ j, j < 82 → j ∉ ([79, 80, 81] : List Nat) → F1 j = F j) → (sy_i F1 79).toInt = ((sy_i F 79).toInt + 1) → sy_i F1 79 = (sy_i F 79) + ((1 : Int32)) → sy_ai F1 80 = jm_upd (sy_ai F 80) ((sy_i F 79).toInt).toNat (sy_i F 82) → sy_ai F1 81 = jm_upd (sy_ai F 81) ((sy_i F 79).toInt).toNat (sy_i F 83) → Q (some (.int (((sy_i F 79) + ((1 : Int32))) - ((1 : Int32))))) (sy_dh F1 X1 X2 (iv_H 2)))
    (k5 : 1 ≤ (sy_i F 82).toInt → (sy_i F 82).toInt ≤ 9 → 0 ≤ (sy_i F 83).toInt → (sy_i F 83).toInt ≤ 9 → 7 ≤ (sy_i F 79).toInt → ∀ F1 : Nat → sy_d, iv_in F1 iv_B0 → (∀ j, j < 82 → j ∉ ([] : List Nat) → F1 j = F j) → Q (some (.int (((-1) : Int32)))) (sy_dh F1 X1 X2 (iv_H 2))) :
    hd_W Ls xs d jm_M108 Q (0, sy_dL F [some (.inl (.ref 8)), some (.inr (.inl 82)), some (.inr (.inl 83))], sy_dS F [], sy_dh F X1 X2 (iv_H 2), 0, 0) := by
  by_cases g0 : (sy_i F 82).toInt < 1
  · exact j2tq_0_p0 hd F X1 X2 hB (by first | exact g0 | (simp only [nz_c]; exact g0)) (fun F1 g  => k0 g0 F1 (nz_in0 hB [] (fun j hj hn => g j hj (by simp only [List.mem_cons, List.not_mem_nil, or_false, not_or] at hn; exact trivial)) (List.forall_mem_nil _)) (fun j hj hn => g j hj (by simp only [List.mem_cons, List.not_mem_nil, or_false, not_or] at hn; exact trivial)) )
  replace g0 : 1 ≤ (sy_i F 82).toInt := by omega
  by_cases g1 : 9 < (sy_i F 82).toInt
  · exact j2tq_0_p1 hd F X1 X2 hB (by first | exact g0 | (simp only [nz_c]; exact g0)) (by first | exact g1 | (simp only [nz_c]; exact g1)) (fun F1 g  => k1 g0 g1 F1 (nz_in0 hB [] (fun j hj hn => g j hj (by simp only [List.mem_cons, List.not_mem_nil, or_false, not_or] at hn; exact trivial)) (List.forall_mem_nil _)) (fun j hj hn => g j hj (by simp only [List.mem_cons, List.not_mem_nil, or_false, not_or] at hn; exact trivial)) )
  replace g1 : (sy_i F 82).toInt ≤ 9 := by omega
  by_cases g2 : (sy_i F 83).toInt < 0
  · exact j2tq_0_p2 hd F X1 X2 hB (by first | exact g0 | (simp only [nz_c]; exact g0)) (by first | exact g1 | (simp only [nz_c]; exact g1)) (by first | exact g2 | (simp only [nz_c]; exact g2)) (fun F1 g  => k2 g0 g1 g2 F1 (nz_in0 hB [] (fun j hj hn => g j hj (by simp only [List.mem_cons, List.not_mem_nil, or_false, not_or] at hn; exact trivial)) (List.forall_mem_nil _)) (fun j hj hn => g j hj (by simp only [List.mem_cons, List.not_mem_nil, or_false, not_or] at hn; exact trivial)) )
  replace g2 : 0 ≤ (sy_i F 83).toInt := by omega
  by_cases g3 : 9 < (sy_i F 83).toInt
  · exact j2tq_0_p3 hd F X1 X2 hB (by first | exact g0 | (simp only [nz_c]; exact g0)) (by first | exact g1 | (simp only [nz_c]; exact g1)) (by first | exact g2 | (simp only [nz_c]; exact g2)) (by first | exact g3 | (simp only [nz_c]; exact g3)) (fun F1 g  => k3 g0 g1 g2 g3 F1 (nz_in0 hB [] (fun j hj hn => g j hj (by simp only [List.mem_cons, List.not_mem_nil, or_false, not_or] at hn; exact trivial)) (List.forall_mem_nil _)) (fun j hj hn => g j hj (by simp only [List.mem_cons, List.not_mem_nil, or_false, not_or] at hn; exact trivial)) )
  replace g3 : (sy_i F 83).toInt ≤ 9 := by omega
  by_cases g4 : (sy_i F 79).toInt < 7
  · have c79 := nz_bx hB (k := 79) (lo := 0) (hi := 7) rfl
    have n86 : nzI ((sy_i F 79) + ((1 : Int32))) (((sy_i F 79).toInt + 1)) := nz_add (rfl : (sy_i F 79).toInt = (sy_i F 79).toInt) (by decide : ((1 : Int32)).toInt = 1) (by omega) (by omega)
    have w84 : jm_upd (sy_ai F 80) (sy_i F 79).toNatClampNeg (sy_i F 82) = jm_upd (sy_ai F 80) ((sy_i F 79).toInt).toNat (sy_i F 82) := by simp only [nz_c]
    have w85 : jm_upd (sy_ai F 81) (sy_i F 79).toNatClampNeg (sy_i F 83) = jm_upd (sy_ai F 81) ((sy_i F 79).toInt).toNat (sy_i F 83) := by simp only [nz_c]
    exact j2tq_0_p4 hd F X1 X2 hB (by first | exact g0 | (simp only [nz_c]; exact g0)) (by first | exact g1 | (simp only [nz_c]; exact g1)) (by first | exact g2 | (simp only [nz_c]; exact g2)) (by first | exact g3 | (simp only [nz_c]; exact g3)) (by first | exact g4 | (simp only [nz_c]; exact g4)) (by first | exact ⟨by omega, by omega⟩ | (simp only [nz_c]; exact ⟨by omega, by omega⟩)) (by first | exact ⟨by omega, by omega⟩ | (simp only [nz_c]; exact ⟨by omega, by omega⟩)) (fun F1 g e79 e80 e81 => by rw [(rfl : ((sy_i F 79) + ((1 : Int32))) - ((1 : Int32)) = ((sy_i F 79) + ((1 : Int32))) - ((1 : Int32)))]; exact k4 g0 g1 g2 g3 g4 F1 (nz_in0 hB [79, 80, 81] (fun j hj hn => g j hj (by simp only [List.mem_cons, List.not_mem_nil, or_false, not_or] at hn; omega)) (List.forall_mem_cons.mpr ⟨fun t ht => (Option.some.inj ht) ▸ (nz_hi e79 (nzE n86) (by omega) (by omega)), List.forall_mem_cons.mpr ⟨fun t ht => (Option.some.inj ht) ▸ (nz_hz2 e80), List.forall_mem_cons.mpr ⟨fun t ht => (Option.some.inj ht) ▸ (nz_hz2 e81), List.forall_mem_nil _⟩⟩⟩)) (fun j hj hn => g j hj (by simp only [List.mem_cons, List.not_mem_nil, or_false, not_or] at hn; omega)) ((congrArg Int32.toInt (zz_i e79)).trans (nzE n86)) ((zz_i e79).trans (rfl : (sy_i F 79) + ((1 : Int32)) = (sy_i F 79) + ((1 : Int32)))) ((zz_ai e80).trans w84) ((zz_ai e81).trans w85))
  replace g4 : 7 ≤ (sy_i F 79).toInt := by omega
  have c79 := nz_bx hB (k := 79) (lo := 0) (hi := 7) rfl
  exact j2tq_0_p5 hd F X1 X2 hB (by first | exact g0 | (simp only [nz_c]; exact g0)) (by first | exact g1 | (simp only [nz_c]; exact g1)) (by first | exact g2 | (simp only [nz_c]; exact g2)) (by first | exact g3 | (simp only [nz_c]; exact g3)) (by first | exact g4 | (simp only [nz_c]; exact g4)) (fun F1 g  => k5 g0 g1 g2 g3 g4 F1 (nz_in0 hB [] (fun j hj hn => g j hj (by simp only [List.mem_cons, List.not_mem_nil, or_false, not_or] at hn; exact trivial)) (List.forall_mem_nil _)) (fun j hj hn => g j hj (by simp only [List.mem_cons, List.not_mem_nil, or_false, not_or] at hn; exact trivial)) )
