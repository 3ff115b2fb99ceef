section
/-! ===== shake, hours, what is told and taped, way by way (shape 0) ===== -/
theorem j0sq_0_p0 {Ls : Nat} {xs : Nat → Int32} {d : Nat} {Q : Option Value → jm_h → Prop} (hd : 2 ≤ d) (F : Nat → sy_d) (X1 X2 : List jm_c) (hB : iv_in F iv_B0)
    (h0 : (sy_i F 82).toInt < 0)
    (k : ∀ F1 : Nat → sy_d, (∀ j, j < 82 → True → F1 j = F j) → Q (some (.int (((-1) : Int32)))) (sy_dh F1 X1 X2 (iv_H 0))) :
    hd_W Ls xs d jm_M90 Q (0, sy_dL F [some (.inl (.ref 8)), some (.inr (.inl 82)), none, none], sy_dS F [], sy_dh F X1 X2 (iv_H 0), 0, 0) := by
  refine hd_ret (s := 0) (nv := 83) (v := some (.inl (.int (-1)))) (uh := hd_ov (iv_id 0 iv_B0) []) (f := true) (sp := [33]) (d0 := 1) (O := [true]) (T := []) (P := [(2, .inr (.inl 82), .inl (.int 0))]) jm_ok90 (by decide +kernel) (by decide +kernel) hd F X1 X2 (fun F' hF hs => ?_)
  have b82 := hd_b (F := F) (F' := F') (k := 82) (hF 82 (by decide))
  have hB' : iv_in F' iv_B0 := iv_in_eq hB (fun j hj => hF j (Nat.lt_of_lt_of_le hj (by decide +kernel)))
  refine ⟨List.forall_mem_cons.mpr ⟨hd_p2 b82 rfl (by have hc : ((0) : Int32).toInt = 0 := (by decide); omega), fun _ h => absurd h List.not_mem_nil⟩, ?_⟩
  refine k _ ?_
  · exact fun j hj _ => (hd_keep hB' (Nat.lt_of_lt_of_le hj (by decide +kernel)) (by simp)).trans (hF j (Nat.lt_of_lt_of_le hj (by decide)))
theorem j0sq_0_p1 {Ls : Nat} {xs : Nat → Int32} {d : Nat} {Q : Option Value → jm_h → Prop} (hd : 2 ≤ d) (F : Nat → sy_d) (X1 X2 : List jm_c) (hB : iv_in F iv_B0)
    (h0 : 0 ≤ (sy_i F 82).toInt)
    (h1 : (sy_i F 3).toInt ≤ (sy_i F 82).toInt)
    (k : ∀ F1 : Nat → sy_d, (∀ j, j < 82 → True → F1 j = F j) → Q (some (.int (((-1) : Int32)))) (sy_dh F1 X1 X2 (iv_H 0))) :
    hd_W Ls xs d jm_M90 Q (0, sy_dL F [some (.inl (.ref 8)), some (.inr (.inl 82)), none, none], sy_dS F [], sy_dh F X1 X2 (iv_H 0), 0, 0) := by
  refine hd_ret (s := 0) (nv := 83) (v := some (.inl (.int (-1)))) (uh := hd_ov (iv_id 0 iv_B0) []) (f := true) (sp := [33]) (d0 := 1) (O := [false, true]) (T := []) (P := [(3, .inr (.inl 82), .inl (.int 0)), (4, .inr (.inl 3), .inr (.inl 82))]) jm_ok90 (by decide +kernel) (by decide +kernel) hd F X1 X2 (fun F' hF hs => ?_)
  have b82 := hd_b (F := F) (F' := F') (k := 82) (hF 82 (by decide))
  have b3 := hd_b (F := F) (F' := F') (k := 3) (hF 3 (by decide))
  have hB' : iv_in F' iv_B0 := iv_in_eq hB (fun j hj => hF j (Nat.lt_of_lt_of_le hj (by decide +kernel)))
  refine ⟨List.forall_mem_cons.mpr ⟨hd_p3 b82 rfl (by have hc : ((0) : Int32).toInt = 0 := (by decide); omega), List.forall_mem_cons.mpr ⟨hd_p4 b3 b82 h1, fun _ h => absurd h List.not_mem_nil⟩⟩, ?_⟩
  refine k _ ?_
  · exact fun j hj _ => (hd_keep hB' (Nat.lt_of_lt_of_le hj (by decide +kernel)) (by simp)).trans (hF j (Nat.lt_of_lt_of_le hj (by decide)))
theorem j0sq_0_p2 {Ls : Nat} {xs : Nat → Int32} {d : Nat} {Q : Option Value → jm_h → Prop} (hd : 2 ≤ d) (F : Nat → sy_d) (X1 X2 : List jm_c) (hB : iv_in F iv_B0)
    (h0 : 0 ≤ (sy_i F 82).toInt)
    (h1 : (sy_i F 82).toInt < (sy_i F 3).toInt)
    (h2 : 0 ≤ (sy_i F 82).toInt ∧ (sy_i F 82).toInt < 7)
    (h3 : ((sy_ai F 54).getD (sy_i F 82).toNatClampNeg 0).toInt = 0)
    (k : ∀ F1 : Nat → sy_d, (∀ j, j < 82 → True → F1 j = F j) → F1 82 = .inl (.int (sy_i F 82)) → hd_W Ls xs d jm_M90 Q (33, sy_dL F1 [some (.inl (.ref 8)), some (.inr (.inl 82)), none, none], sy_dS F1 [.inl (.ref 46), .inl (.ref 66)], sy_dh F1 X1 X2 (iv_H 0), 0, 0)) :
    hd_W Ls xs d jm_M90 Q (0, sy_dL F [some (.inl (.ref 8)), some (.inr (.inl 82)), none, none], sy_dS F [], sy_dh F X1 X2 (iv_H 0), 0, 0) := by
  refine hd_run (s := 0) (nv := 83) (pc := 33) (L := [some (.inl (.ref 8)), some (.inr (.inl 82)), none, none]) (S := [.inl (.ref 46), .inl (.ref 66)]) (uh := hd_ov (iv_id 0 iv_B0) []) (ul := [.inl (.inr (.inl 82))]) (f := true) (sp := [33]) (d0 := 1) (O := [false, false, true]) (T := [(30, [.inr (.inl 82)], [.inr (.inl 54)])]) (P := [(3, .inr (.inl 82), .inl (.int 0)), (5, .inr (.inl 3), .inr (.inl 82)), (6, .inr (.inl 82), .inl (.ref 7)), (0, .inr (.inl 83), .inl (.int 0))]) jm_ok90 (by decide +kernel) (by decide +kernel) hd F X1 X2 (fun F' hF hs => ?_)
  have b82 := hd_b (F := F) (F' := F') (k := 82) (hF 82 (by decide))
  have b3 := hd_b (F := F) (F' := F') (k := 3) (hF 3 (by decide))
  have a54 := hd_ba (F := F) (F' := F') (k := 54) (hF 54 (by decide))
  have t83 : sy_dv F' (.inr (.inl 83)) = .int ((sy_ai F 54).getD (sy_i F 82).toNatClampNeg 0) := hd_rd (hs 0 _ rfl) b82 a54
  have hB' : iv_in F' iv_B0 := iv_in_eq hB (fun j hj => hF j (Nat.lt_of_lt_of_le hj (by decide +kernel)))
  refine ⟨List.forall_mem_cons.mpr ⟨hd_p3 b82 rfl (by have hc : ((0) : Int32).toInt = 0 := (by decide); omega), List.forall_mem_cons.mpr ⟨hd_p5 b3 b82 h1, List.forall_mem_cons.mpr ⟨hd_pb b82 (by first | exact h2 | exact h2), List.forall_mem_cons.mpr ⟨hd_p0 t83 rfl (by have hc : ((0) : Int32).toInt = 0 := (by decide); omega), fun _ h => absurd h List.not_mem_nil⟩⟩⟩⟩, ?_⟩
  refine k _ ?_ ?_
  · exact fun j hj _ => (hd_keep hB' (Nat.lt_of_lt_of_le hj (by decide +kernel)) (by simp)).trans (hF j (Nat.lt_of_lt_of_le hj (by decide)))
  · exact hd_gi (x := .inr (.inl 82)) (by decide +kernel) b82
theorem j0sq_0_p3 {Ls : Nat} {xs : Nat → Int32} {d : Nat} {Q : Option Value → jm_h → Prop} (hd : 2 ≤ d) (F : Nat → sy_d) (X1 X2 : List jm_c) (hB : iv_in F iv_B0)
    (h0 : 0 ≤ (sy_i F 82).toInt)
    (h1 : (sy_i F 82).toInt < (sy_i F 3).toInt)
    (h2 : 0 ≤ (sy_i F 82).toInt ∧ (sy_i F 82).toInt < 7)
    (h3 : ((sy_ai F 54).getD (sy_i F 82).toNatClampNeg 0).toInt ≠ 0)
    (k : ∀ F1 : Nat → sy_d, (∀ j, j < 82 → True → F1 j = F j) → Q (some (.int (((-2) : Int32)))) (sy_dh F1 X1 X2 (iv_H 0))) :
    hd_W Ls xs d jm_M90 Q (0, sy_dL F [some (.inl (.ref 8)), some (.inr (.inl 82)), none, none], sy_dS F [], sy_dh F X1 X2 (iv_H 0), 0, 0) := by
  refine hd_ret (s := 0) (nv := 83) (v := some (.inl (.int (-2)))) (uh := hd_ov (iv_id 0 iv_B0) []) (f := true) (sp := [33]) (d0 := 1) (O := [false, false, false]) (T := [(30, [.inr (.inl 82)], [.inr (.inl 54)])]) (P := [(3, .inr (.inl 82), .inl (.int 0)), (5, .inr (.inl 3), .inr (.inl 82)), (6, .inr (.inl 82), .inl (.ref 7)), (1, .inr (.inl 83), .inl (.int 0))]) jm_ok90 (by decide +kernel) (by decide +kernel) hd F X1 X2 (fun F' hF hs => ?_)
  have b82 := hd_b (F := F) (F' := F') (k := 82) (hF 82 (by decide))
  have b3 := hd_b (F := F) (F' := F') (k := 3) (hF 3 (by decide))
  have a54 := hd_ba (F := F) (F' := F') (k := 54) (hF 54 (by decide))
  have t83 : sy_dv F' (.inr (.inl 83)) = .int ((sy_ai F 54).getD (sy_i F 82).toNatClampNeg 0) := hd_rd (hs 0 _ rfl) b82 a54
  have hB' : iv_in F' iv_B0 := iv_in_eq hB (fun j hj => hF j (Nat.lt_of_lt_of_le hj (by decide +kernel)))
  refine ⟨List.forall_mem_cons.mpr ⟨hd_p3 b82 rfl (by have hc : ((0) : Int32).toInt = 0 := (by decide); omega), List.forall_mem_cons.mpr ⟨hd_p5 b3 b82 h1, List.forall_mem_cons.mpr ⟨hd_pb b82 (by first | exact h2 | exact h2), List.forall_mem_cons.mpr ⟨hd_p1 t83 rfl (by have hc : ((0) : Int32).toInt = 0 := (by decide); omega), fun _ h => absurd h List.not_mem_nil⟩⟩⟩⟩, ?_⟩
  refine k _ ?_
  · exact fun j hj _ => (hd_keep hB' (Nat.lt_of_lt_of_le hj (by decide +kernel)) (by simp)).trans (hF j (Nat.lt_of_lt_of_le hj (by decide)))
theorem j0sq_0 {Ls : Nat} {xs : Nat → Int32} {d : Nat} {Q : Option Value → jm_h → Prop} (hd : 2 ≤ d) (F : Nat → sy_d) (X1 X2 : List jm_c) (hB : iv_in F iv_B0)
    (k0 : (sy_i F 82).toInt < 0 → ∀ F1 : Nat → sy_d, iv_in F1 iv_B0 → (∀ j, j < 82 → j ∉ ([] : List Nat) → F1 j = F j) → Q (some (.int (((-1) : Int32)))) (sy_dh F1 X1 X2 (iv_H 0)))
    (k1 : 0 ≤ (sy_i F 82).toInt → (sy_i F 3).toInt ≤ (sy_i F 82).toInt → ∀ F1 : Nat → sy_d, iv_in F1 iv_B0 → (∀ j, j < 82 → j ∉ ([] : List Nat) → F1 j = F j) → Q (some (.int (((-1) : Int32)))) (sy_dh F1 X1 X2 (iv_H 0)))
    (k2 : 0 ≤ (sy_i F 82).toInt → (sy_i F 82).toInt < (sy_i F 3).toInt → ((sy_ai F 54).getD ((sy_i F 82).toInt).toNat 0).toInt = 0 → ∀ F1 : Nat → sy_d, iv_in F1 iv_B0 → (∀ j, j < 82 → j ∉ ([] : List Nat) → F1 j = F j) → (sy_i F1 82).toInt = (sy_i F 82).toInt → sy_i F1 82 = sy_i F 82 → hd_W Ls xs d jm_M90 Q (33, sy_dL F1 [some (.inl (.ref 8)), some (.inr (.inl 82)), none, none], sy_dS F1 [.inl (.ref 46), .inl (.ref 66)], sy_dh F1 X1 X2 (iv_H 0), 0, 0))
    (k3 : 0 ≤ (sy_i F 82).toInt → (sy_i F 82).toInt < (sy_i F 3).toInt → ((sy_ai F 54).getD ((sy_i F 82).toInt).toNat 0).toInt ≠ 0 → ∀ F1 : Nat → sy_d, iv_in F1 iv_B0 → (∀ j, j < 82 → j ∉ ([] : List Nat) → F1 j = F j) → Q (some (.int (((-2) : Int32)))) (sy_dh F1 X1 X2 (iv_H 0))) :
    hd_W Ls xs d jm_M90 Q (0, sy_dL F [some (.inl (.ref 8)), some (.inr (.inl 82)), none, none], sy_dS F [], sy_dh F X1 X2 (iv_H 0), 0, 0) := by
  by_cases g0 : (sy_i F 82).toInt < 0
  · exact j0sq_0_p0 hd F X1 X2 hB (by first | exact g0 | (simp only [nz_c]; exact g0)) (fun F1 g  => k0 g0 F1 (nz_in0 hB [] (fun j hj hn => g j hj (by simp only [List.mem_cons, List.not_mem_nil, or_false, not_or] at hn; exact trivial)) (List.forall_mem_nil _)) (fun j hj hn => g j hj (by simp only [List.mem_cons, List.not_mem_nil, or_false, not_or] at hn; exact trivial)) )
  replace g0 : 0 ≤ (sy_i F 82).toInt := by omega
  by_cases g1 : (sy_i F 3).toInt ≤ (sy_i F 82).toInt
  · have c3 := nz_bx hB (k := 3) (lo := 0) (hi := 7) rfl
    exact j0sq_0_p1 hd F X1 X2 hB (by first | exact g0 | (simp only [nz_c]; exact g0)) (by first | exact g1 | (simp only [nz_c]; exact g1)) (fun F1 g  => k1 g0 g1 F1 (nz_in0 hB [] (fun j hj hn => g j hj (by simp only [List.mem_cons, List.not_mem_nil, or_false, not_or] at hn; exact trivial)) (List.forall_mem_nil _)) (fun j hj hn => g j hj (by simp only [List.mem_cons, List.not_mem_nil, or_false, not_or] at hn; exact trivial)) )
  replace g1 : (sy_i F 82).toInt < (sy_i F 3).toInt := by omega
  by_cases g2 : ((sy_ai F 54).getD ((sy_i F 82).toInt).toNat 0).toInt = 0
  · have c3 := nz_bx hB (k := 3) (lo := 0) (hi := 7) rfl
    have q83 : (sy_ai F 54).getD (sy_i F 82).toNatClampNeg 0 = (sy_ai F 54).getD ((sy_i F 82).toInt).toNat 0 := by simp only [nz_c]
    have n83 : nzI ((sy_ai F 54).getD (sy_i F 82).toNatClampNeg 0) (((sy_ai F 54).getD ((sy_i F 82).toInt).toNat 0).toInt) := congrArg Int32.toInt q83
    exact j0sq_0_p2 hd F X1 X2 hB (by first | exact g0 | (simp only [nz_c]; exact g0)) (by first | exact g1 | (simp only [nz_c]; exact g1)) (by first | exact ⟨by omega, by omega⟩ | (simp only [nz_c]; exact ⟨by omega, by omega⟩)) (by first | exact g2 | (simp only [nz_c]; exact g2) | (rw [(nzE n83)]; exact g2)) (fun F1 g e82 => k2 g0 g1 g2 F1 (nz_in0 hB [] (fun j hj hn => g j hj (by simp only [List.mem_cons, List.not_mem_nil, or_false, not_or] at hn; exact trivial)) (List.forall_mem_nil _)) (fun j hj hn => g j hj (by simp only [List.mem_cons, List.not_mem_nil, or_false, not_or] at hn; exact trivial)) ((congrArg Int32.toInt (zz_i e82)).trans (rfl : (sy_i F 82).toInt = (sy_i F 82).toInt)) ((zz_i e82).trans (rfl : sy_i F 82 = sy_i F 82)))
  replace g2 : ((sy_ai F 54).getD ((sy_i F 82).toInt).toNat 0).toInt ≠ 0 := by omega
  have c3 := nz_bx hB (k := 3) (lo := 0) (hi := 7) rfl
  have q83 : (sy_ai F 54).getD (sy_i F 82).toNatClampNeg 0 = (sy_ai F 54).getD ((sy_i F 82).toInt).toNat 0 := by simp only [nz_c]
  have n83 : nzI ((sy_ai F 54).getD (sy_i F 82).toNatClampNeg 0) (((sy_ai F 54).getD ((sy_i F 82).toInt).toNat 0).toInt) := congrArg Int32.toInt q83
  exact j0sq_0_p3 hd F X1 X2 hB (by first | exact g0 | (simp only [nz_c]; exact g0)) (by first | exact g1 | (simp only [nz_c]; exact g1)) (by first | exact ⟨by omega, by omega⟩ | (simp only [nz_c]; exact ⟨by omega, by omega⟩)) (by first | exact g2 | (simp only [nz_c]; exact g2) | (rw [(nzE n83)]; exact g2)) (fun F1 g  => k3 g0 g1 g2 F1 (nz_in0 hB [] (fun j hj hn => g j hj (by simp only [List.mem_cons, List.not_mem_nil, or_false, not_or] at hn; exact trivial)) (List.forall_mem_nil _)) (fun j hj hn => g j hj (by simp only [List.mem_cons, List.not_mem_nil, or_false, not_or] at hn; exact trivial)) )
theorem j0sq_36_p0 {Ls : Nat} {xs : Nat → Int32} {d : Nat} {Q : Option Value → jm_h → Prop} (hd : 3 ≤ d) (F : Nat → sy_d) (X1 X2 : List jm_c) (hB : iv_in F iv_B0)
    (h1 : 0 ≤ (sy_i F 82).toInt ∧ (sy_i F 82).toInt < 7)
    (h2 : 0 ≤ (sy_i F 82).toInt ∧ (sy_i F 82).toInt < 7)
    (k : ∀ F1 : Nat → sy_d, (∀ j, j < 82 → j ≠ 51 ∧ j ≠ 58 → F1 j = F j) → F1 51 = .inl (.int ((sy_i F 51) + ((1 : Int32)))) → F1 58 = .inr (.inl (jm_upd (sy_ai F 58) (sy_i F 82).toNatClampNeg (((sy_ai F 58).getD (sy_i F 82).toNatClampNeg 0) + ((1 : Int32))))) → F1 82 = .inl (.int (((((((((((((sy_i F 7) ^^^ ((101 : Int32))) * ((1103515245 : Int32))) + ((12345 : Int32))) ^^^ (((((((sy_i F 7) ^^^ ((101 : Int32))) * ((1103515245 : Int32))) + ((12345 : Int32)))).toUInt32 >>> ((((15 : Int32))).toUInt32 &&& Int32.toUInt32 31)).toInt32)) ^^^ (((1000000 : Int32)) + (sy_i F 51))) * ((1103515245 : Int32))) + ((12345 : Int32))) ^^^ (((((((((((sy_i F 7) ^^^ ((101 : Int32))) * ((1103515245 : Int32))) + ((12345 : Int32))) ^^^ (((((((sy_i F 7) ^^^ ((101 : Int32))) * ((1103515245 : Int32))) + ((12345 : Int32)))).toUInt32 >>> ((((15 : Int32))).toUInt32 &&& Int32.toUInt32 31)).toInt32)) ^^^ (((1000000 : Int32)) + (sy_i F 51))) * ((1103515245 : Int32))) + ((12345 : Int32)))).toUInt32 >>> ((((15 : Int32))).toUInt32 &&& Int32.toUInt32 31)).toInt32))).toUInt32 >>> ((((1 : Int32))).toUInt32 &&& Int32.toUInt32 31)).toInt32) - ((((((((((((sy_i F 7) ^^^ ((101 : Int32))) * ((1103515245 : Int32))) + ((12345 : Int32))) ^^^ (((((((sy_i F 7) ^^^ ((101 : Int32))) * ((1103515245 : Int32))) + ((12345 : Int32)))).toUInt32 >>> ((((15 : Int32))).toUInt32 &&& Int32.toUInt32 31)).toInt32)) ^^^ (((1000000 : Int32)) + (sy_i F 51))) * ((1103515245 : Int32))) + ((12345 : Int32))) ^^^ (((((((((((sy_i F 7) ^^^ ((101 : Int32))) * ((1103515245 : Int32))) + ((12345 : Int32))) ^^^ (((((((sy_i F 7) ^^^ ((101 : Int32))) * ((1103515245 : Int32))) + ((12345 : Int32)))).toUInt32 >>> ((((15 : Int32))).toUInt32 &&& Int32.toUInt32 31)).toInt32)) ^^^ (((1000000 : Int32)) + (sy_i F 51))) * ((1103515245 : Int32))) + ((12345 : Int32)))).toUInt32 >>> ((((15 : Int32))).toUInt32 &&& Int32.toUInt32 31)).toInt32))).toUInt32 >>> ((((1 : Int32))).toUInt32 &&& Int32.toUInt32 31)).toInt32) / ((100 : Int32)) * ((100 : Int32)))) → F1 83 = .inl (.int (sy_i F 50)) → F1 84 = .inl (.int (sy_i F 3)) → hd_W Ls xs d jm_M90 Q (110, sy_dL F1 [some (.inl (.ref 8)), none, some (.inr (.inl 82)), none], sy_dS F1 [.inr (.inl 84), .inl (.int 0), .inl (.ref 46), .inr (.inl 83), .inl (.ref 10), .inl (.ref 38)], sy_dh F1 X1 X2 (iv_H 0), 0, 0)) :
    hd_W Ls xs d jm_M90 Q (36, sy_dL F [some (.inl (.ref 8)), some (.inr (.inl 82)), none, none], sy_dS F [], sy_dh F X1 X2 (iv_H 0), 0, 0) := by
  refine hd_run (s := 0) (nv := 83) (pc := 110) (L := [some (.inl (.ref 8)), none, some (.inr (.inl 82)), none]) (S := [.inr (.inl 84), .inl (.int 0), .inl (.ref 46), .inr (.inl 83), .inl (.ref 10), .inl (.ref 38)]) (uh := hd_ov (iv_id 0 iv_B0) [(51, .inl (.inr (.inl 99))), (58, .inr (.inr (.inl 98)))]) (ul := [.inl (.inr (.inl 95)), .inl (.inr (.inl 50)), .inl (.inr (.inl 3))]) (f := false) (sp := [110]) (d0 := 2) (O := []) (T := [(0, [.inl (.int 1000000), .inr (.inl 51)], []), (5, [.inr (.inl 7), .inl (.int 101)], []), (2, [.inr (.inl 84), .inl (.int 1103515245)], []), (0, [.inr (.inl 85), .inl (.int 12345)], []), (8, [.inr (.inl 86), .inl (.int 15)], []), (5, [.inr (.inl 86), .inr (.inl 87)], []), (5, [.inr (.inl 88), .inr (.inl 83)], []), (2, [.inr (.inl 89), .inl (.int 1103515245)], []), (0, [.inr (.inl 90), .inl (.int 12345)], []), (8, [.inr (.inl 91), .inl (.int 15)], []), (5, [.inr (.inl 91), .inr (.inl 92)], []), (8, [.inr (.inl 93), .inl (.int 1)], []), (10, [.inr (.inl 94), .inl (.int 100)], []), (30, [.inr (.inl 82)], [.inr (.inl 58)]), (0, [.inr (.inl 96), .inl (.int 1)], []), (40, [.inr (.inl 82), .inr (.inl 97)], [.inr (.inl 58)]), (0, [.inr (.inl 51), .inl (.int 1)], [])]) (P := [(1, .inl (.int 100), .inl (.int 0)), (6, .inr (.inl 82), .inl (.ref 7)), (6, .inr (.inl 82), .inl (.ref 7))]) jm_ok90 (by decide +kernel) (by decide +kernel) hd F X1 X2 (fun F' hF hs => ?_)
  have b82 := hd_b (F := F) (F' := F') (k := 82) (hF 82 (by decide))
  have b51 := hd_b (F := F) (F' := F') (k := 51) (hF 51 (by decide))
  have t99 : sy_dv F' (.inr (.inl 99)) = .int ((sy_i F 51) + ((1 : Int32))) := hd_o (hs 16 _ rfl) b51 rfl rfl
  have a58 := hd_ba (F := F) (F' := F') (k := 58) (hF 58 (by decide))
  have t96 : sy_dv F' (.inr (.inl 96)) = .int ((sy_ai F 58).getD (sy_i F 82).toNatClampNeg 0) := hd_rd (hs 13 _ rfl) b82 a58
  have t97 : sy_dv F' (.inr (.inl 97)) = .int (((sy_ai F 58).getD (sy_i F 82).toNatClampNeg 0) + ((1 : Int32))) := hd_o (hs 14 _ rfl) t96 rfl rfl
  have t98 : sy_da F' (.inr (.inl 98)) = .inl (jm_upd (sy_ai F 58) (sy_i F 82).toNatClampNeg (((sy_ai F 58).getD (sy_i F 82).toNatClampNeg 0) + ((1 : Int32)))) := hd_up (hs 15 _ rfl) b82 t97 a58
  have b7 := hd_b (F := F) (F' := F') (k := 7) (hF 7 (by decide))
  have t84 : sy_dv F' (.inr (.inl 84)) = .int ((sy_i F 7) ^^^ ((101 : Int32))) := hd_o (hs 1 _ rfl) b7 rfl rfl
  have t85 : sy_dv F' (.inr (.inl 85)) = .int (((sy_i F 7) ^^^ ((101 : Int32))) * ((1103515245 : Int32))) := hd_o (hs 2 _ rfl) t84 rfl rfl
  have t86 : sy_dv F' (.inr (.inl 86)) = .int ((((sy_i F 7) ^^^ ((101 : Int32))) * ((1103515245 : Int32))) + ((12345 : Int32))) := hd_o (hs 3 _ rfl) t85 rfl rfl
  have t87 : sy_dv F' (.inr (.inl 87)) = .int (((((((sy_i F 7) ^^^ ((101 : Int32))) * ((1103515245 : Int32))) + ((12345 : Int32)))).toUInt32 >>> ((((15 : Int32))).toUInt32 &&& Int32.toUInt32 31)).toInt32) := hd_o (hs 4 _ rfl) t86 rfl rfl
  have t88 : sy_dv F' (.inr (.inl 88)) = .int (((((sy_i F 7) ^^^ ((101 : Int32))) * ((1103515245 : Int32))) + ((12345 : Int32))) ^^^ (((((((sy_i F 7) ^^^ ((101 : Int32))) * ((1103515245 : Int32))) + ((12345 : Int32)))).toUInt32 >>> ((((15 : Int32))).toUInt32 &&& Int32.toUInt32 31)).toInt32)) := hd_o (hs 5 _ rfl) t86 t87 rfl
  have t83 : sy_dv F' (.inr (.inl 83)) = .int (((1000000 : Int32)) + (sy_i F 51)) := hd_o (hs 0 _ rfl) rfl b51 rfl
  have t89 : sy_dv F' (.inr (.inl 89)) = .int ((((((sy_i F 7) ^^^ ((101 : Int32))) * ((1103515245 : Int32))) + ((12345 : Int32))) ^^^ (((((((sy_i F 7) ^^^ ((101 : Int32))) * ((1103515245 : Int32))) + ((12345 : Int32)))).toUInt32 >>> ((((15 : Int32))).toUInt32 &&& Int32.toUInt32 31)).toInt32)) ^^^ (((1000000 : Int32)) + (sy_i F 51))) := hd_o (hs 6 _ rfl) t88 t83 rfl
  have t90 : sy_dv F' (.inr (.inl 90)) = .int (((((((sy_i F 7) ^^^ ((101 : Int32))) * ((1103515245 : Int32))) + ((12345 : Int32))) ^^^ (((((((sy_i F 7) ^^^ ((101 : Int32))) * ((1103515245 : Int32))) + ((12345 : Int32)))).toUInt32 >>> ((((15 : Int32))).toUInt32 &&& Int32.toUInt32 31)).toInt32)) ^^^ (((1000000 : Int32)) + (sy_i F 51))) * ((1103515245 : Int32))) := hd_o (hs 7 _ rfl) t89 rfl rfl
  have t91 : sy_dv F' (.inr (.inl 91)) = .int ((((((((sy_i F 7) ^^^ ((101 : Int32))) * ((1103515245 : Int32))) + ((12345 : Int32))) ^^^ (((((((sy_i F 7) ^^^ ((101 : Int32))) * ((1103515245 : Int32))) + ((12345 : Int32)))).toUInt32 >>> ((((15 : Int32))).toUInt32 &&& Int32.toUInt32 31)).toInt32)) ^^^ (((1000000 : Int32)) + (sy_i F 51))) * ((1103515245 : Int32))) + ((12345 : Int32))) := hd_o (hs 8 _ rfl) t90 rfl rfl
  have t92 : sy_dv F' (.inr (.inl 92)) = .int (((((((((((sy_i F 7) ^^^ ((101 : Int32))) * ((1103515245 : Int32))) + ((12345 : Int32))) ^^^ (((((((sy_i F 7) ^^^ ((101 : Int32))) * ((1103515245 : Int32))) + ((12345 : Int32)))).toUInt32 >>> ((((15 : Int32))).toUInt32 &&& Int32.toUInt32 31)).toInt32)) ^^^ (((1000000 : Int32)) + (sy_i F 51))) * ((1103515245 : Int32))) + ((12345 : Int32)))).toUInt32 >>> ((((15 : Int32))).toUInt32 &&& Int32.toUInt32 31)).toInt32) := hd_o (hs 9 _ rfl) t91 rfl rfl
  have t93 : sy_dv F' (.inr (.inl 93)) = .int (((((((((sy_i F 7) ^^^ ((101 : Int32))) * ((1103515245 : Int32))) + ((12345 : Int32))) ^^^ (((((((sy_i F 7) ^^^ ((101 : Int32))) * ((1103515245 : Int32))) + ((12345 : Int32)))).toUInt32 >>> ((((15 : Int32))).toUInt32 &&& Int32.toUInt32 31)).toInt32)) ^^^ (((1000000 : Int32)) + (sy_i F 51))) * ((1103515245 : Int32))) + ((12345 : Int32))) ^^^ (((((((((((sy_i F 7) ^^^ ((101 : Int32))) * ((1103515245 : Int32))) + ((12345 : Int32))) ^^^ (((((((sy_i F 7) ^^^ ((101 : Int32))) * ((1103515245 : Int32))) + ((12345 : Int32)))).toUInt32 >>> ((((15 : Int32))).toUInt32 &&& Int32.toUInt32 31)).toInt32)) ^^^ (((1000000 : Int32)) + (sy_i F 51))) * ((1103515245 : Int32))) + ((12345 : Int32)))).toUInt32 >>> ((((15 : Int32))).toUInt32 &&& Int32.toUInt32 31)).toInt32)) := hd_o (hs 10 _ rfl) t91 t92 rfl
  have t94 : sy_dv F' (.inr (.inl 94)) = .int ((((((((((((sy_i F 7) ^^^ ((101 : Int32))) * ((1103515245 : Int32))) + ((12345 : Int32))) ^^^ (((((((sy_i F 7) ^^^ ((101 : Int32))) * ((1103515245 : Int32))) + ((12345 : Int32)))).toUInt32 >>> ((((15 : Int32))).toUInt32 &&& Int32.toUInt32 31)).toInt32)) ^^^ (((1000000 : Int32)) + (sy_i F 51))) * ((1103515245 : Int32))) + ((12345 : Int32))) ^^^ (((((((((((sy_i F 7) ^^^ ((101 : Int32))) * ((1103515245 : Int32))) + ((12345 : Int32))) ^^^ (((((((sy_i F 7) ^^^ ((101 : Int32))) * ((1103515245 : Int32))) + ((12345 : Int32)))).toUInt32 >>> ((((15 : Int32))).toUInt32 &&& Int32.toUInt32 31)).toInt32)) ^^^ (((1000000 : Int32)) + (sy_i F 51))) * ((1103515245 : Int32))) + ((12345 : Int32)))).toUInt32 >>> ((((15 : Int32))).toUInt32 &&& Int32.toUInt32 31)).toInt32))).toUInt32 >>> ((((1 : Int32))).toUInt32 &&& Int32.toUInt32 31)).toInt32) := hd_o (hs 11 _ rfl) t93 rfl rfl
  have t95 : sy_dv F' (.inr (.inl 95)) = .int (((((((((((((sy_i F 7) ^^^ ((101 : Int32))) * ((1103515245 : Int32))) + ((12345 : Int32))) ^^^ (((((((sy_i F 7) ^^^ ((101 : Int32))) * ((1103515245 : Int32))) + ((12345 : Int32)))).toUInt32 >>> ((((15 : Int32))).toUInt32 &&& Int32.toUInt32 31)).toInt32)) ^^^ (((1000000 : Int32)) + (sy_i F 51))) * ((1103515245 : Int32))) + ((12345 : Int32))) ^^^ (((((((((((sy_i F 7) ^^^ ((101 : Int32))) * ((1103515245 : Int32))) + ((12345 : Int32))) ^^^ (((((((sy_i F 7) ^^^ ((101 : Int32))) * ((1103515245 : Int32))) + ((12345 : Int32)))).toUInt32 >>> ((((15 : Int32))).toUInt32 &&& Int32.toUInt32 31)).toInt32)) ^^^ (((1000000 : Int32)) + (sy_i F 51))) * ((1103515245 : Int32))) + ((12345 : Int32)))).toUInt32 >>> ((((15 : Int32))).toUInt32 &&& Int32.toUInt32 31)).toInt32))).toUInt32 >>> ((((1 : Int32))).toUInt32 &&& Int32.toUInt32 31)).toInt32) - ((((((((((((sy_i F 7) ^^^ ((101 : Int32))) * ((1103515245 : Int32))) + ((12345 : Int32))) ^^^ (((((((sy_i F 7) ^^^ ((101 : Int32))) * ((1103515245 : Int32))) + ((12345 : Int32)))).toUInt32 >>> ((((15 : Int32))).toUInt32 &&& Int32.toUInt32 31)).toInt32)) ^^^ (((1000000 : Int32)) + (sy_i F 51))) * ((1103515245 : Int32))) + ((12345 : Int32))) ^^^ (((((((((((sy_i F 7) ^^^ ((101 : Int32))) * ((1103515245 : Int32))) + ((12345 : Int32))) ^^^ (((((((sy_i F 7) ^^^ ((101 : Int32))) * ((1103515245 : Int32))) + ((12345 : Int32)))).toUInt32 >>> ((((15 : Int32))).toUInt32 &&& Int32.toUInt32 31)).toInt32)) ^^^ (((1000000 : Int32)) + (sy_i F 51))) * ((1103515245 : Int32))) + ((12345 : Int32)))).toUInt32 >>> ((((15 : Int32))).toUInt32 &&& Int32.toUInt32 31)).toInt32))).toUInt32 >>> ((((1 : Int32))).toUInt32 &&& Int32.toUInt32 31)).toInt32) / ((100 : Int32)) * ((100 : Int32))) := hd_o (hs 12 _ rfl) t94 rfl rfl
  have b50 := hd_b (F := F) (F' := F') (k := 50) (hF 50 (by decide))
  have b3 := hd_b (F := F) (F' := F') (k := 3) (hF 3 (by decide))
  have hB' : iv_in F' iv_B0 := iv_in_eq hB (fun j hj => hF j (Nat.lt_of_lt_of_le hj (by decide +kernel)))
  refine ⟨List.forall_mem_cons.mpr ⟨(hd_p1 (X := 100) (Y := 0) rfl rfl (by decide)), List.forall_mem_cons.mpr ⟨hd_pb b82 (by first | exact h1 | exact h1), List.forall_mem_cons.mpr ⟨hd_pb b82 (by first | exact h2 | exact h2), fun _ h => absurd h List.not_mem_nil⟩⟩⟩, ?_⟩
  refine k _ ?_ ?_ ?_ ?_ ?_ ?_
  · exact fun j hj hn => (hd_keep hB' (Nat.lt_of_lt_of_le hj (by decide +kernel)) (by simp; omega)).trans (hF j (Nat.lt_of_lt_of_le hj (by decide)))
  · exact hd_gi (x := .inr (.inl 99)) (by decide +kernel) t99
  · exact hd_ga (a := .inr (.inl 98)) (by decide +kernel) t98
  · exact hd_gi (x := .inr (.inl 95)) (by decide +kernel) t95
  · exact hd_gi (x := .inr (.inl 50)) (by decide +kernel) b50
  · exact hd_gi (x := .inr (.inl 3)) (by decide +kernel) b3
theorem j0sq_36 {Ls : Nat} {xs : Nat → Int32} {d : Nat} {Q : Option Value → jm_h → Prop} (hd : 3 ≤ d) (F : Nat → sy_d) (X1 X2 : List jm_c) (hB : iv_in F iv_B0)
    (a82 : 0 ≤ (sy_i F 82).toInt ∧ (sy_i F 82).toInt ≤ 6)
    (k0 : ∀ F1 : Nat → sy_d, iv_in F1 iv_B0 → (∀ j, j < 82 → j ∉ ([51, 58] : List Nat) → F1 j = F j) → (sy_i F1 51).toInt = ((sy_i F 51) + ((1 : Int32))).toInt → sy_i F1 51 = (sy_i F 51) + ((1 : Int32)) → sy_ai F1 58 = jm_upd (sy_ai F 58) ((sy_i F 82).toInt).toNat (((sy_ai F 58).getD ((sy_i F 82).toInt).toNat 0) + ((1 : Int32))) → (sy_i F1 82).toInt = (((((((((((((sy_i F 7) ^^^ ((101 : Int32))) * ((1103515245 : Int32))) + ((12345 : Int32))) ^^^ (((((((sy_i F 7) ^^^ ((101 : Int32))) * ((1103515245 : Int32))) + ((12345 : Int32)))).toUInt32 >>> ((((15 : Int32))).toUInt32 &&& Int32.toUInt32 31)).toInt32)) ^^^ (((1000000 : Int32)) + (sy_i F 51))) * ((1103515245 : Int32))) + ((12345 : Int32))) ^^^ (((((((((((sy_i F 7) ^^^ ((101 : Int32))) * ((1103515245 : Int32))) + ((12345 : Int32))) ^^^ (((((((sy_i F 7) ^^^ ((101 : Int32))) * ((1103515245 : Int32))) + ((12345 : Int32)))).toUInt32 >>> ((((15 : Int32))).toUInt32 &&& Int32.toUInt32 31)).toInt32)) ^^^ (((1000000 : Int32)) + (sy_i F 51))) * ((1103515245 : Int32))) + ((12345 : Int32)))).toUInt32 >>> ((((15 : Int32))).toUInt32 &&& Int32.toUInt32 31)).toInt32))).toUInt32 >>> ((((1 : Int32))).toUInt32 &&& Int32.toUInt32 31)).toInt32) - ((((((((((((sy_i F 7) ^^^ ((101 : Int32))) * ((1103515245 : Int32))) + ((12345 : Int32))) ^^^ (((((((sy_i F 7) ^^^ ((101 : Int32))) * ((1103515245 : Int32))) + ((12345 : Int32)))).toUInt32 >>> ((((15 : Int32))).toUInt32 &&& Int32.toUInt32 31)).toInt32)) ^^^ (((1000000 : Int32)) + (sy_i F 51))) * ((1103515245 : Int32))) + ((12345 : Int32))) ^^^ (((((((((((sy_i F 7) ^^^ ((101 : Int32))) * ((1103515245 : Int32))) + ((12345 : Int32))) ^^^ (((((((sy_i F 7) ^^^ ((101 : Int32))) * ((1103515245 : Int32))) + ((12345 : Int32)))).toUInt32 >>> ((((15 : Int32))).toUInt32 &&& Int32.toUInt32 31)).toInt32)) ^^^ (((1000000 : Int32)) + (sy_i F 51))) * ((1103515245 : Int32))) + ((12345 : Int32)))).toUInt32 >>> ((((15 : Int32))).toUInt32 &&& Int32.toUInt32 31)).toInt32))).toUInt32 >>> ((((1 : Int32))).toUInt32 &&& Int32.toUInt32 31)).toInt32) / ((100 : Int32)) * ((100 : Int32))).toInt → sy_i F1 82 = ((((((((((((sy_i F 7) ^^^ ((101 : Int32))) * ((1103515245 : Int32))) + ((12345 : Int32))) ^^^ (((((((sy_i F 7) ^^^ ((101 : Int32))) * ((1103515245 : Int32))) + ((12345 : Int32)))).toUInt32 >>> ((((15 : Int32))).toUInt32 &&& Int32.toUInt32 31)).toInt32)) ^^^ (((1000000 : Int32)) + (sy_i F 51))) * ((1103515245 : Int32))) + ((12345 : Int32))) ^^^ (((((((((((sy_i F 7) ^^^ ((101 : Int32))) * ((1103515245 : Int32))) + ((12345 : Int32))) ^^^ (((((((sy_i F 7) ^^^ ((101 : Int32))) * ((1103515245 : Int32))) + ((12345 : Int32)))).toUInt32 >>> ((((15 : Int32))).toUInt32 &&& Int32.toUInt32 31)).toInt32)) ^^^ (((1000000 : Int32)) + (sy_i F 51))) * ((1103515245 : Int32))) + ((12345 : Int32)))).toUInt32 >>> ((((15 : Int32))).toUInt32 &&& Int32.toUInt32 31)).toInt32))).toUInt32 >>> ((((1 : Int32))).toUInt32 &&& Int32.toUInt32 31)).toInt32) - ((((((((((((sy_i F 7) ^^^ ((101 : Int32))) * ((1103515245 : Int32))) + ((12345 : Int32))) ^^^ (((((((sy_i F 7) ^^^ ((101 : Int32))) * ((1103515245 : Int32))) + ((12345 : Int32)))).toUInt32 >>> ((((15 : Int32))).toUInt32 &&& Int32.toUInt32 31)).toInt32)) ^^^ (((1000000 : Int32)) + (sy_i F 51))) * ((1103515245 : Int32))) + ((12345 : Int32))) ^^^ (((((((((((sy_i F 7) ^^^ ((101 : Int32))) * ((1103515245 : Int32))) + ((12345 : Int32))) ^^^ (((((((sy_i F 7) ^^^ ((101 : Int32))) * ((1103515245 : Int32))) + ((12345 : Int32)))).toUInt32 >>> ((((15 : Int32))).toUInt32 &&& Int32.toUInt32 31)).toInt32)) ^^^ (((1000000 : Int32)) + (sy_i F 51))) * ((1103515245 : Int32))) + ((12345 : Int32)))).toUInt32 >>> ((((15 : Int32))).toUInt32 &&& Int32.toUInt32 31)).toInt32))).toUInt32 >>> ((((1 : Int32))).toUInt32 &&& Int32.toUInt32 31)).toInt32) / ((100 : Int32)) * ((100 : Int32)) → (sy_i F1 83).toInt = (sy_i F 50).toInt → sy_i F1 83 = sy_i F 50 → (sy_i F1 84).toInt = (sy_i F 3).toInt → sy_i F1 84 = sy_i F 3 → hd_W Ls xs d jm_M90 Q (110, sy_dL F1 [some (.inl (.ref 8)), none, some (.inr (.inl 82)), none], sy_dS F1 [.inr (.inl 84), .inl (.int 0), .inl (.ref 46), .inr (.inl 83), .inl (.ref 10), .inl (.ref 38)], sy_dh F1 X1 X2 (iv_H 0), 0, 0)) :
    hd_W Ls xs d jm_M90 Q (36, sy_dL F [some (.inl (.ref 8)), some (.inr (.inl 82)), none, none], sy_dS F [], sy_dh F X1 X2 (iv_H 0), 0, 0) := by
  have n99 : nzI ((sy_i F 51) + ((1 : Int32))) (((sy_i F 51) + ((1 : Int32))).toInt) := congrArg Int32.toInt (rfl : (sy_i F 51) + ((1 : Int32)) = (sy_i F 51) + ((1 : Int32)))
  have w98 : jm_upd (sy_ai F 58) (sy_i F 82).toNatClampNeg (((sy_ai F 58).getD (sy_i F 82).toNatClampNeg 0) + ((1 : Int32))) = jm_upd (sy_ai F 58) ((sy_i F 82).toInt).toNat (((sy_ai F 58).getD ((sy_i F 82).toInt).toNat 0) + ((1 : Int32))) := by simp only [nz_c, (by decide : ((1 : Int32)).toInt = 1)]
  have n95 : nzI (((((((((((((sy_i F 7) ^^^ ((101 : Int32))) * ((1103515245 : Int32))) + ((12345 : Int32))) ^^^ (((((((sy_i F 7) ^^^ ((101 : Int32))) * ((1103515245 : Int32))) + ((12345 : Int32)))).toUInt32 >>> ((((15 : Int32))).toUInt32 &&& Int32.toUInt32 31)).toInt32)) ^^^ (((1000000 : Int32)) + (sy_i F 51))) * ((1103515245 : Int32))) + ((12345 : Int32))) ^^^ (((((((((((sy_i F 7) ^^^ ((101 : Int32))) * ((1103515245 : Int32))) + ((12345 : Int32))) ^^^ (((((((sy_i F 7) ^^^ ((101 : Int32))) * ((1103515245 : Int32))) + ((12345 : Int32)))).toUInt32 >>> ((((15 : Int32))).toUInt32 &&& Int32.toUInt32 31)).toInt32)) ^^^ (((1000000 : Int32)) + (sy_i F 51))) * ((1103515245 : Int32))) + ((12345 : Int32)))).toUInt32 >>> ((((15 : Int32))).toUInt32 &&& Int32.toUInt32 31)).toInt32))).toUInt32 >>> ((((1 : Int32))).toUInt32 &&& Int32.toUInt32 31)).toInt32) - ((((((((((((sy_i F 7) ^^^ ((101 : Int32))) * ((1103515245 : Int32))) + ((12345 : Int32))) ^^^ (((((((sy_i F 7) ^^^ ((101 : Int32))) * ((1103515245 : Int32))) + ((12345 : Int32)))).toUInt32 >>> ((((15 : Int32))).toUInt32 &&& Int32.toUInt32 31)).toInt32)) ^^^ (((1000000 : Int32)) + (sy_i F 51))) * ((1103515245 : Int32))) + ((12345 : Int32))) ^^^ (((((((((((sy_i F 7) ^^^ ((101 : Int32))) * ((1103515245 : Int32))) + ((12345 : Int32))) ^^^ (((((((sy_i F 7) ^^^ ((101 : Int32))) * ((1103515245 : Int32))) + ((12345 : Int32)))).toUInt32 >>> ((((15 : Int32))).toUInt32 &&& Int32.toUInt32 31)).toInt32)) ^^^ (((1000000 : Int32)) + (sy_i F 51))) * ((1103515245 : Int32))) + ((12345 : Int32)))).toUInt32 >>> ((((15 : Int32))).toUInt32 &&& Int32.toUInt32 31)).toInt32))).toUInt32 >>> ((((1 : Int32))).toUInt32 &&& Int32.toUInt32 31)).toInt32) / ((100 : Int32)) * ((100 : Int32))) ((((((((((((((sy_i F 7) ^^^ ((101 : Int32))) * ((1103515245 : Int32))) + ((12345 : Int32))) ^^^ (((((((sy_i F 7) ^^^ ((101 : Int32))) * ((1103515245 : Int32))) + ((12345 : Int32)))).toUInt32 >>> ((((15 : Int32))).toUInt32 &&& Int32.toUInt32 31)).toInt32)) ^^^ (((1000000 : Int32)) + (sy_i F 51))) * ((1103515245 : Int32))) + ((12345 : Int32))) ^^^ (((((((((((sy_i F 7) ^^^ ((101 : Int32))) * ((1103515245 : Int32))) + ((12345 : Int32))) ^^^ (((((((sy_i F 7) ^^^ ((101 : Int32))) * ((1103515245 : Int32))) + ((12345 : Int32)))).toUInt32 >>> ((((15 : Int32))).toUInt32 &&& Int32.toUInt32 31)).toInt32)) ^^^ (((1000000 : Int32)) + (sy_i F 51))) * ((1103515245 : Int32))) + ((12345 : Int32)))).toUInt32 >>> ((((15 : Int32))).toUInt32 &&& Int32.toUInt32 31)).toInt32))).toUInt32 >>> ((((1 : Int32))).toUInt32 &&& Int32.toUInt32 31)).toInt32) - ((((((((((((sy_i F 7) ^^^ ((101 : Int32))) * ((1103515245 : Int32))) + ((12345 : Int32))) ^^^ (((((((sy_i F 7) ^^^ ((101 : Int32))) * ((1103515245 : Int32))) + ((12345 : Int32)))).toUInt32 >>> ((((15 : Int32))).toUInt32 &&& Int32.toUInt32 31)).toInt32)) ^^^ (((1000000 : Int32)) + (sy_i F 51))) * ((1103515245 : Int32))) + ((12345 : Int32))) ^^^ (((((((((((sy_i F 7) ^^^ ((101 : Int32))) * ((1103515245 : Int32))) + ((12345 : Int32))) ^^^ (((((((sy_i F 7) ^^^ ((101 : Int32))) * ((1103515245 : Int32))) + ((12345 : Int32)))).toUInt32 >>> ((((15 : Int32))).toUInt32 &&& Int32.toUInt32 31)).toInt32)) ^^^ (((1000000 : Int32)) + (sy_i F 51))) * ((1103515245 : Int32))) + ((12345 : Int32)))).toUInt32 >>> ((((15 : Int32))).toUInt32 &&& Int32.toUInt32 31)).toInt32))).toUInt32 >>> ((((1 : Int32))).toUInt32 &&& Int32.toUInt32 31)).toInt32) / ((100 : Int32)) * ((100 : Int32))).toInt) := congrArg Int32.toInt (rfl : ((((((((((((sy_i F 7) ^^^ ((101 : Int32))) * ((1103515245 : Int32))) + ((12345 : Int32))) ^^^ (((((((sy_i F 7) ^^^ ((101 : Int32))) * ((1103515245 : Int32))) + ((12345 : Int32)))).toUInt32 >>> ((((15 : Int32))).toUInt32 &&& Int32.toUInt32 31)).toInt32)) ^^^ (((1000000 : Int32)) + (sy_i F 51))) * ((1103515245 : Int32))) + ((12345 : Int32))) ^^^ (((((((((((sy_i F 7) ^^^ ((101 : Int32))) * ((1103515245 : Int32))) + ((12345 : Int32))) ^^^ (((((((sy_i F 7) ^^^ ((101 : Int32))) * ((1103515245 : Int32))) + ((12345 : Int32)))).toUInt32 >>> ((((15 : Int32))).toUInt32 &&& Int32.toUInt32 31)).toInt32)) ^^^ (((1000000 : Int32)) + (sy_i F 51))) * ((1103515245 : Int32))) + ((12345 : Int32)))).toUInt32 >>> ((((15 : Int32))).toUInt32 &&& Int32.toUInt32 31)).toInt32))).toUInt32 >>> ((((1 : Int32))).toUInt32 &&& Int32.toUInt32 31)).toInt32) - ((((((((((((sy_i F 7) ^^^ ((101 : Int32))) * ((1103515245 : Int32))) + ((12345 : Int32))) ^^^ (((((((sy_i F 7) ^^^ ((101 : Int32))) * ((1103515245 : Int32))) + ((12345 : Int32)))).toUInt32 >>> ((((15 : Int32))).toUInt32 &&& Int32.toUInt32 31)).toInt32)) ^^^ (((1000000 : Int32)) + (sy_i F 51))) * ((1103515245 : Int32))) + ((12345 : Int32))) ^^^ (((((((((((sy_i F 7) ^^^ ((101 : Int32))) * ((1103515245 : Int32))) + ((12345 : Int32))) ^^^ (((((((sy_i F 7) ^^^ ((101 : Int32))) * ((1103515245 : Int32))) + ((12345 : Int32)))).toUInt32 >>> ((((15 : Int32))).toUInt32 &&& Int32.toUInt32 31)).toInt32)) ^^^ (((1000000 : Int32)) + (sy_i F 51))) * ((1103515245 : Int32))) + ((12345 : Int32)))).toUInt32 >>> ((((15 : Int32))).toUInt32 &&& Int32.toUInt32 31)).toInt32))).toUInt32 >>> ((((1 : Int32))).toUInt32 &&& Int32.toUInt32 31)).toInt32) / ((100 : Int32)) * ((100 : Int32)) = ((((((((((((sy_i F 7) ^^^ ((101 : Int32))) * ((1103515245 : Int32))) + ((12345 : Int32))) ^^^ (((((((sy_i F 7) ^^^ ((101 : Int32))) * ((1103515245 : Int32))) + ((12345 : Int32)))).toUInt32 >>> ((((15 : Int32))).toUInt32 &&& Int32.toUInt32 31)).toInt32)) ^^^ (((1000000 : Int32)) + (sy_i F 51))) * ((1103515245 : Int32))) + ((12345 : Int32))) ^^^ (((((((((((sy_i F 7) ^^^ ((101 : Int32))) * ((1103515245 : Int32))) + ((12345 : Int32))) ^^^ (((((((sy_i F 7) ^^^ ((101 : Int32))) * ((1103515245 : Int32))) + ((12345 : Int32)))).toUInt32 >>> ((((15 : Int32))).toUInt32 &&& Int32.toUInt32 31)).toInt32)) ^^^ (((1000000 : Int32)) + (sy_i F 51))) * ((1103515245 : Int32))) + ((12345 : Int32)))).toUInt32 >>> ((((15 : Int32))).toUInt32 &&& Int32.toUInt32 31)).toInt32))).toUInt32 >>> ((((1 : Int32))).toUInt32 &&& Int32.toUInt32 31)).toInt32) - ((((((((((((sy_i F 7) ^^^ ((101 : Int32))) * ((1103515245 : Int32))) + ((12345 : Int32))) ^^^ (((((((sy_i F 7) ^^^ ((101 : Int32))) * ((1103515245 : Int32))) + ((12345 : Int32)))).toUInt32 >>> ((((15 : Int32))).toUInt32 &&& Int32.toUInt32 31)).toInt32)) ^^^ (((1000000 : Int32)) + (sy_i F 51))) * ((1103515245 : Int32))) + ((12345 : Int32))) ^^^ (((((((((((sy_i F 7) ^^^ ((101 : Int32))) * ((1103515245 : Int32))) + ((12345 : Int32))) ^^^ (((((((sy_i F 7) ^^^ ((101 : Int32))) * ((1103515245 : Int32))) + ((12345 : Int32)))).toUInt32 >>> ((((15 : Int32))).toUInt32 &&& Int32.toUInt32 31)).toInt32)) ^^^ (((1000000 : Int32)) + (sy_i F 51))) * ((1103515245 : Int32))) + ((12345 : Int32)))).toUInt32 >>> ((((15 : Int32))).toUInt32 &&& Int32.toUInt32 31)).toInt32))).toUInt32 >>> ((((1 : Int32))).toUInt32 &&& Int32.toUInt32 31)).toInt32) / ((100 : Int32)) * ((100 : Int32)))
  have c3 := nz_bx hB (k := 3) (lo := 0) (hi := 7) rfl
  exact j0sq_36_p0 hd F X1 X2 hB (by first | exact ⟨by omega, by omega⟩ | (simp only [nz_c]; exact ⟨by omega, by omega⟩)) (by first | exact ⟨by omega, by omega⟩ | (simp only [nz_c]; exact ⟨by omega, by omega⟩)) (fun F1 g e51 e58 e82 e83 e84 => k0 F1 (nz_in0 hB [51, 58] (fun j hj hn => g j hj (by simp only [List.mem_cons, List.not_mem_nil, or_false, not_or] at hn; omega)) (List.forall_mem_cons.mpr ⟨fun t ht => (Option.some.inj ht) ▸ (nz_hz e51), List.forall_mem_cons.mpr ⟨fun t ht => (Option.some.inj ht) ▸ (nz_hz2 e58), List.forall_mem_nil _⟩⟩)) (fun j hj hn => g j hj (by simp only [List.mem_cons, List.not_mem_nil, or_false, not_or] at hn; omega)) ((congrArg Int32.toInt (zz_i e51)).trans (nzE n99)) ((zz_i e51).trans (rfl : (sy_i F 51) + ((1 : Int32)) = (sy_i F 51) + ((1 : Int32)))) ((zz_ai e58).trans w98) ((congrArg Int32.toInt (zz_i e82)).trans (nzE n95)) ((zz_i e82).trans (rfl : ((((((((((((sy_i F 7) ^^^ ((101 : Int32))) * ((1103515245 : Int32))) + ((12345 : Int32))) ^^^ (((((((sy_i F 7) ^^^ ((101 : Int32))) * ((1103515245 : Int32))) + ((12345 : Int32)))).toUInt32 >>> ((((15 : Int32))).toUInt32 &&& Int32.toUInt32 31)).toInt32)) ^^^ (((1000000 : Int32)) + (sy_i F 51))) * ((1103515245 : Int32))) + ((12345 : Int32))) ^^^ (((((((((((sy_i F 7) ^^^ ((101 : Int32))) * ((1103515245 : Int32))) + ((12345 : Int32))) ^^^ (((((((sy_i F 7) ^^^ ((101 : Int32))) * ((1103515245 : Int32))) + ((12345 : Int32)))).toUInt32 >>> ((((15 : Int32))).toUInt32 &&& Int32.toUInt32 31)).toInt32)) ^^^ (((1000000 : Int32)) + (sy_i F 51))) * ((1103515245 : Int32))) + ((12345 : Int32)))).toUInt32 >>> ((((15 : Int32))).toUInt32 &&& Int32.toUInt32 31)).toInt32))).toUInt32 >>> ((((1 : Int32))).toUInt32 &&& Int32.toUInt32 31)).toInt32) - ((((((((((((sy_i F 7) ^^^ ((101 : Int32))) * ((1103515245 : Int32))) + ((12345 : Int32))) ^^^ (((((((sy_i F 7) ^^^ ((101 : Int32))) * ((1103515245 : Int32))) + ((12345 : Int32)))).toUInt32 >>> ((((15 : Int32))).toUInt32 &&& Int32.toUInt32 31)).toInt32)) ^^^ (((1000000 : Int32)) + (sy_i F 51))) * ((1103515245 : Int32))) + ((12345 : Int32))) ^^^ (((((((((((sy_i F 7) ^^^ ((101 : Int32))) * ((1103515245 : Int32))) + ((12345 : Int32))) ^^^ (((((((sy_i F 7) ^^^ ((101 : Int32))) * ((1103515245 : Int32))) + ((12345 : Int32)))).toUInt32 >>> ((((15 : Int32))).toUInt32 &&& Int32.toUInt32 31)).toInt32)) ^^^ (((1000000 : Int32)) + (sy_i F 51))) * ((1103515245 : Int32))) + ((12345 : Int32)))).toUInt32 >>> ((((15 : Int32))).toUInt32 &&& Int32.toUInt32 31)).toInt32))).toUInt32 >>> ((((1 : Int32))).toUInt32 &&& Int32.toUInt32 31)).toInt32) / ((100 : Int32)) * ((100 : Int32)) = ((((((((((((sy_i F 7) ^^^ ((101 : Int32))) * ((1103515245 : Int32))) + ((12345 : Int32))) ^^^ (((((((sy_i F 7) ^^^ ((101 : Int32))) * ((1103515245 : Int32))) + ((12345 : Int32)))).toUInt32 >>> ((((15 : Int32))).toUInt32 &&& Int32.toUInt32 31)).toInt32)) ^^^ (((1000000 : Int32)) + (sy_i F 51))) * ((1103515245 : Int32))) + ((12345 : Int32))) ^^^ (((((((((((sy_i F 7) ^^^ ((101 : Int32))) * ((1103515245 : Int32))) + ((12345 : Int32))) ^^^ (((((((sy_i F 7) ^^^ ((101 : Int32))) * ((1103515245 : Int32))) + ((12345 : Int32)))).toUInt32 >>> ((((15 : Int32))).toUInt32 &&& Int32.toUInt32 31)).toInt32)) ^^^ (((1000000 : Int32)) + (sy_i F 51))) * ((1103515245 : Int32))) + ((12345 : Int32)))).toUInt32 >>> ((((15 : Int32))).toUInt32 &&& Int32.toUInt32 31)).toInt32))).toUInt32 >>> ((((1 : Int32))).toUInt32 &&& Int32.toUInt32 31)).toInt32) - ((((((((((((sy_i F 7) ^^^ ((101 : Int32))) * ((1103515245 : Int32))) + ((12345 : Int32))) ^^^ (((((((sy_i F 7) ^^^ ((101 : Int32))) * ((1103515245 : Int32))) + ((12345 : Int32)))).toUInt32 >>> ((((15 : Int32))).toUInt32 &&& Int32.toUInt32 31)).toInt32)) ^^^ (((1000000 : Int32)) + (sy_i F 51))) * ((1103515245 : Int32))) + ((12345 : Int32))) ^^^ (((((((((((sy_i F 7) ^^^ ((101 : Int32))) * ((1103515245 : Int32))) + ((12345 : Int32))) ^^^ (((((((sy_i F 7) ^^^ ((101 : Int32))) * ((1103515245 : Int32))) + ((12345 : Int32)))).toUInt32 >>> ((((15 : Int32))).toUInt32 &&& Int32.toUInt32 31)).toInt32)) ^^^ (((1000000 : Int32)) + (sy_i F 51))) * ((1103515245 : Int32))) + ((12345 : Int32)))).toUInt32 >>> ((((15 : Int32))).toUInt32 &&& Int32.toUInt32 31)).toInt32))).toUInt32 >>> ((((1 : Int32))).toUInt32 &&& Int32.toUInt32 31)).toInt32) / ((100 : Int32)) * ((100 : Int32)))) ((congrArg Int32.toInt (zz_i e83)).trans (rfl : (sy_i F 50).toInt = (sy_i F 50).toInt)) ((zz_i e83).trans (rfl : sy_i F 50 = sy_i F 50)) ((congrArg Int32.toInt (zz_i e84)).trans (rfl : (sy_i F 3).toInt = (sy_i F 3).toInt)) ((zz_i e84).trans (rfl : sy_i F 3 = sy_i F 3)))
theorem j0sq_116_p0 {Ls : Nat} {xs : Nat → Int32} {d : Nat} {Q : Option Value → jm_h → Prop} (hd : 1 ≤ d) (F : Nat → sy_d) (X1 X2 : List jm_c) (hB : iv_in F iv_B0)
    (k : ∀ F1 : Nat → sy_d, (∀ j, j < 82 → j ≠ 45 → F1 j = F j) → F1 45 = .inr (.inl (jm_upd (sy_ai F 45) ((5 : Int32)).toNatClampNeg (sy_i F 51))) → F1 82 = .inl (.int (sy_i F 82)) → hd_W Ls xs d jm_M90 Q (142, sy_dL F1 [some (.inl (.ref 8)), none, some (.inr (.inl 82)), none], sy_dS F1 [.inl (.int 5), .inl (.ref 10), .inl (.ref 38), .inr (.inl 82)], sy_dh F1 X1 X2 (iv_H 0), 0, 0)) :
    hd_W Ls xs d jm_M90 Q (116, sy_dL F [some (.inl (.ref 8)), none, some (.inr (.inl 82)), none], sy_dS F [], sy_dh F X1 X2 (iv_H 0), 0, 0) := by
  refine hd_run (s := 0) (nv := 83) (pc := 142) (L := [some (.inl (.ref 8)), none, some (.inr (.inl 82)), none]) (S := [.inl (.int 5), .inl (.ref 10), .inl (.ref 38), .inr (.inl 82)]) (uh := hd_ov (iv_id 0 iv_B0) [(45, .inr (.inr (.inl 83)))]) (ul := [.inl (.inr (.inl 82))]) (f := false) (sp := [142]) (d0 := 0) (O := []) (T := [(40, [.inl (.int 5), .inr (.inl 51)], [.inr (.inl 45)])]) (P := []) jm_ok90 (by decide +kernel) (by decide +kernel) hd F X1 X2 (fun F' hF hs => ?_)
  have b51 := hd_b (F := F) (F' := F') (k := 51) (hF 51 (by decide))
  have a45 := hd_ba (F := F) (F' := F') (k := 45) (hF 45 (by decide))
  have t83 : sy_da F' (.inr (.inl 83)) = .inl (jm_upd (sy_ai F 45) ((5 : Int32)).toNatClampNeg (sy_i F 51)) := hd_up (hs 0 _ rfl) rfl b51 a45
  have b82 := hd_b (F := F) (F' := F') (k := 82) (hF 82 (by decide))
  have hB' : iv_in F' iv_B0 := iv_in_eq hB (fun j hj => hF j (Nat.lt_of_lt_of_le hj (by decide +kernel)))
  refine ⟨fun _ h => absurd h List.not_mem_nil, ?_⟩
  refine k _ ?_ ?_ ?_
  · exact fun j hj hn => (hd_keep hB' (Nat.lt_of_lt_of_le hj (by decide +kernel)) (by simp; omega)).trans (hF j (Nat.lt_of_lt_of_le hj (by decide)))
  · exact hd_ga (a := .inr (.inl 83)) (by decide +kernel) t83
  · exact hd_gi (x := .inr (.inl 82)) (by decide +kernel) b82
theorem j0sq_116 {Ls : Nat} {xs : Nat → Int32} {d : Nat} {Q : Option Value → jm_h → Prop} (hd : 1 ≤ d) (F : Nat → sy_d) (X1 X2 : List jm_c) (hB : iv_in F iv_B0)
    (k0 : ∀ F1 : Nat → sy_d, iv_in F1 iv_B0 → (∀ j, j < 82 → j ∉ ([45] : List Nat) → F1 j = F j) → sy_ai F1 45 = jm_upd (sy_ai F 45) (5 : Int).toNat (sy_i F 51) → (sy_i F1 82).toInt = (sy_i F 82).toInt → sy_i F1 82 = sy_i F 82 → hd_W Ls xs d jm_M90 Q (142, sy_dL F1 [some (.inl (.ref 8)), none, some (.inr (.inl 82)), none], sy_dS F1 [.inl (.int 5), .inl (.ref 10), .inl (.ref 38), .inr (.inl 82)], sy_dh F1 X1 X2 (iv_H 0), 0, 0)) :
    hd_W Ls xs d jm_M90 Q (116, sy_dL F [some (.inl (.ref 8)), none, some (.inr (.inl 82)), none], sy_dS F [], sy_dh F X1 X2 (iv_H 0), 0, 0) := by
  have w83 : jm_upd (sy_ai F 45) ((5 : Int32)).toNatClampNeg (sy_i F 51) = jm_upd (sy_ai F 45) (5 : Int).toNat (sy_i F 51) := by simp only [nz_c, (by decide : ((5 : Int32)).toInt = 5)]
  exact j0sq_116_p0 hd F X1 X2 hB  (fun F1 g e45 e82 => k0 F1 (nz_in0 hB [45] (fun j hj hn => g j hj (by simp only [List.mem_cons, List.not_mem_nil, or_false, not_or] at hn; omega)) (List.forall_mem_cons.mpr ⟨fun t ht => (Option.some.inj ht) ▸ (nz_hz2 e45), List.forall_mem_nil _⟩)) (fun j hj hn => g j hj (by simp only [List.mem_cons, List.not_mem_nil, or_false, not_or] at hn; omega)) ((zz_ai e45).trans w83) ((congrArg Int32.toInt (zz_i e82)).trans (rfl : (sy_i F 82).toInt = (sy_i F 82).toInt)) ((zz_i e82).trans (rfl : sy_i F 82 = sy_i F 82)))
theorem j0sq_145_p0 {Ls : Nat} {xs : Nat → Int32} {d : Nat} {Q : Option Value → jm_h → Prop} (hd : 1 ≤ d) (F : Nat → sy_d) (X1 X2 : List jm_c) (hB : iv_in F iv_B0)
    (h0 : (sy_i F 83).toInt ≤ (sy_i F 82).toInt)
    (k : ∀ F1 : Nat → sy_d, (∀ j, j < 82 → True → F1 j = F j) → Q (some (.int ((0 : Int32)))) (sy_dh F1 X1 X2 (iv_H 0))) :
    hd_W Ls xs d jm_M90 Q (145, sy_dL F [some (.inl (.ref 8)), none, some (.inr (.inl 82)), none], sy_dS F [.inr (.inl 83), .inr (.inl 82)], sy_dh F X1 X2 (iv_H 0), 0, 0) := by
  refine hd_ret (s := 0) (nv := 84) (v := some (.inl (.int 0))) (uh := hd_ov (iv_id 0 iv_B0) []) (f := false) (sp := []) (d0 := 0) (O := [true]) (T := []) (P := [(4, .inr (.inl 83), .inr (.inl 82))]) jm_ok90 (by decide +kernel) (by decide +kernel) hd F X1 X2 (fun F' hF hs => ?_)
  have b83 := hd_b (F := F) (F' := F') (k := 83) (hF 83 (by decide))
  have b82 := hd_b (F := F) (F' := F') (k := 82) (hF 82 (by decide))
  have hB' : iv_in F' iv_B0 := iv_in_eq hB (fun j hj => hF j (Nat.lt_of_lt_of_le hj (by decide +kernel)))
  refine ⟨List.forall_mem_cons.mpr ⟨hd_p4 b83 b82 h0, fun _ h => absurd h List.not_mem_nil⟩, ?_⟩
  refine k _ ?_
  · exact fun j hj _ => (hd_keep hB' (Nat.lt_of_lt_of_le hj (by decide +kernel)) (by simp)).trans (hF j (Nat.lt_of_lt_of_le hj (by decide)))
theorem j0sq_145_p1 {Ls : Nat} {xs : Nat → Int32} {d : Nat} {Q : Option Value → jm_h → Prop} (hd : 1 ≤ d) (F : Nat → sy_d) (X1 X2 : List jm_c) (hB : iv_in F iv_B0)
    (h0 : (sy_i F 82).toInt < (sy_i F 83).toInt)
    (k : ∀ F1 : Nat → sy_d, (∀ j, j < 82 → j ≠ 52 → F1 j = F j) → F1 52 = .inl (.int ((sy_i F 52) + ((1 : Int32)))) → Q (some (.int ((1 : Int32)))) (sy_dh F1 X1 X2 (iv_H 0))) :
    hd_W Ls xs d jm_M90 Q (145, sy_dL F [some (.inl (.ref 8)), none, some (.inr (.inl 82)), none], sy_dS F [.inr (.inl 83), .inr (.inl 82)], sy_dh F X1 X2 (iv_H 0), 0, 0) := by
  refine hd_ret (s := 0) (nv := 84) (v := some (.inl (.int 1))) (uh := hd_ov (iv_id 0 iv_B0) [(52, .inl (.inr (.inl 84)))]) (f := false) (sp := []) (d0 := 0) (O := [false]) (T := [(0, [.inr (.inl 52), .inl (.int 1)], [])]) (P := [(5, .inr (.inl 83), .inr (.inl 82))]) jm_ok90 (by decide +kernel) (by decide +kernel) hd F X1 X2 (fun F' hF hs => ?_)
  have b83 := hd_b (F := F) (F' := F') (k := 83) (hF 83 (by decide))
  have b82 := hd_b (F := F) (F' := F') (k := 82) (hF 82 (by decide))
  have b52 := hd_b (F := F) (F' := F') (k := 52) (hF 52 (by decide))
  have t84 : sy_dv F' (.inr (.inl 84)) = .int ((sy_i F 52) + ((1 : Int32))) := hd_o (hs 0 _ rfl) b52 rfl rfl
  have hB' : iv_in F' iv_B0 := iv_in_eq hB (fun j hj => hF j (Nat.lt_of_lt_of_le hj (by decide +kernel)))
  refine ⟨List.forall_mem_cons.mpr ⟨hd_p5 b83 b82 h0, fun _ h => absurd h List.not_mem_nil⟩, ?_⟩
  refine k _ ?_ ?_
  · exact fun j hj hn => (hd_keep hB' (Nat.lt_of_lt_of_le hj (by decide +kernel)) (by simp; omega)).trans (hF j (Nat.lt_of_lt_of_le hj (by decide)))
  · exact hd_gi (x := .inr (.inl 84)) (by decide +kernel) t84
theorem j0sq_145 {Ls : Nat} {xs : Nat → Int32} {d : Nat} {Q : Option Value → jm_h → Prop} (hd : 1 ≤ d) (F : Nat → sy_d) (X1 X2 : List jm_c) (hB : iv_in F iv_B0)
    (k0 : (sy_i F 83).toInt ≤ (sy_i F 82).toInt → ∀ F1 : Nat → sy_d, iv_in F1 iv_B0 → (∀ j, j < 82 → j ∉ ([] : List Nat) → F1 j = F j) → Q (some (.int ((0 : Int32)))) (sy_dh F1 X1 X2 (iv_H 0)))
    (k1 : (sy_i F 82).toInt < (sy_i F 83).toInt → ∀ F1 : Nat → sy_d, iv_in F1 iv_B0 → (∀ j, j < 82 → j ∉ ([52] : List Nat) → F1 j = F j) → (sy_i F1 52).toInt = ((sy_i F 52) + ((1 : Int32))).toInt → sy_i F1 52 = (sy_i F 52) + ((1 : Int32)) → Q (some (.int ((1 : Int32)))) (sy_dh F1 X1 X2 (iv_H 0))) :
    hd_W Ls xs d jm_M90 Q (145, sy_dL F [some (.inl (.ref 8)), none, some (.inr (.inl 82)), none], sy_dS F [.inr (.inl 83), .inr (.inl 82)], sy_dh F X1 X2 (iv_H 0), 0, 0) := by
  by_cases g0 : (sy_i F 83).toInt ≤ (sy_i F 82).toInt
  · exact j0sq_145_p0 hd F X1 X2 hB (by first | exact g0 | (simp only [nz_c]; exact g0)) (fun F1 g  => k0 g0 F1 (nz_in0 hB [] (fun j hj hn => g j hj (by simp only [List.mem_cons, List.not_mem_nil, or_false, not_or] at hn; exact trivial)) (List.forall_mem_nil _)) (fun j hj hn => g j hj (by simp only [List.mem_cons, List.not_mem_nil, or_false, not_or] at hn; exact trivial)) )
  replace g0 : (sy_i F 82).toInt < (sy_i F 83).toInt := by omega
  have n84 : nzI ((sy_i F 52) + ((1 : Int32))) (((sy_i F 52) + ((1 : Int32))).toInt) := congrArg Int32.toInt (rfl : (sy_i F 52) + ((1 : Int32)) = (sy_i F 52) + ((1 : Int32)))
  exact j0sq_145_p1 hd F X1 X2 hB (by first | exact g0 | (simp only [nz_c]; exact g0)) (fun F1 g e52 => k1 g0 F1 (nz_in0 hB [52] (fun j hj hn => g j hj (by simp only [List.mem_cons, List.not_mem_nil, or_false, not_or] at hn; omega)) (List.forall_mem_cons.mpr ⟨fun t ht => (Option.some.inj ht) ▸ (nz_hz e52), List.forall_mem_nil _⟩)) (fun j hj hn => g j hj (by simp only [List.mem_cons, List.not_mem_nil, or_false, not_or] at hn; omega)) ((congrArg Int32.toInt (zz_i e52)).trans (nzE n84)) ((zz_i e52).trans (rfl : (sy_i F 52) + ((1 : Int32)) = (sy_i F 52) + ((1 : Int32)))))
theorem j0hq_0_p0 {Ls : Nat} {xs : Nat → Int32} {d : Nat} {Q : Option Value → jm_h → Prop} (hd : 2 ≤ d) (F : Nat → sy_d) (X1 X2 : List jm_c) (hB : iv_in F iv_B0)
    (h0 : (sy_i F 82).toInt < 0)
    (k : ∀ F1 : Nat → sy_d, (∀ j, j < 82 → True → F1 j = F j) → Q (some (.int (((-1) : Int32)))) (sy_dh F1 X1 X2 (iv_H 0))) :
    hd_W Ls xs d jm_M91 Q (0, sy_dL F [some (.inl (.ref 8)), some (.inr (.inl 82)), none], sy_dS F [], sy_dh F X1 X2 (iv_H 0), 0, 0) := by
  refine hd_ret (s := 0) (nv := 83) (v := some (.inl (.int (-1)))) (uh := hd_ov (iv_id 0 iv_B0) []) (f := true) (sp := [24]) (d0 := 1) (O := [true]) (T := []) (P := [(2, .inr (.inl 82), .inl (.int 0))]) jm_ok91 (by decide +kernel) (by decide +kernel) hd F X1 X2 (fun F' hF hs => ?_)
  have b82 := hd_b (F := F) (F' := F') (k := 82) (hF 82 (by decide))
  have hB' : iv_in F' iv_B0 := iv_in_eq hB (fun j hj => hF j (Nat.lt_of_lt_of_le hj (by decide +kernel)))
  refine ⟨List.forall_mem_cons.mpr ⟨hd_p2 b82 rfl (by have hc : ((0) : Int32).toInt = 0 := (by decide); omega), fun _ h => absurd h List.not_mem_nil⟩, ?_⟩
  refine k _ ?_
  · exact fun j hj _ => (hd_keep hB' (Nat.lt_of_lt_of_le hj (by decide +kernel)) (by simp)).trans (hF j (Nat.lt_of_lt_of_le hj (by decide)))
theorem j0hq_0_p1 {Ls : Nat} {xs : Nat → Int32} {d : Nat} {Q : Option Value → jm_h → Prop} (hd : 2 ≤ d) (F : Nat → sy_d) (X1 X2 : List jm_c) (hB : iv_in F iv_B0)
    (h0 : 0 ≤ (sy_i F 82).toInt)
    (h1 : 48 < (sy_i F 82).toInt)
    (k : ∀ F1 : Nat → sy_d, (∀ j, j < 82 → True → F1 j = F j) → Q (some (.int (((-1) : Int32)))) (sy_dh F1 X1 X2 (iv_H 0))) :
    hd_W Ls xs d jm_M91 Q (0, sy_dL F [some (.inl (.ref 8)), some (.inr (.inl 82)), none], sy_dS F [], sy_dh F X1 X2 (iv_H 0), 0, 0) := by
  refine hd_ret (s := 0) (nv := 83) (v := some (.inl (.int (-1)))) (uh := hd_ov (iv_id 0 iv_B0) []) (f := true) (sp := [24]) (d0 := 1) (O := [false, true]) (T := []) (P := [(3, .inr (.inl 82), .inl (.int 0)), (2, .inl (.int 48), .inr (.inl 82))]) jm_ok91 (by decide +kernel) (by decide +kernel) hd F X1 X2 (fun F' hF hs => ?_)
  have b82 := hd_b (F := F) (F' := F') (k := 82) (hF 82 (by decide))
  have hB' : iv_in F' iv_B0 := iv_in_eq hB (fun j hj => hF j (Nat.lt_of_lt_of_le hj (by decide +kernel)))
  refine ⟨List.forall_mem_cons.mpr ⟨hd_p3 b82 rfl (by have hc : ((0) : Int32).toInt = 0 := (by decide); omega), List.forall_mem_cons.mpr ⟨hd_p2 rfl b82 (by have hc : ((48) : Int32).toInt = 48 := (by decide); omega), fun _ h => absurd h List.not_mem_nil⟩⟩, ?_⟩
  refine k _ ?_
  · exact fun j hj _ => (hd_keep hB' (Nat.lt_of_lt_of_le hj (by decide +kernel)) (by simp)).trans (hF j (Nat.lt_of_lt_of_le hj (by decide)))
theorem j0hq_0_p2 {Ls : Nat} {xs : Nat → Int32} {d : Nat} {Q : Option Value → jm_h → Prop} (hd : 2 ≤ d) (F : Nat → sy_d) (X1 X2 : List jm_c) (hB : iv_in F iv_B0)
    (h0 : 0 ≤ (sy_i F 82).toInt)
    (h1 : (sy_i F 82).toInt ≤ 48)
    (h2 : (sy_i F 82).toInt ≤ 0)
    (k : ∀ F1 : Nat → sy_d, (∀ j, j < 82 → True → F1 j = F j) → Q (some (.int (sy_i F 50))) (sy_dh F1 X1 X2 (iv_H 0))) :
    hd_W Ls xs d jm_M91 Q (0, sy_dL F [some (.inl (.ref 8)), some (.inr (.inl 82)), none], sy_dS F [], sy_dh F X1 X2 (iv_H 0), 0, 0) := by
  refine hd_ret (s := 0) (nv := 83) (v := some (.inr (.inl 50))) (uh := hd_ov (iv_id 0 iv_B0) []) (f := true) (sp := [24]) (d0 := 1) (O := [false, false, true]) (T := []) (P := [(3, .inr (.inl 82), .inl (.int 0)), (3, .inl (.int 48), .inr (.inl 82)), (4, .inr (.inl 82), .inl (.int 0))]) jm_ok91 (by decide +kernel) (by decide +kernel) hd F X1 X2 (fun F' hF hs => ?_)
  have b82 := hd_b (F := F) (F' := F') (k := 82) (hF 82 (by decide))
  have b50 := hd_b (F := F) (F' := F') (k := 50) (hF 50 (by decide))
  have hB' : iv_in F' iv_B0 := iv_in_eq hB (fun j hj => hF j (Nat.lt_of_lt_of_le hj (by decide +kernel)))
  have hk := k (sy_cm F' (hd_ov (iv_id 0 iv_B0) [] ++ [])) (fun j hj _ => (hd_keep hB' (Nat.lt_of_lt_of_le hj (by decide +kernel)) (by simp)).trans (hF j (Nat.lt_of_lt_of_le hj (by decide))))
  refine ⟨List.forall_mem_cons.mpr ⟨hd_p3 b82 rfl (by have hc : ((0) : Int32).toInt = 0 := (by decide); omega), List.forall_mem_cons.mpr ⟨hd_p3 rfl b82 (by have hc : ((48) : Int32).toInt = 48 := (by decide); omega), List.forall_mem_cons.mpr ⟨hd_p4 b82 rfl (by have hc : ((0) : Int32).toInt = 0 := (by decide); omega), fun _ h => absurd h List.not_mem_nil⟩⟩⟩, ?_⟩
  show Q (some (sy_dv F' (.inr (.inl 50)))) _
  rw [b50]
  exact hk
theorem j0hq_0_p3 {Ls : Nat} {xs : Nat → Int32} {d : Nat} {Q : Option Value → jm_h → Prop} (hd : 2 ≤ d) (F : Nat → sy_d) (X1 X2 : List jm_c) (hB : iv_in F iv_B0)
    (h0 : 0 ≤ (sy_i F 82).toInt)
    (h1 : (sy_i F 82).toInt ≤ 48)
    (h2 : 0 < (sy_i F 82).toInt)
    (k : ∀ F1 : Nat → sy_d, (∀ j, j < 82 → True → F1 j = F j) → F1 82 = .inl (.int (sy_i F 82)) → hd_W Ls xs d jm_M91 Q (24, sy_dL F1 [some (.inl (.ref 8)), some (.inr (.inl 82)), none], sy_dS F1 [.inl (.ref 46), .inl (.ref 66)], sy_dh F1 X1 X2 (iv_H 0), 0, 0)) :
    hd_W Ls xs d jm_M91 Q (0, sy_dL F [some (.inl (.ref 8)), some (.inr (.inl 82)), none], sy_dS F [], sy_dh F X1 X2 (iv_H 0), 0, 0) := by
  refine hd_run (s := 0) (nv := 83) (pc := 24) (L := [some (.inl (.ref 8)), some (.inr (.inl 82)), none]) (S := [.inl (.ref 46), .inl (.ref 66)]) (uh := hd_ov (iv_id 0 iv_B0) []) (ul := [.inl (.inr (.inl 82))]) (f := true) (sp := [24]) (d0 := 1) (O := [false, false, false]) (T := []) (P := [(3, .inr (.inl 82), .inl (.int 0)), (3, .inl (.int 48), .inr (.inl 82)), (5, .inr (.inl 82), .inl (.int 0))]) jm_ok91 (by decide +kernel) (by decide +kernel) hd F X1 X2 (fun F' hF hs => ?_)
  have b82 := hd_b (F := F) (F' := F') (k := 82) (hF 82 (by decide))
  have hB' : iv_in F' iv_B0 := iv_in_eq hB (fun j hj => hF j (Nat.lt_of_lt_of_le hj (by decide +kernel)))
  refine ⟨List.forall_mem_cons.mpr ⟨hd_p3 b82 rfl (by have hc : ((0) : Int32).toInt = 0 := (by decide); omega), List.forall_mem_cons.mpr ⟨hd_p3 rfl b82 (by have hc : ((48) : Int32).toInt = 48 := (by decide); omega), List.forall_mem_cons.mpr ⟨hd_p5 b82 rfl (by have hc : ((0) : Int32).toInt = 0 := (by decide); omega), fun _ h => absurd h List.not_mem_nil⟩⟩⟩, ?_⟩
  refine k _ ?_ ?_
  · exact fun j hj _ => (hd_keep hB' (Nat.lt_of_lt_of_le hj (by decide +kernel)) (by simp)).trans (hF j (Nat.lt_of_lt_of_le hj (by decide)))
  · exact hd_gi (x := .inr (.inl 82)) (by decide +kernel) b82
theorem j0hq_0 {Ls : Nat} {xs : Nat → Int32} {d : Nat} {Q : Option Value → jm_h → Prop} (hd : 2 ≤ d) (F : Nat → sy_d) (X1 X2 : List jm_c) (hB : iv_in F iv_B0)
    (k0 : (sy_i F 82).toInt < 0 → ∀ F1 : Nat → sy_d, iv_in F1 iv_B0 → (∀ j, j < 82 → j ∉ ([] : List Nat) → F1 j = F j) → Q (some (.int (((-1) : Int32)))) (sy_dh F1 X1 X2 (iv_H 0)))
    (k1 : 0 ≤ (sy_i F 82).toInt → 48 < (sy_i F 82).toInt → ∀ F1 : Nat → sy_d, iv_in F1 iv_B0 → (∀ j, j < 82 → j ∉ ([] : List Nat) → F1 j = F j) → Q (some (.int (((-1) : Int32)))) (sy_dh F1 X1 X2 (iv_H 0)))
    (k2 : 0 ≤ (sy_i F 82).toInt → (sy_i F 82).toInt ≤ 48 → (sy_i F 82).toInt ≤ 0 → ∀ F1 : Nat → sy_d, iv_in F1 iv_B0 → (∀ j, j < 82 → j ∉ ([] : List Nat) → F1 j = F j) → Q (some (.int (sy_i F 50))) (sy_dh F1 X1 X2 (iv_H 0)))
    (k3 : 0 ≤ (sy_i F 82).toInt → (sy_i F 82).toInt ≤ 48 → 0 < (sy_i F 82).toInt → ∀ F1 : Nat → sy_d, iv_in F1 iv_B0 → (∀ j, j < 82 → j ∉ ([] : List Nat) → F1 j = F j) → (sy_i F1 82).toInt = (sy_i F 82).toInt → sy_i F1 82 = sy_i F 82 → hd_W Ls xs d jm_M91 Q (24, sy_dL F1 [some (.inl (.ref 8)), some (.inr (.inl 82)), none], sy_dS F1 [.inl (.ref 46), .inl (.ref 66)], sy_dh F1 X1 X2 (iv_H 0), 0, 0)) :
    hd_W Ls xs d jm_M91 Q (0, sy_dL F [some (.inl (.ref 8)), some (.inr (.inl 82)), none], sy_dS F [], sy_dh F X1 X2 (iv_H 0), 0, 0) := by
  by_cases g0 : (sy_i F 82).toInt < 0
  · exact j0hq_0_p0 hd F X1 X2 hB (by first | exact g0 | (simp only [nz_c]; exact g0)) (fun F1 g  => k0 g0 F1 (nz_in0 hB [] (fun j hj hn => g j hj (by simp only [List.mem_cons, List.not_mem_nil, or_false, not_or] at hn; exact trivial)) (List.forall_mem_nil _)) (fun j hj hn => g j hj (by simp only [List.mem_cons, List.not_mem_nil, or_false, not_or] at hn; exact trivial)) )
  replace g0 : 0 ≤ (sy_i F 82).toInt := by omega
  by_cases g1 : 48 < (sy_i F 82).toInt
  · exact j0hq_0_p1 hd F X1 X2 hB (by first | exact g0 | (simp only [nz_c]; exact g0)) (by first | exact g1 | (simp only [nz_c]; exact g1)) (fun F1 g  => k1 g0 g1 F1 (nz_in0 hB [] (fun j hj hn => g j hj (by simp only [List.mem_cons, List.not_mem_nil, or_false, not_or] at hn; exact trivial)) (List.forall_mem_nil _)) (fun j hj hn => g j hj (by simp only [List.mem_cons, List.not_mem_nil, or_false, not_or] at hn; exact trivial)) )
  replace g1 : (sy_i F 82).toInt ≤ 48 := by omega
  by_cases g2 : (sy_i F 82).toInt ≤ 0
  · exact j0hq_0_p2 hd F X1 X2 hB (by first | exact g0 | (simp only [nz_c]; exact g0)) (by first | exact g1 | (simp only [nz_c]; exact g1)) (by first | exact g2 | (simp only [nz_c]; exact g2)) (fun F1 g  => by rw [(rfl : sy_i F 50 = sy_i F 50)]; exact k2 g0 g1 g2 F1 (nz_in0 hB [] (fun j hj hn => g j hj (by simp only [List.mem_cons, List.not_mem_nil, or_false, not_or] at hn; exact trivial)) (List.forall_mem_nil _)) (fun j hj hn => g j hj (by simp only [List.mem_cons, List.not_mem_nil, or_false, not_or] at hn; exact trivial)) )
  replace g2 : 0 < (sy_i F 82).toInt := by omega
  exact j0hq_0_p3 hd F X1 X2 hB (by first | exact g0 | (simp only [nz_c]; exact g0)) (by first | exact g1 | (simp only [nz_c]; exact g1)) (by first | exact g2 | (simp only [nz_c]; exact g2)) (fun F1 g e82 => k3 g0 g1 g2 F1 (nz_in0 hB [] (fun j hj hn => g j hj (by simp only [List.mem_cons, List.not_mem_nil, or_false, not_or] at hn; exact trivial)) (List.forall_mem_nil _)) (fun j hj hn => g j hj (by simp only [List.mem_cons, List.not_mem_nil, or_false, not_or] at hn; exact trivial)) ((congrArg Int32.toInt (zz_i e82)).trans (rfl : (sy_i F 82).toInt = (sy_i F 82).toInt)) ((zz_i e82).trans (rfl : sy_i F 82 = sy_i F 82)))
theorem j0hq_27_p0 {Ls : Nat} {xs : Nat → Int32} {d : Nat} {Q : Option Value → jm_h → Prop} (hd : 1 ≤ d) (F : Nat → sy_d) (X1 X2 : List jm_c) (hB : iv_in F iv_B0)
    (k : ∀ F1 : Nat → sy_d, (∀ j, j < 82 → True → F1 j = F j) → F1 82 = .inl (.int (sy_i F 82)) → F1 83 = .inl (.int ((0 : Int32))) → hd_W Ls xs d jm_M91 Q (29, sy_dL F1 [some (.inl (.ref 8)), some (.inr (.inl 82)), some (.inr (.inl 83))], sy_dS F1 [], sy_dh F1 X1 X2 (iv_H 0), 0, 0)) :
    hd_W Ls xs d jm_M91 Q (27, sy_dL F [some (.inl (.ref 8)), some (.inr (.inl 82)), none], sy_dS F [], sy_dh F X1 X2 (iv_H 0), 0, 0) := by
  refine hd_run (s := 0) (nv := 83) (pc := 29) (L := [some (.inl (.ref 8)), some (.inr (.inl 82)), some (.inr (.inl 83))]) (S := []) (uh := hd_ov (iv_id 0 iv_B0) []) (ul := [.inl (.inr (.inl 82)), .inl (.inl (.int 0))]) (f := false) (sp := [29]) (d0 := 0) (O := []) (T := []) (P := []) jm_ok91 (by decide +kernel) (by decide +kernel) hd F X1 X2 (fun F' hF hs => ?_)
  have b82 := hd_b (F := F) (F' := F') (k := 82) (hF 82 (by decide))
  have hB' : iv_in F' iv_B0 := iv_in_eq hB (fun j hj => hF j (Nat.lt_of_lt_of_le hj (by decide +kernel)))
  refine ⟨fun _ h => absurd h List.not_mem_nil, ?_⟩
  refine k _ ?_ ?_ ?_
  · exact fun j hj _ => (hd_keep hB' (Nat.lt_of_lt_of_le hj (by decide +kernel)) (by simp)).trans (hF j (Nat.lt_of_lt_of_le hj (by decide)))
  · exact hd_gi (x := .inr (.inl 82)) (by decide +kernel) b82
  · exact hd_gi (x := .inl (.int 0)) (by decide +kernel) rfl
theorem j0hq_27 {Ls : Nat} {xs : Nat → Int32} {d : Nat} {Q : Option Value → jm_h → Prop} (hd : 1 ≤ d) (F : Nat → sy_d) (X1 X2 : List jm_c) (hB : iv_in F iv_B0)
    (k0 : ∀ F1 : Nat → sy_d, iv_in F1 iv_B0 → (∀ j, j < 82 → j ∉ ([] : List Nat) → F1 j = F j) → (sy_i F1 82).toInt = (sy_i F 82).toInt → sy_i F1 82 = sy_i F 82 → (sy_i F1 83).toInt = 0 → sy_i F1 83 = (0 : Int32) → hd_W Ls xs d jm_M91 Q (29, sy_dL F1 [some (.inl (.ref 8)), some (.inr (.inl 82)), some (.inr (.inl 83))], sy_dS F1 [], sy_dh F1 X1 X2 (iv_H 0), 0, 0)) :
    hd_W Ls xs d jm_M91 Q (27, sy_dL F [some (.inl (.ref 8)), some (.inr (.inl 82)), none], sy_dS F [], sy_dh F X1 X2 (iv_H 0), 0, 0) := by
  exact j0hq_27_p0 hd F X1 X2 hB  (fun F1 g e82 e83 => k0 F1 (nz_in0 hB [] (fun j hj hn => g j hj (by simp only [List.mem_cons, List.not_mem_nil, or_false, not_or] at hn; exact trivial)) (List.forall_mem_nil _)) (fun j hj hn => g j hj (by simp only [List.mem_cons, List.not_mem_nil, or_false, not_or] at hn; exact trivial)) ((congrArg Int32.toInt (zz_i e82)).trans (rfl : (sy_i F 82).toInt = (sy_i F 82).toInt)) ((zz_i e82).trans (rfl : sy_i F 82 = sy_i F 82)) ((congrArg Int32.toInt (zz_i e83)).trans (by decide : ((0 : Int32)).toInt = 0)) ((zz_i e83).trans (rfl : (0 : Int32) = (0 : Int32))))
theorem j0hq_29_p0 {Ls : Nat} {xs : Nat → Int32} {d : Nat} {Q : Option Value → jm_h → Prop} (hd : 1 ≤ d) (F : Nat → sy_d) (X1 X2 : List jm_c) (hB : iv_in F iv_B0)
    (h0 : (sy_i F 82).toInt ≤ (sy_i F 83).toInt)
    (k : ∀ F1 : Nat → sy_d, (∀ j, j < 82 → True → F1 j = F j) → Q (some (.int (sy_i F 50))) (sy_dh F1 X1 X2 (iv_H 0))) :
    hd_W Ls xs d jm_M91 Q (29, sy_dL F [some (.inl (.ref 8)), some (.inr (.inl 82)), some (.inr (.inl 83))], sy_dS F [], sy_dh F X1 X2 (iv_H 0), 0, 0) := by
  refine hd_ret (s := 0) (nv := 84) (v := some (.inr (.inl 50))) (uh := hd_ov (iv_id 0 iv_B0) []) (f := true) (sp := [53]) (d0 := 0) (O := [true]) (T := []) (P := [(4, .inr (.inl 82), .inr (.inl 83))]) jm_ok91 (by decide +kernel) (by decide +kernel) hd F X1 X2 (fun F' hF hs => ?_)
  have b82 := hd_b (F := F) (F' := F') (k := 82) (hF 82 (by decide))
  have b83 := hd_b (F := F) (F' := F') (k := 83) (hF 83 (by decide))
  have b50 := hd_b (F := F) (F' := F') (k := 50) (hF 50 (by decide))
  have hB' : iv_in F' iv_B0 := iv_in_eq hB (fun j hj => hF j (Nat.lt_of_lt_of_le hj (by decide +kernel)))
  have hk := k (sy_cm F' (hd_ov (iv_id 0 iv_B0) [] ++ [])) (fun j hj _ => (hd_keep hB' (Nat.lt_of_lt_of_le hj (by decide +kernel)) (by simp)).trans (hF j (Nat.lt_of_lt_of_le hj (by decide))))
  refine ⟨List.forall_mem_cons.mpr ⟨hd_p4 b82 b83 h0, fun _ h => absurd h List.not_mem_nil⟩, ?_⟩
  show Q (some (sy_dv F' (.inr (.inl 50)))) _
  rw [b50]
  exact hk
theorem j0hq_29_p1 {Ls : Nat} {xs : Nat → Int32} {d : Nat} {Q : Option Value → jm_h → Prop} (hd : 1 ≤ d) (F : Nat → sy_d) (X1 X2 : List jm_c) (hB : iv_in F iv_B0)
    (h0 : (sy_i F 83).toInt < (sy_i F 82).toInt)
    (k : ∀ F1 : Nat → sy_d, (∀ j, j < 82 → True → F1 j = F j) → F1 82 = .inl (.int (sy_i F 82)) → F1 83 = .inl (.int (sy_i F 83)) → F1 84 = .inl (.int (sy_i F 7)) → hd_W Ls xs d jm_M91 Q (53, sy_dL F1 [some (.inl (.ref 8)), some (.inr (.inl 82)), some (.inr (.inl 83))], sy_dS F1 [.inr (.inl 84), .inl (.ref 46), .inl (.ref 10), .inl (.ref 41)], sy_dh F1 X1 X2 (iv_H 0), 0, 0)) :
    hd_W Ls xs d jm_M91 Q (29, sy_dL F [some (.inl (.ref 8)), some (.inr (.inl 82)), some (.inr (.inl 83))], sy_dS F [], sy_dh F X1 X2 (iv_H 0), 0, 0) := by
  refine hd_run (s := 0) (nv := 84) (pc := 53) (L := [some (.inl (.ref 8)), some (.inr (.inl 82)), some (.inr (.inl 83))]) (S := [.inr (.inl 84), .inl (.ref 46), .inl (.ref 10), .inl (.ref 41)]) (uh := hd_ov (iv_id 0 iv_B0) []) (ul := [.inl (.inr (.inl 82)), .inl (.inr (.inl 83)), .inl (.inr (.inl 7))]) (f := true) (sp := [53]) (d0 := 0) (O := [false]) (T := []) (P := [(5, .inr (.inl 82), .inr (.inl 83))]) jm_ok91 (by decide +kernel) (by decide +kernel) hd F X1 X2 (fun F' hF hs => ?_)
  have b82 := hd_b (F := F) (F' := F') (k := 82) (hF 82 (by decide))
  have b83 := hd_b (F := F) (F' := F') (k := 83) (hF 83 (by decide))
  have b7 := hd_b (F := F) (F' := F') (k := 7) (hF 7 (by decide))
  have hB' : iv_in F' iv_B0 := iv_in_eq hB (fun j hj => hF j (Nat.lt_of_lt_of_le hj (by decide +kernel)))
  refine ⟨List.forall_mem_cons.mpr ⟨hd_p5 b82 b83 h0, fun _ h => absurd h List.not_mem_nil⟩, ?_⟩
  refine k _ ?_ ?_ ?_ ?_
  · exact fun j hj _ => (hd_keep hB' (Nat.lt_of_lt_of_le hj (by decide +kernel)) (by simp)).trans (hF j (Nat.lt_of_lt_of_le hj (by decide)))
  · exact hd_gi (x := .inr (.inl 82)) (by decide +kernel) b82
  · exact hd_gi (x := .inr (.inl 83)) (by decide +kernel) b83
  · exact hd_gi (x := .inr (.inl 7)) (by decide +kernel) b7
theorem j0hq_29 {Ls : Nat} {xs : Nat → Int32} {d : Nat} {Q : Option Value → jm_h → Prop} (hd : 1 ≤ d) (F : Nat → sy_d) (X1 X2 : List jm_c) (hB : iv_in F iv_B0)
    (a82 : 0 ≤ (sy_i F 82).toInt ∧ (sy_i F 82).toInt ≤ 48)
    (a83 : 0 ≤ (sy_i F 83).toInt ∧ (sy_i F 83).toInt ≤ 48)
    (k0 : (sy_i F 82).toInt ≤ (sy_i F 83).toInt → ∀ F1 : Nat → sy_d, iv_in F1 iv_B0 → (∀ j, j < 82 → j ∉ ([] : List Nat) → F1 j = F j) → Q (some (.int (sy_i F 50))) (sy_dh F1 X1 X2 (iv_H 0)))
    (k1 : (sy_i F 83).toInt < (sy_i F 82).toInt → ∀ F1 : Nat → sy_d, iv_in F1 iv_B0 → (∀ j, j < 82 → j ∉ ([] : List Nat) → F1 j = F j) → (sy_i F1 82).toInt = (sy_i F 82).toInt → sy_i F1 82 = sy_i F 82 → (sy_i F1 83).toInt = (sy_i F 83).toInt → sy_i F1 83 = sy_i F 83 → (sy_i F1 84).toInt = (sy_i F 7).toInt → sy_i F1 84 = sy_i F 7 → hd_W Ls xs d jm_M91 Q (53, sy_dL F1 [some (.inl (.ref 8)), some (.inr (.inl 82)), some (.inr (.inl 83))], sy_dS F1 [.inr (.inl 84), .inl (.ref 46), .inl (.ref 10), .inl (.ref 41)], sy_dh F1 X1 X2 (iv_H 0), 0, 0)) :
    hd_W Ls xs d jm_M91 Q (29, sy_dL F [some (.inl (.ref 8)), some (.inr (.inl 82)), some (.inr (.inl 83))], sy_dS F [], sy_dh F X1 X2 (iv_H 0), 0, 0) := by
  by_cases g0 : (sy_i F 82).toInt ≤ (sy_i F 83).toInt
  · exact j0hq_29_p0 hd F X1 X2 hB (by first | exact g0 | (simp only [nz_c]; exact g0)) (fun F1 g  => by rw [(rfl : sy_i F 50 = sy_i F 50)]; exact k0 g0 F1 (nz_in0 hB [] (fun j hj hn => g j hj (by simp only [List.mem_cons, List.not_mem_nil, or_false, not_or] at hn; exact trivial)) (List.forall_mem_nil _)) (fun j hj hn => g j hj (by simp only [List.mem_cons, List.not_mem_nil, or_false, not_or] at hn; exact trivial)) )
  replace g0 : (sy_i F 83).toInt < (sy_i F 82).toInt := by omega
  exact j0hq_29_p1 hd F X1 X2 hB (by first | exact g0 | (simp only [nz_c]; exact g0)) (fun F1 g e82 e83 e84 => k1 g0 F1 (nz_in0 hB [] (fun j hj hn => g j hj (by simp only [List.mem_cons, List.not_mem_nil, or_false, not_or] at hn; exact trivial)) (List.forall_mem_nil _)) (fun j hj hn => g j hj (by simp only [List.mem_cons, List.not_mem_nil, or_false, not_or] at hn; exact trivial)) ((congrArg Int32.toInt (zz_i e82)).trans (rfl : (sy_i F 82).toInt = (sy_i F 82).toInt)) ((zz_i e82).trans (rfl : sy_i F 82 = sy_i F 82)) ((congrArg Int32.toInt (zz_i e83)).trans (rfl : (sy_i F 83).toInt = (sy_i F 83).toInt)) ((zz_i e83).trans (rfl : sy_i F 83 = sy_i F 83)) ((congrArg Int32.toInt (zz_i e84)).trans (rfl : (sy_i F 7).toInt = (sy_i F 7).toInt)) ((zz_i e84).trans (rfl : sy_i F 7 = sy_i F 7)))
theorem j0hq_56_p0 {Ls : Nat} {xs : Nat → Int32} {d : Nat} {Q : Option Value → jm_h → Prop} (hd : 1 ≤ d) (F : Nat → sy_d) (X1 X2 : List jm_c) (hB : iv_in F iv_B0)
    (k : ∀ F1 : Nat → sy_d, (∀ j, j < 82 → True → F1 j = F j) → F1 82 = .inl (.int (sy_i F 82)) → F1 83 = .inl (.int ((sy_i F 83) + ((1 : Int32)))) → hd_W Ls xs d jm_M91 Q (29, sy_dL F1 [some (.inl (.ref 8)), some (.inr (.inl 82)), some (.inr (.inl 83))], sy_dS F1 [], sy_dh F1 X1 X2 (iv_H 0), 0, 0)) :
    hd_W Ls xs d jm_M91 Q (56, sy_dL F [some (.inl (.ref 8)), some (.inr (.inl 82)), some (.inr (.inl 83))], sy_dS F [], sy_dh F X1 X2 (iv_H 0), 0, 0) := by
  refine hd_run (s := 0) (nv := 84) (pc := 29) (L := [some (.inl (.ref 8)), some (.inr (.inl 82)), some (.inr (.inl 83))]) (S := []) (uh := hd_ov (iv_id 0 iv_B0) []) (ul := [.inl (.inr (.inl 82)), .inl (.inr (.inl 84))]) (f := false) (sp := [29]) (d0 := 0) (O := []) (T := [(0, [.inr (.inl 83), .inl (.int 1)], [])]) (P := []) jm_ok91 (by decide +kernel) (by decide +kernel) hd F X1 X2 (fun F' hF hs => ?_)
  have b82 := hd_b (F := F) (F' := F') (k := 82) (hF 82 (by decide))
  have b83 := hd_b (F := F) (F' := F') (k := 83) (hF 83 (by decide))
  have t84 : sy_dv F' (.inr (.inl 84)) = .int ((sy_i F 83) + ((1 : Int32))) := hd_o (hs 0 _ rfl) b83 rfl rfl
  have hB' : iv_in F' iv_B0 := iv_in_eq hB (fun j hj => hF j (Nat.lt_of_lt_of_le hj (by decide +kernel)))
  refine ⟨fun _ h => absurd h List.not_mem_nil, ?_⟩
  refine k _ ?_ ?_ ?_
  · exact fun j hj _ => (hd_keep hB' (Nat.lt_of_lt_of_le hj (by decide +kernel)) (by simp)).trans (hF j (Nat.lt_of_lt_of_le hj (by decide)))
  · exact hd_gi (x := .inr (.inl 82)) (by decide +kernel) b82
  · exact hd_gi (x := .inr (.inl 84)) (by decide +kernel) t84
theorem j0hq_56 {Ls : Nat} {xs : Nat → Int32} {d : Nat} {Q : Option Value → jm_h → Prop} (hd : 1 ≤ d) (F : Nat → sy_d) (X1 X2 : List jm_c) (hB : iv_in F iv_B0)
    (a83 : 0 ≤ (sy_i F 83).toInt ∧ (sy_i F 83).toInt ≤ 47)
    (k0 : ∀ F1 : Nat → sy_d, iv_in F1 iv_B0 → (∀ j, j < 82 → j ∉ ([] : List Nat) → F1 j = F j) → (sy_i F1 82).toInt = (sy_i F 82).toInt → sy_i F1 82 = sy_i F 82 → (sy_i F1 83).toInt = ((sy_i F 83).toInt + 1) → sy_i F1 83 = (sy_i F 83) + ((1 : Int32)) → hd_W Ls xs d jm_M91 Q (29, sy_dL F1 [some (.inl (.ref 8)), some (.inr (.inl 82)), some (.inr (.inl 83))], sy_dS F1 [], sy_dh F1 X1 X2 (iv_H 0), 0, 0)) :
    hd_W Ls xs d jm_M91 Q (56, sy_dL F [some (.inl (.ref 8)), some (.inr (.inl 82)), some (.inr (.inl 83))], sy_dS F [], sy_dh F X1 X2 (iv_H 0), 0, 0) := by
  have n84 : nzI ((sy_i F 83) + ((1 : Int32))) (((sy_i F 83).toInt + 1)) := nz_add (rfl : (sy_i F 83).toInt = (sy_i F 83).toInt) (by decide : ((1 : Int32)).toInt = 1) (by omega) (by omega)
  exact j0hq_56_p0 hd F X1 X2 hB  (fun F1 g e82 e83 => k0 F1 (nz_in0 hB [] (fun j hj hn => g j hj (by simp only [List.mem_cons, List.not_mem_nil, or_false, not_or] at hn; exact trivial)) (List.forall_mem_nil _)) (fun j hj hn => g j hj (by simp only [List.mem_cons, List.not_mem_nil, or_false, not_or] at hn; exact trivial)) ((congrArg Int32.toInt (zz_i e82)).trans (rfl : (sy_i F 82).toInt = (sy_i F 82).toInt)) ((zz_i e82).trans (rfl : sy_i F 82 = sy_i F 82)) ((congrArg Int32.toInt (zz_i e83)).trans (nzE n84)) ((zz_i e83).trans (rfl : (sy_i F 83) + ((1 : Int32)) = (sy_i F 83) + ((1 : Int32)))))
theorem j0pq_0_p0 {Ls : Nat} {xs : Nat → Int32} {d : Nat} {Q : Option Value → jm_h → Prop} (hd : 1 ≤ d) (F : Nat → sy_d) (X1 X2 : List jm_c) (hB : iv_in F iv_B0)
    (k : ∀ F1 : Nat → sy_d, (∀ j, j < 82 → True → F1 j = F j) → Q (some (.int (sy_i F 1))) (sy_dh F1 X1 X2 (iv_H 0))) :
    hd_W Ls xs d jm_M84 Q (0, sy_dL F [some (.inl (.ref 8))], sy_dS F [], sy_dh F X1 X2 (iv_H 0), 0, 0) := by
  refine hd_ret (s := 0) (nv := 82) (v := some (.inr (.inl 1))) (uh := hd_ov (iv_id 0 iv_B0) []) (f := true) (sp := []) (d0 := 0) (O := []) (T := []) (P := []) jm_ok84 (by decide +kernel) (by decide +kernel) hd F X1 X2 (fun F' hF hs => ?_)
  have b1 := hd_b (F := F) (F' := F') (k := 1) (hF 1 (by decide))
  have hB' : iv_in F' iv_B0 := iv_in_eq hB (fun j hj => hF j (Nat.lt_of_lt_of_le hj (by decide +kernel)))
  have hk := k (sy_cm F' (hd_ov (iv_id 0 iv_B0) [] ++ [])) (fun j hj _ => (hd_keep hB' (Nat.lt_of_lt_of_le hj (by decide +kernel)) (by simp)).trans (hF j (Nat.lt_of_lt_of_le hj (by decide))))
  refine ⟨fun _ h => absurd h List.not_mem_nil, ?_⟩
  show Q (some (sy_dv F' (.inr (.inl 1)))) _
  rw [b1]
  exact hk
theorem j0pq_0 {Ls : Nat} {xs : Nat → Int32} {d : Nat} {Q : Option Value → jm_h → Prop} (hd : 1 ≤ d) (F : Nat → sy_d) (X1 X2 : List jm_c) (hB : iv_in F iv_B0)
    (k0 : ∀ F1 : Nat → sy_d, iv_in F1 iv_B0 → (∀ j, j < 82 → j ∉ ([] : List Nat) → F1 j = F j) → Q (some (.int (sy_i F 1))) (sy_dh F1 X1 X2 (iv_H 0))) :
    hd_W Ls xs d jm_M84 Q (0, sy_dL F [some (.inl (.ref 8))], sy_dS F [], sy_dh F X1 X2 (iv_H 0), 0, 0) := by
  exact j0pq_0_p0 hd F X1 X2 hB  (fun F1 g  => by rw [(rfl : sy_i F 1 = sy_i F 1)]; exact k0 F1 (nz_in0 hB [] (fun j hj hn => g j hj (by simp only [List.mem_cons, List.not_mem_nil, or_false, not_or] at hn; exact trivial)) (List.forall_mem_nil _)) (fun j hj hn => g j hj (by simp only [List.mem_cons, List.not_mem_nil, or_false, not_or] at hn; exact trivial)) )
theorem j0fq_0_p0 {Ls : Nat} {xs : Nat → Int32} {d : Nat} {Q : Option Value → jm_h → Prop} (hd : 1 ≤ d) (F : Nat → sy_d) (X1 X2 : List jm_c) (hB : iv_in F iv_B0)
    (k : ∀ F1 : Nat → sy_d, (∀ j, j < 82 → j ≠ 79 → F1 j = F j) → F1 79 = .inl (.int ((0 : Int32))) → Q (some (.int (sy_i F 79))) (sy_dh F1 X1 X2 (iv_H 0))) :
    hd_W Ls xs d jm_M109 Q (0, sy_dL F [some (.inl (.ref 8)), none], sy_dS F [], sy_dh F X1 X2 (iv_H 0), 0, 0) := by
  refine hd_ret (s := 0) (nv := 82) (v := some (.inr (.inl 79))) (uh := hd_ov (iv_id 0 iv_B0) [(79, .inl (.inl (.int 0)))]) (f := true) (sp := []) (d0 := 0) (O := []) (T := []) (P := []) jm_ok109 (by decide +kernel) (by decide +kernel) hd F X1 X2 (fun F' hF hs => ?_)
  have b79 := hd_b (F := F) (F' := F') (k := 79) (hF 79 (by decide))
  have hB' : iv_in F' iv_B0 := iv_in_eq hB (fun j hj => hF j (Nat.lt_of_lt_of_le hj (by decide +kernel)))
  have hk := k (sy_cm F' (hd_ov (iv_id 0 iv_B0) [(79, .inl (.inl (.int 0)))] ++ [])) (fun j hj hn => (hd_keep hB' (Nat.lt_of_lt_of_le hj (by decide +kernel)) (by simp; omega)).trans (hF j (Nat.lt_of_lt_of_le hj (by decide)))) (hd_gi (x := .inl (.int 0)) (by decide +kernel) rfl)
  refine ⟨fun _ h => absurd h List.not_mem_nil, ?_⟩
  show Q (some (sy_dv F' (.inr (.inl 79)))) _
  rw [b79]
  exact hk
theorem j0fq_0 {Ls : Nat} {xs : Nat → Int32} {d : Nat} {Q : Option Value → jm_h → Prop} (hd : 1 ≤ d) (F : Nat → sy_d) (X1 X2 : List jm_c) (hB : iv_in F iv_B0)
    (k0 : ∀ F1 : Nat → sy_d, iv_in F1 iv_B0 → (∀ j, j < 82 → j ∉ ([79] : List Nat) → F1 j = F j) → (sy_i F1 79).toInt = 0 → sy_i F1 79 = (0 : Int32) → Q (some (.int (sy_i F 79))) (sy_dh F1 X1 X2 (iv_H 0))) :
    hd_W Ls xs d jm_M109 Q (0, sy_dL F [some (.inl (.ref 8)), none], sy_dS F [], sy_dh F X1 X2 (iv_H 0), 0, 0) := by
  exact j0fq_0_p0 hd F X1 X2 hB  (fun F1 g e79 => by rw [(rfl : sy_i F 79 = sy_i F 79)]; exact k0 F1 (nz_in0 hB [79] (fun j hj hn => g j hj (by simp only [List.mem_cons, List.not_mem_nil, or_false, not_or] at hn; omega)) (List.forall_mem_cons.mpr ⟨fun t ht => (Option.some.inj ht) ▸ (nz_hi e79 (by decide : ((0 : Int32)).toInt = 0) (by omega) (by omega)), List.forall_mem_nil _⟩)) (fun j hj hn => g j hj (by simp only [List.mem_cons, List.not_mem_nil, or_false, not_or] at hn; omega)) ((congrArg Int32.toInt (zz_i e79)).trans (by decide : ((0 : Int32)).toInt = 0)) ((zz_i e79).trans (rfl : (0 : Int32) = (0 : Int32))))
theorem j0bq_0_p0 {Ls : Nat} {xs : Nat → Int32} {d : Nat} {Q : Option Value → jm_h → Prop} (hd : 1 ≤ d) (F : Nat → sy_d) (X1 X2 : List jm_c) (hB : iv_in F iv_B0)
    (h0 : (sy_i F 82).toInt < 0)
    (k : ∀ F1 : Nat → sy_d, (∀ j, j < 82 → True → F1 j = F j) → Q (some (.int (((-1) : Int32)))) (sy_dh F1 X1 X2 (iv_H 0))) :
    hd_W Ls xs d jm_M82 Q (0, sy_dL F [some (.inl (.ref 8)), some (.inr (.inl 82))], sy_dS F [], sy_dh F X1 X2 (iv_H 0), 0, 0) := by
  refine hd_ret (s := 0) (nv := 83) (v := some (.inl (.int (-1)))) (uh := hd_ov (iv_id 0 iv_B0) []) (f := true) (sp := []) (d0 := 0) (O := [true]) (T := []) (P := [(2, .inr (.inl 82), .inl (.int 0))]) jm_ok82 (by decide +kernel) (by decide +kernel) hd F X1 X2 (fun F' hF hs => ?_)
  have b82 := hd_b (F := F) (F' := F') (k := 82) (hF 82 (by decide))
  have hB' : iv_in F' iv_B0 := iv_in_eq hB (fun j hj => hF j (Nat.lt_of_lt_of_le hj (by decide +kernel)))
  refine ⟨List.forall_mem_cons.mpr ⟨hd_p2 b82 rfl (by have hc : ((0) : Int32).toInt = 0 := (by decide); omega), fun _ h => absurd h List.not_mem_nil⟩, ?_⟩
  refine k _ ?_
  · exact fun j hj _ => (hd_keep hB' (Nat.lt_of_lt_of_le hj (by decide +kernel)) (by simp)).trans (hF j (Nat.lt_of_lt_of_le hj (by decide)))
theorem j0bq_0_p1 {Ls : Nat} {xs : Nat → Int32} {d : Nat} {Q : Option Value → jm_h → Prop} (hd : 1 ≤ d) (F : Nat → sy_d) (X1 X2 : List jm_c) (hB : iv_in F iv_B0)
    (h0 : 0 ≤ (sy_i F 82).toInt)
    (h1 : (sy_i F 82).toInt ≤ (sy_i F 0).toInt)
    (k : ∀ F1 : Nat → sy_d, (∀ j, j < 82 → j ≠ 0 → F1 j = F j) → F1 0 = .inl (.int ((sy_i F 0) - (sy_i F 82))) → Q (some (.int ((sy_i F 0) - (sy_i F 82)))) (sy_dh F1 X1 X2 (iv_H 0))) :
    hd_W Ls xs d jm_M82 Q (0, sy_dL F [some (.inl (.ref 8)), some (.inr (.inl 82))], sy_dS F [], sy_dh F X1 X2 (iv_H 0), 0, 0) := by
  refine hd_ret (s := 0) (nv := 83) (v := some (.inr (.inl 83))) (uh := hd_ov (iv_id 0 iv_B0) [(0, .inl (.inr (.inl 83)))]) (f := true) (sp := []) (d0 := 0) (O := [false, true]) (T := [(1, [.inr (.inl 0), .inr (.inl 82)], [])]) (P := [(3, .inr (.inl 82), .inl (.int 0)), (4, .inr (.inl 82), .inr (.inl 0))]) jm_ok82 (by decide +kernel) (by decide +kernel) hd F X1 X2 (fun F' hF hs => ?_)
  have b82 := hd_b (F := F) (F' := F') (k := 82) (hF 82 (by decide))
  have b0 := hd_b (F := F) (F' := F') (k := 0) (hF 0 (by decide))
  have t83 : sy_dv F' (.inr (.inl 83)) = .int ((sy_i F 0) - (sy_i F 82)) := hd_o (hs 0 _ rfl) b0 b82 rfl
  have hB' : iv_in F' iv_B0 := iv_in_eq hB (fun j hj => hF j (Nat.lt_of_lt_of_le hj (by decide +kernel)))
  have hk := k (sy_cm F' (hd_ov (iv_id 0 iv_B0) [(0, .inl (.inr (.inl 83)))] ++ [])) (fun j hj hn => (hd_keep hB' (Nat.lt_of_lt_of_le hj (by decide +kernel)) (by simp; omega)).trans (hF j (Nat.lt_of_lt_of_le hj (by decide)))) (hd_gi (x := .inr (.inl 83)) (by decide +kernel) t83)
  refine ⟨List.forall_mem_cons.mpr ⟨hd_p3 b82 rfl (by have hc : ((0) : Int32).toInt = 0 := (by decide); omega), List.forall_mem_cons.mpr ⟨hd_p4 b82 b0 h1, fun _ h => absurd h List.not_mem_nil⟩⟩, ?_⟩
  show Q (some (sy_dv F' (.inr (.inl 83)))) _
  rw [t83]
  exact hk
theorem j0bq_0_p2 {Ls : Nat} {xs : Nat → Int32} {d : Nat} {Q : Option Value → jm_h → Prop} (hd : 1 ≤ d) (F : Nat → sy_d) (X1 X2 : List jm_c) (hB : iv_in F iv_B0)
    (h0 : 0 ≤ (sy_i F 82).toInt)
    (h1 : (sy_i F 0).toInt < (sy_i F 82).toInt)
    (k : ∀ F1 : Nat → sy_d, (∀ j, j < 82 → True → F1 j = F j) → Q (some (.int (((-1) : Int32)))) (sy_dh F1 X1 X2 (iv_H 0))) :
    hd_W Ls xs d jm_M82 Q (0, sy_dL F [some (.inl (.ref 8)), some (.inr (.inl 82))], sy_dS F [], sy_dh F X1 X2 (iv_H 0), 0, 0) := by
  refine hd_ret (s := 0) (nv := 83) (v := some (.inl (.int (-1)))) (uh := hd_ov (iv_id 0 iv_B0) []) (f := true) (sp := []) (d0 := 0) (O := [false, false]) (T := []) (P := [(3, .inr (.inl 82), .inl (.int 0)), (5, .inr (.inl 82), .inr (.inl 0))]) jm_ok82 (by decide +kernel) (by decide +kernel) hd F X1 X2 (fun F' hF hs => ?_)
  have b82 := hd_b (F := F) (F' := F') (k := 82) (hF 82 (by decide))
  have b0 := hd_b (F := F) (F' := F') (k := 0) (hF 0 (by decide))
  have hB' : iv_in F' iv_B0 := iv_in_eq hB (fun j hj => hF j (Nat.lt_of_lt_of_le hj (by decide +kernel)))
  refine ⟨List.forall_mem_cons.mpr ⟨hd_p3 b82 rfl (by have hc : ((0) : Int32).toInt = 0 := (by decide); omega), List.forall_mem_cons.mpr ⟨hd_p5 b82 b0 h1, fun _ h => absurd h List.not_mem_nil⟩⟩, ?_⟩
  refine k _ ?_
  · exact fun j hj _ => (hd_keep hB' (Nat.lt_of_lt_of_le hj (by decide +kernel)) (by simp)).trans (hF j (Nat.lt_of_lt_of_le hj (by decide)))
theorem j0bq_0 {Ls : Nat} {xs : Nat → Int32} {d : Nat} {Q : Option Value → jm_h → Prop} (hd : 1 ≤ d) (F : Nat → sy_d) (X1 X2 : List jm_c) (hB : iv_in F iv_B0)
    (o0 : 0 ≤ (sy_i F 82).toInt → (sy_i F 82).toInt ≤ (sy_i F 0).toInt → (0 ≤ ((sy_i F 0).toInt - (sy_i F 82).toInt) ∧ ((sy_i F 0).toInt - (sy_i F 82).toInt) ≤ 2000))
    (k0 : (sy_i F 82).toInt < 0 → ∀ F1 : Nat → sy_d, iv_in F1 iv_B0 → (∀ j, j < 82 → j ∉ ([] : List Nat) → F1 j = F j) → Q (some (.int (((-1) : Int32)))) (sy_dh F1 X1 X2 (iv_H 0)))
    (k1 : 0 ≤ (sy_i F 82).toInt → (sy_i F 82).toInt ≤ (sy_i F 0).toInt → ∀ F1 : Nat → sy_d, iv_in F1 iv_B0 → (∀ j, j < 82 → j ∉ ([0] : List Nat) → F1 j = F j) → (sy_i F1 0).toInt = ((sy_i F 0).toInt - (sy_i F 82).toInt) → sy_i F1 0 = (sy_i F 0) - (sy_i F 82) → Q (some (.int ((sy_i F 0) - (sy_i F 82)))) (sy_dh F1 X1 X2 (iv_H 0)))
    (k2 : 0 ≤ (sy_i F 82).toInt → (sy_i F 0).toInt < (sy_i F 82).toInt → ∀ F1 : Nat → sy_d, iv_in F1 iv_B0 → (∀ j, j < 82 → j ∉ ([] : List Nat) → F1 j = F j) → Q (some (.int (((-1) : Int32)))) (sy_dh F1 X1 X2 (iv_H 0))) :
    hd_W Ls xs d jm_M82 Q (0, sy_dL F [some (.inl (.ref 8)), some (.inr (.inl 82))], sy_dS F [], sy_dh F X1 X2 (iv_H 0), 0, 0) := by
  by_cases g0 : (sy_i F 82).toInt < 0
  · exact j0bq_0_p0 hd F X1 X2 hB (by first | exact g0 | (simp only [nz_c]; exact g0)) (fun F1 g  => k0 g0 F1 (nz_in0 hB [] (fun j hj hn => g j hj (by simp only [List.mem_cons, List.not_mem_nil, or_false, not_or] at hn; exact trivial)) (List.forall_mem_nil _)) (fun j hj hn => g j hj (by simp only [List.mem_cons, List.not_mem_nil, or_false, not_or] at hn; exact trivial)) )
  replace g0 : 0 ≤ (sy_i F 82).toInt := by omega
  by_cases g1 : (sy_i F 82).toInt ≤ (sy_i F 0).toInt
  · have c0 := nz_bx hB (k := 0) (lo := 0) (hi := 2000) rfl
    have n83 : nzI ((sy_i F 0) - (sy_i F 82)) (((sy_i F 0).toInt - (sy_i F 82).toInt)) := nz_sub (rfl : (sy_i F 0).toInt = (sy_i F 0).toInt) (rfl : (sy_i F 82).toInt = (sy_i F 82).toInt) (by omega) (by omega)
    exact j0bq_0_p1 hd F X1 X2 hB (by first | exact g0 | (simp only [nz_c]; exact g0)) (by first | exact g1 | (simp only [nz_c]; exact g1)) (fun F1 g e0 => by rw [(rfl : (sy_i F 0) - (sy_i F 82) = (sy_i F 0) - (sy_i F 82))]; exact k1 g0 g1 F1 (nz_in0 hB [0] (fun j hj hn => g j hj (by simp only [List.mem_cons, List.not_mem_nil, or_false, not_or] at hn; omega)) (List.forall_mem_cons.mpr ⟨fun t ht => (Option.some.inj ht) ▸ (nz_hi e0 (nzE n83) (o0 g0 g1).1 (o0 g0 g1).2), List.forall_mem_nil _⟩)) (fun j hj hn => g j hj (by simp only [List.mem_cons, List.not_mem_nil, or_false, not_or] at hn; omega)) ((congrArg Int32.toInt (zz_i e0)).trans (nzE n83)) ((zz_i e0).trans (rfl : (sy_i F 0) - (sy_i F 82) = (sy_i F 0) - (sy_i F 82))))
  replace g1 : (sy_i F 0).toInt < (sy_i F 82).toInt := by omega
  have c0 := nz_bx hB (k := 0) (lo := 0) (hi := 2000) rfl
  exact j0bq_0_p2 hd F X1 X2 hB (by first | exact g0 | (simp only [nz_c]; exact g0)) (by first | exact g1 | (simp only [nz_c]; exact g1)) (fun F1 g  => k2 g0 g1 F1 (nz_in0 hB [] (fun j hj hn => g j hj (by simp only [List.mem_cons, List.not_mem_nil, or_false, not_or] at hn; exact trivial)) (List.forall_mem_nil _)) (fun j hj hn => g j hj (by simp only [List.mem_cons, List.not_mem_nil, or_false, not_or] at hn; exact trivial)) )
theorem j0tq_0_p0 {Ls : Nat} {xs : Nat → Int32} {d : Nat} {Q : Option Value → jm_h → Prop} (hd : 2 ≤ d) (F : Nat → sy_d) (X1 X2 : List jm_c) (hB : iv_in F iv_B0)
    (h0 : (sy_i F 82).toInt < 1)
    (k : ∀ F1 : Nat → sy_d, (∀ j, j < 82 → True → F1 j = F j) → Q (some (.int (((-1) : Int32)))) (sy_dh F1 X1 X2 (iv_H 0))) :
    hd_W Ls xs d jm_M108 Q (0, sy_dL F [some (.inl (.ref 8)), some (.inr (.inl 82)), some (.inr (.inl 83))], sy_dS F [], sy_dh F X1 X2 (iv_H 0), 0, 0) := by
  refine hd_ret (s := 0) (nv := 84) (v := some (.inl (.int (-1)))) (uh := hd_ov (iv_id 0 iv_B0) []) (f := true) (sp := []) (d0 := 1) (O := [true]) (T := []) (P := [(2, .inr (.inl 82), .inl (.int 1))]) jm_ok108 (by decide +kernel) (by decide +kernel) hd F X1 X2 (fun F' hF hs => ?_)
  have b82 := hd_b (F := F) (F' := F') (k := 82) (hF 82 (by decide))
  have hB' : iv_in F' iv_B0 := iv_in_eq hB (fun j hj => hF j (Nat.lt_of_lt_of_le hj (by decide +kernel)))
  refine ⟨List.forall_mem_cons.mpr ⟨hd_p2 b82 rfl (by have hc : ((1) : Int32).toInt = 1 := (by decide); omega), fun _ h => absurd h List.not_mem_nil⟩, ?_⟩
  refine k _ ?_
  · exact fun j hj _ => (hd_keep hB' (Nat.lt_of_lt_of_le hj (by decide +kernel)) (by simp)).trans (hF j (Nat.lt_of_lt_of_le hj (by decide)))
theorem j0tq_0_p1 {Ls : Nat} {xs : Nat → Int32} {d : Nat} {Q : Option Value → jm_h → Prop} (hd : 2 ≤ d) (F : Nat → sy_d) (X1 X2 : List jm_c) (hB : iv_in F iv_B0)
    (h0 : 1 ≤ (sy_i F 82).toInt)
    (h1 : 9 < (sy_i F 82).toInt)
    (k : ∀ F1 : Nat → sy_d, (∀ j, j < 82 → True → F1 j = F j) → Q (some (.int (((-1) : Int32)))) (sy_dh F1 X1 X2 (iv_H 0))) :
    hd_W Ls xs d jm_M108 Q (0, sy_dL F [some (.inl (.ref 8)), some (.inr (.inl 82)), some (.inr (.inl 83))], sy_dS F [], sy_dh F X1 X2 (iv_H 0), 0, 0) := by
  refine hd_ret (s := 0) (nv := 84) (v := some (.inl (.int (-1)))) (uh := hd_ov (iv_id 0 iv_B0) []) (f := true) (sp := []) (d0 := 1) (O := [false, true]) (T := []) (P := [(3, .inr (.inl 82), .inl (.int 1)), (2, .inl (.int 9), .inr (.inl 82))]) jm_ok108 (by decide +kernel) (by decide +kernel) hd F X1 X2 (fun F' hF hs => ?_)
  have b82 := hd_b (F := F) (F' := F') (k := 82) (hF 82 (by decide))
  have hB' : iv_in F' iv_B0 := iv_in_eq hB (fun j hj => hF j (Nat.lt_of_lt_of_le hj (by decide +kernel)))
  refine ⟨List.forall_mem_cons.mpr ⟨hd_p3 b82 rfl (by have hc : ((1) : Int32).toInt = 1 := (by decide); omega), List.forall_mem_cons.mpr ⟨hd_p2 rfl b82 (by have hc : ((9) : Int32).toInt = 9 := (by decide); omega), fun _ h => absurd h List.not_mem_nil⟩⟩, ?_⟩
  refine k _ ?_
  · exact fun j hj _ => (hd_keep hB' (Nat.lt_of_lt_of_le hj (by decide +kernel)) (by simp)).trans (hF j (Nat.lt_of_lt_of_le hj (by decide)))
theorem j0tq_0_p2 {Ls : Nat} {xs : Nat → Int32} {d : Nat} {Q : Option Value → jm_h → Prop} (hd : 2 ≤ d) (F : Nat → sy_d) (X1 X2 : List jm_c) (hB : iv_in F iv_B0)
    (h0 : 1 ≤ (sy_i F 82).toInt)
    (h1 : (sy_i F 82).toInt ≤ 9)
    (h2 : (sy_i F 83).toInt < 0)
    (k : ∀ F1 : Nat → sy_d, (∀ j, j < 82 → True → F1 j = F j) → Q (some (.int (((-1) : Int32)))) (sy_dh F1 X1 X2 (iv_H 0))) :
    hd_W Ls xs d jm_M108 Q (0, sy_dL F [some (.inl (.ref 8)), some (.inr (.inl 82)), some (.inr (.inl 83))], sy_dS F [], sy_dh F X1 X2 (iv_H 0), 0, 0) := by
  refine hd_ret (s := 0) (nv := 84) (v := some (.inl (.int (-1)))) (uh := hd_ov (iv_id 0 iv_B0) []) (f := true) (sp := []) (d0 := 1) (O := [false, false, true]) (T := []) (P := [(3, .inr (.inl 82), .inl (.int 1)), (3, .inl (.int 9), .inr (.inl 82)), (2, .inr (.inl 83), .inl (.int 0))]) jm_ok108 (by decide +kernel) (by decide +kernel) hd F X1 X2 (fun F' hF hs => ?_)
  have b82 := hd_b (F := F) (F' := F') (k := 82) (hF 82 (by decide))
  have b83 := hd_b (F := F) (F' := F') (k := 83) (hF 83 (by decide))
  have hB' : iv_in F' iv_B0 := iv_in_eq hB (fun j hj => hF j (Nat.lt_of_lt_of_le hj (by decide +kernel)))
  refine ⟨List.forall_mem_cons.mpr ⟨hd_p3 b82 rfl (by have hc : ((1) : Int32).toInt = 1 := (by decide); omega), List.forall_mem_cons.mpr ⟨hd_p3 rfl b82 (by have hc : ((9) : Int32).toInt = 9 := (by decide); omega), List.forall_mem_cons.mpr ⟨hd_p2 b83 rfl (by have hc : ((0) : Int32).toInt = 0 := (by decide); omega), fun _ h => absurd h List.not_mem_nil⟩⟩⟩, ?_⟩
  refine k _ ?_
  · exact fun j hj _ => (hd_keep hB' (Nat.lt_of_lt_of_le hj (by decide +kernel)) (by simp)).trans (hF j (Nat.lt_of_lt_of_le hj (by decide)))
theorem j0tq_0_p3 {Ls : Nat} {xs : Nat → Int32} {d : Nat} {Q : Option Value → jm_h → Prop} (hd : 2 ≤ d) (F : Nat → sy_d) (X1 X2 : List jm_c) (hB : iv_in F iv_B0)
    (h0 : 1 ≤ (sy_i F 82).toInt)
    (h1 : (sy_i F 82).toInt ≤ 9)
    (h2 : 0 ≤ (sy_i F 83).toInt)
    (h3 : 9 < (sy_i F 83).toInt)
    (k : ∀ F1 : Nat → sy_d, (∀ j, j < 82 → True → F1 j = F j) → Q (some (.int (((-1) : Int32)))) (sy_dh F1 X1 X2 (iv_H 0))) :
    hd_W Ls xs d jm_M108 Q (0, sy_dL F [some (.inl (.ref 8)), some (.inr (.inl 82)), some (.inr (.inl 83))], sy_dS F [], sy_dh F X1 X2 (iv_H 0), 0, 0) := by
  refine hd_ret (s := 0) (nv := 84) (v := some (.inl (.int (-1)))) (uh := hd_ov (iv_id 0 iv_B0) []) (f := true) (sp := []) (d0 := 1) (O := [false, false, false, true]) (T := []) (P := [(3, .inr (.inl 82), .inl (.int 1)), (3, .inl (.int 9), .inr (.inl 82)), (3, .inr (.inl 83), .inl (.int 0)), (2, .inl (.int 9), .inr (.inl 83))]) jm_ok108 (by decide +kernel) (by decide +kernel) hd F X1 X2 (fun F' hF hs => ?_)
  have b82 := hd_b (F := F) (F' := F') (k := 82) (hF 82 (by decide))
  have b83 := hd_b (F := F) (F' := F') (k := 83) (hF 83 (by decide))
  have hB' : iv_in F' iv_B0 := iv_in_eq hB (fun j hj => hF j (Nat.lt_of_lt_of_le hj (by decide +kernel)))
  refine ⟨List.forall_mem_cons.mpr ⟨hd_p3 b82 rfl (by have hc : ((1) : Int32).toInt = 1 := (by decide); omega), List.forall_mem_cons.mpr ⟨hd_p3 rfl b82 (by have hc : ((9) : Int32).toInt = 9 := (by decide); omega), List.forall_mem_cons.mpr ⟨hd_p3 b83 rfl (by have hc : ((0) : Int32).toInt = 0 := (by decide); omega), List.forall_mem_cons.mpr ⟨hd_p2 rfl b83 (by have hc : ((9) : Int32).toInt = 9 := (by decide); omega), fun _ h => absurd h List.not_mem_nil⟩⟩⟩⟩, ?_⟩
  refine k _ ?_
  · exact fun j hj _ => (hd_keep hB' (Nat.lt_of_lt_of_le hj (by decide +kernel)) (by simp)).trans (hF j (Nat.lt_of_lt_of_le hj (by decide)))
theorem j0tq_0_p4 {Ls : Nat} {xs : Nat → Int32} {d : Nat} {Q : Option Value → jm_h → Prop} (hd : 2 ≤ d) (F : Nat → sy_d) (X1 X2 : List jm_c) (hB : iv_in F iv_B0)
    (h0 : 1 ≤ (sy_i F 82).toInt)
    (h1 : (sy_i F 82).toInt ≤ 9)
    (h2 : 0 ≤ (sy_i F 83).toInt)
    (h3 : (sy_i F 83).toInt ≤ 9)
    (h4 : (sy_i F 79).toInt < 7)
    (h5 : 0 ≤ (sy_i F 79).toInt ∧ (sy_i F 79).toInt < 7)
    (h6 : 0 ≤ (sy_i F 79).toInt ∧ (sy_i F 79).toInt < 7)
    (k : ∀ F1 : Nat → sy_d, (∀ j, j < 82 → j ≠ 79 ∧ j ≠ 80 ∧ j ≠ 81 → F1 j = F j) → F1 79 = .inl (.int ((sy_i F 79) + ((1 : Int32)))) → F1 80 = .inr (.inl (jm_upd (sy_ai F 80) (sy_i F 79).toNatClampNeg (sy_i F 82))) → F1 81 = .inr (.inl (jm_upd (sy_ai F 81) (sy_i F 79).toNatClampNeg (sy_i F 83))) → Q (some (.int (((sy_i F 79) + ((1 : Int32))) - ((1 : Int32))))) (sy_dh F1 X1 X2 (iv_H 0))) :
    hd_W Ls xs d jm_M108 Q (0, sy_dL F [some (.inl (.ref 8)), some (.inr (.inl 82)), some (.inr (.inl 83))], sy_dS F [], sy_dh F X1 X2 (iv_H 0), 0, 0) := by
  refine hd_ret (s := 0) (nv := 84) (v := some (.inr (.inl 87))) (uh := hd_ov (iv_id 0 iv_B0) [(79, .inl (.inr (.inl 86))), (80, .inr (.inr (.inl 84))), (81, .inr (.inr (.inl 85)))]) (f := true) (sp := []) (d0 := 1) (O := [false, false, false, false, true]) (T := [(40, [.inr (.inl 79), .inr (.inl 82)], [.inr (.inl 80)]), (40, [.inr (.inl 79), .inr (.inl 83)], [.inr (.inl 81)]), (0, [.inr (.inl 79), .inl (.int 1)], []), (1, [.inr (.inl 86), .inl (.int 1)], [])]) (P := [(3, .inr (.inl 82), .inl (.int 1)), (3, .inl (.int 9), .inr (.inl 82)), (3, .inr (.inl 83), .inl (.int 0)), (3, .inl (.int 9), .inr (.inl 83)), (2, .inr (.inl 79), .inl (.int 7)), (6, .inr (.inl 79), .inl (.ref 7)), (6, .inr (.inl 79), .inl (.ref 7))]) jm_ok108 (by decide +kernel) (by decide +kernel) hd F X1 X2 (fun F' hF hs => ?_)
  have b82 := hd_b (F := F) (F' := F') (k := 82) (hF 82 (by decide))
  have b83 := hd_b (F := F) (F' := F') (k := 83) (hF 83 (by decide))
  have b79 := hd_b (F := F) (F' := F') (k := 79) (hF 79 (by decide))
  have t86 : sy_dv F' (.inr (.inl 86)) = .int ((sy_i F 79) + ((1 : Int32))) := hd_o (hs 2 _ rfl) b79 rfl rfl
  have a80 := hd_ba (F := F) (F' := F') (k := 80) (hF 80 (by decide))
  have t84 : sy_da F' (.inr (.inl 84)) = .inl (jm_upd (sy_ai F 80) (sy_i F 79).toNatClampNeg (sy_i F 82)) := hd_up (hs 0 _ rfl) b79 b82 a80
  have a81 := hd_ba (F := F) (F' := F') (k := 81) (hF 81 (by decide))
  have t85 : sy_da F' (.inr (.inl 85)) = .inl (jm_upd (sy_ai F 81) (sy_i F 79).toNatClampNeg (sy_i F 83)) := hd_up (hs 1 _ rfl) b79 b83 a81
  have t87 : sy_dv F' (.inr (.inl 87)) = .int (((sy_i F 79) + ((1 : Int32))) - ((1 : Int32))) := hd_o (hs 3 _ rfl) t86 rfl rfl
  have hB' : iv_in F' iv_B0 := iv_in_eq hB (fun j hj => hF j (Nat.lt_of_lt_of_le hj (by decide +kernel)))
  have hk := k (sy_cm F' (hd_ov (iv_id 0 iv_B0) [(79, .inl (.inr (.inl 86))), (80, .inr (.inr (.inl 84))), (81, .inr (.inr (.inl 85)))] ++ [])) (fun j hj hn => (hd_keep hB' (Nat.lt_of_lt_of_le hj (by decide +kernel)) (by simp; omega)).trans (hF j (Nat.lt_of_lt_of_le hj (by decide)))) (hd_gi (x := .inr (.inl 86)) (by decide +kernel) t86) (hd_ga (a := .inr (.inl 84)) (by decide +kernel) t84) (hd_ga (a := .inr (.inl 85)) (by decide +kernel) t85)
  refine ⟨List.forall_mem_cons.mpr ⟨hd_p3 b82 rfl (by have hc : ((1) : Int32).toInt = 1 := (by decide); omega), List.forall_mem_cons.mpr ⟨hd_p3 rfl b82 (by have hc : ((9) : Int32).toInt = 9 := (by decide); omega), List.forall_mem_cons.mpr ⟨hd_p3 b83 rfl (by have hc : ((0) : Int32).toInt = 0 := (by decide); omega), List.forall_mem_cons.mpr ⟨hd_p3 rfl b83 (by have hc : ((9) : Int32).toInt = 9 := (by decide); omega), List.forall_mem_cons.mpr ⟨hd_p2 b79 rfl (by have hc : ((7) : Int32).toInt = 7 := (by decide); omega), List.forall_mem_cons.mpr ⟨hd_pb b79 (by first | exact h5 | exact h5), List.forall_mem_cons.mpr ⟨hd_pb b79 (by first | exact h6 | exact h6), fun _ h => absurd h List.not_mem_nil⟩⟩⟩⟩⟩⟩⟩, ?_⟩
  show Q (some (sy_dv F' (.inr (.inl 87)))) _
  rw [t87]
  exact hk
theorem j0tq_0_p5 {Ls : Nat} {xs : Nat → Int32} {d : Nat} {Q : Option Value → jm_h → Prop} (hd : 2 ≤ d) (F : Nat → sy_d) (X1 X2 : List jm_c) (hB : iv_in F iv_B0)
    (h0 : 1 ≤ (sy_i F 82).toInt)
    (h1 : (sy_i F 82).toInt ≤ 9)
    (h2 : 0 ≤ (sy_i F 83).toInt)
    (h3 : (sy_i F 83).toInt ≤ 9)
    (h4 : 7 ≤ (sy_i F 79).toInt)
    (k : ∀ F1 : Nat → sy_d, (∀ j, j < 82 → True → F1 j = F j) → Q (some (.int (((-1) : Int32)))) (sy_dh F1 X1 X2 (iv_H 0))) :
    hd_W Ls xs d jm_M108 Q (0, sy_dL F [some (.inl (.ref 8)), some (.inr (.inl 82)), some (.inr (.inl 83))], sy_dS F [], sy_dh F X1 X2 (iv_H 0), 0, 0) := by
  refine hd_ret (s := 0) (nv := 84) (v := some (.inl (.int (-1)))) (uh := hd_ov (iv_id 0 iv_B0) []) (f := true) (sp := []) (d0 := 1) (O := [false, false, false, false, false]) (T := []) (P := [(3, .inr (.inl 82), .inl (.int 1)), (3, .inl (.int 9), .inr (.inl 82)), (3, .inr (.inl 83), .inl (.int 0)), (3, .inl (.int 9), .inr (.inl 83)), (3, .inr (.inl 79), .inl (.int 7))]) jm_ok108 (by decide +kernel) (by decide +kernel) hd F X1 X2 (fun F' hF hs => ?_)
  have b82 := hd_b (F := F) (F' := F') (k := 82) (hF 82 (by decide))
  have b83 := hd_b (F := F) (F' := F') (k := 83) (hF 83 (by decide))
  have b79 := hd_b (F := F) (F' := F') (k := 79) (hF 79 (by decide))
  have hB' : iv_in F' iv_B0 := iv_in_eq hB (fun j hj => hF j (Nat.lt_of_lt_of_le hj (by decide +kernel)))
  refine ⟨List.forall_mem_cons.mpr ⟨hd_p3 b82 rfl (by have hc : ((1) : Int32).toInt = 1 := (by decide); omega), List.forall_mem_cons.mpr ⟨hd_p3 rfl b82 (by have hc : ((9) : Int32).toInt = 9 := (by decide); omega), List.forall_mem_cons.mpr ⟨hd_p3 b83 rfl (by have hc : ((0) : Int32).toInt = 0 := (by decide); omega), List.forall_mem_cons.mpr ⟨hd_p3 rfl b83 (by have hc : ((9) : Int32).toInt = 9 := (by decide); omega), List.forall_mem_cons.mpr ⟨hd_p3 b79 rfl (by have hc : ((7) : Int32).toInt = 7 := (by decide); omega), fun _ h => absurd h List.not_mem_nil⟩⟩⟩⟩⟩, ?_⟩
  refine k _ ?_
  · exact fun j hj _ => (hd_keep hB' (Nat.lt_of_lt_of_le hj (by decide +kernel)) (by simp)).trans (hF j (Nat.lt_of_lt_of_le hj (by decide)))
theorem j0tq_0 {Ls : Nat} {xs : Nat → Int32} {d : Nat} {Q : Option Value → jm_h → Prop} (hd : 2 ≤ d) (F : Nat → sy_d) (X1 X2 : List jm_c) (hB : iv_in F iv_B0)
    (k0 : (sy_i F 82).toInt < 1 → ∀ F1 : Nat → sy_d, iv_in F1 iv_B0 → (∀ j, j < 82 → j ∉ ([] : List Nat) → F1 j = F j) → Q (some (.int (((-1) : Int32)))) (sy_dh F1 X1 X2 (iv_H 0)))
    (k1 : 1 ≤ (sy_i F 82).toInt → 9 < (sy_i F 82).toInt → ∀ F1 : Nat → sy_d, iv_in F1 iv_B0 → (∀ j, j < 82 → j ∉ ([] : List Nat) → F1 j = F j) → Q (some (.int (((-1) : Int32)))) (sy_dh F1 X1 X2 (iv_H 0)))
    (k2 : 1 ≤ (sy_i F 82).toInt → (sy_i F 82).toInt ≤ 9 → (sy_i F 83).toInt < 0 → ∀ F1 : Nat → sy_d, iv_in F1 iv_B0 → (∀ j, j < 82 → j ∉ ([] : List Nat) → F1 j = F j) → Q (some (.int (((-1) : Int32)))) (sy_dh F1 X1 X2 (iv_H 0)))
    (k3 : 1 ≤ (sy_i F 82).toInt → (sy_i F 82).toInt ≤ 9 → 0 ≤ (sy_i F 83).toInt → 9 < (sy_i F 83).toInt → ∀ F1 : Nat → sy_d, iv_in F1 iv_B0 → (∀ j, j < 82 → j ∉ ([] : List Nat) → F1 j = F j) → Q (some (.int (((-1) : Int32)))) (sy_dh F1 X1 X2 (iv_H 0)))
    (k4 : 1 ≤ (sy_i F 82).toInt → (sy_i F 82).toInt ≤ 9 → 0 ≤ (sy_i F 83).toInt → (sy_i F 83).toInt ≤ 9 → (sy_i F 79).toInt < 7 → ∀ F1 : Nat → sy_d, iv_in F1 iv_B0 → (∀ j, j < 82 → j ∉ ([79, 80, 81] : List Nat) → F1 j = F j) → (sy_i F1 79).toInt = ((sy_i F 79).toInt + 1) → sy_i F1 79 = (sy_i F 79) + ((1 : Int32)) → sy_ai F1 80 = jm_upd (sy_ai F 80) ((sy_i F 79).toInt).toNat (sy_i F 82) → sy_ai F1 81 = jm_upd (sy_ai F 81) ((sy_i F 79).toInt).toNat (sy_i F 83) → Q (some (.int (((sy_i F 79) + ((1 : Int32))) - ((1 : Int32))))) (sy_dh F1 X1 X2 (iv_H 0)))
    (k5 : 1 ≤ (sy_i F 82).toInt → (sy_i F 82).toInt ≤ 9 → 0 ≤ (sy_i F 83).toInt → (sy_i F 83).toInt ≤ 9 → 7 ≤ (sy_i F 79).toInt → ∀ F1 : Nat → sy_d, iv_in F1 iv_B0 → (∀ j, j < 82 → j ∉ ([] : List Nat) → F1 j = F j) → Q (some (.int (((-1) : Int32)))) (sy_dh F1 X1 X2 (iv_H 0))) :
    hd_W Ls xs d jm_M108 Q (0, sy_dL F [some (.inl (.ref 8)), some (.inr (.inl 82)), some (.inr (.inl 83))], sy_dS F [], sy_dh F X1 X2 (iv_H 0), 0, 0) := by
  by_cases g0 : (sy_i F 82).toInt < 1
  · exact j0tq_0_p0 hd F X1 X2 hB (by first | exact g0 | (simp only [nz_c]; exact g0)) (fun F1 g  => k0 g0 F1 (nz_in0 hB [] (fun j hj hn => g j hj (by simp only [List.mem_cons, List.not_mem_nil, or_false, not_or] at hn; exact trivial)) (List.forall_mem_nil _)) (fun j hj hn => g j hj (by simp only [List.mem_cons, List.not_mem_nil, or_false, not_or] at hn; exact trivial)) )
  replace g0 : 1 ≤ (sy_i F 82).toInt := by omega
  by_cases g1 : 9 < (sy_i F 82).toInt
  · exact j0tq_0_p1 hd F X1 X2 hB (by first | exact g0 | (simp only [nz_c]; exact g0)) (by first | exact g1 | (simp only [nz_c]; exact g1)) (fun F1 g  => k1 g0 g1 F1 (nz_in0 hB [] (fun j hj hn => g j hj (by simp only [List.mem_cons, List.not_mem_nil, or_false, not_or] at hn; exact trivial)) (List.forall_mem_nil _)) (fun j hj hn => g j hj (by simp only [List.mem_cons, List.not_mem_nil, or_false, not_or] at hn; exact trivial)) )
  replace g1 : (sy_i F 82).toInt ≤ 9 := by omega
  by_cases g2 : (sy_i F 83).toInt < 0
  · exact j0tq_0_p2 hd F X1 X2 hB (by first | exact g0 | (simp only [nz_c]; exact g0)) (by first | exact g1 | (simp only [nz_c]; exact g1)) (by first | exact g2 | (simp only [nz_c]; exact g2)) (fun F1 g  => k2 g0 g1 g2 F1 (nz_in0 hB [] (fun j hj hn => g j hj (by simp only [List.mem_cons, List.not_mem_nil, or_false, not_or] at hn; exact trivial)) (List.forall_mem_nil _)) (fun j hj hn => g j hj (by simp only [List.mem_cons, List.not_mem_nil, or_false, not_or] at hn; exact trivial)) )
  replace g2 : 0 ≤ (sy_i F 83).toInt := by omega
  by_cases g3 : 9 < (sy_i F 83).toInt
  · exact j0tq_0_p3 hd F X1 X2 hB (by first | exact g0 | (simp only [nz_c]; exact g0)) (by first | exact g1 | (simp only [nz_c]; exact g1)) (by first | exact g2 | (simp only [nz_c]; exact g2)) (by first | exact g3 | (simp only [nz_c]; exact g3)) (fun F1 g  => k3 g0 g1 g2 g3 F1 (nz_in0 hB [] (fun j hj hn => g j hj (by simp only [List.mem_cons, List.not_mem_nil, or_false, not_or] at hn; exact trivial)) (List.forall_mem_nil _)) (fun j hj hn => g j hj (by simp only [List.mem_cons, List.not_mem_nil, or_false, not_or] at hn; exact trivial)) )
  replace g3 : (sy_i F 83).toInt ≤ 9 := by omega
  by_cases g4 : (sy_i F 79).toInt < 7
  · have c79 := nz_bx hB (k := 79) (lo := 0) (hi := 7) rfl
    have n86 : nzI ((sy_i F 79) + ((1 : Int32))) (((sy_i F 79).toInt + 1)) := nz_add (rfl : (sy_i F 79).toInt = (sy_i F 79).toInt) (by decide : ((1 : Int32)).toInt = 1) (by omega) (by omega)
    have w84 : jm_upd (sy_ai F 80) (sy_i F 79).toNatClampNeg (sy_i F 82) = jm_upd (sy_ai F 80) ((sy_i F 79).toInt).toNat (sy_i F 82) := by simp only [nz_c]
    have w85 : jm_upd (sy_ai F 81) (sy_i F 79).toNatClampNeg (sy_i F 83) = jm_upd (sy_ai F 81) ((sy_i F 79).toInt).toNat (sy_i F 83) := by simp only [nz_c]
    exact j0tq_0_p4 hd F X1 X2 hB (by first | exact g0 | (simp only [nz_c]; exact g0)) (by first | exact g1 | (simp only [nz_c]; exact g1)) (by first | exact g2 | (simp only [nz_c]; exact g2)) (by first | exact g3 | (simp only [nz_c]; exact g3)) (by first | exact g4 | (simp only [nz_c]; exact g4)) (by first | exact ⟨by omega, by omega⟩ | (simp only [nz_c]; exact ⟨by omega, by omega⟩)) (by first | exact ⟨by omega, by omega⟩ | (simp only [nz_c]; exact ⟨by omega, by omega⟩)) (fun F1 g e79 e80 e81 => by rw [(rfl : ((sy_i F 79) + ((1 : Int32))) - ((1 : Int32)) = ((sy_i F 79) + ((1 : Int32))) - ((1 : Int32)))]; exact k4 g0 g1 g2 g3 g4 F1 (nz_in0 hB [79, 80, 81] (fun j hj hn => g j hj (by simp only [List.mem_cons, List.not_mem_nil, or_false, not_or] at hn; omega)) (List.forall_mem_cons.mpr ⟨fun t ht => (Option.some.inj ht) ▸ (nz_hi e79 (nzE n86) (by omega) (by omega)), List.forall_mem_cons.mpr ⟨fun t ht => (Option.some.inj ht) ▸ (nz_hz2 e80), List.forall_mem_cons.mpr ⟨fun t ht => (Option.some.inj ht) ▸ (nz_hz2 e81), List.forall_mem_nil _⟩⟩⟩)) (fun j hj hn => g j hj (by simp only [List.mem_cons, List.not_mem_nil, or_false, not_or] at hn; omega)) ((congrArg Int32.toInt (zz_i e79)).trans (nzE n86)) ((zz_i e79).trans (rfl : (sy_i F 79) + ((1 : Int32)) = (sy_i F 79) + ((1 : Int32)))) ((zz_ai e80).trans w84) ((zz_ai e81).trans w85))
  replace g4 : 7 ≤ (sy_i F 79).toInt := by omega
  have c79 := nz_bx hB (k := 79) (lo := 0) (hi := 7) rfl
  exact j0tq_0_p5 hd F X1 X2 hB (by first | exact g0 | (simp only [nz_c]; exact g0)) (by first | exact g1 | (simp only [nz_c]; exact g1)) (by first | exact g2 | (simp only [nz_c]; exact g2)) (by first | exact g3 | (simp only [nz_c]; exact g3)) (by first | exact g4 | (simp only [nz_c]; exact g4)) (fun F1 g  => k5 g0 g1 g2 g3 g4 F1 (nz_in0 hB [] (fun j hj hn => g j hj (by simp only [List.mem_cons, List.not_mem_nil, or_false, not_or] at hn; exact trivial)) (List.forall_mem_nil _)) (fun j hj hn => g j hj (by simp only [List.mem_cons, List.not_mem_nil, or_false, not_or] at hn; exact trivial)) )
end
section
/-! ===== prop, shake, hours on the class's side (shape 0) ===== -/
section SH0
variable {Ls : Nat} {xs : Nat → Int32} {T : tX} {g : gS} (F : Nat → sy_d) (X1 X2 : List jm_c)
theorem j0pr_W (hC : xC 3 T F) (hg : gC 50 (nfS T) (nbS T) F g) {U : List gS} (hT : trC (nfS T) (nbS T) F U) {f w : Int32} (hf : 0 ≤ f.toInt ∧ f.toInt < nfS T) (hw : 0 ≤ w.toInt ∧ w.toInt ≤ 1) {F1 : Nat → sy_d} (q1 : qC [] F F1) (j82 : sy_i F1 82 = f) (j83 : sy_i F1 83 = w) :
    hd_W Ls xs 3 jm_M89 (pI 0 X1 X2 (fun x F' => x = 1 ∧ qC [57, 74, 75, 76] F F' ∧ gC 50 (nfS T) (nbS T) F' (upS g 5 f.toInt.toNat w) ∧ trC (nfS T) (nbS T) F' (rmS g U))) (53, sy_dL F1 [some (.inl (.ref 8)), some (.inr (.inl 82)), none, some (.inr (.inl 83))], sy_dS F1 [.inl (.ref 46), .inl (.ref 66)], sy_dh F1 X1 X2 (iv_H 0), 0, 0) := by
  have l7 : nfS T ≤ 7 := hC.2.2.1.1.1
  have l4 : nbS T ≤ 4 := hC.2.2.1.1.2.1
  have f1 : ∀ j, j < 82 → F1 j = F j := fun j hj => q1.2 j hj (by simp)
  refine hd_calV (R := fun F' => qC [74, 75, 76] F1 F' ∧ trC (nfS T) (nbS T) F' (rmS g U)) (nh := 82) (nv := 84) (s := 0) (s1 := 0) (d1 := 2) (M1 := jm_M78) (As := [.inl (.ref 66), .inl (.ref 46)]) (rest := []) jm_ok89 rfl rfl (by decide) (by decide +kernel) (j0re_V F1 X1 X2 q1.1 l7 l4 (gC_eq hg (fun j h1 h2 => f1 j (by omega))) (trC_eq hT (f1 74 (by decide)) (f1 75 (by decide)) (f1 76 (by decide)))) (fun F3 F' hR p1 p2 => ?_)
  obtain ⟨r1, r2⟩ := hR
  have r1' : qC [74, 75, 76] F1 F3 := qC_dst r1 p1
  have k82 : sy_i F3 82 = f := (eI (p2 82 (by decide) (by decide))).trans j82
  have k83 : sy_i F3 83 = w := (eI (p2 83 (by decide) (by decide))).trans j83
  refine j0pr_56 (by decide) F3 X1 X2 r1'.1 (by rw [k82]; omega) (by rw [k83]; omega) ?_
  intro F4 hb4 g4 a57
  rw [k82, k83] at a57
  have f3 : ∀ j, 50 ≤ j → j < 62 → F3 j = F j := fun j h1 h2 => (r1'.2 j (by omega) (by simp; omega)).trans (f1 j (by omega))
  exact ⟨_, F4, rfl, rfl, rfl, qq_on (qq_trans (qq_up q1 (by decide)) (qq_up r1' (by decide))) hb4 g4 (by decide), gC_up (gC_eq hg (fun j h1 h2 => f3 j h1 (by omega))) (by decide) rfl a57 (fun j h1 h2 h3 => g4 j (by omega) (by intro z; simp at z; exact h3 z)), trC_eq r2 ((g4 74 (by decide) (by decide)).trans (p1 74 (by decide))) ((g4 75 (by decide) (by decide)).trans (p1 75 (by decide))) ((g4 76 (by decide) (by decide)).trans (p1 76 (by decide)))⟩
theorem j0pr_V (hC : xC 3 T F) (hg : gC 50 (nfS T) (nbS T) F g) {U : List gS} (hT : trC (nfS T) (nbS T) F U) (f v : Int32) (hv : 0 ≤ v.toInt ∧ v.toInt ≤ 1) : jm_T Ls xs 3 jm_M89 [.ref 8, .int f, .int v] (sy_dh F X1 X2 (iv_H 0)) 0 0 (pI 0 X1 X2 (fun x F' => (¬ (0 ≤ f.toInt ∧ f.toInt < nfS T ∧ (g 2 f.toInt.toNat).toInt = 0 ∧ g 5 f.toInt.toNat ≠ v) → x = 0 ∧ qC [] F F') ∧ (0 ≤ f.toInt ∧ f.toInt < nfS T ∧ (g 2 f.toInt.toNat).toInt = 0 ∧ g 5 f.toInt.toNat ≠ v → x = 1 ∧ qC [57, 74, 75, 76] F F' ∧ gC 50 (nfS T) (nbS T) F' (upS g 5 f.toInt.toNat v) ∧ trC (nfS T) (nbS T) F' (rmS g U)))) := by
  have l7 : nfS T ≤ 7 := hC.2.2.1.1.1
  have enf : (sy_i F 3).toInt = (nfS T : Int) := hC.2.1.1.1
  refine C_T (by decide) [f, v] [.inl (.ref 8), .inr (.inl 82), .inr (.inl 83)] jm_ok89 (by decide) rfl (fun F0 k0 ki => ?_)
  have i82 : sy_i F0 82 = f := ki 0
  have i83 : sy_i F0 83 = v := ki 1
  have enf0 : (sy_i F0 3).toInt = (nfS T : Int) := by rw [nz_fi (k0 3 (by decide))]; exact enf
  have rd : f.toInt.toNat < nfS T → ((sy_ai F0 54).getD f.toInt.toNat 0) = g 2 f.toInt.toNat := fun h => by
    rw [nz_fa (k0 54 (by decide))]
    exact hg.1 2 _ (by decide) (vF (by decide) h)
  have rp : f.toInt.toNat < nfS T → ((sy_ai F0 57).getD f.toInt.toNat 0) = g 5 f.toInt.toNat := fun h => by
    rw [nz_fa (k0 57 (by decide))]
    exact hg.1 5 _ (by decide) (vF (by decide) h)
  have no : ∀ F1 : Nat → sy_d, iv_in F1 iv_B0 → (∀ j, j < 82 → j ∉ ([] : List Nat) → F1 j = F0 j) → ¬ (0 ≤ f.toInt ∧ f.toInt < nfS T ∧ (g 2 f.toInt.toNat).toInt = 0 ∧ g 5 f.toInt.toNat ≠ v) → pI 0 X1 X2 (fun x F' => (¬ (0 ≤ f.toInt ∧ f.toInt < nfS T ∧ (g 2 f.toInt.toNat).toInt = 0 ∧ g 5 f.toInt.toNat ≠ v) → x = 0 ∧ qC [] F F') ∧ (0 ≤ f.toInt ∧ f.toInt < nfS T ∧ (g 2 f.toInt.toNat).toInt = 0 ∧ g 5 f.toInt.toNat ≠ v → x = 1 ∧ qC [57, 74, 75, 76] F F' ∧ gC 50 (nfS T) (nbS T) F' (upS g 5 f.toInt.toNat v) ∧ trC (nfS T) (nbS T) F' (rmS g U))) (some (.int (0 : Int32))) (sy_dh F1 X1 X2 (iv_H 0)) := fun F1 hb1 gg h => ⟨_, F1, rfl, rfl, fun _ => ⟨rfl, qq_src (qq_mk hb1 gg (by decide)) k0⟩, fun z => absurd z h⟩
  have yes : ∀ (F1 : Nat → sy_d) (w : Int32), w = v → iv_in F1 iv_B0 → (∀ j, j < 82 → j ∉ ([] : List Nat) → F1 j = F0 j) → sy_i F1 82 = sy_i F0 82 → sy_i F1 83 = w → (0 ≤ f.toInt ∧ f.toInt < nfS T ∧ (g 2 f.toInt.toNat).toInt = 0 ∧ g 5 f.toInt.toNat ≠ v) → hd_W Ls xs 3 jm_M89 (pI 0 X1 X2 (fun x F' => (¬ (0 ≤ f.toInt ∧ f.toInt < nfS T ∧ (g 2 f.toInt.toNat).toInt = 0 ∧ g 5 f.toInt.toNat ≠ v) → x = 0 ∧ qC [] F F') ∧ (0 ≤ f.toInt ∧ f.toInt < nfS T ∧ (g 2 f.toInt.toNat).toInt = 0 ∧ g 5 f.toInt.toNat ≠ v → x = 1 ∧ qC [57, 74, 75, 76] F F' ∧ gC 50 (nfS T) (nbS T) F' (upS g 5 f.toInt.toNat v) ∧ trC (nfS T) (nbS T) F' (rmS g U)))) (53, sy_dL F1 [some (.inl (.ref 8)), some (.inr (.inl 82)), none, some (.inr (.inl 83))], sy_dS F1 [.inl (.ref 46), .inl (.ref 66)], sy_dh F1 X1 X2 (iv_H 0), 0, 0) := fun F1 w ew hb1 gg j82 j83 h => by
    subst ew
    refine hd_mono (j0pr_W F X1 X2 hC hg hT ⟨h.1, h.2.1⟩ hv (qq_src (qq_mk hb1 gg (by decide)) k0) (j82.trans i82) j83) ?_
    rintro x G ⟨r, F', e1, e2, e3⟩
    exact ⟨r, F', e1, e2, fun z => absurd h z, fun _ => e3⟩
  have z0 : (0 : Int32).toInt = 0 := by decide
  have z1 : (1 : Int32).toInt = 1 := by decide
  refine j0pr_0 (by decide) F0 X1 X2 (hd_iveq0 hC.1 k0) ?_ ?_ ?_ ?_ ?_ ?_ ?_ ?_ ?_ ?_
  · intro cv c0 F1 hb1 gg
    rw [i82] at c0
    exact no F1 hb1 gg (fun h => absurd h.1 (by omega))
  · intro cv c0 c1 F1 hb1 gg
    rw [i82] at c0 c1
    exact no F1 hb1 gg (fun h => absurd h.2.1 (by omega))
  · intro cv c0 c1 c2 F1 hb1 gg
    rw [i82] at c0 c1 c2
    rw [rd (by omega)] at c2
    exact no F1 hb1 gg (fun h => c2 h.2.2.1)
  · intro cv c0 c1 c2 c3 F1 hb1 gg e82 j82 e83 j83
    rw [i83] at cv
    rw [i82] at c0 c1 c2 c3
    rw [rd (by omega)] at c2
    rw [rp (by omega)] at c3
    have ev : (0 : Int32) = v := Int32.toInt_inj.mp (by omega)
    exact yes F1 0 ev hb1 gg j82 j83 ⟨c0, by omega, c2, fun z => c3 (by rw [z, ← ev]; exact z0)⟩
  · intro cv c0 c1 c2 c3 F1 hb1 gg
    rw [i83] at cv
    rw [i82] at c0 c1 c2 c3
    rw [rp (by omega)] at c3
    have ev : (0 : Int32) = v := Int32.toInt_inj.mp (by omega)
    exact no F1 hb1 gg (fun h => h.2.2.2 (Int32.toInt_inj.mp (by rw [← ev]; omega)))
  · intro cv c0 F1 hb1 gg
    rw [i82] at c0
    exact no F1 hb1 gg (fun h => absurd h.1 (by omega))
  · intro cv c0 c1 F1 hb1 gg
    rw [i82] at c0 c1
    exact no F1 hb1 gg (fun h => absurd h.2.1 (by omega))
  · intro cv c0 c1 c2 F1 hb1 gg
    rw [i82] at c0 c1 c2
    rw [rd (by omega)] at c2
    exact no F1 hb1 gg (fun h => c2 h.2.2.1)
  · intro cv c0 c1 c2 c3 F1 hb1 gg e82 j82 e83 j83
    rw [i83] at cv
    rw [i82] at c0 c1 c2 c3
    rw [rd (by omega)] at c2
    rw [rp (by omega)] at c3
    have ev : (1 : Int32) = v := Int32.toInt_inj.mp (by omega)
    exact yes F1 1 ev hb1 gg j82 j83 ⟨c0, by omega, c2, fun z => c3 (by rw [z, ← ev]; exact z1)⟩
  · intro cv c0 c1 c2 c3 F1 hb1 gg
    rw [i83] at cv
    rw [i82] at c0 c1 c2 c3
    rw [rp (by omega)] at c3
    have ev : (1 : Int32) = v := Int32.toInt_inj.mp (by omega)
    exact no F1 hb1 gg (fun h => h.2.2.2 (Int32.toInt_inj.mp (by rw [← ev]; omega)))
noncomputable def j0sqP (T : tX) (g : gS) (U : List gS) (f : Nat) (F : Nat → sy_d) (x : Int32) (F' : Nat → sy_d) : Prop := qC [45, 46, 51, 52, 58, 74, 75, 76] F F' ∧ trC (nfS T) (nbS T) F' (rmS g U) ∧ (fdS T g → x = 1 ∧ gC 50 (nfS T) (nbS T) F' (fndS T g f)) ∧ (¬ fdS T g → x = 0 ∧ gC 50 (nfS T) (nbS T) F' (shkS g f))
theorem j0sq_V (hC : xC 3 T F) (hg : gC 50 (nfS T) (nbS T) F g) {U : List gS} (hT : trC (nfS T) (nbS T) F U) (f : Int32) : jm_T Ls xs 6 jm_M90 [.ref 8, .int f] (sy_dh F X1 X2 (iv_H 0)) 0 0 (pI 0 X1 X2 (fun x F' => (¬ (0 ≤ f.toInt ∧ f.toInt < nfS T) → x = -1 ∧ qC [] F F') ∧ (0 ≤ f.toInt ∧ f.toInt < nfS T → (g 2 f.toInt.toNat).toInt ≠ 0 → x = -2 ∧ qC [] F F') ∧ (0 ≤ f.toInt ∧ f.toInt < nfS T → (g 2 f.toInt.toNat).toInt = 0 → j0sqP T g U f.toInt.toNat F x F'))) := by
  have l7 : nfS T ≤ 7 := hC.2.2.1.1.1
  have l4 : nbS T ≤ 4 := hC.2.2.1.1.2.1
  have enf : (sy_i F 3).toInt = (nfS T : Int) := hC.2.1.1.1
  refine C_T (by decide) [f] [.inl (.ref 8), .inr (.inl 82)] jm_ok90 (by decide) rfl (fun F0 k0 ki => ?_)
  have i82 : sy_i F0 82 = f := ki 0
  have enf0 : (sy_i F0 3).toInt = (nfS T : Int) := by rw [nz_fi (k0 3 (by decide))]; exact enf
  have rd : f.toInt.toNat < nfS T → ((sy_ai F0 54).getD f.toInt.toNat 0) = g 2 f.toInt.toNat := fun h => by
    rw [nz_fa (k0 54 (by decide))]
    exact hg.1 2 _ (by decide) (vF (by decide) h)
  refine j0sq_0 (by decide) F0 X1 X2 (hd_iveq0 hC.1 k0) ?_ ?_ ?_ ?_
  · intro c0 F1 hb1 gg
    rw [i82] at c0
    exact ⟨_, F1, rfl, rfl, fun _ => ⟨rfl, qq_src (qq_mk hb1 gg (by decide)) k0⟩, fun h => absurd h.1 (by omega), fun h => absurd h.1 (by omega)⟩
  · intro c0 c1 F1 hb1 gg
    rw [i82] at c0 c1
    exact ⟨_, F1, rfl, rfl, fun _ => ⟨rfl, qq_src (qq_mk hb1 gg (by decide)) k0⟩, fun h => absurd h.2 (by omega), fun h => absurd h.2 (by omega)⟩
  · intro c0 c1 c2 F1 hb1 gg e82 j82
    rw [i82] at c0 c1 c2 j82
    have hlt : f.toInt.toNat < nfS T := by omega
    rw [rd hlt] at c2
    have q1 : qC [] F F1 := qq_src (qq_mk hb1 gg (by decide)) k0
    have f1 : ∀ j, j < 82 → F1 j = F j := fun j hj => q1.2 j hj (by simp)
    refine hd_calV (R := fun F' => qC [74, 75, 76] F1 F' ∧ trC (nfS T) (nbS T) F' (rmS g U)) (nh := 82) (nv := 83) (s := 0) (s1 := 0) (d1 := 2) (M1 := jm_M78) (As := [.inl (.ref 66), .inl (.ref 46)]) (rest := []) jm_ok90 rfl rfl (by decide) (by decide +kernel) (j0re_V F1 X1 X2 hb1 l7 l4 (gC_eq hg (fun j h1 h2 => f1 j (by omega))) (trC_eq hT (f1 74 (by decide)) (f1 75 (by decide)) (f1 76 (by decide)))) (fun F3 F' hR p1 p2 => ?_)
    obtain ⟨r1, r2⟩ := hR
    have r1' : qC [74, 75, 76] F1 F3 := qC_dst r1 p1
    have q3 : qC [74, 75, 76] F F3 := qq_trans (qq_up q1 (by decide)) r1'
    have t3 : trC (nfS T) (nbS T) F3 (rmS g U) := trC_eq r2 (p1 74 (by decide)) (p1 75 (by decide)) (p1 76 (by decide))
    have k82 : sy_i F3 82 = f := (eI (p2 82 (by decide) (by decide))).trans j82
    have g3 : gC 50 (nfS T) (nbS T) F3 g := gC_eq hg (fun j h1 h2 => q3.2 j (by omega) (by simp; omega))
    have sd3 : sy_i F3 7 = Int32.ofInt T.2.2.2.2.1 := (qq_i q3 (by decide) (by decide)).trans (ofi hC.2.1.2.2.2.2.1).symm
    have n3 : sy_i F3 51 = g 9 1 := g3.2 1 (by decide)
    have h3 : sy_i F3 50 = g 9 0 := g3.2 0 (by decide)
    refine j0sq_36 (by decide) F3 X1 X2 r1'.1 (by rw [k82]; omega) ?_
    intro F4 hb4 g4 e51 i51 a58 e82' i82' e83 i83 e84 i84
    rw [k82] at a58
    rw [n3] at i51
    rw [sd3, n3] at i82'
    rw [h3] at i83
    have i82' : sy_i F4 82 = lotS (Int32.ofInt T.2.2.2.2.1) ((1000000 : Int32) + g 9 1) := i82'
    have q4 : qC [51, 58, 74, 75, 76] F F4 := qq_on (qq_up q3 (by decide)) hb4 g4 (by decide)
    have r6 : (sy_ai F3 58).getD f.toInt.toNat 0 = g 6 f.toInt.toNat := g3.1 6 _ (by decide) (vF (by decide) hlt)
    rw [r6] at a58
    have g4' : gC 50 (nfS T) (nbS T) F4 (shkS g f.toInt.toNat) := gC_upn (k := 1) g3 (by decide) rfl (by decide) a58 i51 (fun j h1 h2 h3 h4 => g4 j (by omega) (by intro z; simp at z; rcases z with z | z; exact h4 z; exact h3 z))
    have t4 : trC (nfS T) (nbS T) F4 (rmS g U) := trC_eq t3 (g4 74 (by decide) (by decide)) (g4 75 (by decide) (by decide)) (g4 76 (by decide) (by decide))
    have c4 := xC_q (by decide) hC q4 (by decide)
    refine hd_calI (R := fun x F' => qC [] F4 F' ∧ x = ppS (mkS (shkS g f.toInt.toNat) (0 : Int32).toInt (nfS T))) (nh := 82) (nv := 84) (s := 0) (s1 := 0) (d1 := 2) (M1 := jm_M12) (As := [.inl (.ref 46), .inl (.int 0), .inr (.inl 84)]) (rest := [.inr (.inl 83), .inl (.ref 10), .inl (.ref 38)]) jm_ok90 rfl rfl (by decide) (by decide +kernel) (j0nhm_V F4 X1 X2 c4 g4' 0 _ (by rw [e84, qq_i q3 (j := 3) (by decide) (by decide)]; exact enf)) (fun F5 F6 x hR5 s1 s2 s3 => ?_)
    obtain ⟨u1, u2⟩ := hR5
    have q5 : qC [51, 58, 74, 75, 76] F F5 := qq_trans q4 (qq_up (qC_dst u1 s1) (by decide))
    have c5 := xC_q (by decide) hC q5 (by decide)
    have k84 : sy_i F5 84 = lfS T g := (zz_i s3).trans (u2.trans (lf_shk T g f.toInt.toNat))
    have k83 : sy_i F5 83 = g 9 0 := (eI (s2 83 (by decide) (by decide))).trans i83
    have k82b : sy_i F5 82 = lotS (Int32.ofInt T.2.2.2.2.1) ((1000000 : Int32) + g 9 1) := (eI (s2 82 (by decide) (by decide))).trans i82'
    have f45 : ∀ j, j < 82 → F5 j = F4 j := fun j hj => (s1 j hj).trans (u1.2 j hj (by simp))
    refine hd_calV (R := fun F' => qC [45, 46] F5 F' ∧ v45 F' 2 = sy_i F5 83 ∧ v45 F' 8 = sy_i F5 84 ∧ v45 F' 3 = Int32.ofInt (windT T (sy_i F5 83) (sy_i F5 84))) (nh := 82) (nv := 83) (s := 0) (s1 := 0) (d1 := 5) (M1 := jm_M17) (As := [.inl (.ref 38), .inl (.ref 10), .inr (.inl 83), .inr (.inl 84)]) (rest := []) jm_ok90 rfl rfl (by decide) (by decide +kernel) (j0sh_V F5 X1 X2 c5 _ _) (fun F7 F8 hR7 w1 w2 => ?_)
    obtain ⟨v1, v2, v3, v4⟩ := hR7
    rw [k83] at v2 v4
    rw [k84] at v3 v4
    have v1' : qC [45, 46] F5 F7 := qC_dst v1 w1
    have q7 : qC [45, 46, 51, 52, 58, 74, 75, 76] F F7 := qq_trans (qq_up q5 (by decide)) (qq_up v1' (by decide))
    have e45 : v45 F7 = v45 F8 := by unfold v45; rw [nz_fa (w1 45 (by decide))]
    have k82c : sy_i F7 82 = lotS (Int32.ofInt T.2.2.2.2.1) ((1000000 : Int32) + g 9 1) := (eI (w2 82 (by decide) (by decide))).trans k82b
    refine j0sq_116 (by decide) F7 X1 X2 q7.1 ?_
    intro F9 hb9 g9 a45 e82'' i82''
    have n7 : sy_i F7 51 = g 9 1 + 1 := (qq_i v1' (by decide) (by decide)).trans ((eI (f45 51 (by decide))).trans i51)
    rw [n7] at a45
    have q9 : qC [45, 46, 51, 52, 58, 74, 75, 76] F F9 := qq_on q7 hb9 g9 (by decide)
    have c9 := xC_q (by decide) hC q9 (by decide)
    have key : ∀ j : Nat, v45 F9 j = if j = (5 : Int).toNat then g 9 1 + 1 else v45 F7 j := fun j => by
      show (sy_ai F9 45).getD j 0 = _
      rw [a45, jm_upd_at]
      rfl
    have hfd : lwT T 5 (v45 F9) = foundT T (g 9 1 + 1) (Int32.ofInt (wiS T g)) (g 9 0) (lfS T g) := lwT_cg hC.2.2.1 (nine9 (fun t => absurd t (by decide)) (fun t => absurd t (by decide)) (fun _ => by rw [key, e45]; exact v2) (fun _ => by rw [key, e45]; exact v4) (fun t => absurd t (by decide)) (fun _ => by rw [key]; rfl) (fun t => absurd t (by decide)) (fun t => absurd t (by decide)) (fun _ => by rw [key, e45]; exact v3))
    refine hd_calI (R := fun x F' => qC [46] F9 F' ∧ x.toInt = lwT T 5 (v45 F9)) (nh := 82) (nv := 83) (s := 0) (s1 := 0) (d1 := 4) (M1 := jm_M21) (As := [.inl (.ref 38), .inl (.ref 10), .inl (.int 5)]) (rest := [.inr (.inl 82)]) jm_ok90 rfl rfl (by decide) (by decide +kernel) (j0tl_V F9 X1 X2 c9 (by decide) (by decide)) (fun FA FB y hRA y1 y2 y3 => ?_)
    obtain ⟨z1, z2⟩ := hRA
    rw [hfd] at z2
    have z1' : qC [46] F9 FA := qC_dst z1 y1
    have qA : qC [45, 46, 51, 52, 58, 74, 75, 76] F FA := qq_trans q9 (qq_up z1' (by decide))
    have m82 : sy_i FA 82 = lotS (Int32.ofInt T.2.2.2.2.1) ((1000000 : Int32) + g 9 1) := (eI (y2 82 (by decide) (by decide))).trans (i82''.trans k82c)
    have m83 : (sy_i FA 83).toInt = foundT T (g 9 1 + 1) (Int32.ofInt (wiS T g)) (g 9 0) (lfS T g) := by rw [zz_i y3]; exact z2
    have fA : ∀ j, j < 82 → j ≠ 45 → j ≠ 46 → FA j = F4 j := fun j hj n1 n2 => (z1'.2 j hj (by simp; omega)).trans ((g9 j hj (by simp; omega)).trans ((v1'.2 j hj (by simp; omega)).trans (f45 j hj)))
    have gA : gC 50 (nfS T) (nbS T) FA (shkS g f.toInt.toNat) := gC_eq g4' (fun j h1 h2 => fA j (by omega) (by omega) (by omega))
    have tA : trC (nfS T) (nbS T) FA (rmS g U) := trC_eq t4 (fA 74 (by decide) (by decide) (by decide)) (fA 75 (by decide) (by decide) (by decide)) (fA 76 (by decide) (by decide) (by decide))
    have hfd2 : fdS T g ↔ (sy_i FA 82).toInt < (sy_i FA 83).toInt := by rw [m82, m83]; exact Iff.rfl
    refine j0sq_145 (by decide) FA X1 X2 qA.1 ?_ ?_
    · intro d0 FC hbC gC'
      have hn : ¬ fdS T g := fun h => absurd (hfd2.mp h) (by omega)
      exact ⟨_, FC, rfl, rfl, fun h => absurd ⟨c0, by omega⟩ h, fun _ h => absurd c2 h, fun _ _ => ⟨qq_on qA hbC gC' (by decide), trC_eq tA (gC' 74 (by decide) (by decide)) (gC' 75 (by decide) (by decide)) (gC' 76 (by decide) (by decide)), fun h => absurd h hn, fun _ => ⟨rfl, gC_eq gA (fun j h1 h2 => gC' j (by omega) (by simp))⟩⟩⟩
    · intro d0 FC hbC gC' e52 i52
      have hy : fdS T g := hfd2.mpr d0
      have n52 : sy_i FA 52 = g 9 2 := (gA.2 2 (by decide)).trans (shkS_9 g f.toInt.toNat).2.2.1
      rw [n52] at i52
      exact ⟨_, FC, rfl, rfl, fun h => absurd ⟨c0, by omega⟩ h, fun _ h => absurd c2 h, fun _ _ => ⟨qq_on qA hbC gC' (by decide), trC_eq tA (gC' 74 (by decide) (by decide)) (gC' 75 (by decide) (by decide)) (gC' 76 (by decide) (by decide)), fun _ => ⟨rfl, gC_93 (gC_n gA (i := 2) (by decide) i52 (fun j h1 h2 h3 => gC' j (by omega) (by intro z; simp at z; exact h3 z))) _⟩, fun h => absurd hy h⟩⟩
  · intro c0 c1 c2 F1 hb1 gg
    rw [i82] at c0 c1 c2
    rw [rd (by omega)] at c2
    exact ⟨_, F1, rfl, rfl, fun h => absurd ⟨c0, by omega⟩ h, fun _ _ => ⟨rfl, qq_src (qq_mk hb1 gg (by decide)) k0⟩, fun _ z => absurd z c2⟩
theorem j0hq_L (hC : xC 3 T F) (hO : okS T g) {U : List gS} {N : Nat} (hN : N ≤ 48) : ∀ (m : Nat) (F1 : Nat → sy_d) (n : Nat), n + m = N → qC [45, 46, 50, 51, 52, 53, 54, 55, 56, 57, 58, 59, 60, 61, 74, 75, 76] F F1 → (sy_i F1 82).toInt = N → (sy_i F1 83).toInt = n → gC 50 (nfS T) (nbS T) F1 (hrsS T (Int32.ofInt T.2.2.2.2.1) g n) → trC (nfS T) (nbS T) F1 U →
    hd_W Ls xs 8 jm_M91 (pI 0 X1 X2 (fun x F' => x = hrsS T (Int32.ofInt T.2.2.2.2.1) g N 9 0 ∧ qC [45, 46, 50, 51, 52, 53, 54, 55, 56, 57, 58, 59, 60, 61, 74, 75, 76] F F' ∧ gC 50 (nfS T) (nbS T) F' (hrsS T (Int32.ofInt T.2.2.2.2.1) g N) ∧ trC (nfS T) (nbS T) F' U)) (29, sy_dL F1 [some (.inl (.ref 8)), some (.inr (.inl 82)), some (.inr (.inl 83))], sy_dS F1 [], sy_dh F1 X1 X2 (iv_H 0), 0, 0) := by
  intro m
  induction m with
  | zero =>
    intro F1 n hm hq e82 e83 hG hU
    have en : n = N := by omega
    subst en
    refine j0hq_29 (by decide) F1 X1 X2 hq.1 (by omega) (by omega) ?_ ?_
    · intro c0 F2 hb gg
      exact ⟨_, F2, rfl, rfl, hG.2 0 (by decide), qq_on hq hb gg (by decide), gC_eq hG (fun j h1 h2 => gg j (by omega) (by simp)), trC_eq hU (gg 74 (by decide) (by decide)) (gg 75 (by decide) (by decide)) (gg 76 (by decide) (by decide))⟩
    · intros
      omega
  | succ m ih =>
    intro F1 n hm hq e82 e83 hG hU
    refine j0hq_29 (by decide) F1 X1 X2 hq.1 (by omega) (by omega) ?_ ?_
    · intros
      omega
    · intro c0 F2 hb gg f82 i82 f83 i83 f84 i84
      have q2 := qq_on hq hb gg (by decide)
      have c2 := xC_q (by decide) hC q2 (by decide)
      have sd2 : sy_i F2 84 = Int32.ofInt T.2.2.2.2.1 := i84.trans ((qq_i hq (by decide) (by decide)).trans (ofi hC.2.1.2.2.2.2.1).symm)
      have g2 : gC 50 (nfS T) (nbS T) F2 (hrsS T (Int32.ofInt T.2.2.2.2.1) g n) := gC_eq hG (fun j h1 h2 => gg j (by omega) (by simp))
      have u2 : trC (nfS T) (nbS T) F2 U := trC_eq hU (gg 74 (by decide) (by decide)) (gg 75 (by decide) (by decide)) (gg 76 (by decide) (by decide))
      refine hd_calV (R := fun F' => qC W0n F2 F' ∧ gC 50 (nfS T) (nbS T) F' (hourS T (sy_i F2 84) (hrsS T (Int32.ofInt T.2.2.2.2.1) g n))) (nh := 82) (nv := 84) (s := 0) (s1 := 0) (d1 := 7) (M1 := jm_M3) (As := [.inl (.ref 41), .inl (.ref 10), .inl (.ref 46), .inr (.inl 84)]) (rest := []) jm_ok91 rfl rfl (by decide) (by decide +kernel) (j0nph_V F2 X1 X2 c2 g2 (okS_hrs hO n) _) (fun F3 F' hR p1 p2 => ?_)
      obtain ⟨r1, r2⟩ := hR
      rw [sd2] at r2
      have r1' : qC W0n F2 F3 := qC_dst r1 p1
      refine j0hq_56 (by decide) F3 X1 X2 r1'.1 (by rw [nz_fi (p2 83 (by decide) (by decide))]; omega) ?_
      intro F4 hb4 g4 h82 k82 h83 k83
      have q4 : qC [45, 46, 50, 51, 52, 53, 54, 55, 56, 57, 58, 59, 60, 61, 74, 75, 76] F F4 := qq_on (qq_trans q2 (qq_up r1' (by decide))) hb4 g4 (by decide)
      refine ih F4 (n + 1) (by omega) q4 (by rw [h82, nz_fi (p2 82 (by decide) (by decide))]; omega) (by rw [h83, nz_fi (p2 83 (by decide) (by decide))]; omega) (gC_eq r2 (fun j h1 h2 => (g4 j (by omega) (by simp)).trans (p1 j (by omega)))) (trC_eq u2 ?_ ?_ ?_)
      · exact (g4 74 (by decide) (by decide)).trans (r1'.2 74 (by decide) (by decide))
      · exact (g4 75 (by decide) (by decide)).trans (r1'.2 75 (by decide) (by decide))
      · exact (g4 76 (by decide) (by decide)).trans (r1'.2 76 (by decide) (by decide))
theorem j0hq_V (hC : xC 3 T F) (hg : gC 50 (nfS T) (nbS T) F g) (hO : okS T g) {U : List gS} (hT : trC (nfS T) (nbS T) F U) (n : Int32) : jm_T Ls xs 8 jm_M91 [.ref 8, .int n] (sy_dh F X1 X2 (iv_H 0)) 0 0 (pI 0 X1 X2 (fun x F' => (¬ (0 ≤ n.toInt ∧ n.toInt ≤ 48) → x = -1 ∧ qC [] F F') ∧ (n.toInt = 0 → x = g 9 0 ∧ qC [] F F') ∧ (1 ≤ n.toInt ∧ n.toInt ≤ 48 → x = hrsS T (Int32.ofInt T.2.2.2.2.1) g n.toInt.toNat 9 0 ∧ qC [45, 46, 50, 51, 52, 53, 54, 55, 56, 57, 58, 59, 60, 61, 74, 75, 76] F F' ∧ gC 50 (nfS T) (nbS T) F' (hrsS T (Int32.ofInt T.2.2.2.2.1) g n.toInt.toNat) ∧ trC (nfS T) (nbS T) F' (rmS g U)))) := by
  have l7 : nfS T ≤ 7 := hC.2.2.1.1.1
  have l4 : nbS T ≤ 4 := hC.2.2.1.1.2.1
  refine C_T (by decide) [n] [.inl (.ref 8), .inr (.inl 82)] jm_ok91 (by decide) rfl (fun F0 k0 ki => ?_)
  have i82 : sy_i F0 82 = n := ki 0
  refine j0hq_0 (by decide) F0 X1 X2 (hd_iveq0 hC.1 k0) ?_ ?_ ?_ ?_
  · intro c0 F1 hb1 gg
    rw [i82] at c0
    exact ⟨_, F1, rfl, rfl, fun _ => ⟨rfl, qq_src (qq_mk hb1 gg (by decide)) k0⟩, fun h => absurd h (by omega), fun h => absurd h.1 (by omega)⟩
  · intro c0 c1 F1 hb1 gg
    rw [i82] at c0 c1
    exact ⟨_, F1, rfl, rfl, fun _ => ⟨rfl, qq_src (qq_mk hb1 gg (by decide)) k0⟩, fun h => absurd h (by omega), fun h => absurd h.2 (by omega)⟩
  · intro c0 c1 c2 F1 hb1 gg
    rw [i82] at c0 c1 c2
    exact ⟨_, F1, rfl, rfl, fun h => absurd ⟨c0, c1⟩ h, fun _ => ⟨(eI (k0 50 (by decide))).trans (hg.2 0 (by decide)), qq_src (qq_mk hb1 gg (by decide)) k0⟩, fun h => absurd h.1 (by omega)⟩
  · intro c0 c1 c2 F1 hb1 gg e82 j82
    rw [i82] at c0 c1 c2 j82
    have q1 : qC [] F F1 := qq_src (qq_mk hb1 gg (by decide)) k0
    have f1 : ∀ j, j < 82 → F1 j = F j := fun j hj => q1.2 j hj (by simp)
    refine hd_calV (R := fun F' => qC [74, 75, 76] F1 F' ∧ trC (nfS T) (nbS T) F' (rmS g U)) (nh := 82) (nv := 83) (s := 0) (s1 := 0) (d1 := 2) (M1 := jm_M78) (As := [.inl (.ref 66), .inl (.ref 46)]) (rest := []) jm_ok91 rfl rfl (by decide) (by decide +kernel) (j0re_V F1 X1 X2 hb1 l7 l4 (gC_eq hg (fun j h1 h2 => f1 j (by omega))) (trC_eq hT (f1 74 (by decide)) (f1 75 (by decide)) (f1 76 (by decide)))) (fun F3 F' hR p1 p2 => ?_)
    obtain ⟨r1, r2⟩ := hR
    have r1' : qC [74, 75, 76] F1 F3 := qC_dst r1 p1
    have q3 : qC [74, 75, 76] F F3 := qq_trans (qq_up q1 (by decide)) r1'
    have k82 : sy_i F3 82 = n := (eI (p2 82 (by decide) (by decide))).trans j82
    refine j0hq_27 (by decide) F3 X1 X2 q3.1 ?_
    intro F4 hb4 g4 h82 m82 h83 m83
    have f4 : ∀ j, j < 82 → F4 j = F3 j := fun j hj => g4 j hj (by simp)
    refine hd_mono (j0hq_L F X1 X2 hC hO (U := rmS g U) (N := n.toInt.toNat) (by omega) n.toInt.toNat F4 0 (by omega) (qq_on (qq_up q3 (by decide)) hb4 g4 (by decide)) (by rw [h82, k82]; omega) h83 (gC_eq hg (fun j h1 h2 => (f4 j (by omega)).trans (q3.2 j (by omega) (by simp; omega)))) (trC_eq r2 ((f4 74 (by decide)).trans (p1 74 (by decide))) ((f4 75 (by decide)).trans (p1 75 (by decide))) ((f4 76 (by decide)).trans (p1 76 (by decide))))) ?_
    rintro x G ⟨r, F', e1, e2, e3⟩
    exact ⟨r, F', e1, e2, fun h => absurd ⟨c0, c1⟩ h, fun h => absurd h (by omega), fun _ => e3⟩
end SH0
end
section
/-! ===== what is told and taped, on the class's side (shape 0) ===== -/
section TT0
variable {Ls : Nat} {xs : Nat → Int32} (X1 X2 : List jm_c)
theorem j0pq_V (F : Nat → sy_d) (hB : iv_in F iv_B0) : jm_T Ls xs 1 jm_M84 [.ref 8] (sy_dh F X1 X2 (iv_H 0)) 0 0 (pI 0 X1 X2 (fun x F' => x = sy_i F 1 ∧ qC [] F F')) := by
  refine hd_T (As := [.inl (.ref 8)]) jm_ok84 (by decide) (j0pq_0 (by decide) F X1 X2 hB ?_)
  intro F1 hb gg
  exact ⟨_, F1, rfl, rfl, rfl, qq_mk hb gg (by decide)⟩
theorem j0fq_V (F : Nat → sy_d) (hB : iv_in F iv_B0) : jm_T Ls xs 1 jm_M109 [.ref 8] (sy_dh F X1 X2 (iv_H 0)) 0 0 (pI 0 X1 X2 (fun x F' => x = sy_i F 79 ∧ qC [79] F F' ∧ (sy_i F' 79).toInt = 0)) := by
  refine hd_T (As := [.inl (.ref 8)]) jm_ok109 (by decide) (j0fq_0 (by decide) F X1 X2 hB ?_)
  intro F1 hb gg e79 i79
  exact ⟨_, F1, rfl, rfl, rfl, qq_mk hb gg (by decide), e79⟩
theorem j0bq_V (F : Nat → sy_d) (hB : iv_in F iv_B0) (v : Int32) : jm_T Ls xs 1 jm_M82 [.ref 8, .int v] (sy_dh F X1 X2 (iv_H 0)) 0 0 (pI 0 X1 X2 (fun x F' => (v.toInt < 0 ∨ (sy_i F 0).toInt < v.toInt → x = -1 ∧ qC [] F F') ∧ (¬ (v.toInt < 0 ∨ (sy_i F 0).toInt < v.toInt) → x.toInt = (sy_i F 0).toInt - v.toInt ∧ qC [0] F F' ∧ (sy_i F' 0).toInt = (sy_i F 0).toInt - v.toInt))) := by
  have c1 := nz_bx hB (k := 0) (lo := 0) (hi := 2000) rfl
  refine C_T (by decide) [v] [.inl (.ref 8), .inr (.inl 82)] jm_ok82 (by decide) rfl (fun F0 k0 ki => ?_)
  have i82 : sy_i F0 82 = v := ki 0
  have e0 : (sy_i F0 0).toInt = (sy_i F 0).toInt := nz_fi (k0 0 (by decide))
  have z82 : (sy_i F0 82).toInt = v.toInt := congrArg Int32.toInt i82
  refine j0bq_0 (by decide) F0 X1 X2 (hd_iveq0 hB k0) (by intros; omega) ?_ ?_ ?_
  · intro c0 F1 hb1 gg
    exact ⟨_, F1, rfl, rfl, fun _ => ⟨rfl, qq_src (qq_mk hb1 gg (by decide)) k0⟩, fun h => absurd (Or.inl (by omega)) h⟩
  · intro c0 c2 F1 hb1 gg f0 i0
    exact ⟨_, F1, rfl, rfl, fun h => absurd h (by omega), fun _ => ⟨by rw [nz_sub rfl rfl (by omega) (by omega)]; omega, qq_src (qq_mk hb1 gg (by decide)) k0, by omega⟩⟩
  · intro c0 c2 F1 hb1 gg
    exact ⟨_, F1, rfl, rfl, fun _ => ⟨rfl, qq_src (qq_mk hb1 gg (by decide)) k0⟩, fun h => absurd (Or.inr (by omega)) h⟩
theorem j0tq_V (F : Nat → sy_d) (hB : iv_in F iv_B0) (a b : Int32) : jm_T Ls xs 2 jm_M108 [.ref 8, .int a, .int b] (sy_dh F X1 X2 (iv_H 0)) 0 0 (pI 0 X1 X2 (fun x F' => (¬ ((1 ≤ a.toInt ∧ a.toInt ≤ 9) ∧ (0 ≤ b.toInt ∧ b.toInt ≤ 9) ∧ (sy_i F 79).toInt < 7) → x = -1 ∧ qC [] F F') ∧ ((1 ≤ a.toInt ∧ a.toInt ≤ 9) ∧ (0 ≤ b.toInt ∧ b.toInt ≤ 9) ∧ (sy_i F 79).toInt < 7 → x.toInt = (sy_i F 79).toInt ∧ qC [79, 80, 81] F F' ∧ (sy_i F' 79).toInt = (sy_i F 79).toInt + 1 ∧ sy_ai F' 80 = jm_upd (sy_ai F 80) (sy_i F 79).toInt.toNat a ∧ sy_ai F' 81 = jm_upd (sy_ai F 81) (sy_i F 79).toInt.toNat b))) := by
  have c1 := nz_bx hB (k := 79) (lo := 0) (hi := 7) rfl
  refine C_T (by decide) [a, b] [.inl (.ref 8), .inr (.inl 82), .inr (.inl 83)] jm_ok108 (by decide) rfl (fun F0 k0 ki => ?_)
  have i82 : sy_i F0 82 = a := ki 0
  have i83 : sy_i F0 83 = b := ki 1
  have e0 : sy_i F0 79 = sy_i F 79 := eI (k0 79 (by decide))
  have z82 : (sy_i F0 82).toInt = a.toInt := congrArg Int32.toInt i82
  have z83 : (sy_i F0 83).toInt = b.toInt := congrArg Int32.toInt i83
  have z79 : (sy_i F0 79).toInt = (sy_i F 79).toInt := congrArg Int32.toInt e0
  have no : ∀ F1 : Nat → sy_d, iv_in F1 iv_B0 → (∀ j, j < 82 → j ∉ ([] : List Nat) → F1 j = F0 j) → ¬ ((1 ≤ a.toInt ∧ a.toInt ≤ 9) ∧ (0 ≤ b.toInt ∧ b.toInt ≤ 9) ∧ (sy_i F 79).toInt < 7) → pI 0 X1 X2 (fun x F' => (¬ ((1 ≤ a.toInt ∧ a.toInt ≤ 9) ∧ (0 ≤ b.toInt ∧ b.toInt ≤ 9) ∧ (sy_i F 79).toInt < 7) → x = -1 ∧ qC [] F F') ∧ ((1 ≤ a.toInt ∧ a.toInt ≤ 9) ∧ (0 ≤ b.toInt ∧ b.toInt ≤ 9) ∧ (sy_i F 79).toInt < 7 → x.toInt = (sy_i F 79).toInt ∧ qC [79, 80, 81] F F' ∧ (sy_i F' 79).toInt = (sy_i F 79).toInt + 1 ∧ sy_ai F' 80 = jm_upd (sy_ai F 80) (sy_i F 79).toInt.toNat a ∧ sy_ai F' 81 = jm_upd (sy_ai F 81) (sy_i F 79).toInt.toNat b)) (some (.int (-1 : Int32))) (sy_dh F1 X1 X2 (iv_H 0)) := fun F1 hb1 gg h => ⟨_, F1, rfl, rfl, fun _ => ⟨rfl, qq_src (qq_mk hb1 gg (by decide)) k0⟩, fun z => absurd z h⟩
  refine j0tq_0 (by decide) F0 X1 X2 (hd_iveq0 hB k0) ?_ ?_ ?_ ?_ ?_ ?_
  · intro d1 F1 hb1 gg
    exact no F1 hb1 gg (by omega)
  · intro d1 d2 F1 hb1 gg
    exact no F1 hb1 gg (by omega)
  · intro d1 d2 d3 F1 hb1 gg
    exact no F1 hb1 gg (by omega)
  · intro d1 d2 d3 d4 F1 hb1 gg
    exact no F1 hb1 gg (by omega)
  · intro d1 d2 d3 d4 d5 F1 hb1 gg f79 i79 a80 a81
    rw [i82, e0, nz_fa (k0 80 (by decide))] at a80
    rw [i83, e0, nz_fa (k0 81 (by decide))] at a81
    have o1 : (1 : Int32).toInt = 1 := by decide
    exact ⟨_, F1, rfl, rfl, fun h => absurd (by omega) h, fun _ => ⟨by rw [nz_sub (nz_add rfl o1 (by omega) (by omega)) o1 (by omega) (by omega)]; omega, qq_src (qq_mk hb1 gg (by decide)) k0, by omega, a80, a81⟩⟩
  · intro d1 d2 d3 d4 d5 F1 hb1 gg
    exact no F1 hb1 gg (by omega)
theorem j0fd_V (F : Nat → sy_d) (hB : iv_in F iv_B0) (a b c d e : Int32) : jm_T Ls xs 2 jm_M81 [.ref 8, .int a, .int b, .int c, .int d, .int e] (sy_dh F X1 X2 (iv_H 0)) 0 0 (pI 0 X1 X2 (fun x F' => (2000 < (sy_i F 0).toInt + 20 → x = -1 ∧ qC [] F F') ∧ (¬ 2000 < (sy_i F 0).toInt + 20 → x.toInt = (sy_i F 0).toInt + 20 ∧ qC [0, 2] F F' ∧ (sy_i F' 0).toInt = (sy_i F 0).toInt + 20 ∧ ub (sy_ai F' 2) ((sy_i F 0).toInt + 20).toNat = apB (apB (apB (apB (apB (ub (sy_ai F 2) (sy_i F 0).toInt.toNat) (sy_i F 0).toInt.toNat a) ((sy_i F 0).toInt.toNat + 4) b) ((sy_i F 0).toInt.toNat + 8) c) ((sy_i F 0).toInt.toNat + 12) d) ((sy_i F 0).toInt.toNat + 16) e))) := by
  obtain ⟨F0, hF0⟩ : ∃ F0, F0 = ny F (fun j => .inl (.int (if j = 0 then a else if j = 1 then b else if j = 2 then c else if j = 3 then d else e))) := ⟨_, rfl⟩
  have k0 : ∀ j, j < 82 → F0 j = F j := fun j hj => by rw [hF0]; exact ny_lt j hj
  have i82 : sy_i F0 82 = a := by rw [hF0]; rfl
  have i83 : sy_i F0 83 = b := by rw [hF0]; rfl
  have i84 : sy_i F0 84 = c := by rw [hF0]; rfl
  have i85 : sy_i F0 85 = d := by rw [hF0]; rfl
  have i86 : sy_i F0 86 = e := by rw [hF0]; rfl
  have hB0 := hd_iveq0 hB k0
  have e00 : (sy_i F0 0).toInt = (sy_i F 0).toInt := nz_fi (k0 0 (by decide))
  have c1 := nz_bx hB0 (k := 0) (lo := 0) (hi := 2000) rfl
  refine nyy_T (by decide) F (fun j => .inl (.int (if j = 0 then a else if j = 1 then b else if j = 2 then c else if j = 3 then d else e))) X1 X2 (A := [.inl (.ref 8), .inr (.inl 82), .inr (.inl 83), .inr (.inl 84), .inr (.inl 85), .inr (.inl 86)]) jm_ok81 (by decide) rfl ?_
  rw [← hF0]
  refine k0ofd_0 (by decide) F0 X1 X2 hB0 ?_ ?_
  · intro q F1 hb g e0 e1 e79 a2 a78 f82 f83 f84 f85 f86
    have hn : ¬ 2000 < (sy_i F 0).toInt + 20 := by omega
    obtain ⟨t, ht⟩ : ∃ t : Nat, t = (sy_i F0 0).toInt.toNat := ⟨_, rfl⟩
    have h1 : fC0 F0 F1 t (ub (sy_ai F0 2) t) := ⟨hb, fun j hj hn => g j hj (by simp), by omega, by rw [a2]⟩
    have v0 : sy_i F1 82 = sy_i F0 82 := Int32.toInt_inj.mp f82
    have v1 : sy_i F1 83 = sy_i F0 83 := Int32.toInt_inj.mp f83
    have v2 : sy_i F1 84 = sy_i F0 84 := Int32.toInt_inj.mp f84
    have v3 : sy_i F1 85 = sy_i F0 85 := Int32.toInt_inj.mp f85
    have v4 : sy_i F1 86 = sy_i F0 86 := Int32.toInt_inj.mp f86
    refine hd_calV (R := fun F' => fC0 F0 F' (t + 4) (apB (ub (sy_ai F0 2) t) (t) (sy_i F0 82))) (nh := 82) (nv := 87) (s := 0) (s1 := 0) (d1 := 1) (M1 := jm_M116) (As := [.inl (.ref 8), .inr (.inl 82)]) (rest := []) jm_ok81 rfl rfl (by decide) (by decide +kernel) (by rw [← v0]; exact k0oap_T X1 X2 F0 F1 h1 (by omega) _) (fun G0 H0 hR0 p0 r0 => ?_)
    have h0a := fC0_eq hR0 p0
    have w0_1 : sy_i G0 83 = sy_i F0 83 := (show sy_i G0 83 = sy_i F1 83 by unfold sy_i; rw [r0 83 (by decide) (by decide)]).trans v1
    have w0_2 : sy_i G0 84 = sy_i F0 84 := (show sy_i G0 84 = sy_i F1 84 by unfold sy_i; rw [r0 84 (by decide) (by decide)]).trans v2
    have w0_3 : sy_i G0 85 = sy_i F0 85 := (show sy_i G0 85 = sy_i F1 85 by unfold sy_i; rw [r0 85 (by decide) (by decide)]).trans v3
    have w0_4 : sy_i G0 86 = sy_i F0 86 := (show sy_i G0 86 = sy_i F1 86 by unfold sy_i; rw [r0 86 (by decide) (by decide)]).trans v4
    refine k0ofd_20 (by decide) G0 X1 X2 h0a.1 ?_
    intro K0 kb0 kg0 z0_e0 z0_e1 z0_e79 z0_a2 z0_a78 y0_0 y0_1 y0_2 y0_3 y0_4
    have h0b := fC0_eq h0a (fun j hj => kg0 j hj (by simp))
    have u0_1 : sy_i K0 83 = sy_i F0 83 := (Int32.toInt_inj.mp y0_1).trans w0_1
    have u0_2 : sy_i K0 84 = sy_i F0 84 := (Int32.toInt_inj.mp y0_2).trans w0_2
    have u0_3 : sy_i K0 85 = sy_i F0 85 := (Int32.toInt_inj.mp y0_3).trans w0_3
    have u0_4 : sy_i K0 86 = sy_i F0 86 := (Int32.toInt_inj.mp y0_4).trans w0_4
    refine hd_calV (R := fun F' => fC0 F0 F' (t + 4 + 4) (apB (apB (ub (sy_ai F0 2) t) (t) (sy_i F0 82)) (t + 4) (sy_i F0 83))) (nh := 82) (nv := 87) (s := 0) (s1 := 0) (d1 := 1) (M1 := jm_M116) (As := [.inl (.ref 8), .inr (.inl 83)]) (rest := []) jm_ok81 rfl rfl (by decide) (by decide +kernel) (by rw [← u0_1]; exact k0oap_T X1 X2 F0 K0 h0b (by omega) _) (fun G1 H1 hR1 p1 r1 => ?_)
    have h1a := fC0_eq hR1 p1
    have w1_2 : sy_i G1 84 = sy_i F0 84 := (show sy_i G1 84 = sy_i K0 84 by unfold sy_i; rw [r1 84 (by decide) (by decide)]).trans u0_2
    have w1_3 : sy_i G1 85 = sy_i F0 85 := (show sy_i G1 85 = sy_i K0 85 by unfold sy_i; rw [r1 85 (by decide) (by decide)]).trans u0_3
    have w1_4 : sy_i G1 86 = sy_i F0 86 := (show sy_i G1 86 = sy_i K0 86 by unfold sy_i; rw [r1 86 (by decide) (by decide)]).trans u0_4
    refine k0ofd_25 (by decide) G1 X1 X2 h1a.1 ?_
    intro K1 kb1 kg1 z1_e0 z1_e1 z1_e79 z1_a2 z1_a78 y1_0 y1_1 y1_2 y1_3 y1_4
    have h1b := fC0_eq h1a (fun j hj => kg1 j hj (by simp))
    have u1_2 : sy_i K1 84 = sy_i F0 84 := (Int32.toInt_inj.mp y1_2).trans w1_2
    have u1_3 : sy_i K1 85 = sy_i F0 85 := (Int32.toInt_inj.mp y1_3).trans w1_3
    have u1_4 : sy_i K1 86 = sy_i F0 86 := (Int32.toInt_inj.mp y1_4).trans w1_4
    refine hd_calV (R := fun F' => fC0 F0 F' (t + 4 + 4 + 4) (apB (apB (apB (ub (sy_ai F0 2) t) (t) (sy_i F0 82)) (t + 4) (sy_i F0 83)) (t + 4 + 4) (sy_i F0 84))) (nh := 82) (nv := 87) (s := 0) (s1 := 0) (d1 := 1) (M1 := jm_M116) (As := [.inl (.ref 8), .inr (.inl 84)]) (rest := []) jm_ok81 rfl rfl (by decide) (by decide +kernel) (by rw [← u1_2]; exact k0oap_T X1 X2 F0 K1 h1b (by omega) _) (fun G2 H2 hR2 p2 r2 => ?_)
    have h2a := fC0_eq hR2 p2
    have w2_3 : sy_i G2 85 = sy_i F0 85 := (show sy_i G2 85 = sy_i K1 85 by unfold sy_i; rw [r2 85 (by decide) (by decide)]).trans u1_3
    have w2_4 : sy_i G2 86 = sy_i F0 86 := (show sy_i G2 86 = sy_i K1 86 by unfold sy_i; rw [r2 86 (by decide) (by decide)]).trans u1_4
    refine k0ofd_30 (by decide) G2 X1 X2 h2a.1 ?_
    intro K2 kb2 kg2 z2_e0 z2_e1 z2_e79 z2_a2 z2_a78 y2_0 y2_1 y2_2 y2_3 y2_4
    have h2b := fC0_eq h2a (fun j hj => kg2 j hj (by simp))
    have u2_3 : sy_i K2 85 = sy_i F0 85 := (Int32.toInt_inj.mp y2_3).trans w2_3
    have u2_4 : sy_i K2 86 = sy_i F0 86 := (Int32.toInt_inj.mp y2_4).trans w2_4
    refine hd_calV (R := fun F' => fC0 F0 F' (t + 4 + 4 + 4 + 4) (apB (apB (apB (apB (ub (sy_ai F0 2) t) (t) (sy_i F0 82)) (t + 4) (sy_i F0 83)) (t + 4 + 4) (sy_i F0 84)) (t + 4 + 4 + 4) (sy_i F0 85))) (nh := 82) (nv := 87) (s := 0) (s1 := 0) (d1 := 1) (M1 := jm_M116) (As := [.inl (.ref 8), .inr (.inl 85)]) (rest := []) jm_ok81 rfl rfl (by decide) (by decide +kernel) (by rw [← u2_3]; exact k0oap_T X1 X2 F0 K2 h2b (by omega) _) (fun G3 H3 hR3 p3 r3 => ?_)
    have h3a := fC0_eq hR3 p3
    have w3_4 : sy_i G3 86 = sy_i F0 86 := (show sy_i G3 86 = sy_i K2 86 by unfold sy_i; rw [r3 86 (by decide) (by decide)]).trans u2_4
    refine k0ofd_36 (by decide) G3 X1 X2 h3a.1 ?_
    intro K3 kb3 kg3 z3_e0 z3_e1 z3_e79 z3_a2 z3_a78 y3_0 y3_1 y3_2 y3_3 y3_4
    have h3b := fC0_eq h3a (fun j hj => kg3 j hj (by simp))
    have u3_4 : sy_i K3 86 = sy_i F0 86 := (Int32.toInt_inj.mp y3_4).trans w3_4
    refine hd_calV (R := fun F' => fC0 F0 F' (t + 4 + 4 + 4 + 4 + 4) (apB (apB (apB (apB (apB (ub (sy_ai F0 2) t) (t) (sy_i F0 82)) (t + 4) (sy_i F0 83)) (t + 4 + 4) (sy_i F0 84)) (t + 4 + 4 + 4) (sy_i F0 85)) (t + 4 + 4 + 4 + 4) (sy_i F0 86))) (nh := 82) (nv := 87) (s := 0) (s1 := 0) (d1 := 1) (M1 := jm_M116) (As := [.inl (.ref 8), .inr (.inl 86)]) (rest := []) jm_ok81 rfl rfl (by decide) (by decide +kernel) (by rw [← u3_4]; exact k0oap_T X1 X2 F0 K3 h3b (by omega) _) (fun G4 H4 hR4 p4 r4 => ?_)
    have h4a := fC0_eq hR4 p4
    refine k0ofd_42 (by decide) G4 X1 X2 h4a.1 ?_
    intro F9 kb kg z_e0 z_e1 z_e79 z_a2 z_a78
    have h6 := h4a
    have q5 := fC0_eq h4a (fun j hj => kg j hj (by simp))
    have w5 := q5.2.2.1
    have w6 := h6.2.2.1
    refine ⟨_, F9, rfl, rfl, fun h => absurd h hn, fun _ => ⟨by omega, ⟨q5.1, fun j hj hn => (q5.2.1 j hj hn).trans (k0 j hj)⟩, by omega, ?_⟩⟩
    have hA := q5.2.2.2
    rw [i82, i83, i84, i85, i86, nz_fa (k0 2 (by decide))] at hA
    have ht2 : (sy_i F 0).toInt.toNat = t := by omega
    rw [ht2, show ((sy_i F 0).toInt + 20).toNat = t + 4 + 4 + 4 + 4 + 4 by omega]
    exact hA
  · intro q F1 hb g e0 e1 e79 a2 a78
    have hn : 2000 < (sy_i F 0).toInt + 20 := by omega
    exact ⟨_, F1, rfl, rfl, fun _ => ⟨rfl, qq_src (qq_mk hb g (by decide)) k0⟩, fun h => absurd hn h⟩
end TT0
end
section
/-! ===== the class reads: what is behind it (shape 0) ===== -/
section RV0
variable {Ls : Nat} {xs : Nat → Int32} (X1 X2 : List jm_c)
noncomputable def j0rdP (F : Nat → sy_d) (B : Nat → Int) (e : Nat) (v : Option Value) (G : jm_h) : Prop := ∃ (r : Int32) (t : Nat) (F' : Nat → sy_d), v = some (.int r) ∧ G = sy_dh F' X1 X2 (iv_H t) ∧ r.toInt = (rdA B e).1 ∧ iv_in F' iv_B0 ∧ jx_ok F' ∧ sy_al F' 42 = wls ∧ (sy_i F' 0).toInt = 0 ∧ (sy_i F' 1).toInt = (rdA B e).2 ∧ ((rdA B e).1 ≠ 0 → t = 0 ∧ ∀ j, j < 82 → j ∉ (0 :: 1 :: 39 :: 40 :: 41 :: 35 :: k0_WP) → F' j = F j) ∧ ((rdA B e).1 = 0 → t = 2 ∧ xC 18 (rdT B e) F' ∧ gC 50 (nfS (rdT B e)) (nbS (rdT B e)) F' (begS (rdT B e)) ∧ rstC 18 (rdT B e) F' ∧ (sy_i F' 75).toInt = 0 ∧ (sy_i F' 74).toInt = 0 ∧ (sy_i F' 79).toInt = 0 ∧ ∀ j, j < 3 → (sy_ai F' 78).getD j 0 = 0)
theorem j0rd_V (F : Nat → sy_d) (hB : iv_in F iv_B0) (hJ : jx_ok F) (hw : sy_al F 42 = wls) : jm_T Ls xs 29 jm_M83 [.ref 8] (sy_dh F X1 X2 (iv_H 0)) 0 0 (j0rdP X1 X2 F (ub (sy_ai F 2) (sy_i F 0).toInt.toNat) (sy_i F 0).toInt.toNat) := by
  have c0 := nz_bx hB (k := 0) (lo := 0) (hi := 2000) rfl
  refine hd_T (As := [.inl (.ref 8)]) jm_ok83 (by decide) (k0ord_0 (by decide) F X1 X2 hB ?_)
  intro F1 hb g e0 e1 e35 e79 a2 a78 f82
  have g1 : ∀ j, j < 82 → F1 j = F j := fun j hj => g j hj (by simp)
  refine hd_calI (R := fun x F' => gc (39 :: 40 :: 41 :: 35 :: k0_WP) F1 F' ∧ jx_ok F' ∧ x.toInt = (rdA (ub (sy_ai F1 2) (sy_i F 0).toInt.toNat) (sy_i F 0).toInt.toNat).1 ∧ (sy_i F' 35).toInt = (rdA (ub (sy_ai F1 2) (sy_i F 0).toInt.toNat) (sy_i F 0).toInt.toNat).2 ∧ (x.toInt = 0 → rXc 18 (rdT (ub (sy_ai F1 2) (sy_i F 0).toInt.toNat) (sy_i F 0).toInt.toNat) F' ∧ (sy_i F' 23).toInt ≤ 412)) (nh := 82) (nv := 82) (s := 0) (s1 := 0) (d1 := 28) (M1 := jm_M31) (As := [.inl (.ref 30), .inl (.ref 9), .inr (.inl 82), .inl (.ref 20)]) (rest := []) jm_ok83 rfl rfl (by decide) (by decide +kernel) (k0py_C X1 X2 F1 hb (jx_ok_eq (g1 39 (by decide)) (g1 41 (by decide)) hJ) ((nz_fl (g1 42 (by decide))).trans hw) _ (e := (sy_i F 0).toInt.toNat) (by omega) (by omega)) (fun F3 F' x hR p1 _ p3 => ?_)
  obtain ⟨r1, r2, r3, r4, r5⟩ := hR
  rw [a2] at r3 r4 r5
  have hb3 := hd_iveq0 r1.1 p1
  have m82 : (sy_i F3 82).toInt = (rdA (ub (sy_ai F 2) (sy_i F 0).toInt.toNat) (sy_i F 0).toInt.toNat).1 := by rw [zz_i p3, r3]
  have m35 : (sy_i F3 35).toInt = (rdA (ub (sy_ai F 2) (sy_i F 0).toInt.toNat) (sy_i F 0).toInt.toNat).2 := by rw [nz_fi (p1 35 (by decide)), r4]
  obtain ⟨B, eB⟩ : ∃ B, B = ub (sy_ai F 2) (sy_i F 0).toInt.toNat := ⟨_, rfl⟩
  obtain ⟨E, eE⟩ : ∃ E, E = (sy_i F 0).toInt.toNat := ⟨_, rfl⟩
  rw [← eB, ← eE] at m82 m35 r5
  rw [← eB, ← eE]
  have g3 : ∀ j, j < 82 → j ∉ (39 :: 40 :: 41 :: 35 :: k0_WP) → F3 j = F j := fun j hj hn => (p1 j hj).trans ((r1.2 j hj hn).trans (g1 j hj))
  have j3 : jx_ok F3 := jx_ok_eq (p1 39 (by decide)) (p1 41 (by decide)) r2
  have w3 : sy_al F3 42 = wls := (nz_fl (g3 42 (by decide) (by decide))).trans hw
  refine k0ord_19 (by decide) F3 X1 X2 hb3 ?_ ?_
  · intro q F4 hb4 g4 e0' e1' e35' e79' a2' a78'
    have gg : ∀ j, j < 82 → j ∉ (0 :: 1 :: 39 :: 40 :: 41 :: 35 :: k0_WP) → F4 j = F j := fun j hj hn => (g4 j hj (fun q => hn (by revert q; simp; omega))).trans (g3 j hj (fun q => hn (List.mem_cons_of_mem _ (List.mem_cons_of_mem _ q))))
    exact ⟨_, 0, F4, rfl, rfl, m82, hb4, jx_ok_eq (g4 39 (by decide) (by decide)) (g4 41 (by decide) (by decide)) j3, (nz_fl (g4 42 (by decide) (by decide))).trans w3, e0', e1'.trans m35, fun _ => ⟨rfl, gg⟩, fun z => absurd (m82.trans z) q⟩
  · intro q F4 hb4 g4 e0' e1' e35' e79' a2' a78' f82'
    have hA : (rdA B E).1 = 0 := m82.symm.trans q
    obtain ⟨x1, x2⟩ := r5 (by rw [← zz_i p3]; exact q)
    have hT : wT (rdT B E) := rdT_wf hA
    have f4 : ∀ j, j < 82 → j ≠ 0 → j ≠ 1 → F4 j = F' j := fun j hj n0 n1 => (g4 j hj (by simp; omega)).trans (p1 j hj)
    have j4 : jx_ok F4 := jx_ok_eq (g4 39 (by decide) (by decide)) (g4 41 (by decide) (by decide)) j3
    have c4 : xC 18 (rdT B E) F4 := ⟨hb4, rXc_e9 x1 (fun j h1 h2 h3 => f4 j (by omega) (by omega) (by omega)), hT, by rw [nz_fi (f4 23 (by decide) (by decide) (by decide))]; exact x2⟩
    refine hd_calV (R := fun F' => qC jw2_BE F4 F' ∧ gC 50 (nfS (rdT B E)) (nbS (rdT B E)) F' (begS (rdT B E)) ∧ rstC 18 (rdT B E) F' ∧ (sy_i F' 75).toInt = 0 ∧ (sy_i F' 74).toInt = 0 ∧ (sy_i F' 79).toInt = 0 ∧ ∀ j, j < 3 → (sy_ai F' 78).getD j 0 = 0) (nh := 82) (nv := 83) (s := 2) (s1 := 2) (d1 := 8) (M1 := jm_M117) (As := [.inl (.ref 8)]) (rest := []) jm_ok83 rfl rfl (by decide) (by decide +kernel) (j2be_V F4 X1 X2 c4 j4) (fun F5 F6 hR6 p5 u5 => ?_)
    obtain ⟨y1, y2, y3, y4, y5, y6, y7⟩ := hR6
    have n82 := nz_fi (u5 82 (by decide) (by decide))
    refine k2ord_62 (by decide) F5 X1 X2 (hd_iveq0 y1.1 p5) ?_
    intro F7 hb7 g7 e0'' e1'' e79'' a2'' a78''
    have p7 : ∀ j, j < 82 → F7 j = F6 j := fun j hj => (g7 j hj (by simp)).trans (p5 j hj)
    have q7 : qC jw2_BE F4 F7 := qC_dst y1 p7
    refine ⟨_, 2, F7, rfl, rfl, ?_, hb7, jx_ok_eq (q7.2 39 (by decide) (by decide)) (q7.2 41 (by decide) (by decide)) j4, ?_, ?_, ?_, fun z => absurd hA z, fun _ => ⟨rfl, xC_q (by decide) c4 q7 (by decide), gC_eq y2 (fun j h1 h2 => p7 j (by omega)), fun f hf => ?_, ?_, ?_, ?_, fun j hj => ?_⟩⟩
    · show (sy_i F5 82).toInt = _
      rw [n82, f82']
      exact m82
    · rw [nz_fl (q7.2 42 (by decide) (by decide)), nz_fl (g4 42 (by decide) (by decide))]
      exact w3
    · rw [nz_fi (q7.2 0 (by decide) (by decide))]
      exact e0'
    · rw [nz_fi (q7.2 1 (by decide) (by decide))]
      exact e1'.trans m35
    · rw [nz_fa (p7 (18 + 9) (by decide))]
      exact y3 f hf
    · rw [nz_fi (p7 75 (by decide))]
      exact y4
    · rw [nz_fi (p7 74 (by decide))]
      exact y5
    · rw [nz_fi (p7 79 (by decide))]
      exact y6
    · rw [nz_fa (p7 78 (by decide))]
      exact y7 j hj
end RV0
end
section
/-! ===== shake, hours, what is told and taped, way by way (shape 1) ===== -/
theorem j1sq_0_p0 {Ls : Nat} {xs : Nat → Int32} {d : Nat} {Q : Option Value → jm_h → Prop} (hd : 2 ≤ d) (F : Nat → sy_d) (X1 X2 : List jm_c) (hB : iv_in F iv_B0)
    (h0 : (sy_i F 82).toInt < 0)
    (k : ∀ F1 : Nat → sy_d, (∀ j, j < 82 → True → F1 j = F j) → Q (some (.int (((-1) : Int32)))) (sy_dh F1 X1 X2 (iv_H 1))) :
    hd_W Ls xs d jm_M90 Q (0, sy_dL F [some (.inl (.ref 8)), some (.inr (.inl 82)), none, none], sy_dS F [], sy_dh F X1 X2 (iv_H 1), 0, 0) := by
  refine hd_ret (s := 1) (nv := 83) (v := some (.inl (.int (-1)))) (uh := hd_ov (iv_id 0 iv_B0) []) (f := true) (sp := [33]) (d0 := 1) (O := [true]) (T := []) (P := [(2, .inr (.inl 82), .inl (.int 0))]) jm_ok90 (by decide +kernel) (by decide +kernel) hd F X1 X2 (fun F' hF hs => ?_)
  have b82 := hd_b (F := F) (F' := F') (k := 82) (hF 82 (by decide))
  have hB' : iv_in F' iv_B0 := iv_in_eq hB (fun j hj => hF j (Nat.lt_of_lt_of_le hj (by decide +kernel)))
  refine ⟨List.forall_mem_cons.mpr ⟨hd_p2 b82 rfl (by have hc : ((0) : Int32).toInt = 0 := (by decide); omega), fun _ h => absurd h List.not_mem_nil⟩, ?_⟩
  refine k _ ?_
  · exact fun j hj _ => (hd_keep hB' (Nat.lt_of_lt_of_le hj (by decide +kernel)) (by simp)).trans (hF j (Nat.lt_of_lt_of_le hj (by decide)))
theorem j1sq_0_p1 {Ls : Nat} {xs : Nat → Int32} {d : Nat} {Q : Option Value → jm_h → Prop} (hd : 2 ≤ d) (F : Nat → sy_d) (X1 X2 : List jm_c) (hB : iv_in F iv_B0)
    (h0 : 0 ≤ (sy_i F 82).toInt)
    (h1 : (sy_i F 3).toInt ≤ (sy_i F 82).toInt)
    (k : ∀ F1 : Nat → sy_d, (∀ j, j < 82 → True → F1 j = F j) → Q (some (.int (((-1) : Int32)))) (sy_dh F1 X1 X2 (iv_H 1))) :
    hd_W Ls xs d jm_M90 Q (0, sy_dL F [some (.inl (.ref 8)), some (.inr (.inl 82)), none, none], sy_dS F [], sy_dh F X1 X2 (iv_H 1), 0, 0) := by
  refine hd_ret (s := 1) (nv := 83) (v := some (.inl (.int (-1)))) (uh := hd_ov (iv_id 0 iv_B0) []) (f := true) (sp := [33]) (d0 := 1) (O := [false, true]) (T := []) (P := [(3, .inr (.inl 82), .inl (.int 0)), (4, .inr (.inl 3), .inr (.inl 82))]) jm_ok90 (by decide +kernel) (by decide +kernel) hd F X1 X2 (fun F' hF hs => ?_)
  have b82 := hd_b (F := F) (F' := F') (k := 82) (hF 82 (by decide))
  have b3 := hd_b (F := F) (F' := F') (k := 3) (hF 3 (by decide))
  have hB' : iv_in F' iv_B0 := iv_in_eq hB (fun j hj => hF j (Nat.lt_of_lt_of_le hj (by decide +kernel)))
  refine ⟨List.forall_mem_cons.mpr ⟨hd_p3 b82 rfl (by have hc : ((0) : Int32).toInt = 0 := (by decide); omega), List.forall_mem_cons.mpr ⟨hd_p4 b3 b82 h1, fun _ h => absurd h List.not_mem_nil⟩⟩, ?_⟩
  refine k _ ?_
  · exact fun j hj _ => (hd_keep hB' (Nat.lt_of_lt_of_le hj (by decide +kernel)) (by simp)).trans (hF j (Nat.lt_of_lt_of_le hj (by decide)))
theorem j1sq_0_p2 {Ls : Nat} {xs : Nat → Int32} {d : Nat} {Q : Option Value → jm_h → Prop} (hd : 2 ≤ d) (F : Nat → sy_d) (X1 X2 : List jm_c) (hB : iv_in F iv_B0)
    (h0 : 0 ≤ (sy_i F 82).toInt)
    (h1 : (sy_i F 82).toInt < (sy_i F 3).toInt)
    (h2 : 0 ≤ (sy_i F 82).toInt ∧ (sy_i F 82).toInt < 7)
    (h3 : ((sy_ai F 54).getD (sy_i F 82).toNatClampNeg 0).toInt = 0)
    (k : ∀ F1 : Nat → sy_d, (∀ j, j < 82 → True → F1 j = F j) → F1 82 = .inl (.int (sy_i F 82)) → hd_W Ls xs d jm_M90 Q (33, sy_dL F1 [some (.inl (.ref 8)), some (.inr (.inl 82)), none, none], sy_dS F1 [.inl (.ref 46), .inl (.ref 66)], sy_dh F1 X1 X2 (iv_H 1), 0, 0)) :
    hd_W Ls xs d jm_M90 Q (0, sy_dL F [some (.inl (.ref 8)), some (.inr (.inl 82)), none, none], sy_dS F [], sy_dh F X1 X2 (iv_H 1), 0, 0) := by
  refine hd_run (s := 1) (nv := 83) (pc := 33) (L := [some (.inl (.ref 8)), some (.inr (.inl 82)), none, none]) (S := [.inl (.ref 46), .inl (.ref 66)]) (uh := hd_ov (iv_id 0 iv_B0) []) (ul := [.inl (.inr (.inl 82))]) (f := true) (sp := [33]) (d0 := 1) (O := [false, false, true]) (T := [(30, [.inr (.inl 82)], [.inr (.inl 54)])]) (P := [(3, .inr (.inl 82), .inl (.int 0)), (5, .inr (.inl 3), .inr (.inl 82)), (6, .inr (.inl 82), .inl (.ref 7)), (0, .inr (.inl 83), .inl (.int 0))]) jm_ok90 (by decide +kernel) (by decide +kernel) hd F X1 X2 (fun F' hF hs => ?_)
  have b82 := hd_b (F := F) (F' := F') (k := 82) (hF 82 (by decide))
  have b3 := hd_b (F := F) (F' := F') (k := 3) (hF 3 (by decide))
  have a54 := hd_ba (F := F) (F' := F') (k := 54) (hF 54 (by decide))
  have t83 : sy_dv F' (.inr (.inl 83)) = .int ((sy_ai F 54).getD (sy_i F 82).toNatClampNeg 0) := hd_rd (hs 0 _ rfl) b82 a54
  have hB' : iv_in F' iv_B0 := iv_in_eq hB (fun j hj => hF j (Nat.lt_of_lt_of_le hj (by decide +kernel)))
  refine ⟨List.forall_mem_cons.mpr ⟨hd_p3 b82 rfl (by have hc : ((0) : Int32).toInt = 0 := (by decide); omega), List.forall_mem_cons.mpr ⟨hd_p5 b3 b82 h1, List.forall_mem_cons.mpr ⟨hd_pb b82 (by first | exact h2 | exact h2), List.forall_mem_cons.mpr ⟨hd_p0 t83 rfl (by have hc : ((0) : Int32).toInt = 0 := (by decide); omega), fun _ h => absurd h List.not_mem_nil⟩⟩⟩⟩, ?_⟩
  refine k _ ?_ ?_
  · exact fun j hj _ => (hd_keep hB' (Nat.lt_of_lt_of_le hj (by decide +kernel)) (by simp)).trans (hF j (Nat.lt_of_lt_of_le hj (by decide)))
  · exact hd_gi (x := .inr (.inl 82)) (by decide +kernel) b82
theorem j1sq_0_p3 {Ls : Nat} {xs : Nat → Int32} {d : Nat} {Q : Option Value → jm_h → Prop} (hd : 2 ≤ d) (F : Nat → sy_d) (X1 X2 : List jm_c) (hB : iv_in F iv_B0)
    (h0 : 0 ≤ (sy_i F 82).toInt)
    (h1 : (sy_i F 82).toInt < (sy_i F 3).toInt)
    (h2 : 0 ≤ (sy_i F 82).toInt ∧ (sy_i F 82).toInt < 7)
    (h3 : ((sy_ai F 54).getD (sy_i F 82).toNatClampNeg 0).toInt ≠ 0)
    (k : ∀ F1 : Nat → sy_d, (∀ j, j < 82 → True → F1 j = F j) → Q (some (.int (((-2) : Int32)))) (sy_dh F1 X1 X2 (iv_H 1))) :
    hd_W Ls xs d jm_M90 Q (0, sy_dL F [some (.inl (.ref 8)), some (.inr (.inl 82)), none, none], sy_dS F [], sy_dh F X1 X2 (iv_H 1), 0, 0) := by
  refine hd_ret (s := 1) (nv := 83) (v := some (.inl (.int (-2)))) (uh := hd_ov (iv_id 0 iv_B0) []) (f := true) (sp := [33]) (d0 := 1) (O := [false, false, false]) (T := [(30, [.inr (.inl 82)], [.inr (.inl 54)])]) (P := [(3, .inr (.inl 82), .inl (.int 0)), (5, .inr (.inl 3), .inr (.inl 82)), (6, .inr (.inl 82), .inl (.ref 7)), (1, .inr (.inl 83), .inl (.int 0))]) jm_ok90 (by decide +kernel) (by decide +kernel) hd F X1 X2 (fun F' hF hs => ?_)
  have b82 := hd_b (F := F) (F' := F') (k := 82) (hF 82 (by decide))
  have b3 := hd_b (F := F) (F' := F') (k := 3) (hF 3 (by decide))
  have a54 := hd_ba (F := F) (F' := F') (k := 54) (hF 54 (by decide))
  have t83 : sy_dv F' (.inr (.inl 83)) = .int ((sy_ai F 54).getD (sy_i F 82).toNatClampNeg 0) := hd_rd (hs 0 _ rfl) b82 a54
  have hB' : iv_in F' iv_B0 := iv_in_eq hB (fun j hj => hF j (Nat.lt_of_lt_of_le hj (by decide +kernel)))
  refine ⟨List.forall_mem_cons.mpr ⟨hd_p3 b82 rfl (by have hc : ((0) : Int32).toInt = 0 := (by decide); omega), List.forall_mem_cons.mpr ⟨hd_p5 b3 b82 h1, List.forall_mem_cons.mpr ⟨hd_pb b82 (by first | exact h2 | exact h2), List.forall_mem_cons.mpr ⟨hd_p1 t83 rfl (by have hc : ((0) : Int32).toInt = 0 := (by decide); omega), fun _ h => absurd h List.not_mem_nil⟩⟩⟩⟩, ?_⟩
  refine k _ ?_
  · exact fun j hj _ => (hd_keep hB' (Nat.lt_of_lt_of_le hj (by decide +kernel)) (by simp)).trans (hF j (Nat.lt_of_lt_of_le hj (by decide)))
theorem j1sq_0 {Ls : Nat} {xs : Nat → Int32} {d : Nat} {Q : Option Value → jm_h → Prop} (hd : 2 ≤ d) (F : Nat → sy_d) (X1 X2 : List jm_c) (hB : iv_in F iv_B0)
    (k0 : (sy_i F 82).toInt < 0 → ∀ F1 : Nat → sy_d, iv_in F1 iv_B0 → (∀ j, j < 82 → j ∉ ([] : List Nat) → F1 j = F j) → Q (some (.int (((-1) : Int32)))) (sy_dh F1 X1 X2 (iv_H 1)))
    (k1 : 0 ≤ (sy_i F 82).toInt → (sy_i F 3).toInt ≤ (sy_i F 82).toInt → ∀ F1 : Nat → sy_d, iv_in F1 iv_B0 → (∀ j, j < 82 → j ∉ ([] : List Nat) → F1 j = F j) → Q (some (.int (((-1) : Int32)))) (sy_dh F1 X1 X2 (iv_H 1)))
    (k2 : 0 ≤ (sy_i F 82).toInt → (sy_i F 82).toInt < (sy_i F 3).toInt → ((sy_ai F 54).getD ((sy_i F 82).toInt).toNat 0).toInt = 0 → ∀ F1 : Nat → sy_d, iv_in F1 iv_B0 → (∀ j, j < 82 → j ∉ ([] : List Nat) → F1 j = F j) → (sy_i F1 82).toInt = (sy_i F 82).toInt → sy_i F1 82 = sy_i F 82 → hd_W Ls xs d jm_M90 Q (33, sy_dL F1 [some (.inl (.ref 8)), some (.inr (.inl 82)), none, none], sy_dS F1 [.inl (.ref 46), .inl (.ref 66)], sy_dh F1 X1 X2 (iv_H 1), 0, 0))
    (k3 : 0 ≤ (sy_i F 82).toInt → (sy_i F 82).toInt < (sy_i F 3).toInt → ((sy_ai F 54).getD ((sy_i F 82).toInt).toNat 0).toInt ≠ 0 → ∀ F1 : Nat → sy_d, iv_in F1 iv_B0 → (∀ j, j < 82 → j ∉ ([] : List Nat) → F1 j = F j) → Q (some (.int (((-2) : Int32)))) (sy_dh F1 X1 X2 (iv_H 1))) :
    hd_W Ls xs d jm_M90 Q (0, sy_dL F [some (.inl (.ref 8)), some (.inr (.inl 82)), none, none], sy_dS F [], sy_dh F X1 X2 (iv_H 1), 0, 0) := by
  by_cases g0 : (sy_i F 82).toInt < 0
  · exact j1sq_0_p0 hd F X1 X2 hB (by first | exact g0 | (simp only [nz_c]; exact g0)) (fun F1 g  => k0 g0 F1 (nz_in0 hB [] (fun j hj hn => g j hj (by simp only [List.mem_cons, List.not_mem_nil, or_false, not_or] at hn; exact trivial)) (List.forall_mem_nil _)) (fun j hj hn => g j hj (by simp only [List.mem_cons, List.not_mem_nil, or_false, not_or] at hn; exact trivial)) )
  replace g0 : 0 ≤ (sy_i F 82).toInt := by omega
  by_cases g1 : (sy_i F 3).toInt ≤ (sy_i F 82).toInt
  · have c3 := nz_bx hB (k := 3) (lo := 0) (hi := 7) rfl
    exact j1sq_0_p1 hd F X1 X2 hB (by first | exact g0 | (simp only [nz_c]; exact g0)) (by first | exact g1 | (simp only [nz_c]; exact g1)) (fun F1 g  => k1 g0 g1 F1 (nz_in0 hB [] (fun j hj hn => g j hj (by simp only [List.mem_cons, List.not_mem_nil, or_false, not_or] at hn; exact trivial)) (List.forall_mem_nil _)) (fun j hj hn => g j hj (by simp only [List.mem_cons, List.not_mem_nil, or_false, not_or] at hn; exact trivial)) )
  replace g1 : (sy_i F 82).toInt < (sy_i F 3).toInt := by omega
  by_cases g2 : ((sy_ai F 54).getD ((sy_i F 82).toInt).toNat 0).toInt = 0
  · have c3 := nz_bx hB (k := 3) (lo := 0) (hi := 7) rfl
    have q83 : (sy_ai F 54).getD (sy_i F 82).toNatClampNeg 0 = (sy_ai F 54).getD ((sy_i F 82).toInt).toNat 0 := by simp only [nz_c]
    have n83 : nzI ((sy_ai F 54).getD (sy_i F 82).toNatClampNeg 0) (((sy_ai F 54).getD ((sy_i F 82).toInt).toNat 0).toInt) := congrArg Int32.toInt q83
    exact j1sq_0_p2 hd F X1 X2 hB (by first | exact g0 | (simp only [nz_c]; exact g0)) (by first | exact g1 | (simp only [nz_c]; exact g1)) (by first | exact ⟨by omega, by omega⟩ | (simp only [nz_c]; exact ⟨by omega, by omega⟩)) (by first | exact g2 | (simp only [nz_c]; exact g2) | (rw [(nzE n83)]; exact g2)) (fun F1 g e82 => k2 g0 g1 g2 F1 (nz_in0 hB [] (fun j hj hn => g j hj (by simp only [List.mem_cons, List.not_mem_nil, or_false, not_or] at hn; exact trivial)) (List.forall_mem_nil _)) (fun j hj hn => g j hj (by simp only [List.mem_cons, List.not_mem_nil, or_false, not_or] at hn; exact trivial)) ((congrArg Int32.toInt (zz_i e82)).trans (rfl : (sy_i F 82).toInt = (sy_i F 82).toInt)) ((zz_i e82).trans (rfl : sy_i F 82 = sy_i F 82)))
  replace g2 : ((sy_ai F 54).getD ((sy_i F 82).toInt).toNat 0).toInt ≠ 0 := by omega
  have c3 := nz_bx hB (k := 3) (lo := 0) (hi := 7) rfl
  have q83 : (sy_ai F 54).getD (sy_i F 82).toNatClampNeg 0 = (sy_ai F 54).getD ((sy_i F 82).toInt).toNat 0 := by simp only [nz_c]
  have n83 : nzI ((sy_ai F 54).getD (sy_i F 82).toNatClampNeg 0) (((sy_ai F 54).getD ((sy_i F 82).toInt).toNat 0).toInt) := congrArg Int32.toInt q83
  exact j1sq_0_p3 hd F X1 X2 hB (by first | exact g0 | (simp only [nz_c]; exact g0)) (by first | exact g1 | (simp only [nz_c]; exact g1)) (by first | exact ⟨by omega, by omega⟩ | (simp only [nz_c]; exact ⟨by omega, by omega⟩)) (by first | exact g2 | (simp only [nz_c]; exact g2) | (rw [(nzE n83)]; exact g2)) (fun F1 g  => k3 g0 g1 g2 F1 (nz_in0 hB [] (fun j hj hn => g j hj (by simp only [List.mem_cons, List.not_mem_nil, or_false, not_or] at hn; exact trivial)) (List.forall_mem_nil _)) (fun j hj hn => g j hj (by simp only [List.mem_cons, List.not_mem_nil, or_false, not_or] at hn; exact trivial)) )
theorem j1sq_36_p0 {Ls : Nat} {xs : Nat → Int32} {d : Nat} {Q : Option Value → jm_h → Prop} (hd : 3 ≤ d) (F : Nat → sy_d) (X1 X2 : List jm_c) (hB : iv_in F iv_B0)
    (h1 : 0 ≤ (sy_i F 82).toInt ∧ (sy_i F 82).toInt < 7)
    (h2 : 0 ≤ (sy_i F 82).toInt ∧ (sy_i F 82).toInt < 7)
    (k : ∀ F1 : Nat → sy_d, (∀ j, j < 82 → j ≠ 51 ∧ j ≠ 58 → F1 j = F j) → F1 51 = .inl (.int ((sy_i F 51) + ((1 : Int32)))) → F1 58 = .inr (.inl (jm_upd (sy_ai F 58) (sy_i F 82).toNatClampNeg (((sy_ai F 58).getD (sy_i F 82).toNatClampNeg 0) + ((1 : Int32))))) → F1 82 = .inl (.int (((((((((((((sy_i F 7) ^^^ ((101 : Int32))) * ((1103515245 : Int32))) + ((12345 : Int32))) ^^^ (((((((sy_i F 7) ^^^ ((101 : Int32))) * ((1103515245 : Int32))) + ((12345 : Int32)))).toUInt32 >>> ((((15 : Int32))).toUInt32 &&& Int32.toUInt32 31)).toInt32)) ^^^ (((1000000 : Int32)) + (sy_i F 51))) * ((1103515245 : Int32))) + ((12345 : Int32))) ^^^ (((((((((((sy_i F 7) ^^^ ((101 : Int32))) * ((1103515245 : Int32))) + ((12345 : Int32))) ^^^ (((((((sy_i F 7) ^^^ ((101 : Int32))) * ((1103515245 : Int32))) + ((12345 : Int32)))).toUInt32 >>> ((((15 : Int32))).toUInt32 &&& Int32.toUInt32 31)).toInt32)) ^^^ (((1000000 : Int32)) + (sy_i F 51))) * ((1103515245 : Int32))) + ((12345 : Int32)))).toUInt32 >>> ((((15 : Int32))).toUInt32 &&& Int32.toUInt32 31)).toInt32))).toUInt32 >>> ((((1 : Int32))).toUInt32 &&& Int32.toUInt32 31)).toInt32) - ((((((((((((sy_i F 7) ^^^ ((101 : Int32))) * ((1103515245 : Int32))) + ((12345 : Int32))) ^^^ (((((((sy_i F 7) ^^^ ((101 : Int32))) * ((1103515245 : Int32))) + ((12345 : Int32)))).toUInt32 >>> ((((15 : Int32))).toUInt32 &&& Int32.toUInt32 31)).toInt32)) ^^^ (((1000000 : Int32)) + (sy_i F 51))) * ((1103515245 : Int32))) + ((12345 : Int32))) ^^^ (((((((((((sy_i F 7) ^^^ ((101 : Int32))) * ((1103515245 : Int32))) + ((12345 : Int32))) ^^^ (((((((sy_i F 7) ^^^ ((101 : Int32))) * ((1103515245 : Int32))) + ((12345 : Int32)))).toUInt32 >>> ((((15 : Int32))).toUInt32 &&& Int32.toUInt32 31)).toInt32)) ^^^ (((1000000 : Int32)) + (sy_i F 51))) * ((1103515245 : Int32))) + ((12345 : Int32)))).toUInt32 >>> ((((15 : Int32))).toUInt32 &&& Int32.toUInt32 31)).toInt32))).toUInt32 >>> ((((1 : Int32))).toUInt32 &&& Int32.toUInt32 31)).toInt32) / ((100 : Int32)) * ((100 : Int32)))) → F1 83 = .inl (.int (sy_i F 50)) → F1 84 = .inl (.int (sy_i F 3)) → hd_W Ls xs d jm_M90 Q (110, sy_dL F1 [some (.inl (.ref 8)), none, some (.inr (.inl 82)), none], sy_dS F1 [.inr (.inl 84), .inl (.int 0), .inl (.ref 46), .inr (.inl 83), .inl (.ref 10), .inl (.ref 38)], sy_dh F1 X1 X2 (iv_H 1), 0, 0)) :
    hd_W Ls xs d jm_M90 Q (36, sy_dL F [some (.inl (.ref 8)), some (.inr (.inl 82)), none, none], sy_dS F [], sy_dh F X1 X2 (iv_H 1), 0, 0) := by
  refine hd_run (s := 1) (nv := 83) (pc := 110) (L := [some (.inl (.ref 8)), none, some (.inr (.inl 82)), none]) (S := [.inr (.inl 84), .inl (.int 0), .inl (.ref 46), .inr (.inl 83), .inl (.ref 10), .inl (.ref 38)]) (uh := hd_ov (iv_id 0 iv_B0) [(51, .inl (.inr (.inl 99))), (58, .inr (.inr (.inl 98)))]) (ul := [.inl (.inr (.inl 95)), .inl (.inr (.inl 50)), .inl (.inr (.inl 3))]) (f := false) (sp := [110]) (d0 := 2) (O := []) (T := [(0, [.inl (.int 1000000), .inr (.inl 51)], []), (5, [.inr (.inl 7), .inl (.int 101)], []), (2, [.inr (.inl 84), .inl (.int 1103515245)], []), (0, [.inr (.inl 85), .inl (.int 12345)], []), (8, [.inr (.inl 86), .inl (.int 15)], []), (5, [.inr (.inl 86), .inr (.inl 87)], []), (5, [.inr (.inl 88), .inr (.inl 83)], []), (2, [.inr (.inl 89), .inl (.int 1103515245)], []), (0, [.inr (.inl 90), .inl (.int 12345)], []), (8, [.inr (.inl 91), .inl (.int 15)], []), (5, [.inr (.inl 91), .inr (.inl 92)], []), (8, [.inr (.inl 93), .inl (.int 1)], []), (10, [.inr (.inl 94), .inl (.int 100)], []), (30, [.inr (.inl 82)], [.inr (.inl 58)]), (0, [.inr (.inl 96), .inl (.int 1)], []), (40, [.inr (.inl 82), .inr (.inl 97)], [.inr (.inl 58)]), (0, [.inr (.inl 51), .inl (.int 1)], [])]) (P := [(1, .inl (.int 100), .inl (.int 0)), (6, .inr (.inl 82), .inl (.ref 7)), (6, .inr (.inl 82), .inl (.ref 7))]) jm_ok90 (by decide +kernel) (by decide +kernel) hd F X1 X2 (fun F' hF hs => ?_)
  have b82 := hd_b (F := F) (F' := F') (k := 82) (hF 82 (by decide))
  have b51 := hd_b (F := F) (F' := F') (k := 51) (hF 51 (by decide))
  have t99 : sy_dv F' (.inr (.inl 99)) = .int ((sy_i F 51) + ((1 : Int32))) := hd_o (hs 16 _ rfl) b51 rfl rfl
  have a58 := hd_ba (F := F) (F' := F') (k := 58) (hF 58 (by decide))
  have t96 : sy_dv F' (.inr (.inl 96)) = .int ((sy_ai F 58).getD (sy_i F 82).toNatClampNeg 0) := hd_rd (hs 13 _ rfl) b82 a58
  have t97 : sy_dv F' (.inr (.inl 97)) = .int (((sy_ai F 58).getD (sy_i F 82).toNatClampNeg 0) + ((1 : Int32))) := hd_o (hs 14 _ rfl) t96 rfl rfl
  have t98 : sy_da F' (.inr (.inl 98)) = .inl (jm_upd (sy_ai F 58) (sy_i F 82).toNatClampNeg (((sy_ai F 58).getD (sy_i F 82).toNatClampNeg 0) + ((1 : Int32)))) := hd_up (hs 15 _ rfl) b82 t97 a58
  have b7 := hd_b (F := F) (F' := F') (k := 7) (hF 7 (by decide))
  have t84 : sy_dv F' (.inr (.inl 84)) = .int ((sy_i F 7) ^^^ ((101 : Int32))) := hd_o (hs 1 _ rfl) b7 rfl rfl
  have t85 : sy_dv F' (.inr (.inl 85)) = .int (((sy_i F 7) ^^^ ((101 : Int32))) * ((1103515245 : Int32))) := hd_o (hs 2 _ rfl) t84 rfl rfl
  have t86 : sy_dv F' (.inr (.inl 86)) = .int ((((sy_i F 7) ^^^ ((101 : Int32))) * ((1103515245 : Int32))) + ((12345 : Int32))) := hd_o (hs 3 _ rfl) t85 rfl rfl
  have t87 : sy_dv F' (.inr (.inl 87)) = .int (((((((sy_i F 7) ^^^ ((101 : Int32))) * ((1103515245 : Int32))) + ((12345 : Int32)))).toUInt32 >>> ((((15 : Int32))).toUInt32 &&& Int32.toUInt32 31)).toInt32) := hd_o (hs 4 _ rfl) t86 rfl rfl
  have t88 : sy_dv F' (.inr (.inl 88)) = .int (((((sy_i F 7) ^^^ ((101 : Int32))) * ((1103515245 : Int32))) + ((12345 : Int32))) ^^^ (((((((sy_i F 7) ^^^ ((101 : Int32))) * ((1103515245 : Int32))) + ((12345 : Int32)))).toUInt32 >>> ((((15 : Int32))).toUInt32 &&& Int32.toUInt32 31)).toInt32)) := hd_o (hs 5 _ rfl) t86 t87 rfl
  have t83 : sy_dv F' (.inr (.inl 83)) = .int (((1000000 : Int32)) + (sy_i F 51)) := hd_o (hs 0 _ rfl) rfl b51 rfl
  have t89 : sy_dv F' (.inr (.inl 89)) = .int ((((((sy_i F 7) ^^^ ((101 : Int32))) * ((1103515245 : Int32))) + ((12345 : Int32))) ^^^ (((((((sy_i F 7) ^^^ ((101 : Int32))) * ((1103515245 : Int32))) + ((12345 : Int32)))).toUInt32 >>> ((((15 : Int32))).toUInt32 &&& Int32.toUInt32 31)).toInt32)) ^^^ (((1000000 : Int32)) + (sy_i F 51))) := hd_o (hs 6 _ rfl) t88 t83 rfl
  have t90 : sy_dv F' (.inr (.inl 90)) = .int (((((((sy_i F 7) ^^^ ((101 : Int32))) * ((1103515245 : Int32))) + ((12345 : Int32))) ^^^ (((((((sy_i F 7) ^^^ ((101 : Int32))) * ((1103515245 : Int32))) + ((12345 : Int32)))).toUInt32 >>> ((((15 : Int32))).toUInt32 &&& Int32.toUInt32 31)).toInt32)) ^^^ (((1000000 : Int32)) + (sy_i F 51))) * ((1103515245 : Int32))) := hd_o (hs 7 _ rfl) t89 rfl rfl
  have t91 : sy_dv F' (.inr (.inl 91)) = .int ((((((((sy_i F 7) ^^^ ((101 : Int32))) * ((1103515245 : Int32))) + ((12345 : Int32))) ^^^ (((((((sy_i F 7) ^^^ ((101 : Int32))) * ((1103515245 : Int32))) + ((12345 : Int32)))).toUInt32 >>> ((((15 : Int32))).toUInt32 &&& Int32.toUInt32 31)).toInt32)) ^^^ (((1000000 : Int32)) + (sy_i F 51))) * ((1103515245 : Int32))) + ((12345 : Int32))) := hd_o (hs 8 _ rfl) t90 rfl rfl
  have t92 : sy_dv F' (.inr (.inl 92)) = .int (((((((((((sy_i F 7) ^^^ ((101 : Int32))) * ((1103515245 : Int32))) + ((12345 : Int32))) ^^^ (((((((sy_i F 7) ^^^ ((101 : Int32))) * ((1103515245 : Int32))) + ((12345 : Int32)))).toUInt32 >>> ((((15 : Int32))).toUInt32 &&& Int32.toUInt32 31)).toInt32)) ^^^ (((1000000 : Int32)) + (sy_i F 51))) * ((1103515245 : Int32))) + ((12345 : Int32)))).toUInt32 >>> ((((15 : Int32))).toUInt32 &&& Int32.toUInt32 31)).toInt32) := hd_o (hs 9 _ rfl) t91 rfl rfl
  have t93 : sy_dv F' (.inr (.inl 93)) = .int (((((((((sy_i F 7) ^^^ ((101 : Int32))) * ((1103515245 : Int32))) + ((12345 : Int32))) ^^^ (((((((sy_i F 7) ^^^ ((101 : Int32))) * ((1103515245 : Int32))) + ((12345 : Int32)))).toUInt32 >>> ((((15 : Int32))).toUInt32 &&& Int32.toUInt32 31)).toInt32)) ^^^ (((1000000 : Int32)) + (sy_i F 51))) * ((1103515245 : Int32))) + ((12345 : Int32))) ^^^ (((((((((((sy_i F 7) ^^^ ((101 : Int32))) * ((1103515245 : Int32))) + ((12345 : Int32))) ^^^ (((((((sy_i F 7) ^^^ ((101 : Int32))) * ((1103515245 : Int32))) + ((12345 : Int32)))).toUInt32 >>> ((((15 : Int32))).toUInt32 &&& Int32.toUInt32 31)).toInt32)) ^^^ (((1000000 : Int32)) + (sy_i F 51))) * ((1103515245 : Int32))) + ((12345 : Int32)))).toUInt32 >>> ((((15 : Int32))).toUInt32 &&& Int32.toUInt32 31)).toInt32)) := hd_o (hs 10 _ rfl) t91 t92 rfl
  have t94 : sy_dv F' (.inr (.inl 94)) = .int ((((((((((((sy_i F 7) ^^^ ((101 : Int32))) * ((1103515245 : Int32))) + ((12345 : Int32))) ^^^ (((((((sy_i F 7) ^^^ ((101 : Int32))) * ((1103515245 : Int32))) + ((12345 : Int32)))).toUInt32 >>> ((((15 : Int32))).toUInt32 &&& Int32.toUInt32 31)).toInt32)) ^^^ (((1000000 : Int32)) + (sy_i F 51))) * ((1103515245 : Int32))) + ((12345 : Int32))) ^^^ (((((((((((sy_i F 7) ^^^ ((101 : Int32))) * ((1103515245 : Int32))) + ((12345 : Int32))) ^^^ (((((((sy_i F 7) ^^^ ((101 : Int32))) * ((1103515245 : Int32))) + ((12345 : Int32)))).toUInt32 >>> ((((15 : Int32))).toUInt32 &&& Int32.toUInt32 31)).toInt32)) ^^^ (((1000000 : Int32)) + (sy_i F 51))) * ((1103515245 : Int32))) + ((12345 : Int32)))).toUInt32 >>> ((((15 : Int32))).toUInt32 &&& Int32.toUInt32 31)).toInt32))).toUInt32 >>> ((((1 : Int32))).toUInt32 &&& Int32.toUInt32 31)).toInt32) := hd_o (hs 11 _ rfl) t93 rfl rfl
  have t95 : sy_dv F' (.inr (.inl 95)) = .int (((((((((((((sy_i F 7) ^^^ ((101 : Int32))) * ((1103515245 : Int32))) + ((12345 : Int32))) ^^^ (((((((sy_i F 7) ^^^ ((101 : Int32))) * ((1103515245 : Int32))) + ((12345 : Int32)))).toUInt32 >>> ((((15 : Int32))).toUInt32 &&& Int32.toUInt32 31)).toInt32)) ^^^ (((1000000 : Int32)) + (sy_i F 51))) * ((1103515245 : Int32))) + ((12345 : Int32))) ^^^ (((((((((((sy_i F 7) ^^^ ((101 : Int32))) * ((1103515245 : Int32))) + ((12345 : Int32))) ^^^ (((((((sy_i F 7) ^^^ ((101 : Int32))) * ((1103515245 : Int32))) + ((12345 : Int32)))).toUInt32 >>> ((((15 : Int32))).toUInt32 &&& Int32.toUInt32 31)).toInt32)) ^^^ (((1000000 : Int32)) + (sy_i F 51))) * ((1103515245 : Int32))) + ((12345 : Int32)))).toUInt32 >>> ((((15 : Int32))).toUInt32 &&& Int32.toUInt32 31)).toInt32))).toUInt32 >>> ((((1 : Int32))).toUInt32 &&& Int32.toUInt32 31)).toInt32) - ((((((((((((sy_i F 7) ^^^ ((101 : Int32))) * ((1103515245 : Int32))) + ((12345 : Int32))) ^^^ (((((((sy_i F 7) ^^^ ((101 : Int32))) * ((1103515245 : Int32))) + ((12345 : Int32)))).toUInt32 >>> ((((15 : Int32))).toUInt32 &&& Int32.toUInt32 31)).toInt32)) ^^^ (((1000000 : Int32)) + (sy_i F 51))) * ((1103515245 : Int32))) + ((12345 : Int32))) ^^^ (((((((((((sy_i F 7) ^^^ ((101 : Int32))) * ((1103515245 : Int32))) + ((12345 : Int32))) ^^^ (((((((sy_i F 7) ^^^ ((101 : Int32))) * ((1103515245 : Int32))) + ((12345 : Int32)))).toUInt32 >>> ((((15 : Int32))).toUInt32 &&& Int32.toUInt32 31)).toInt32)) ^^^ (((1000000 : Int32)) + (sy_i F 51))) * ((1103515245 : Int32))) + ((12345 : Int32)))).toUInt32 >>> ((((15 : Int32))).toUInt32 &&& Int32.toUInt32 31)).toInt32))).toUInt32 >>> ((((1 : Int32))).toUInt32 &&& Int32.toUInt32 31)).toInt32) / ((100 : Int32)) * ((100 : Int32))) := hd_o (hs 12 _ rfl) t94 rfl rfl
  have b50 := hd_b (F := F) (F' := F') (k := 50) (hF 50 (by decide))
  have b3 := hd_b (F := F) (F' := F') (k := 3) (hF 3 (by decide))
  have hB' : iv_in F' iv_B0 := iv_in_eq hB (fun j hj => hF j (Nat.lt_of_lt_of_le hj (by decide +kernel)))
  refine ⟨List.forall_mem_cons.mpr ⟨(hd_p1 (X := 100) (Y := 0) rfl rfl (by decide)), List.forall_mem_cons.mpr ⟨hd_pb b82 (by first | exact h1 | exact h1), List.forall_mem_cons.mpr ⟨hd_pb b82 (by first | exact h2 | exact h2), fun _ h => absurd h List.not_mem_nil⟩⟩⟩, ?_⟩
  refine k _ ?_ ?_ ?_ ?_ ?_ ?_
  · exact fun j hj hn => (hd_keep hB' (Nat.lt_of_lt_of_le hj (by decide +kernel)) (by simp; omega)).trans (hF j (Nat.lt_of_lt_of_le hj (by decide)))
  · exact hd_gi (x := .inr (.inl 99)) (by decide +kernel) t99
  · exact hd_ga (a := .inr (.inl 98)) (by decide +kernel) t98
  · exact hd_gi (x := .inr (.inl 95)) (by decide +kernel) t95
  · exact hd_gi (x := .inr (.inl 50)) (by decide +kernel) b50
  · exact hd_gi (x := .inr (.inl 3)) (by decide +kernel) b3
theorem j1sq_36 {Ls : Nat} {xs : Nat → Int32} {d : Nat} {Q : Option Value → jm_h → Prop} (hd : 3 ≤ d) (F : Nat → sy_d) (X1 X2 : List jm_c) (hB : iv_in F iv_B0)
    (a82 : 0 ≤ (sy_i F 82).toInt ∧ (sy_i F 82).toInt ≤ 6)
    (k0 : ∀ F1 : Nat → sy_d, iv_in F1 iv_B0 → (∀ j, j < 82 → j ∉ ([51, 58] : List Nat) → F1 j = F j) → (sy_i F1 51).toInt = ((sy_i F 51) + ((1 : Int32))).toInt → sy_i F1 51 = (sy_i F 51) + ((1 : Int32)) → sy_ai F1 58 = jm_upd (sy_ai F 58) ((sy_i F 82).toInt).toNat (((sy_ai F 58).getD ((sy_i F 82).toInt).toNat 0) + ((1 : Int32))) → (sy_i F1 82).toInt = (((((((((((((sy_i F 7) ^^^ ((101 : Int32))) * ((1103515245 : Int32))) + ((12345 : Int32))) ^^^ (((((((sy_i F 7) ^^^ ((101 : Int32))) * ((1103515245 : Int32))) + ((12345 : Int32)))).toUInt32 >>> ((((15 : Int32))).toUInt32 &&& Int32.toUInt32 31)).toInt32)) ^^^ (((1000000 : Int32)) + (sy_i F 51))) * ((1103515245 : Int32))) + ((12345 : Int32))) ^^^ (((((((((((sy_i F 7) ^^^ ((101 : Int32))) * ((1103515245 : Int32))) + ((12345 : Int32))) ^^^ (((((((sy_i F 7) ^^^ ((101 : Int32))) * ((1103515245 : Int32))) + ((12345 : Int32)))).toUInt32 >>> ((((15 : Int32))).toUInt32 &&& Int32.toUInt32 31)).toInt32)) ^^^ (((1000000 : Int32)) + (sy_i F 51))) * ((1103515245 : Int32))) + ((12345 : Int32)))).toUInt32 >>> ((((15 : Int32))).toUInt32 &&& Int32.toUInt32 31)).toInt32))).toUInt32 >>> ((((1 : Int32))).toUInt32 &&& Int32.toUInt32 31)).toInt32) - ((((((((((((sy_i F 7) ^^^ ((101 : Int32))) * ((1103515245 : Int32))) + ((12345 : Int32))) ^^^ (((((((sy_i F 7) ^^^ ((101 : Int32))) * ((1103515245 : Int32))) + ((12345 : Int32)))).toUInt32 >>> ((((15 : Int32))).toUInt32 &&& Int32.toUInt32 31)).toInt32)) ^^^ (((1000000 : Int32)) + (sy_i F 51))) * ((1103515245 : Int32))) + ((12345 : Int32))) ^^^ (((((((((((sy_i F 7) ^^^ ((101 : Int32))) * ((1103515245 : Int32))) + ((12345 : Int32))) ^^^ (((((((sy_i F 7) ^^^ ((101 : Int32))) * ((1103515245 : Int32))) + ((12345 : Int32)))).toUInt32 >>> ((((15 : Int32))).toUInt32 &&& Int32.toUInt32 31)).toInt32)) ^^^ (((1000000 : Int32)) + (sy_i F 51))) * ((1103515245 : Int32))) + ((12345 : Int32)))).toUInt32 >>> ((((15 : Int32))).toUInt32 &&& Int32.toUInt32 31)).toInt32))).toUInt32 >>> ((((1 : Int32))).toUInt32 &&& Int32.toUInt32 31)).toInt32) / ((100 : Int32)) * ((100 : Int32))).toInt → sy_i F1 82 = ((((((((((((sy_i F 7) ^^^ ((101 : Int32))) * ((1103515245 : Int32))) + ((12345 : Int32))) ^^^ (((((((sy_i F 7) ^^^ ((101 : Int32))) * ((1103515245 : Int32))) + ((12345 : Int32)))).toUInt32 >>> ((((15 : Int32))).toUInt32 &&& Int32.toUInt32 31)).toInt32)) ^^^ (((1000000 : Int32)) + (sy_i F 51))) * ((1103515245 : Int32))) + ((12345 : Int32))) ^^^ (((((((((((sy_i F 7) ^^^ ((101 : Int32))) * ((1103515245 : Int32))) + ((12345 : Int32))) ^^^ (((((((sy_i F 7) ^^^ ((101 : Int32))) * ((1103515245 : Int32))) + ((12345 : Int32)))).toUInt32 >>> ((((15 : Int32))).toUInt32 &&& Int32.toUInt32 31)).toInt32)) ^^^ (((1000000 : Int32)) + (sy_i F 51))) * ((1103515245 : Int32))) + ((12345 : Int32)))).toUInt32 >>> ((((15 : Int32))).toUInt32 &&& Int32.toUInt32 31)).toInt32))).toUInt32 >>> ((((1 : Int32))).toUInt32 &&& Int32.toUInt32 31)).toInt32) - ((((((((((((sy_i F 7) ^^^ ((101 : Int32))) * ((1103515245 : Int32))) + ((12345 : Int32))) ^^^ (((((((sy_i F 7) ^^^ ((101 : Int32))) * ((1103515245 : Int32))) + ((12345 : Int32)))).toUInt32 >>> ((((15 : Int32))).toUInt32 &&& Int32.toUInt32 31)).toInt32)) ^^^ (((1000000 : Int32)) + (sy_i F 51))) * ((1103515245 : Int32))) + ((12345 : Int32))) ^^^ (((((((((((sy_i F 7) ^^^ ((101 : Int32))) * ((1103515245 : Int32))) + ((12345 : Int32))) ^^^ (((((((sy_i F 7) ^^^ ((101 : Int32))) * ((1103515245 : Int32))) + ((12345 : Int32)))).toUInt32 >>> ((((15 : Int32))).toUInt32 &&& Int32.toUInt32 31)).toInt32)) ^^^ (((1000000 : Int32)) + (sy_i F 51))) * ((1103515245 : Int32))) + ((12345 : Int32)))).toUInt32 >>> ((((15 : Int32))).toUInt32 &&& Int32.toUInt32 31)).toInt32))).toUInt32 >>> ((((1 : Int32))).toUInt32 &&& Int32.toUInt32 31)).toInt32) / ((100 : Int32)) * ((100 : Int32)) → (sy_i F1 83).toInt = (sy_i F 50).toInt → sy_i F1 83 = sy_i F 50 → (sy_i F1 84).toInt = (sy_i F 3).toInt → sy_i F1 84 = sy_i F 3 → hd_W Ls xs d jm_M90 Q (110, sy_dL F1 [some (.inl (.ref 8)), none, some (.inr (.inl 82)), none], sy_dS F1 [.inr (.inl 84), .inl (.int 0), .inl (.ref 46), .inr (.inl 83), .inl (.ref 10), .inl (.ref 38)], sy_dh F1 X1 X2 (iv_H 1), 0, 0)) :
    hd_W Ls xs d jm_M90 Q (36, sy_dL F [some (.inl (.ref 8)), some (.inr (.inl 82)), none, none], sy_dS F [], sy_dh F X1 X2 (iv_H 1), 0, 0) := by
  have n99 : nzI ((sy_i F 51) + ((1 : Int32))) (((sy_i F 51) + ((1 : Int32))).toInt) := congrArg Int32.toInt (rfl : (sy_i F 51) + ((1 : Int32)) = (sy_i F 51) + ((1 : Int32)))
  have w98 : jm_upd (sy_ai F 58) (sy_i F 82).toNatClampNeg (((sy_ai F 58).getD (sy_i F 82).toNatClampNeg 0) + ((1 : Int32))) = jm_upd (sy_ai F 58) ((sy_i F 82).toInt).toNat (((sy_ai F 58).getD ((sy_i F 82).toInt).toNat 0) + ((1 : Int32))) := by simp only [nz_c, (by decide : ((1 : Int32)).toInt = 1)]
  have n95 : nzI (((((((((((((sy_i F 7) ^^^ ((101 : Int32))) * ((1103515245 : Int32))) + ((12345 : Int32))) ^^^ (((((((sy_i F 7) ^^^ ((101 : Int32))) * ((1103515245 : Int32))) + ((12345 : Int32)))).toUInt32 >>> ((((15 : Int32))).toUInt32 &&& Int32.toUInt32 31)).toInt32)) ^^^ (((1000000 : Int32)) + (sy_i F 51))) * ((1103515245 : Int32))) + ((12345 : Int32))) ^^^ (((((((((((sy_i F 7) ^^^ ((101 : Int32))) * ((1103515245 : Int32))) + ((12345 : Int32))) ^^^ (((((((sy_i F 7) ^^^ ((101 : Int32))) * ((1103515245 : Int32))) + ((12345 : Int32)))).toUInt32 >>> ((((15 : Int32))).toUInt32 &&& Int32.toUInt32 31)).toInt32)) ^^^ (((1000000 : Int32)) + (sy_i F 51))) * ((1103515245 : Int32))) + ((12345 : Int32)))).toUInt32 >>> ((((15 : Int32))).toUInt32 &&& Int32.toUInt32 31)).toInt32))).toUInt32 >>> ((((1 : Int32))).toUInt32 &&& Int32.toUInt32 31)).toInt32) - ((((((((((((sy_i F 7) ^^^ ((101 : Int32))) * ((1103515245 : Int32))) + ((12345 : Int32))) ^^^ (((((((sy_i F 7) ^^^ ((101 : Int32))) * ((1103515245 : Int32))) + ((12345 : Int32)))).toUInt32 >>> ((((15 : Int32))).toUInt32 &&& Int32.toUInt32 31)).toInt32)) ^^^ (((1000000 : Int32)) + (sy_i F 51))) * ((1103515245 : Int32))) + ((12345 : Int32))) ^^^ (((((((((((sy_i F 7) ^^^ ((101 : Int32))) * ((1103515245 : Int32))) + ((12345 : Int32))) ^^^ (((((((sy_i F 7) ^^^ ((101 : Int32))) * ((1103515245 : Int32))) + ((12345 : Int32)))).toUInt32 >>> ((((15 : Int32))).toUInt32 &&& Int32.toUInt32 31)).toInt32)) ^^^ (((1000000 : Int32)) + (sy_i F 51))) * ((1103515245 : Int32))) + ((12345 : Int32)))).toUInt32 >>> ((((15 : Int32))).toUInt32 &&& Int32.toUInt32 31)).toInt32))).toUInt32 >>> ((((1 : Int32))).toUInt32 &&& Int32.toUInt32 31)).toInt32) / ((100 : Int32)) * ((100 : Int32))) ((((((((((((((sy_i F 7) ^^^ ((101 : Int32))) * ((1103515245 : Int32))) + ((12345 : Int32))) ^^^ (((((((sy_i F 7) ^^^ ((101 : Int32))) * ((1103515245 : Int32))) + ((12345 : Int32)))).toUInt32 >>> ((((15 : Int32))).toUInt32 &&& Int32.toUInt32 31)).toInt32)) ^^^ (((1000000 : Int32)) + (sy_i F 51))) * ((1103515245 : Int32))) + ((12345 : Int32))) ^^^ (((((((((((sy_i F 7) ^^^ ((101 : Int32))) * ((1103515245 : Int32))) + ((12345 : Int32))) ^^^ (((((((sy_i F 7) ^^^ ((101 : Int32))) * ((1103515245 : Int32))) + ((12345 : Int32)))).toUInt32 >>> ((((15 : Int32))).toUInt32 &&& Int32.toUInt32 31)).toInt32)) ^^^ (((1000000 : Int32)) + (sy_i F 51))) * ((1103515245 : Int32))) + ((12345 : Int32)))).toUInt32 >>> ((((15 : Int32))).toUInt32 &&& Int32.toUInt32 31)).toInt32))).toUInt32 >>> ((((1 : Int32))).toUInt32 &&& Int32.toUInt32 31)).toInt32) - ((((((((((((sy_i F 7) ^^^ ((101 : Int32))) * ((1103515245 : Int32))) + ((12345 : Int32))) ^^^ (((((((sy_i F 7) ^^^ ((101 : Int32))) * ((1103515245 : Int32))) + ((12345 : Int32)))).toUInt32 >>> ((((15 : Int32))).toUInt32 &&& Int32.toUInt32 31)).toInt32)) ^^^ (((1000000 : Int32)) + (sy_i F 51))) * ((1103515245 : Int32))) + ((12345 : Int32))) ^^^ (((((((((((sy_i F 7) ^^^ ((101 : Int32))) * ((1103515245 : Int32))) + ((12345 : Int32))) ^^^ (((((((sy_i F 7) ^^^ ((101 : Int32))) * ((1103515245 : Int32))) + ((12345 : Int32)))).toUInt32 >>> ((((15 : Int32))).toUInt32 &&& Int32.toUInt32 31)).toInt32)) ^^^ (((1000000 : Int32)) + (sy_i F 51))) * ((1103515245 : Int32))) + ((12345 : Int32)))).toUInt32 >>> ((((15 : Int32))).toUInt32 &&& Int32.toUInt32 31)).toInt32))).toUInt32 >>> ((((1 : Int32))).toUInt32 &&& Int32.toUInt32 31)).toInt32) / ((100 : Int32)) * ((100 : Int32))).toInt) := congrArg Int32.toInt (rfl : ((((((((((((sy_i F 7) ^^^ ((101 : Int32))) * ((1103515245 : Int32))) + ((12345 : Int32))) ^^^ (((((((sy_i F 7) ^^^ ((101 : Int32))) * ((1103515245 : Int32))) + ((12345 : Int32)))).toUInt32 >>> ((((15 : Int32))).toUInt32 &&& Int32.toUInt32 31)).toInt32)) ^^^ (((1000000 : Int32)) + (sy_i F 51))) * ((1103515245 : Int32))) + ((12345 : Int32))) ^^^ (((((((((((sy_i F 7) ^^^ ((101 : Int32))) * ((1103515245 : Int32))) + ((12345 : Int32))) ^^^ (((((((sy_i F 7) ^^^ ((101 : Int32))) * ((1103515245 : Int32))) + ((12345 : Int32)))).toUInt32 >>> ((((15 : Int32))).toUInt32 &&& Int32.toUInt32 31)).toInt32)) ^^^ (((1000000 : Int32)) + (sy_i F 51))) * ((1103515245 : Int32))) + ((12345 : Int32)))).toUInt32 >>> ((((15 : Int32))).toUInt32 &&& Int32.toUInt32 31)).toInt32))).toUInt32 >>> ((((1 : Int32))).toUInt32 &&& Int32.toUInt32 31)).toInt32) - ((((((((((((sy_i F 7) ^^^ ((101 : Int32))) * ((1103515245 : Int32))) + ((12345 : Int32))) ^^^ (((((((sy_i F 7) ^^^ ((101 : Int32))) * ((1103515245 : Int32))) + ((12345 : Int32)))).toUInt32 >>> ((((15 : Int32))).toUInt32 &&& Int32.toUInt32 31)).toInt32)) ^^^ (((1000000 : Int32)) + (sy_i F 51))) * ((1103515245 : Int32))) + ((12345 : Int32))) ^^^ (((((((((((sy_i F 7) ^^^ ((101 : Int32))) * ((1103515245 : Int32))) + ((12345 : Int32))) ^^^ (((((((sy_i F 7) ^^^ ((101 : Int32))) * ((1103515245 : Int32))) + ((12345 : Int32)))).toUInt32 >>> ((((15 : Int32))).toUInt32 &&& Int32.toUInt32 31)).toInt32)) ^^^ (((1000000 : Int32)) + (sy_i F 51))) * ((1103515245 : Int32))) + ((12345 : Int32)))).toUInt32 >>> ((((15 : Int32))).toUInt32 &&& Int32.toUInt32 31)).toInt32))).toUInt32 >>> ((((1 : Int32))).toUInt32 &&& Int32.toUInt32 31)).toInt32) / ((100 : Int32)) * ((100 : Int32)) = ((((((((((((sy_i F 7) ^^^ ((101 : Int32))) * ((1103515245 : Int32))) + ((12345 : Int32))) ^^^ (((((((sy_i F 7) ^^^ ((101 : Int32))) * ((1103515245 : Int32))) + ((12345 : Int32)))).toUInt32 >>> ((((15 : Int32))).toUInt32 &&& Int32.toUInt32 31)).toInt32)) ^^^ (((1000000 : Int32)) + (sy_i F 51))) * ((1103515245 : Int32))) + ((12345 : Int32))) ^^^ (((((((((((sy_i F 7) ^^^ ((101 : Int32))) * ((1103515245 : Int32))) + ((12345 : Int32))) ^^^ (((((((sy_i F 7) ^^^ ((101 : Int32))) * ((1103515245 : Int32))) + ((12345 : Int32)))).toUInt32 >>> ((((15 : Int32))).toUInt32 &&& Int32.toUInt32 31)).toInt32)) ^^^ (((1000000 : Int32)) + (sy_i F 51))) * ((1103515245 : Int32))) + ((12345 : Int32)))).toUInt32 >>> ((((15 : Int32))).toUInt32 &&& Int32.toUInt32 31)).toInt32))).toUInt32 >>> ((((1 : Int32))).toUInt32 &&& Int32.toUInt32 31)).toInt32) - ((((((((((((sy_i F 7) ^^^ ((101 : Int32))) * ((1103515245 : Int32))) + ((12345 : Int32))) ^^^ (((((((sy_i F 7) ^^^ ((101 : Int32))) * ((1103515245 : Int32))) + ((12345 : Int32)))).toUInt32 >>> ((((15 : Int32))).toUInt32 &&& Int32.toUInt32 31)).toInt32)) ^^^ (((1000000 : Int32)) + (sy_i F 51))) * ((1103515245 : Int32))) + ((12345 : Int32))) ^^^ (((((((((((sy_i F 7) ^^^ ((101 : Int32))) * ((1103515245 : Int32))) + ((12345 : Int32))) ^^^ (((((((sy_i F 7) ^^^ ((101 : Int32))) * ((1103515245 : Int32))) + ((12345 : Int32)))).toUInt32 >>> ((((15 : Int32))).toUInt32 &&& Int32.toUInt32 31)).toInt32)) ^^^ (((1000000 : Int32)) + (sy_i F 51))) * ((1103515245 : Int32))) + ((12345 : Int32)))).toUInt32 >>> ((((15 : Int32))).toUInt32 &&& Int32.toUInt32 31)).toInt32))).toUInt32 >>> ((((1 : Int32))).toUInt32 &&& Int32.toUInt32 31)).toInt32) / ((100 : Int32)) * ((100 : Int32)))
  have c3 := nz_bx hB (k := 3) (lo := 0) (hi := 7) rfl
  exact j1sq_36_p0 hd F X1 X2 hB (by first | exact ⟨by omega, by omega⟩ | (simp only [nz_c]; exact ⟨by omega, by omega⟩)) (by first | exact ⟨by omega, by omega⟩ | (simp only [nz_c]; exact ⟨by omega, by omega⟩)) (fun F1 g e51 e58 e82 e83 e84 => k0 F1 (nz_in0 hB [51, 58] (fun j hj hn => g j hj (by simp only [List.mem_cons, List.not_mem_nil, or_false, not_or] at hn; omega)) (List.forall_mem_cons.mpr ⟨fun t ht => (Option.some.inj ht) ▸ (nz_hz e51), List.forall_mem_cons.mpr ⟨fun t ht => (Option.some.inj ht) ▸ (nz_hz2 e58), List.forall_mem_nil _⟩⟩)) (fun j hj hn => g j hj (by simp only [List.mem_cons, List.not_mem_nil, or_false, not_or] at hn; omega)) ((congrArg Int32.toInt (zz_i e51)).trans (nzE n99)) ((zz_i e51).trans (rfl : (sy_i F 51) + ((1 : Int32)) = (sy_i F 51) + ((1 : Int32)))) ((zz_ai e58).trans w98) ((congrArg Int32.toInt (zz_i e82)).trans (nzE n95)) ((zz_i e82).trans (rfl : ((((((((((((sy_i F 7) ^^^ ((101 : Int32))) * ((1103515245 : Int32))) + ((12345 : Int32))) ^^^ (((((((sy_i F 7) ^^^ ((101 : Int32))) * ((1103515245 : Int32))) + ((12345 : Int32)))).toUInt32 >>> ((((15 : Int32))).toUInt32 &&& Int32.toUInt32 31)).toInt32)) ^^^ (((1000000 : Int32)) + (sy_i F 51))) * ((1103515245 : Int32))) + ((12345 : Int32))) ^^^ (((((((((((sy_i F 7) ^^^ ((101 : Int32))) * ((1103515245 : Int32))) + ((12345 : Int32))) ^^^ (((((((sy_i F 7) ^^^ ((101 : Int32))) * ((1103515245 : Int32))) + ((12345 : Int32)))).toUInt32 >>> ((((15 : Int32))).toUInt32 &&& Int32.toUInt32 31)).toInt32)) ^^^ (((1000000 : Int32)) + (sy_i F 51))) * ((1103515245 : Int32))) + ((12345 : Int32)))).toUInt32 >>> ((((15 : Int32))).toUInt32 &&& Int32.toUInt32 31)).toInt32))).toUInt32 >>> ((((1 : Int32))).toUInt32 &&& Int32.toUInt32 31)).toInt32) - ((((((((((((sy_i F 7) ^^^ ((101 : Int32))) * ((1103515245 : Int32))) + ((12345 : Int32))) ^^^ (((((((sy_i F 7) ^^^ ((101 : Int32))) * ((1103515245 : Int32))) + ((12345 : Int32)))).toUInt32 >>> ((((15 : Int32))).toUInt32 &&& Int32.toUInt32 31)).toInt32)) ^^^ (((1000000 : Int32)) + (sy_i F 51))) * ((1103515245 : Int32))) + ((12345 : Int32))) ^^^ (((((((((((sy_i F 7) ^^^ ((101 : Int32))) * ((1103515245 : Int32))) + ((12345 : Int32))) ^^^ (((((((sy_i F 7) ^^^ ((101 : Int32))) * ((1103515245 : Int32))) + ((12345 : Int32)))).toUInt32 >>> ((((15 : Int32))).toUInt32 &&& Int32.toUInt32 31)).toInt32)) ^^^ (((1000000 : Int32)) + (sy_i F 51))) * ((1103515245 : Int32))) + ((12345 : Int32)))).toUInt32 >>> ((((15 : Int32))).toUInt32 &&& Int32.toUInt32 31)).toInt32))).toUInt32 >>> ((((1 : Int32))).toUInt32 &&& Int32.toUInt32 31)).toInt32) / ((100 : Int32)) * ((100 : Int32)) = ((((((((((((sy_i F 7) ^^^ ((101 : Int32))) * ((1103515245 : Int32))) + ((12345 : Int32))) ^^^ (((((((sy_i F 7) ^^^ ((101 : Int32))) * ((1103515245 : Int32))) + ((12345 : Int32)))).toUInt32 >>> ((((15 : Int32))).toUInt32 &&& Int32.toUInt32 31)).toInt32)) ^^^ (((1000000 : Int32)) + (sy_i F 51))) * ((1103515245 : Int32))) + ((12345 : Int32))) ^^^ (((((((((((sy_i F 7) ^^^ ((101 : Int32))) * ((1103515245 : Int32))) + ((12345 : Int32))) ^^^ (((((((sy_i F 7) ^^^ ((101 : Int32))) * ((1103515245 : Int32))) + ((12345 : Int32)))).toUInt32 >>> ((((15 : Int32))).toUInt32 &&& Int32.toUInt32 31)).toInt32)) ^^^ (((1000000 : Int32)) + (sy_i F 51))) * ((1103515245 : Int32))) + ((12345 : Int32)))).toUInt32 >>> ((((15 : Int32))).toUInt32 &&& Int32.toUInt32 31)).toInt32))).toUInt32 >>> ((((1 : Int32))).toUInt32 &&& Int32.toUInt32 31)).toInt32) - ((((((((((((sy_i F 7) ^^^ ((101 : Int32))) * ((1103515245 : Int32))) + ((12345 : Int32))) ^^^ (((((((sy_i F 7) ^^^ ((101 : Int32))) * ((1103515245 : Int32))) + ((12345 : Int32)))).toUInt32 >>> ((((15 : Int32))).toUInt32 &&& Int32.toUInt32 31)).toInt32)) ^^^ (((1000000 : Int32)) + (sy_i F 51))) * ((1103515245 : Int32))) + ((12345 : Int32))) ^^^ (((((((((((sy_i F 7) ^^^ ((101 : Int32))) * ((1103515245 : Int32))) + ((12345 : Int32))) ^^^ (((((((sy_i F 7) ^^^ ((101 : Int32))) * ((1103515245 : Int32))) + ((12345 : Int32)))).toUInt32 >>> ((((15 : Int32))).toUInt32 &&& Int32.toUInt32 31)).toInt32)) ^^^ (((1000000 : Int32)) + (sy_i F 51))) * ((1103515245 : Int32))) + ((12345 : Int32)))).toUInt32 >>> ((((15 : Int32))).toUInt32 &&& Int32.toUInt32 31)).toInt32))).toUInt32 >>> ((((1 : Int32))).toUInt32 &&& Int32.toUInt32 31)).toInt32) / ((100 : Int32)) * ((100 : Int32)))) ((congrArg Int32.toInt (zz_i e83)).trans (rfl : (sy_i F 50).toInt = (sy_i F 50).toInt)) ((zz_i e83).trans (rfl : sy_i F 50 = sy_i F 50)) ((congrArg Int32.toInt (zz_i e84)).trans (rfl : (sy_i F 3).toInt = (sy_i F 3).toInt)) ((zz_i e84).trans (rfl : sy_i F 3 = sy_i F 3)))
theorem j1sq_116_p0 {Ls : Nat} {xs : Nat → Int32} {d : Nat} {Q : Option Value → jm_h → Prop} (hd : 1 ≤ d) (F : Nat → sy_d) (X1 X2 : List jm_c) (hB : iv_in F iv_B0)
    (k : ∀ F1 : Nat → sy_d, (∀ j, j < 82 → j ≠ 45 → F1 j = F j) → F1 45 = .inr (.inl (jm_upd (sy_ai F 45) ((5 : Int32)).toNatClampNeg (sy_i F 51))) → F1 82 = .inl (.int (sy_i F 82)) → hd_W Ls xs d jm_M90 Q (142, sy_dL F1 [some (.inl (.ref 8)), none, some (.inr (.inl 82)), none], sy_dS F1 [.inl (.int 5), .inl (.ref 10), .inl (.ref 38), .inr (.inl 82)], sy_dh F1 X1 X2 (iv_H 1), 0, 0)) :
    hd_W Ls xs d jm_M90 Q (116, sy_dL F [some (.inl (.ref 8)), none, some (.inr (.inl 82)), none], sy_dS F [], sy_dh F X1 X2 (iv_H 1), 0, 0) := by
  refine hd_run (s := 1) (nv := 83) (pc := 142) (L := [some (.inl (.ref 8)), none, some (.inr (.inl 82)), none]) (S := [.inl (.int 5), .inl (.ref 10), .inl (.ref 38), .inr (.inl 82)]) (uh := hd_ov (iv_id 0 iv_B0) [(45, .inr (.inr (.inl 83)))]) (ul := [.inl (.inr (.inl 82))]) (f := false) (sp := [142]) (d0 := 0) (O := []) (T := [(40, [.inl (.int 5), .inr (.inl 51)], [.inr (.inl 45)])]) (P := []) jm_ok90 (by decide +kernel) (by decide +kernel) hd F X1 X2 (fun F' hF hs => ?_)
  have b51 := hd_b (F := F) (F' := F') (k := 51) (hF 51 (by decide))
  have a45 := hd_ba (F := F) (F' := F') (k := 45) (hF 45 (by decide))
  have t83 : sy_da F' (.inr (.inl 83)) = .inl (jm_upd (sy_ai F 45) ((5 : Int32)).toNatClampNeg (sy_i F 51)) := hd_up (hs 0 _ rfl) rfl b51 a45
  have b82 := hd_b (F := F) (F' := F') (k := 82) (hF 82 (by decide))
  have hB' : iv_in F' iv_B0 := iv_in_eq hB (fun j hj => hF j (Nat.lt_of_lt_of_le hj (by decide +kernel)))
  refine ⟨fun _ h => absurd h List.not_mem_nil, ?_⟩
  refine k _ ?_ ?_ ?_
  · exact fun j hj hn => (hd_keep hB' (Nat.lt_of_lt_of_le hj (by decide +kernel)) (by simp; omega)).trans (hF j (Nat.lt_of_lt_of_le hj (by decide)))
  · exact hd_ga (a := .inr (.inl 83)) (by decide +kernel) t83
  · exact hd_gi (x := .inr (.inl 82)) (by decide +kernel) b82
theorem j1sq_116 {Ls : Nat} {xs : Nat → Int32} {d : Nat} {Q : Option Value → jm_h → Prop} (hd : 1 ≤ d) (F : Nat → sy_d) (X1 X2 : List jm_c) (hB : iv_in F iv_B0)
    (k0 : ∀ F1 : Nat → sy_d, iv_in F1 iv_B0 → (∀ j, j < 82 → j ∉ ([45] : List Nat) → F1 j = F j) → sy_ai F1 45 = jm_upd (sy_ai F 45) (5 : Int).toNat (sy_i F 51) → (sy_i F1 82).toInt = (sy_i F 82).toInt → sy_i F1 82 = sy_i F 82 → hd_W Ls xs d jm_M90 Q (142, sy_dL F1 [some (.inl (.ref 8)), none, some (.inr (.inl 82)), none], sy_dS F1 [.inl (.int 5), .inl (.ref 10), .inl (.ref 38), .inr (.inl 82)], sy_dh F1 X1 X2 (iv_H 1), 0, 0)) :
    hd_W Ls xs d jm_M90 Q (116, sy_dL F [some (.inl (.ref 8)), none, some (.inr (.inl 82)), none], sy_dS F [], sy_dh F X1 X2 (iv_H 1), 0, 0) := by
  have w83 : jm_upd (sy_ai F 45) ((5 : Int32)).toNatClampNeg (sy_i F 51) = jm_upd (sy_ai F 45) (5 : Int).toNat (sy_i F 51) := by simp only [nz_c, (by decide : ((5 : Int32)).toInt = 5)]
  exact j1sq_116_p0 hd F X1 X2 hB  (fun F1 g e45 e82 => k0 F1 (nz_in0 hB [45] (fun j hj hn => g j hj (by simp only [List.mem_cons, List.not_mem_nil, or_false, not_or] at hn; omega)) (List.forall_mem_cons.mpr ⟨fun t ht => (Option.some.inj ht) ▸ (nz_hz2 e45), List.forall_mem_nil _⟩)) (fun j hj hn => g j hj (by simp only [List.mem_cons, List.not_mem_nil, or_false, not_or] at hn; omega)) ((zz_ai e45).trans w83) ((congrArg Int32.toInt (zz_i e82)).trans (rfl : (sy_i F 82).toInt = (sy_i F 82).toInt)) ((zz_i e82).trans (rfl : sy_i F 82 = sy_i F 82)))
theorem j1sq_145_p0 {Ls : Nat} {xs : Nat → Int32} {d : Nat} {Q : Option Value → jm_h → Prop} (hd : 1 ≤ d) (F : Nat → sy_d) (X1 X2 : List jm_c) (hB : iv_in F iv_B0)
    (h0 : (sy_i F 83).toInt ≤ (sy_i F 82).toInt)
    (k : ∀ F1 : Nat → sy_d, (∀ j, j < 82 → True → F1 j = F j) → Q (some (.int ((0 : Int32)))) (sy_dh F1 X1 X2 (iv_H 1))) :
    hd_W Ls xs d jm_M90 Q (145, sy_dL F [some (.inl (.ref 8)), none, some (.inr (.inl 82)), none], sy_dS F [.inr (.inl 83), .inr (.inl 82)], sy_dh F X1 X2 (iv_H 1), 0, 0) := by
  refine hd_ret (s := 1) (nv := 84) (v := some (.inl (.int 0))) (uh := hd_ov (iv_id 0 iv_B0) []) (f := false) (sp := []) (d0 := 0) (O := [true]) (T := []) (P := [(4, .inr (.inl 83), .inr (.inl 82))]) jm_ok90 (by decide +kernel) (by decide +kernel) hd F X1 X2 (fun F' hF hs => ?_)
  have b83 := hd_b (F := F) (F' := F') (k := 83) (hF 83 (by decide))
  have b82 := hd_b (F := F) (F' := F') (k := 82) (hF 82 (by decide))
  have hB' : iv_in F' iv_B0 := iv_in_eq hB (fun j hj => hF j (Nat.lt_of_lt_of_le hj (by decide +kernel)))
  refine ⟨List.forall_mem_cons.mpr ⟨hd_p4 b83 b82 h0, fun _ h => absurd h List.not_mem_nil⟩, ?_⟩
  refine k _ ?_
  · exact fun j hj _ => (hd_keep hB' (Nat.lt_of_lt_of_le hj (by decide +kernel)) (by simp)).trans (hF j (Nat.lt_of_lt_of_le hj (by decide)))
theorem j1sq_145_p1 {Ls : Nat} {xs : Nat → Int32} {d : Nat} {Q : Option Value → jm_h → Prop} (hd : 1 ≤ d) (F : Nat → sy_d) (X1 X2 : List jm_c) (hB : iv_in F iv_B0)
    (h0 : (sy_i F 82).toInt < (sy_i F 83).toInt)
    (k : ∀ F1 : Nat → sy_d, (∀ j, j < 82 → j ≠ 52 → F1 j = F j) → F1 52 = .inl (.int ((sy_i F 52) + ((1 : Int32)))) → Q (some (.int ((1 : Int32)))) (sy_dh F1 X1 X2 (iv_H 1))) :
    hd_W Ls xs d jm_M90 Q (145, sy_dL F [some (.inl (.ref 8)), none, some (.inr (.inl 82)), none], sy_dS F [.inr (.inl 83), .inr (.inl 82)], sy_dh F X1 X2 (iv_H 1), 0, 0) := by
  refine hd_ret (s := 1) (nv := 84) (v := some (.inl (.int 1))) (uh := hd_ov (iv_id 0 iv_B0) [(52, .inl (.inr (.inl 84)))]) (f := false) (sp := []) (d0 := 0) (O := [false]) (T := [(0, [.inr (.inl 52), .inl (.int 1)], [])]) (P := [(5, .inr (.inl 83), .inr (.inl 82))]) jm_ok90 (by decide +kernel) (by decide +kernel) hd F X1 X2 (fun F' hF hs => ?_)
  have b83 := hd_b (F := F) (F' := F') (k := 83) (hF 83 (by decide))
  have b82 := hd_b (F := F) (F' := F') (k := 82) (hF 82 (by decide))
  have b52 := hd_b (F := F) (F' := F') (k := 52) (hF 52 (by decide))
  have t84 : sy_dv F' (.inr (.inl 84)) = .int ((sy_i F 52) + ((1 : Int32))) := hd_o (hs 0 _ rfl) b52 rfl rfl
  have hB' : iv_in F' iv_B0 := iv_in_eq hB (fun j hj => hF j (Nat.lt_of_lt_of_le hj (by decide +kernel)))
  refine ⟨List.forall_mem_cons.mpr ⟨hd_p5 b83 b82 h0, fun _ h => absurd h List.not_mem_nil⟩, ?_⟩
  refine k _ ?_ ?_
  · exact fun j hj hn => (hd_keep hB' (Nat.lt_of_lt_of_le hj (by decide +kernel)) (by simp; omega)).trans (hF j (Nat.lt_of_lt_of_le hj (by decide)))
  · exact hd_gi (x := .inr (.inl 84)) (by decide +kernel) t84
theorem j1sq_145 {Ls : Nat} {xs : Nat → Int32} {d : Nat} {Q : Option Value → jm_h → Prop} (hd : 1 ≤ d) (F : Nat → sy_d) (X1 X2 : List jm_c) (hB : iv_in F iv_B0)
    (k0 : (sy_i F 83).toInt ≤ (sy_i F 82).toInt → ∀ F1 : Nat → sy_d, iv_in F1 iv_B0 → (∀ j, j < 82 → j ∉ ([] : List Nat) → F1 j = F j) → Q (some (.int ((0 : Int32)))) (sy_dh F1 X1 X2 (iv_H 1)))
    (k1 : (sy_i F 82).toInt < (sy_i F 83).toInt → ∀ F1 : Nat → sy_d, iv_in F1 iv_B0 → (∀ j, j < 82 → j ∉ ([52] : List Nat) → F1 j = F j) → (sy_i F1 52).toInt = ((sy_i F 52) + ((1 : Int32))).toInt → sy_i F1 52 = (sy_i F 52) + ((1 : Int32)) → Q (some (.int ((1 : Int32)))) (sy_dh F1 X1 X2 (iv_H 1))) :
    hd_W Ls xs d jm_M90 Q (145, sy_dL F [some (.inl (.ref 8)), none, some (.inr (.inl 82)), none], sy_dS F [.inr (.inl 83), .inr (.inl 82)], sy_dh F X1 X2 (iv_H 1), 0, 0) := by
  by_cases g0 : (sy_i F 83).toInt ≤ (sy_i F 82).toInt
  · exact j1sq_145_p0 hd F X1 X2 hB (by first | exact g0 | (simp only [nz_c]; exact g0)) (fun F1 g  => k0 g0 F1 (nz_in0 hB [] (fun j hj hn => g j hj (by simp only [List.mem_cons, List.not_mem_nil, or_false, not_or] at hn; exact trivial)) (List.forall_mem_nil _)) (fun j hj hn => g j hj (by simp only [List.mem_cons, List.not_mem_nil, or_false, not_or] at hn; exact trivial)) )
  replace g0 : (sy_i F 82).toInt < (sy_i F 83).toInt := by omega
  have n84 : nzI ((sy_i F 52) + ((1 : Int32))) (((sy_i F 52) + ((1 : Int32))).toInt) := congrArg Int32.toInt (rfl : (sy_i F 52) + ((1 : Int32)) = (sy_i F 52) + ((1 : Int32)))
  exact j1sq_145_p1 hd F X1 X2 hB (by first | exact g0 | (simp only [nz_c]; exact g0)) (fun F1 g e52 => k1 g0 F1 (nz_in0 hB [52] (fun j hj hn => g j hj (by simp only [List.mem_cons, List.not_mem_nil, or_false, not_or] at hn; omega)) (List.forall_mem_cons.mpr ⟨fun t ht => (Option.some.inj ht) ▸ (nz_hz e52), List.forall_mem_nil _⟩)) (fun j hj hn => g j hj (by simp only [List.mem_cons, List.not_mem_nil, or_false, not_or] at hn; omega)) ((congrArg Int32.toInt (zz_i e52)).trans (nzE n84)) ((zz_i e52).trans (rfl : (sy_i F 52) + ((1 : Int32)) = (sy_i F 52) + ((1 : Int32)))))
theorem j1hq_0_p0 {Ls : Nat} {xs : Nat → Int32} {d : Nat} {Q : Option Value → jm_h → Prop} (hd : 2 ≤ d) (F : Nat → sy_d) (X1 X2 : List jm_c) (hB : iv_in F iv_B0)
    (h0 : (sy_i F 82).toInt < 0)
    (k : ∀ F1 : Nat → sy_d, (∀ j, j < 82 → True → F1 j = F j) → Q (some (.int (((-1) : Int32)))) (sy_dh F1 X1 X2 (iv_H 1))) :
    hd_W Ls xs d jm_M91 Q (0, sy_dL F [some (.inl (.ref 8)), some (.inr (.inl 82)), none], sy_dS F [], sy_dh F X1 X2 (iv_H 1), 0, 0) := by
  refine hd_ret (s := 1) (nv := 83) (v := some (.inl (.int (-1)))) (uh := hd_ov (iv_id 0 iv_B0) []) (f := true) (sp := [24]) (d0 := 1) (O := [true]) (T := []) (P := [(2, .inr (.inl 82), .inl (.int 0))]) jm_ok91 (by decide +kernel) (by decide +kernel) hd F X1 X2 (fun F' hF hs => ?_)
  have b82 := hd_b (F := F) (F' := F') (k := 82) (hF 82 (by decide))
  have hB' : iv_in F' iv_B0 := iv_in_eq hB (fun j hj => hF j (Nat.lt_of_lt_of_le hj (by decide +kernel)))
  refine ⟨List.forall_mem_cons.mpr ⟨hd_p2 b82 rfl (by have hc : ((0) : Int32).toInt = 0 := (by decide); omega), fun _ h => absurd h List.not_mem_nil⟩, ?_⟩
  refine k _ ?_
  · exact fun j hj _ => (hd_keep hB' (Nat.lt_of_lt_of_le hj (by decide +kernel)) (by simp)).trans (hF j (Nat.lt_of_lt_of_le hj (by decide)))
theorem j1hq_0_p1 {Ls : Nat} {xs : Nat → Int32} {d : Nat} {Q : Option Value → jm_h → Prop} (hd : 2 ≤ d) (F : Nat → sy_d) (X1 X2 : List jm_c) (hB : iv_in F iv_B0)
    (h0 : 0 ≤ (sy_i F 82).toInt)
    (h1 : 48 < (sy_i F 82).toInt)
    (k : ∀ F1 : Nat → sy_d, (∀ j, j < 82 → True → F1 j = F j) → Q (some (.int (((-1) : Int32)))) (sy_dh F1 X1 X2 (iv_H 1))) :
    hd_W Ls xs d jm_M91 Q (0, sy_dL F [some (.inl (.ref 8)), some (.inr (.inl 82)), none], sy_dS F [], sy_dh F X1 X2 (iv_H 1), 0, 0) := by
  refine hd_ret (s := 1) (nv := 83) (v := some (.inl (.int (-1)))) (uh := hd_ov (iv_id 0 iv_B0) []) (f := true) (sp := [24]) (d0 := 1) (O := [false, true]) (T := []) (P := [(3, .inr (.inl 82), .inl (.int 0)), (2, .inl (.int 48), .inr (.inl 82))]) jm_ok91 (by decide +kernel) (by decide +kernel) hd F X1 X2 (fun F' hF hs => ?_)
  have b82 := hd_b (F := F) (F' := F') (k := 82) (hF 82 (by decide))
  have hB' : iv_in F' iv_B0 := iv_in_eq hB (fun j hj => hF j (Nat.lt_of_lt_of_le hj (by decide +kernel)))
  refine ⟨List.forall_mem_cons.mpr ⟨hd_p3 b82 rfl (by have hc : ((0) : Int32).toInt = 0 := (by decide); omega), List.forall_mem_cons.mpr ⟨hd_p2 rfl b82 (by have hc : ((48) : Int32).toInt = 48 := (by decide); omega), fun _ h => absurd h List.not_mem_nil⟩⟩, ?_⟩
  refine k _ ?_
  · exact fun j hj _ => (hd_keep hB' (Nat.lt_of_lt_of_le hj (by decide +kernel)) (by simp)).trans (hF j (Nat.lt_of_lt_of_le hj (by decide)))
theorem j1hq_0_p2 {Ls : Nat} {xs : Nat → Int32} {d : Nat} {Q : Option Value → jm_h → Prop} (hd : 2 ≤ d) (F : Nat → sy_d) (X1 X2 : List jm_c) (hB : iv_in F iv_B0)
    (h0 : 0 ≤ (sy_i F 82).toInt)
    (h1 : (sy_i F 82).toInt ≤ 48)
    (h2 : (sy_i F 82).toInt ≤ 0)
    (k : ∀ F1 : Nat → sy_d, (∀ j, j < 82 → True → F1 j = F j) → Q (some (.int (sy_i F 50))) (sy_dh F1 X1 X2 (iv_H 1))) :
    hd_W Ls xs d jm_M91 Q (0, sy_dL F [some (.inl (.ref 8)), some (.inr (.inl 82)), none], sy_dS F [], sy_dh F X1 X2 (iv_H 1), 0, 0) := by
  refine hd_ret (s := 1) (nv := 83) (v := some (.inr (.inl 50))) (uh := hd_ov (iv_id 0 iv_B0) []) (f := true) (sp := [24]) (d0 := 1) (O := [false, false, true]) (T := []) (P := [(3, .inr (.inl 82), .inl (.int 0)), (3, .inl (.int 48), .inr (.inl 82)), (4, .inr (.inl 82), .inl (.int 0))]) jm_ok91 (by decide +kernel) (by decide +kernel) hd F X1 X2 (fun F' hF hs => ?_)
  have b82 := hd_b (F := F) (F' := F') (k := 82) (hF 82 (by decide))
  have b50 := hd_b (F := F) (F' := F') (k := 50) (hF 50 (by decide))
  have hB' : iv_in F' iv_B0 := iv_in_eq hB (fun j hj => hF j (Nat.lt_of_lt_of_le hj (by decide +kernel)))
  have hk := k (sy_cm F' (hd_ov (iv_id 0 iv_B0) [] ++ [])) (fun j hj _ => (hd_keep hB' (Nat.lt_of_lt_of_le hj (by decide +kernel)) (by simp)).trans (hF j (Nat.lt_of_lt_of_le hj (by decide))))
  refine ⟨List.forall_mem_cons.mpr ⟨hd_p3 b82 rfl (by have hc : ((0) : Int32).toInt = 0 := (by decide); omega), List.forall_mem_cons.mpr ⟨hd_p3 rfl b82 (by have hc : ((48) : Int32).toInt = 48 := (by decide); omega), List.forall_mem_cons.mpr ⟨hd_p4 b82 rfl (by have hc : ((0) : Int32).toInt = 0 := (by decide); omega), fun _ h => absurd h List.not_mem_nil⟩⟩⟩, ?_⟩
  show Q (some (sy_dv F' (.inr (.inl 50)))) _
  rw [b50]
  exact hk
theorem j1hq_0_p3 {Ls : Nat} {xs : Nat → Int32} {d : Nat} {Q : Option Value → jm_h → Prop} (hd : 2 ≤ d) (F : Nat → sy_d) (X1 X2 : List jm_c) (hB : iv_in F iv_B0)
    (h0 : 0 ≤ (sy_i F 82).toInt)
    (h1 : (sy_i F 82).toInt ≤ 48)
    (h2 : 0 < (sy_i F 82).toInt)
    (k : ∀ F1 : Nat → sy_d, (∀ j, j < 82 → True → F1 j = F j) → F1 82 = .inl (.int (sy_i F 82)) → hd_W Ls xs d jm_M91 Q (24, sy_dL F1 [some (.inl (.ref 8)), some (.inr (.inl 82)), none], sy_dS F1 [.inl (.ref 46), .inl (.ref 66)], sy_dh F1 X1 X2 (iv_H 1), 0, 0)) :
    hd_W Ls xs d jm_M91 Q (0, sy_dL F [some (.inl (.ref 8)), some (.inr (.inl 82)), none], sy_dS F [], sy_dh F X1 X2 (iv_H 1), 0, 0) := by
  refine hd_run (s := 1) (nv := 83) (pc := 24) (L := [some (.inl (.ref 8)), some (.inr (.inl 82)), none]) (S := [.inl (.ref 46), .inl (.ref 66)]) (uh := hd_ov (iv_id 0 iv_B0) []) (ul := [.inl (.inr (.inl 82))]) (f := true) (sp := [24]) (d0 := 1) (O := [false, false, false]) (T := []) (P := [(3, .inr (.inl 82), .inl (.int 0)), (3, .inl (.int 48), .inr (.inl 82)), (5, .inr (.inl 82), .inl (.int 0))]) jm_ok91 (by decide +kernel) (by decide +kernel) hd F X1 X2 (fun F' hF hs => ?_)
  have b82 := hd_b (F := F) (F' := F') (k := 82) (hF 82 (by decide))
  have hB' : iv_in F' iv_B0 := iv_in_eq hB (fun j hj => hF j (Nat.lt_of_lt_of_le hj (by decide +kernel)))
  refine ⟨List.forall_mem_cons.mpr ⟨hd_p3 b82 rfl (by have hc : ((0) : Int32).toInt = 0 := (by decide); omega), List.forall_mem_cons.mpr ⟨hd_p3 rfl b82 (by have hc : ((48) : Int32).toInt = 48 := (by decide); omega), List.forall_mem_cons.mpr ⟨hd_p5 b82 rfl (by have hc : ((0) : Int32).toInt = 0 := (by decide); omega), fun _ h => absurd h List.not_mem_nil⟩⟩⟩, ?_⟩
  refine k _ ?_ ?_
  · exact fun j hj _ => (hd_keep hB' (Nat.lt_of_lt_of_le hj (by decide +kernel)) (by simp)).trans (hF j (Nat.lt_of_lt_of_le hj (by decide)))
  · exact hd_gi (x := .inr (.inl 82)) (by decide +kernel) b82
theorem j1hq_0 {Ls : Nat} {xs : Nat → Int32} {d : Nat} {Q : Option Value → jm_h → Prop} (hd : 2 ≤ d) (F : Nat → sy_d) (X1 X2 : List jm_c) (hB : iv_in F iv_B0)
    (k0 : (sy_i F 82).toInt < 0 → ∀ F1 : Nat → sy_d, iv_in F1 iv_B0 → (∀ j, j < 82 → j ∉ ([] : List Nat) → F1 j = F j) → Q (some (.int (((-1) : Int32)))) (sy_dh F1 X1 X2 (iv_H 1)))
    (k1 : 0 ≤ (sy_i F 82).toInt → 48 < (sy_i F 82).toInt → ∀ F1 : Nat → sy_d, iv_in F1 iv_B0 → (∀ j, j < 82 → j ∉ ([] : List Nat) → F1 j = F j) → Q (some (.int (((-1) : Int32)))) (sy_dh F1 X1 X2 (iv_H 1)))
    (k2 : 0 ≤ (sy_i F 82).toInt → (sy_i F 82).toInt ≤ 48 → (sy_i F 82).toInt ≤ 0 → ∀ F1 : Nat → sy_d, iv_in F1 iv_B0 → (∀ j, j < 82 → j ∉ ([] : List Nat) → F1 j = F j) → Q (some (.int (sy_i F 50))) (sy_dh F1 X1 X2 (iv_H 1)))
    (k3 : 0 ≤ (sy_i F 82).toInt → (sy_i F 82).toInt ≤ 48 → 0 < (sy_i F 82).toInt → ∀ F1 : Nat → sy_d, iv_in F1 iv_B0 → (∀ j, j < 82 → j ∉ ([] : List Nat) → F1 j = F j) → (sy_i F1 82).toInt = (sy_i F 82).toInt → sy_i F1 82 = sy_i F 82 → hd_W Ls xs d jm_M91 Q (24, sy_dL F1 [some (.inl (.ref 8)), some (.inr (.inl 82)), none], sy_dS F1 [.inl (.ref 46), .inl (.ref 66)], sy_dh F1 X1 X2 (iv_H 1), 0, 0)) :
    hd_W Ls xs d jm_M91 Q (0, sy_dL F [some (.inl (.ref 8)), some (.inr (.inl 82)), none], sy_dS F [], sy_dh F X1 X2 (iv_H 1), 0, 0) := by
  by_cases g0 : (sy_i F 82).toInt < 0
  · exact j1hq_0_p0 hd F X1 X2 hB (by first | exact g0 | (simp only [nz_c]; exact g0)) (fun F1 g  => k0 g0 F1 (nz_in0 hB [] (fun j hj hn => g j hj (by simp only [List.mem_cons, List.not_mem_nil, or_false, not_or] at hn; exact trivial)) (List.forall_mem_nil _)) (fun j hj hn => g j hj (by simp only [List.mem_cons, List.not_mem_nil, or_false, not_or] at hn; exact trivial)) )
  replace g0 : 0 ≤ (sy_i F 82).toInt := by omega
  by_cases g1 : 48 < (sy_i F 82).toInt
  · exact j1hq_0_p1 hd F X1 X2 hB (by first | exact g0 | (simp only [nz_c]; exact g0)) (by first | exact g1 | (simp only [nz_c]; exact g1)) (fun F1 g  => k1 g0 g1 F1 (nz_in0 hB [] (fun j hj hn => g j hj (by simp only [List.mem_cons, List.not_mem_nil, or_false, not_or] at hn; exact trivial)) (List.forall_mem_nil _)) (fun j hj hn => g j hj (by simp only [List.mem_cons, List.not_mem_nil, or_false, not_or] at hn; exact trivial)) )
  replace g1 : (sy_i F 82).toInt ≤ 48 := by omega
  by_cases g2 : (sy_i F 82).toInt ≤ 0
  · exact j1hq_0_p2 hd F X1 X2 hB (by first | exact g0 | (simp only [nz_c]; exact g0)) (by first | exact g1 | (simp only [nz_c]; exact g1)) (by first | exact g2 | (simp only [nz_c]; exact g2)) (fun F1 g  => by rw [(rfl : sy_i F 50 = sy_i F 50)]; exact k2 g0 g1 g2 F1 (nz_in0 hB [] (fun j hj hn => g j hj (by simp only [List.mem_cons, List.not_mem_nil, or_false, not_or] at hn; exact trivial)) (List.forall_mem_nil _)) (fun j hj hn => g j hj (by simp only [List.mem_cons, List.not_mem_nil, or_false, not_or] at hn; exact trivial)) )
  replace g2 : 0 < (sy_i F 82).toInt := by omega
  exact j1hq_0_p3 hd F X1 X2 hB (by first | exact g0 | (simp only [nz_c]; exact g0)) (by first | exact g1 | (simp only [nz_c]; exact g1)) (by first | exact g2 | (simp only [nz_c]; exact g2)) (fun F1 g e82 => k3 g0 g1 g2 F1 (nz_in0 hB [] (fun j hj hn => g j hj (by simp only [List.mem_cons, List.not_mem_nil, or_false, not_or] at hn; exact trivial)) (List.forall_mem_nil _)) (fun j hj hn => g j hj (by simp only [List.mem_cons, List.not_mem_nil, or_false, not_or] at hn; exact trivial)) ((congrArg Int32.toInt (zz_i e82)).trans (rfl : (sy_i F 82).toInt = (sy_i F 82).toInt)) ((zz_i e82).trans (rfl : sy_i F 82 = sy_i F 82)))
theorem j1hq_27_p0 {Ls : Nat} {xs : Nat → Int32} {d : Nat} {Q : Option Value → jm_h → Prop} (hd : 1 ≤ d) (F : Nat → sy_d) (X1 X2 : List jm_c) (hB : iv_in F iv_B0)
    (k : ∀ F1 : Nat → sy_d, (∀ j, j < 82 → True → F1 j = F j) → F1 82 = .inl (.int (sy_i F 82)) → F1 83 = .inl (.int ((0 : Int32))) → hd_W Ls xs d jm_M91 Q (29, sy_dL F1 [some (.inl (.ref 8)), some (.inr (.inl 82)), some (.inr (.inl 83))], sy_dS F1 [], sy_dh F1 X1 X2 (iv_H 1), 0, 0)) :
    hd_W Ls xs d jm_M91 Q (27, sy_dL F [some (.inl (.ref 8)), some (.inr (.inl 82)), none], sy_dS F [], sy_dh F X1 X2 (iv_H 1), 0, 0) := by
  refine hd_run (s := 1) (nv := 83) (pc := 29) (L := [some (.inl (.ref 8)), some (.inr (.inl 82)), some (.inr (.inl 83))]) (S := []) (uh := hd_ov (iv_id 0 iv_B0) []) (ul := [.inl (.inr (.inl 82)), .inl (.inl (.int 0))]) (f := false) (sp := [29]) (d0 := 0) (O := []) (T := []) (P := []) jm_ok91 (by decide +kernel) (by decide +kernel) hd F X1 X2 (fun F' hF hs => ?_)
  have b82 := hd_b (F := F) (F' := F') (k := 82) (hF 82 (by decide))
  have hB' : iv_in F' iv_B0 := iv_in_eq hB (fun j hj => hF j (Nat.lt_of_lt_of_le hj (by decide +kernel)))
  refine ⟨fun _ h => absurd h List.not_mem_nil, ?_⟩
  refine k _ ?_ ?_ ?_
  · exact fun j hj _ => (hd_keep hB' (Nat.lt_of_lt_of_le hj (by decide +kernel)) (by simp)).trans (hF j (Nat.lt_of_lt_of_le hj (by decide)))
  · exact hd_gi (x := .inr (.inl 82)) (by decide +kernel) b82
  · exact hd_gi (x := .inl (.int 0)) (by decide +kernel) rfl
theorem j1hq_27 {Ls : Nat} {xs : Nat → Int32} {d : Nat} {Q : Option Value → jm_h → Prop} (hd : 1 ≤ d) (F : Nat → sy_d) (X1 X2 : List jm_c) (hB : iv_in F iv_B0)
    (k0 : ∀ F1 : Nat → sy_d, iv_in F1 iv_B0 → (∀ j, j < 82 → j ∉ ([] : List Nat) → F1 j = F j) → (sy_i F1 82).toInt = (sy_i F 82).toInt → sy_i F1 82 = sy_i F 82 → (sy_i F1 83).toInt = 0 → sy_i F1 83 = (0 : Int32) → hd_W Ls xs d jm_M91 Q (29, sy_dL F1 [some (.inl (.ref 8)), some (.inr (.inl 82)), some (.inr (.inl 83))], sy_dS F1 [], sy_dh F1 X1 X2 (iv_H 1), 0, 0)) :
    hd_W Ls xs d jm_M91 Q (27, sy_dL F [some (.inl (.ref 8)), some (.inr (.inl 82)), none], sy_dS F [], sy_dh F X1 X2 (iv_H 1), 0, 0) := by
  exact j1hq_27_p0 hd F X1 X2 hB  (fun F1 g e82 e83 => k0 F1 (nz_in0 hB [] (fun j hj hn => g j hj (by simp only [List.mem_cons, List.not_mem_nil, or_false, not_or] at hn; exact trivial)) (List.forall_mem_nil _)) (fun j hj hn => g j hj (by simp only [List.mem_cons, List.not_mem_nil, or_false, not_or] at hn; exact trivial)) ((congrArg Int32.toInt (zz_i e82)).trans (rfl : (sy_i F 82).toInt = (sy_i F 82).toInt)) ((zz_i e82).trans (rfl : sy_i F 82 = sy_i F 82)) ((congrArg Int32.toInt (zz_i e83)).trans (by decide : ((0 : Int32)).toInt = 0)) ((zz_i e83).trans (rfl : (0 : Int32) = (0 : Int32))))
theorem j1hq_29_p0 {Ls : Nat} {xs : Nat → Int32} {d : Nat} {Q : Option Value → jm_h → Prop} (hd : 1 ≤ d) (F : Nat → sy_d) (X1 X2 : List jm_c) (hB : iv_in F iv_B0)
    (h0 : (sy_i F 82).toInt ≤ (sy_i F 83).toInt)
    (k : ∀ F1 : Nat → sy_d, (∀ j, j < 82 → True → F1 j = F j) → Q (some (.int (sy_i F 50))) (sy_dh F1 X1 X2 (iv_H 1))) :
    hd_W Ls xs d jm_M91 Q (29, sy_dL F [some (.inl (.ref 8)), some (.inr (.inl 82)), some (.inr (.inl 83))], sy_dS F [], sy_dh F X1 X2 (iv_H 1), 0, 0) := by
  refine hd_ret (s := 1) (nv := 84) (v := some (.inr (.inl 50))) (uh := hd_ov (iv_id 0 iv_B0) []) (f := true) (sp := [53]) (d0 := 0) (O := [true]) (T := []) (P := [(4, .inr (.inl 82), .inr (.inl 83))]) jm_ok91 (by decide +kernel) (by decide +kernel) hd F X1 X2 (fun F' hF hs => ?_)
  have b82 := hd_b (F := F) (F' := F') (k := 82) (hF 82 (by decide))
  have b83 := hd_b (F := F) (F' := F') (k := 83) (hF 83 (by decide))
  have b50 := hd_b (F := F) (F' := F') (k := 50) (hF 50 (by decide))
  have hB' : iv_in F' iv_B0 := iv_in_eq hB (fun j hj => hF j (Nat.lt_of_lt_of_le hj (by decide +kernel)))
  have hk := k (sy_cm F' (hd_ov (iv_id 0 iv_B0) [] ++ [])) (fun j hj _ => (hd_keep hB' (Nat.lt_of_lt_of_le hj (by decide +kernel)) (by simp)).trans (hF j (Nat.lt_of_lt_of_le hj (by decide))))
  refine ⟨List.forall_mem_cons.mpr ⟨hd_p4 b82 b83 h0, fun _ h => absurd h List.not_mem_nil⟩, ?_⟩
  show Q (some (sy_dv F' (.inr (.inl 50)))) _
  rw [b50]
  exact hk
theorem j1hq_29_p1 {Ls : Nat} {xs : Nat → Int32} {d : Nat} {Q : Option Value → jm_h → Prop} (hd : 1 ≤ d) (F : Nat → sy_d) (X1 X2 : List jm_c) (hB : iv_in F iv_B0)
    (h0 : (sy_i F 83).toInt < (sy_i F 82).toInt)
    (k : ∀ F1 : Nat → sy_d, (∀ j, j < 82 → True → F1 j = F j) → F1 82 = .inl (.int (sy_i F 82)) → F1 83 = .inl (.int (sy_i F 83)) → F1 84 = .inl (.int (sy_i F 7)) → hd_W Ls xs d jm_M91 Q (53, sy_dL F1 [some (.inl (.ref 8)), some (.inr (.inl 82)), some (.inr (.inl 83))], sy_dS F1 [.inr (.inl 84), .inl (.ref 46), .inl (.ref 10), .inl (.ref 41)], sy_dh F1 X1 X2 (iv_H 1), 0, 0)) :
    hd_W Ls xs d jm_M91 Q (29, sy_dL F [some (.inl (.ref 8)), some (.inr (.inl 82)), some (.inr (.inl 83))], sy_dS F [], sy_dh F X1 X2 (iv_H 1), 0, 0) := by
  refine hd_run (s := 1) (nv := 84) (pc := 53) (L := [some (.inl (.ref 8)), some (.inr (.inl 82)), some (.inr (.inl 83))]) (S := [.inr (.inl 84), .inl (.ref 46), .inl (.ref 10), .inl (.ref 41)]) (uh := hd_ov (iv_id 0 iv_B0) []) (ul := [.inl (.inr (.inl 82)), .inl (.inr (.inl 83)), .inl (.inr (.inl 7))]) (f := true) (sp := [53]) (d0 := 0) (O := [false]) (T := []) (P := [(5, .inr (.inl 82), .inr (.inl 83))]) jm_ok91 (by decide +kernel) (by decide +kernel) hd F X1 X2 (fun F' hF hs => ?_)
  have b82 := hd_b (F := F) (F' := F') (k := 82) (hF 82 (by decide))
  have b83 := hd_b (F := F) (F' := F') (k := 83) (hF 83 (by decide))
  have b7 := hd_b (F := F) (F' := F') (k := 7) (hF 7 (by decide))
  have hB' : iv_in F' iv_B0 := iv_in_eq hB (fun j hj => hF j (Nat.lt_of_lt_of_le hj (by decide +kernel)))
  refine ⟨List.forall_mem_cons.mpr ⟨hd_p5 b82 b83 h0, fun _ h => absurd h List.not_mem_nil⟩, ?_⟩
  refine k _ ?_ ?_ ?_ ?_
  · exact fun j hj _ => (hd_keep hB' (Nat.lt_of_lt_of_le hj (by decide +kernel)) (by simp)).trans (hF j (Nat.lt_of_lt_of_le hj (by decide)))
  · exact hd_gi (x := .inr (.inl 82)) (by decide +kernel) b82
  · exact hd_gi (x := .inr (.inl 83)) (by decide +kernel) b83
  · exact hd_gi (x := .inr (.inl 7)) (by decide +kernel) b7
theorem j1hq_29 {Ls : Nat} {xs : Nat → Int32} {d : Nat} {Q : Option Value → jm_h → Prop} (hd : 1 ≤ d) (F : Nat → sy_d) (X1 X2 : List jm_c) (hB : iv_in F iv_B0)
    (a82 : 0 ≤ (sy_i F 82).toInt ∧ (sy_i F 82).toInt ≤ 48)
    (a83 : 0 ≤ (sy_i F 83).toInt ∧ (sy_i F 83).toInt ≤ 48)
    (k0 : (sy_i F 82).toInt ≤ (sy_i F 83).toInt → ∀ F1 : Nat → sy_d, iv_in F1 iv_B0 → (∀ j, j < 82 → j ∉ ([] : List Nat) → F1 j = F j) → Q (some (.int (sy_i F 50))) (sy_dh F1 X1 X2 (iv_H 1)))
    (k1 : (sy_i F 83).toInt < (sy_i F 82).toInt → ∀ F1 : Nat → sy_d, iv_in F1 iv_B0 → (∀ j, j < 82 → j ∉ ([] : List Nat) → F1 j = F j) → (sy_i F1 82).toInt = (sy_i F 82).toInt → sy_i F1 82 = sy_i F 82 → (sy_i F1 83).toInt = (sy_i F 83).toInt → sy_i F1 83 = sy_i F 83 → (sy_i F1 84).toInt = (sy_i F 7).toInt → sy_i F1 84 = sy_i F 7 → hd_W Ls xs d jm_M91 Q (53, sy_dL F1 [some (.inl (.ref 8)), some (.inr (.inl 82)), some (.inr (.inl 83))], sy_dS F1 [.inr (.inl 84), .inl (.ref 46), .inl (.ref 10), .inl (.ref 41)], sy_dh F1 X1 X2 (iv_H 1), 0, 0)) :
    hd_W Ls xs d jm_M91 Q (29, sy_dL F [some (.inl (.ref 8)), some (.inr (.inl 82)), some (.inr (.inl 83))], sy_dS F [], sy_dh F X1 X2 (iv_H 1), 0, 0) := by
  by_cases g0 : (sy_i F 82).toInt ≤ (sy_i F 83).toInt
  · exact j1hq_29_p0 hd F X1 X2 hB (by first | exact g0 | (simp only [nz_c]; exact g0)) (fun F1 g  => by rw [(rfl : sy_i F 50 = sy_i F 50)]; exact k0 g0 F1 (nz_in0 hB [] (fun j hj hn => g j hj (by simp only [List.mem_cons, List.not_mem_nil, or_false, not_or] at hn; exact trivial)) (List.forall_mem_nil _)) (fun j hj hn => g j hj (by simp only [List.mem_cons, List.not_mem_nil, or_false, not_or] at hn; exact trivial)) )
  replace g0 : (sy_i F 83).toInt < (sy_i F 82).toInt := by omega
  exact j1hq_29_p1 hd F X1 X2 hB (by first | exact g0 | (simp only [nz_c]; exact g0)) (fun F1 g e82 e83 e84 => k1 g0 F1 (nz_in0 hB [] (fun j hj hn => g j hj (by simp only [List.mem_cons, List.not_mem_nil, or_false, not_or] at hn; exact trivial)) (List.forall_mem_nil _)) (fun j hj hn => g j hj (by simp only [List.mem_cons, List.not_mem_nil, or_false, not_or] at hn; exact trivial)) ((congrArg Int32.toInt (zz_i e82)).trans (rfl : (sy_i F 82).toInt = (sy_i F 82).toInt)) ((zz_i e82).trans (rfl : sy_i F 82 = sy_i F 82)) ((congrArg Int32.toInt (zz_i e83)).trans (rfl : (sy_i F 83).toInt = (sy_i F 83).toInt)) ((zz_i e83).trans (rfl : sy_i F 83 = sy_i F 83)) ((congrArg Int32.toInt (zz_i e84)).trans (rfl : (sy_i F 7).toInt = (sy_i F 7).toInt)) ((zz_i e84).trans (rfl : sy_i F 7 = sy_i F 7)))
theorem j1hq_56_p0 {Ls : Nat} {xs : Nat → Int32} {d : Nat} {Q : Option Value → jm_h → Prop} (hd : 1 ≤ d) (F : Nat → sy_d) (X1 X2 : List jm_c) (hB : iv_in F iv_B0)
    (k : ∀ F1 : Nat → sy_d, (∀ j, j < 82 → True → F1 j = F j) → F1 82 = .inl (.int (sy_i F 82)) → F1 83 = .inl (.int ((sy_i F 83) + ((1 : Int32)))) → hd_W Ls xs d jm_M91 Q (29, sy_dL F1 [some (.inl (.ref 8)), some (.inr (.inl 82)), some (.inr (.inl 83))], sy_dS F1 [], sy_dh F1 X1 X2 (iv_H 1), 0, 0)) :
    hd_W Ls xs d jm_M91 Q (56, sy_dL F [some (.inl (.ref 8)), some (.inr (.inl 82)), some (.inr (.inl 83))], sy_dS F [], sy_dh F X1 X2 (iv_H 1), 0, 0) := by
  refine hd_run (s := 1) (nv := 84) (pc := 29) (L := [some (.inl (.ref 8)), some (.inr (.inl 82)), some (.inr (.inl 83))]) (S := []) (uh := hd_ov (iv_id 0 iv_B0) []) (ul := [.inl (.inr (.inl 82)), .inl (.inr (.inl 84))]) (f := false) (sp := [29]) (d0 := 0) (O := []) (T := [(0, [.inr (.inl 83), .inl (.int 1)], [])]) (P := []) jm_ok91 (by decide +kernel) (by decide +kernel) hd F X1 X2 (fun F' hF hs => ?_)
  have b82 := hd_b (F := F) (F' := F') (k := 82) (hF 82 (by decide))
  have b83 := hd_b (F := F) (F' := F') (k := 83) (hF 83 (by decide))
  have t84 : sy_dv F' (.inr (.inl 84)) = .int ((sy_i F 83) + ((1 : Int32))) := hd_o (hs 0 _ rfl) b83 rfl rfl
  have hB' : iv_in F' iv_B0 := iv_in_eq hB (fun j hj => hF j (Nat.lt_of_lt_of_le hj (by decide +kernel)))
  refine ⟨fun _ h => absurd h List.not_mem_nil, ?_⟩
  refine k _ ?_ ?_ ?_
  · exact fun j hj _ => (hd_keep hB' (Nat.lt_of_lt_of_le hj (by decide +kernel)) (by simp)).trans (hF j (Nat.lt_of_lt_of_le hj (by decide)))
  · exact hd_gi (x := .inr (.inl 82)) (by decide +kernel) b82
  · exact hd_gi (x := .inr (.inl 84)) (by decide +kernel) t84
theorem j1hq_56 {Ls : Nat} {xs : Nat → Int32} {d : Nat} {Q : Option Value → jm_h → Prop} (hd : 1 ≤ d) (F : Nat → sy_d) (X1 X2 : List jm_c) (hB : iv_in F iv_B0)
    (a83 : 0 ≤ (sy_i F 83).toInt ∧ (sy_i F 83).toInt ≤ 47)
    (k0 : ∀ F1 : Nat → sy_d, iv_in F1 iv_B0 → (∀ j, j < 82 → j ∉ ([] : List Nat) → F1 j = F j) → (sy_i F1 82).toInt = (sy_i F 82).toInt → sy_i F1 82 = sy_i F 82 → (sy_i F1 83).toInt = ((sy_i F 83).toInt + 1) → sy_i F1 83 = (sy_i F 83) + ((1 : Int32)) → hd_W Ls xs d jm_M91 Q (29, sy_dL F1 [some (.inl (.ref 8)), some (.inr (.inl 82)), some (.inr (.inl 83))], sy_dS F1 [], sy_dh F1 X1 X2 (iv_H 1), 0, 0)) :
    hd_W Ls xs d jm_M91 Q (56, sy_dL F [some (.inl (.ref 8)), some (.inr (.inl 82)), some (.inr (.inl 83))], sy_dS F [], sy_dh F X1 X2 (iv_H 1), 0, 0) := by
  have n84 : nzI ((sy_i F 83) + ((1 : Int32))) (((sy_i F 83).toInt + 1)) := nz_add (rfl : (sy_i F 83).toInt = (sy_i F 83).toInt) (by decide : ((1 : Int32)).toInt = 1) (by omega) (by omega)
  exact j1hq_56_p0 hd F X1 X2 hB  (fun F1 g e82 e83 => k0 F1 (nz_in0 hB [] (fun j hj hn => g j hj (by simp only [List.mem_cons, List.not_mem_nil, or_false, not_or] at hn; exact trivial)) (List.forall_mem_nil _)) (fun j hj hn => g j hj (by simp only [List.mem_cons, List.not_mem_nil, or_false, not_or] at hn; exact trivial)) ((congrArg Int32.toInt (zz_i e82)).trans (rfl : (sy_i F 82).toInt = (sy_i F 82).toInt)) ((zz_i e82).trans (rfl : sy_i F 82 = sy_i F 82)) ((congrArg Int32.toInt (zz_i e83)).trans (nzE n84)) ((zz_i e83).trans (rfl : (sy_i F 83) + ((1 : Int32)) = (sy_i F 83) + ((1 : Int32)))))
theorem j1pq_0_p0 {Ls : Nat} {xs : Nat → Int32} {d : Nat} {Q : Option Value → jm_h → Prop} (hd : 1 ≤ d) (F : Nat → sy_d) (X1 X2 : List jm_c) (hB : iv_in F iv_B0)
    (k : ∀ F1 : Nat → sy_d, (∀ j, j < 82 → True → F1 j = F j) → Q (some (.int (sy_i F 1))) (sy_dh F1 X1 X2 (iv_H 1))) :
    hd_W Ls xs d jm_M84 Q (0, sy_dL F [some (.inl (.ref 8))], sy_dS F [], sy_dh F X1 X2 (iv_H 1), 0, 0) := by
  refine hd_ret (s := 1) (nv := 82) (v := some (.inr (.inl 1))) (uh := hd_ov (iv_id 0 iv_B0) []) (f := true) (sp := []) (d0 := 0) (O := []) (T := []) (P := []) jm_ok84 (by decide +kernel) (by decide +kernel) hd F X1 X2 (fun F' hF hs => ?_)
  have b1 := hd_b (F := F) (F' := F') (k := 1) (hF 1 (by decide))
  have hB' : iv_in F' iv_B0 := iv_in_eq hB (fun j hj => hF j (Nat.lt_of_lt_of_le hj (by decide +kernel)))
  have hk := k (sy_cm F' (hd_ov (iv_id 0 iv_B0) [] ++ [])) (fun j hj _ => (hd_keep hB' (Nat.lt_of_lt_of_le hj (by decide +kernel)) (by simp)).trans (hF j (Nat.lt_of_lt_of_le hj (by decide))))
  refine ⟨fun _ h => absurd h List.not_mem_nil, ?_⟩
  show Q (some (sy_dv F' (.inr (.inl 1)))) _
  rw [b1]
  exact hk
theorem j1pq_0 {Ls : Nat} {xs : Nat → Int32} {d : Nat} {Q : Option Value → jm_h → Prop} (hd : 1 ≤ d) (F : Nat → sy_d) (X1 X2 : List jm_c) (hB : iv_in F iv_B0)
    (k0 : ∀ F1 : Nat → sy_d, iv_in F1 iv_B0 → (∀ j, j < 82 → j ∉ ([] : List Nat) → F1 j = F j) → Q (some (.int (sy_i F 1))) (sy_dh F1 X1 X2 (iv_H 1))) :
    hd_W Ls xs d jm_M84 Q (0, sy_dL F [some (.inl (.ref 8))], sy_dS F [], sy_dh F X1 X2 (iv_H 1), 0, 0) := by
  exact j1pq_0_p0 hd F X1 X2 hB  (fun F1 g  => by rw [(rfl : sy_i F 1 = sy_i F 1)]; exact k0 F1 (nz_in0 hB [] (fun j hj hn => g j hj (by simp only [List.mem_cons, List.not_mem_nil, or_false, not_or] at hn; exact trivial)) (List.forall_mem_nil _)) (fun j hj hn => g j hj (by simp only [List.mem_cons, List.not_mem_nil, or_false, not_or] at hn; exact trivial)) )
theorem j1fq_0_p0 {Ls : Nat} {xs : Nat → Int32} {d : Nat} {Q : Option Value → jm_h → Prop} (hd : 1 ≤ d) (F : Nat → sy_d) (X1 X2 : List jm_c) (hB : iv_in F iv_B0)
    (k : ∀ F1 : Nat → sy_d, (∀ j, j < 82 → j ≠ 79 → F1 j = F j) → F1 79 = .inl (.int ((0 : Int32))) → Q (some (.int (sy_i F 79))) (sy_dh F1 X1 X2 (iv_H 1))) :
    hd_W Ls xs d jm_M109 Q (0, sy_dL F [some (.inl (.ref 8)), none], sy_dS F [], sy_dh F X1 X2 (iv_H 1), 0, 0) := by
  refine hd_ret (s := 1) (nv := 82) (v := some (.inr (.inl 79))) (uh := hd_ov (iv_id 0 iv_B0) [(79, .inl (.inl (.int 0)))]) (f := true) (sp := []) (d0 := 0) (O := []) (T := []) (P := []) jm_ok109 (by decide +kernel) (by decide +kernel) hd F X1 X2 (fun F' hF hs => ?_)
  have b79 := hd_b (F := F) (F' := F') (k := 79) (hF 79 (by decide))
  have hB' : iv_in F' iv_B0 := iv_in_eq hB (fun j hj => hF j (Nat.lt_of_lt_of_le hj (by decide +kernel)))
  have hk := k (sy_cm F' (hd_ov (iv_id 0 iv_B0) [(79, .inl (.inl (.int 0)))] ++ [])) (fun j hj hn => (hd_keep hB' (Nat.lt_of_lt_of_le hj (by decide +kernel)) (by simp; omega)).trans (hF j (Nat.lt_of_lt_of_le hj (by decide)))) (hd_gi (x := .inl (.int 0)) (by decide +kernel) rfl)
  refine ⟨fun _ h => absurd h List.not_mem_nil, ?_⟩
  show Q (some (sy_dv F' (.inr (.inl 79)))) _
  rw [b79]
  exact hk
theorem j1fq_0 {Ls : Nat} {xs : Nat → Int32} {d : Nat} {Q : Option Value → jm_h → Prop} (hd : 1 ≤ d) (F : Nat → sy_d) (X1 X2 : List jm_c) (hB : iv_in F iv_B0)
    (k0 : ∀ F1 : Nat → sy_d, iv_in F1 iv_B0 → (∀ j, j < 82 → j ∉ ([79] : List Nat) → F1 j = F j) → (sy_i F1 79).toInt = 0 → sy_i F1 79 = (0 : Int32) → Q (some (.int (sy_i F 79))) (sy_dh F1 X1 X2 (iv_H 1))) :
    hd_W Ls xs d jm_M109 Q (0, sy_dL F [some (.inl (.ref 8)), none], sy_dS F [], sy_dh F X1 X2 (iv_H 1), 0, 0) := by
  exact j1fq_0_p0 hd F X1 X2 hB  (fun F1 g e79 => by rw [(rfl : sy_i F 79 = sy_i F 79)]; exact k0 F1 (nz_in0 hB [79] (fun j hj hn => g j hj (by simp only [List.mem_cons, List.not_mem_nil, or_false, not_or] at hn; omega)) (List.forall_mem_cons.mpr ⟨fun t ht => (Option.some.inj ht) ▸ (nz_hi e79 (by decide : ((0 : Int32)).toInt = 0) (by omega) (by omega)), List.forall_mem_nil _⟩)) (fun j hj hn => g j hj (by simp only [List.mem_cons, List.not_mem_nil, or_false, not_or] at hn; omega)) ((congrArg Int32.toInt (zz_i e79)).trans (by decide : ((0 : Int32)).toInt = 0)) ((zz_i e79).trans (rfl : (0 : Int32) = (0 : Int32))))
theorem j1bq_0_p0 {Ls : Nat} {xs : Nat → Int32} {d : Nat} {Q : Option Value → jm_h → Prop} (hd : 1 ≤ d) (F : Nat → sy_d) (X1 X2 : List jm_c) (hB : iv_in F iv_B0)
    (h0 : (sy_i F 82).toInt < 0)
    (k : ∀ F1 : Nat → sy_d, (∀ j, j < 82 → True → F1 j = F j) → Q (some (.int (((-1) : Int32)))) (sy_dh F1 X1 X2 (iv_H 1))) :
    hd_W Ls xs d jm_M82 Q (0, sy_dL F [some (.inl (.ref 8)), some (.inr (.inl 82))], sy_dS F [], sy_dh F X1 X2 (iv_H 1), 0, 0) := by
  refine hd_ret (s := 1) (nv := 83) (v := some (.inl (.int (-1)))) (uh := hd_ov (iv_id 0 iv_B0) []) (f := true) (sp := []) (d0 := 0) (O := [true]) (T := []) (P := [(2, .inr (.inl 82), .inl (.int 0))]) jm_ok82 (by decide +kernel) (by decide +kernel) hd F X1 X2 (fun F' hF hs => ?_)
  have b82 := hd_b (F := F) (F' := F') (k := 82) (hF 82 (by decide))
  have hB' : iv_in F' iv_B0 := iv_in_eq hB (fun j hj => hF j (Nat.lt_of_lt_of_le hj (by decide +kernel)))
  refine ⟨List.forall_mem_cons.mpr ⟨hd_p2 b82 rfl (by have hc : ((0) : Int32).toInt = 0 := (by decide); omega), fun _ h => absurd h List.not_mem_nil⟩, ?_⟩
  refine k _ ?_
  · exact fun j hj _ => (hd_keep hB' (Nat.lt_of_lt_of_le hj (by decide +kernel)) (by simp)).trans (hF j (Nat.lt_of_lt_of_le hj (by decide)))
theorem j1bq_0_p1 {Ls : Nat} {xs : Nat → Int32} {d : Nat} {Q : Option Value → jm_h → Prop} (hd : 1 ≤ d) (F : Nat → sy_d) (X1 X2 : List jm_c) (hB : iv_in F iv_B0)
    (h0 : 0 ≤ (sy_i F 82).toInt)
    (h1 : (sy_i F 82).toInt ≤ (sy_i F 0).toInt)
    (k : ∀ F1 : Nat → sy_d, (∀ j, j < 82 → j ≠ 0 → F1 j = F j) → F1 0 = .inl (.int ((sy_i F 0) - (sy_i F 82))) → Q (some (.int ((sy_i F 0) - (sy_i F 82)))) (sy_dh F1 X1 X2 (iv_H 1))) :
    hd_W Ls xs d jm_M82 Q (0, sy_dL F [some (.inl (.ref 8)), some (.inr (.inl 82))], sy_dS F [], sy_dh F X1 X2 (iv_H 1), 0, 0) := by
  refine hd_ret (s := 1) (nv := 83) (v := some (.inr (.inl 83))) (uh := hd_ov (iv_id 0 iv_B0) [(0, .inl (.inr (.inl 83)))]) (f := true) (sp := []) (d0 := 0) (O := [false, true]) (T := [(1, [.inr (.inl 0), .inr (.inl 82)], [])]) (P := [(3, .inr (.inl 82), .inl (.int 0)), (4, .inr (.inl 82), .inr (.inl 0))]) jm_ok82 (by decide +kernel) (by decide +kernel) hd F X1 X2 (fun F' hF hs => ?_)
  have b82 := hd_b (F := F) (F' := F') (k := 82) (hF 82 (by decide))
  have b0 := hd_b (F := F) (F' := F') (k := 0) (hF 0 (by decide))
  have t83 : sy_dv F' (.inr (.inl 83)) = .int ((sy_i F 0) - (sy_i F 82)) := hd_o (hs 0 _ rfl) b0 b82 rfl
  have hB' : iv_in F' iv_B0 := iv_in_eq hB (fun j hj => hF j (Nat.lt_of_lt_of_le hj (by decide +kernel)))
  have hk := k (sy_cm F' (hd_ov (iv_id 0 iv_B0) [(0, .inl (.inr (.inl 83)))] ++ [])) (fun j hj hn => (hd_keep hB' (Nat.lt_of_lt_of_le hj (by decide +kernel)) (by simp; omega)).trans (hF j (Nat.lt_of_lt_of_le hj (by decide)))) (hd_gi (x := .inr (.inl 83)) (by decide +kernel) t83)
  refine ⟨List.forall_mem_cons.mpr ⟨hd_p3 b82 rfl (by have hc : ((0) : Int32).toInt = 0 := (by decide); omega), List.forall_mem_cons.mpr ⟨hd_p4 b82 b0 h1, fun _ h => absurd h List.not_mem_nil⟩⟩, ?_⟩
  show Q (some (sy_dv F' (.inr (.inl 83)))) _
  rw [t83]
  exact hk
theorem j1bq_0_p2 {Ls : Nat} {xs : Nat → Int32} {d : Nat} {Q : Option Value → jm_h → Prop} (hd : 1 ≤ d) (F : Nat → sy_d) (X1 X2 : List jm_c) (hB : iv_in F iv_B0)
    (h0 : 0 ≤ (sy_i F 82).toInt)
    (h1 : (sy_i F 0).toInt < (sy_i F 82).toInt)
    (k : ∀ F1 : Nat → sy_d, (∀ j, j < 82 → True → F1 j = F j) → Q (some (.int (((-1) : Int32)))) (sy_dh F1 X1 X2 (iv_H 1))) :
    hd_W Ls xs d jm_M82 Q (0, sy_dL F [some (.inl (.ref 8)), some (.inr (.inl 82))], sy_dS F [], sy_dh F X1 X2 (iv_H 1), 0, 0) := by
  refine hd_ret (s := 1) (nv := 83) (v := some (.inl (.int (-1)))) (uh := hd_ov (iv_id 0 iv_B0) []) (f := true) (sp := []) (d0 := 0) (O := [false, false]) (T := []) (P := [(3, .inr (.inl 82), .inl (.int 0)), (5, .inr (.inl 82), .inr (.inl 0))]) jm_ok82 (by decide +kernel) (by decide +kernel) hd F X1 X2 (fun F' hF hs => ?_)
  have b82 := hd_b (F := F) (F' := F') (k := 82) (hF 82 (by decide))
  have b0 := hd_b (F := F) (F' := F') (k := 0) (hF 0 (by decide))
  have hB' : iv_in F' iv_B0 := iv_in_eq hB (fun j hj => hF j (Nat.lt_of_lt_of_le hj (by decide +kernel)))
  refine ⟨List.forall_mem_cons.mpr ⟨hd_p3 b82 rfl (by have hc : ((0) : Int32).toInt = 0 := (by decide); omega), List.forall_mem_cons.mpr ⟨hd_p5 b82 b0 h1, fun _ h => absurd h List.not_mem_nil⟩⟩, ?_⟩
  refine k _ ?_
  · exact fun j hj _ => (hd_keep hB' (Nat.lt_of_lt_of_le hj (by decide +kernel)) (by simp)).trans (hF j (Nat.lt_of_lt_of_le hj (by decide)))
theorem j1bq_0 {Ls : Nat} {xs : Nat → Int32} {d : Nat} {Q : Option Value → jm_h → Prop} (hd : 1 ≤ d) (F : Nat → sy_d) (X1 X2 : List jm_c) (hB : iv_in F iv_B0)
    (o0 : 0 ≤ (sy_i F 82).toInt → (sy_i F 82).toInt ≤ (sy_i F 0).toInt → (0 ≤ ((sy_i F 0).toInt - (sy_i F 82).toInt) ∧ ((sy_i F 0).toInt - (sy_i F 82).toInt) ≤ 2000))
    (k0 : (sy_i F 82).toInt < 0 → ∀ F1 : Nat → sy_d, iv_in F1 iv_B0 → (∀ j, j < 82 → j ∉ ([] : List Nat) → F1 j = F j) → Q (some (.int (((-1) : Int32)))) (sy_dh F1 X1 X2 (iv_H 1)))
    (k1 : 0 ≤ (sy_i F 82).toInt → (sy_i F 82).toInt ≤ (sy_i F 0).toInt → ∀ F1 : Nat → sy_d, iv_in F1 iv_B0 → (∀ j, j < 82 → j ∉ ([0] : List Nat) → F1 j = F j) → (sy_i F1 0).toInt = ((sy_i F 0).toInt - (sy_i F 82).toInt) → sy_i F1 0 = (sy_i F 0) - (sy_i F 82) → Q (some (.int ((sy_i F 0) - (sy_i F 82)))) (sy_dh F1 X1 X2 (iv_H 1)))
    (k2 : 0 ≤ (sy_i F 82).toInt → (sy_i F 0).toInt < (sy_i F 82).toInt → ∀ F1 : Nat → sy_d, iv_in F1 iv_B0 → (∀ j, j < 82 → j ∉ ([] : List Nat) → F1 j = F j) → Q (some (.int (((-1) : Int32)))) (sy_dh F1 X1 X2 (iv_H 1))) :
    hd_W Ls xs d jm_M82 Q (0, sy_dL F [some (.inl (.ref 8)), some (.inr (.inl 82))], sy_dS F [], sy_dh F X1 X2 (iv_H 1), 0, 0) := by
  by_cases g0 : (sy_i F 82).toInt < 0
  · exact j1bq_0_p0 hd F X1 X2 hB (by first | exact g0 | (simp only [nz_c]; exact g0)) (fun F1 g  => k0 g0 F1 (nz_in0 hB [] (fun j hj hn => g j hj (by simp only [List.mem_cons, List.not_mem_nil, or_false, not_or] at hn; exact trivial)) (List.forall_mem_nil _)) (fun j hj hn => g j hj (by simp only [List.mem_cons, List.not_mem_nil, or_false, not_or] at hn; exact trivial)) )
  replace g0 : 0 ≤ (sy_i F 82).toInt := by omega
  by_cases g1 : (sy_i F 82).toInt ≤ (sy_i F 0).toInt
  · have c0 := nz_bx hB (k := 0) (lo := 0) (hi := 2000) rfl
    have n83 : nzI ((sy_i F 0) - (sy_i F 82)) (((sy_i F 0).toInt - (sy_i F 82).toInt)) := nz_sub (rfl : (sy_i F 0).toInt = (sy_i F 0).toInt) (rfl : (sy_i F 82).toInt = (sy_i F 82).toInt) (by omega) (by omega)
    exact j1bq_0_p1 hd F X1 X2 hB (by first | exact g0 | (simp only [nz_c]; exact g0)) (by first | exact g1 | (simp only [nz_c]; exact g1)) (fun F1 g e0 => by rw [(rfl : (sy_i F 0) - (sy_i F 82) = (sy_i F 0) - (sy_i F 82))]; exact k1 g0 g1 F1 (nz_in0 hB [0] (fun j hj hn => g j hj (by simp only [List.mem_cons, List.not_mem_nil, or_false, not_or] at hn; omega)) (List.forall_mem_cons.mpr ⟨fun t ht => (Option.some.inj ht) ▸ (nz_hi e0 (nzE n83) (o0 g0 g1).1 (o0 g0 g1).2), List.forall_mem_nil _⟩)) (fun j hj hn => g j hj (by simp only [List.mem_cons, List.not_mem_nil, or_false, not_or] at hn; omega)) ((congrArg Int32.toInt (zz_i e0)).trans (nzE n83)) ((zz_i e0).trans (rfl : (sy_i F 0) - (sy_i F 82) = (sy_i F 0) - (sy_i F 82))))
  replace g1 : (sy_i F 0).toInt < (sy_i F 82).toInt := by omega
  have c0 := nz_bx hB (k := 0) (lo := 0) (hi := 2000) rfl
  exact j1bq_0_p2 hd F X1 X2 hB (by first | exact g0 | (simp only [nz_c]; exact g0)) (by first | exact g1 | (simp only [nz_c]; exact g1)) (fun F1 g  => k2 g0 g1 F1 (nz_in0 hB [] (fun j hj hn => g j hj (by simp only [List.mem_cons, List.not_mem_nil, or_false, not_or] at hn; exact trivial)) (List.forall_mem_nil _)) (fun j hj hn => g j hj (by simp only [List.mem_cons, List.not_mem_nil, or_false, not_or] at hn; exact trivial)) )
theorem j1tq_0_p0 {Ls : Nat} {xs : Nat → Int32} {d : Nat} {Q : Option Value → jm_h → Prop} (hd : 2 ≤ d) (F : Nat → sy_d) (X1 X2 : List jm_c) (hB : iv_in F iv_B0)
    (h0 : (sy_i F 82).toInt < 1)
    (k : ∀ F1 : Nat → sy_d, (∀ j, j < 82 → True → F1 j = F j) → Q (some (.int (((-1) : Int32)))) (sy_dh F1 X1 X2 (iv_H 1))) :
    hd_W Ls xs d jm_M108 Q (0, sy_dL F [some (.inl (.ref 8)), some (.inr (.inl 82)), some (.inr (.inl 83))], sy_dS F [], sy_dh F X1 X2 (iv_H 1), 0, 0) := by
  refine hd_ret (s := 1) (nv := 84) (v := some (.inl (.int (-1)))) (uh := hd_ov (iv_id 0 iv_B0) []) (f := true) (sp := []) (d0 := 1) (O := [true]) (T := []) (P := [(2, .inr (.inl 82), .inl (.int 1))]) jm_ok108 (by decide +kernel) (by decide +kernel) hd F X1 X2 (fun F' hF hs => ?_)
  have b82 := hd_b (F := F) (F' := F') (k := 82) (hF 82 (by decide))
  have hB' : iv_in F' iv_B0 := iv_in_eq hB (fun j hj => hF j (Nat.lt_of_lt_of_le hj (by decide +kernel)))
  refine ⟨List.forall_mem_cons.mpr ⟨hd_p2 b82 rfl (by have hc : ((1) : Int32).toInt = 1 := (by decide); omega), fun _ h => absurd h List.not_mem_nil⟩, ?_⟩
  refine k _ ?_
  · exact fun j hj _ => (hd_keep hB' (Nat.lt_of_lt_of_le hj (by decide +kernel)) (by simp)).trans (hF j (Nat.lt_of_lt_of_le hj (by decide)))
theorem j1tq_0_p1 {Ls : Nat} {xs : Nat → Int32} {d : Nat} {Q : Option Value → jm_h → Prop} (hd : 2 ≤ d) (F : Nat → sy_d) (X1 X2 : List jm_c) (hB : iv_in F iv_B0)
    (h0 : 1 ≤ (sy_i F 82).toInt)
    (h1 : 9 < (sy_i F 82).toInt)
    (k : ∀ F1 : Nat → sy_d, (∀ j, j < 82 → True → F1 j = F j) → Q (some (.int (((-1) : Int32)))) (sy_dh F1 X1 X2 (iv_H 1))) :
    hd_W Ls xs d jm_M108 Q (0, sy_dL F [some (.inl (.ref 8)), some (.inr (.inl 82)), some (.inr (.inl 83))], sy_dS F [], sy_dh F X1 X2 (iv_H 1), 0, 0) := by
  refine hd_ret (s := 1) (nv := 84) (v := some (.inl (.int (-1)))) (uh := hd_ov (iv_id 0 iv_B0) []) (f := true) (sp := []) (d0 := 1) (O := [false, true]) (T := []) (P := [(3, .inr (.inl 82), .inl (.int 1)), (2, .inl (.int 9), .inr (.inl 82))]) jm_ok108 (by decide +kernel) (by decide +kernel) hd F X1 X2 (fun F' hF hs => ?_)
  have b82 := hd_b (F := F) (F' := F') (k := 82) (hF 82 (by decide))
  have hB' : iv_in F' iv_B0 := iv_in_eq hB (fun j hj => hF j (Nat.lt_of_lt_of_le hj (by decide +kernel)))
  refine ⟨List.forall_mem_cons.mpr ⟨hd_p3 b82 rfl (by have hc : ((1) : Int32).toInt = 1 := (by decide); omega), List.forall_mem_cons.mpr ⟨hd_p2 rfl b82 (by have hc : ((9) : Int32).toInt = 9 := (by decide); omega), fun _ h => absurd h List.not_mem_nil⟩⟩, ?_⟩
  refine k _ ?_
  · exact fun j hj _ => (hd_keep hB' (Nat.lt_of_lt_of_le hj (by decide +kernel)) (by simp)).trans (hF j (Nat.lt_of_lt_of_le hj (by decide)))
theorem j1tq_0_p2 {Ls : Nat} {xs : Nat → Int32} {d : Nat} {Q : Option Value → jm_h → Prop} (hd : 2 ≤ d) (F : Nat → sy_d) (X1 X2 : List jm_c) (hB : iv_in F iv_B0)
    (h0 : 1 ≤ (sy_i F 82).toInt)
    (h1 : (sy_i F 82).toInt ≤ 9)
    (h2 : (sy_i F 83).toInt < 0)
    (k : ∀ F1 : Nat → sy_d, (∀ j, j < 82 → True → F1 j = F j) → Q (some (.int (((-1) : Int32)))) (sy_dh F1 X1 X2 (iv_H 1))) :
    hd_W Ls xs d jm_M108 Q (0, sy_dL F [some (.inl (.ref 8)), some (.inr (.inl 82)), some (.inr (.inl 83))], sy_dS F [], sy_dh F X1 X2 (iv_H 1), 0, 0) := by
  refine hd_ret (s := 1) (nv := 84) (v := some (.inl (.int (-1)))) (uh := hd_ov (iv_id 0 iv_B0) []) (f := true) (sp := []) (d0 := 1) (O := [false, false, true]) (T := []) (P := [(3, .inr (.inl 82), .inl (.int 1)), (3, .inl (.int 9), .inr (.inl 82)), (2, .inr (.inl 83), .inl (.int 0))]) jm_ok108 (by decide +kernel) (by decide +kernel) hd F X1 X2 (fun F' hF hs => ?_)
  have b82 := hd_b (F := F) (F' := F') (k := 82) (hF 82 (by decide))
  have b83 := hd_b (F := F) (F' := F') (k := 83) (hF 83 (by decide))
  have hB' : iv_in F' iv_B0 := iv_in_eq hB (fun j hj => hF j (Nat.lt_of_lt_of_le hj (by decide +kernel)))
  refine ⟨List.forall_mem_cons.mpr ⟨hd_p3 b82 rfl (by have hc : ((1) : Int32).toInt = 1 := (by decide); omega), List.forall_mem_cons.mpr ⟨hd_p3 rfl b82 (by have hc : ((9) : Int32).toInt = 9 := (by decide); omega), List.forall_mem_cons.mpr ⟨hd_p2 b83 rfl (by have hc : ((0) : Int32).toInt = 0 := (by decide); omega), fun _ h => absurd h List.not_mem_nil⟩⟩⟩, ?_⟩
  refine k _ ?_
  · exact fun j hj _ => (hd_keep hB' (Nat.lt_of_lt_of_le hj (by decide +kernel)) (by simp)).trans (hF j (Nat.lt_of_lt_of_le hj (by decide)))
theorem j1tq_0_p3 {Ls : Nat} {xs : Nat → Int32} {d : Nat} {Q : Option Value → jm_h → Prop} (hd : 2 ≤ d) (F : Nat → sy_d) (X1 X2 : List jm_c) (hB : iv_in F iv_B0)
    (h0 : 1 ≤ (sy_i F 82).toInt)
    (h1 : (sy_i F 82).toInt ≤ 9)
    (h2 : 0 ≤ (sy_i F 83).toInt)
    (h3 : 9 < (sy_i F 83).toInt)
    (k : ∀ F1 : Nat → sy_d, (∀ j, j < 82 → True → F1 j = F j) → Q (some (.int (((-1) : Int32)))) (sy_dh F1 X1 X2 (iv_H 1))) :
    hd_W Ls xs d jm_M108 Q (0, sy_dL F [some (.inl (.ref 8)), some (.inr (.inl 82)), some (.inr (.inl 83))], sy_dS F [], sy_dh F X1 X2 (iv_H 1), 0, 0) := by
  refine hd_ret (s := 1) (nv := 84) (v := some (.inl (.int (-1)))) (uh := hd_ov (iv_id 0 iv_B0) []) (f := true) (sp := []) (d0 := 1) (O := [false, false, false, true]) (T := []) (P := [(3, .inr (.inl 82), .inl (.int 1)), (3, .inl (.int 9), .inr (.inl 82)), (3, .inr (.inl 83), .inl (.int 0)), (2, .inl (.int 9), .inr (.inl 83))]) jm_ok108 (by decide +kernel) (by decide +kernel) hd F X1 X2 (fun F' hF hs => ?_)
  have b82 := hd_b (F := F) (F' := F') (k := 82) (hF 82 (by decide))
  have b83 := hd_b (F := F) (F' := F') (k := 83) (hF 83 (by decide))
  have hB' : iv_in F' iv_B0 := iv_in_eq hB (fun j hj => hF j (Nat.lt_of_lt_of_le hj (by decide +kernel)))
  refine ⟨List.forall_mem_cons.mpr ⟨hd_p3 b82 rfl (by have hc : ((1) : Int32).toInt = 1 := (by decide); omega), List.forall_mem_cons.mpr ⟨hd_p3 rfl b82 (by have hc : ((9) : Int32).toInt = 9 := (by decide); omega), List.forall_mem_cons.mpr ⟨hd_p3 b83 rfl (by have hc : ((0) : Int32).toInt = 0 := (by decide); omega), List.forall_mem_cons.mpr ⟨hd_p2 rfl b83 (by have hc : ((9) : Int32).toInt = 9 := (by decide); omega), fun _ h => absurd h List.not_mem_nil⟩⟩⟩⟩, ?_⟩
  refine k _ ?_
  · exact fun j hj _ => (hd_keep hB' (Nat.lt_of_lt_of_le hj (by decide +kernel)) (by simp)).trans (hF j (Nat.lt_of_lt_of_le hj (by decide)))
theorem j1tq_0_p4 {Ls : Nat} {xs : Nat → Int32} {d : Nat} {Q : Option Value → jm_h → Prop} (hd : 2 ≤ d) (F : Nat → sy_d) (X1 X2 : List jm_c) (hB : iv_in F iv_B0)
    (h0 : 1 ≤ (sy_i F 82).toInt)
    (h1 : (sy_i F 82).toInt ≤ 9)
    (h2 : 0 ≤ (sy_i F 83).toInt)
    (h3 : (sy_i F 83).toInt ≤ 9)
    (h4 : (sy_i F 79).toInt < 7)
    (h5 : 0 ≤ (sy_i F 79).toInt ∧ (sy_i F 79).toInt < 7)
    (h6 : 0 ≤ (sy_i F 79).toInt ∧ (sy_i F 79).toInt < 7)
    (k : ∀ F1 : Nat → sy_d, (∀ j, j < 82 → j ≠ 79 ∧ j ≠ 80 ∧ j ≠ 81 → F1 j = F j) → F1 79 = .inl (.int ((sy_i F 79) + ((1 : Int32)))) → F1 80 = .inr (.inl (jm_upd (sy_ai F 80) (sy_i F 79).toNatClampNeg (sy_i F 82))) → F1 81 = .inr (.inl (jm_upd (sy_ai F 81) (sy_i F 79).toNatClampNeg (sy_i F 83))) → Q (some (.int (((sy_i F 79) + ((1 : Int32))) - ((1 : Int32))))) (sy_dh F1 X1 X2 (iv_H 1))) :
    hd_W Ls xs d jm_M108 Q (0, sy_dL F [some (.inl (.ref 8)), some (.inr (.inl 82)), some (.inr (.inl 83))], sy_dS F [], sy_dh F X1 X2 (iv_H 1), 0, 0) := by
  refine hd_ret (s := 1) (nv := 84) (v := some (.inr (.inl 87))) (uh := hd_ov (iv_id 0 iv_B0) [(79, .inl (.inr (.inl 86))), (80, .inr (.inr (.inl 84))), (81, .inr (.inr (.inl 85)))]) (f := true) (sp := []) (d0 := 1) (O := [false, false, false, false, true]) (T := [(40, [.inr (.inl 79), .inr (.inl 82)], [.inr (.inl 80)]), (40, [.inr (.inl 79), .inr (.inl 83)], [.inr (.inl 81)]), (0, [.inr (.inl 79), .inl (.int 1)], []), (1, [.inr (.inl 86), .inl (.int 1)], [])]) (P := [(3, .inr (.inl 82), .inl (.int 1)), (3, .inl (.int 9), .inr (.inl 82)), (3, .inr (.inl 83), .inl (.int 0)), (3, .inl (.int 9), .inr (.inl 83)), (2, .inr (.inl 79), .inl (.int 7)), (6, .inr (.inl 79), .inl (.ref 7)), (6, .inr (.inl 79), .inl (.ref 7))]) jm_ok108 (by decide +kernel) (by decide +kernel) hd F X1 X2 (fun F' hF hs => ?_)
  have b82 := hd_b (F := F) (F' := F') (k := 82) (hF 82 (by decide))
  have b83 := hd_b (F := F) (F' := F') (k := 83) (hF 83 (by decide))
  have b79 := hd_b (F := F) (F' := F') (k := 79) (hF 79 (by decide))
  have t86 : sy_dv F' (.inr (.inl 86)) = .int ((sy_i F 79) + ((1 : Int32))) := hd_o (hs 2 _ rfl) b79 rfl rfl
  have a80 := hd_ba (F := F) (F' := F') (k := 80) (hF 80 (by decide))
  have t84 : sy_da F' (.inr (.inl 84)) = .inl (jm_upd (sy_ai F 80) (sy_i F 79).toNatClampNeg (sy_i F 82)) := hd_up (hs 0 _ rfl) b79 b82 a80
  have a81 := hd_ba (F := F) (F' := F') (k := 81) (hF 81 (by decide))
  have t85 : sy_da F' (.inr (.inl 85)) = .inl (jm_upd (sy_ai F 81) (sy_i F 79).toNatClampNeg (sy_i F 83)) := hd_up (hs 1 _ rfl) b79 b83 a81
  have t87 : sy_dv F' (.inr (.inl 87)) = .int (((sy_i F 79) + ((1 : Int32))) - ((1 : Int32))) := hd_o (hs 3 _ rfl) t86 rfl rfl
  have hB' : iv_in F' iv_B0 := iv_in_eq hB (fun j hj => hF j (Nat.lt_of_lt_of_le hj (by decide +kernel)))
  have hk := k (sy_cm F' (hd_ov (iv_id 0 iv_B0) [(79, .inl (.inr (.inl 86))), (80, .inr (.inr (.inl 84))), (81, .inr (.inr (.inl 85)))] ++ [])) (fun j hj hn => (hd_keep hB' (Nat.lt_of_lt_of_le hj (by decide +kernel)) (by simp; omega)).trans (hF j (Nat.lt_of_lt_of_le hj (by decide)))) (hd_gi (x := .inr (.inl 86)) (by decide +kernel) t86) (hd_ga (a := .inr (.inl 84)) (by decide +kernel) t84) (hd_ga (a := .inr (.inl 85)) (by decide +kernel) t85)
  refine ⟨List.forall_mem_cons.mpr ⟨hd_p3 b82 rfl (by have hc : ((1) : Int32).toInt = 1 := (by decide); omega), List.forall_mem_cons.mpr ⟨hd_p3 rfl b82 (by have hc : ((9) : Int32).toInt = 9 := (by decide); omega), List.forall_mem_cons.mpr ⟨hd_p3 b83 rfl (by have hc : ((0) : Int32).toInt = 0 := (by decide); omega), List.forall_mem_cons.mpr ⟨hd_p3 rfl b83 (by have hc : ((9) : Int32).toInt = 9 := (by decide); omega), List.forall_mem_cons.mpr ⟨hd_p2 b79 rfl (by have hc : ((7) : Int32).toInt = 7 := (by decide); omega), List.forall_mem_cons.mpr ⟨hd_pb b79 (by first | exact h5 | exact h5), List.forall_mem_cons.mpr ⟨hd_pb b79 (by first | exact h6 | exact h6), fun _ h => absurd h List.not_mem_nil⟩⟩⟩⟩⟩⟩⟩, ?_⟩
  show Q (some (sy_dv F' (.inr (.inl 87)))) _
  rw [t87]
  exact hk
theorem j1tq_0_p5 {Ls : Nat} {xs : Nat → Int32} {d : Nat} {Q : Option Value → jm_h → Prop} (hd : 2 ≤ d) (F : Nat → sy_d) (X1 X2 : List jm_c) (hB : iv_in F iv_B0)
    (h0 : 1 ≤ (sy_i F 82).toInt)
    (h1 : (sy_i F 82).toInt ≤ 9)
    (h2 : 0 ≤ (sy_i F 83).toInt)
    (h3 : (sy_i F 83).toInt ≤ 9)
    (h4 : 7 ≤ (sy_i F 79).toInt)
    (k : ∀ F1 : Nat → sy_d, (∀ j, j < 82 → True → F1 j = F j) → Q (some (.int (((-1) : Int32)))) (sy_dh F1 X1 X2 (iv_H 1))) :
    hd_W Ls xs d jm_M108 Q (0, sy_dL F [some (.inl (.ref 8)), some (.inr (.inl 82)), some (.inr (.inl 83))], sy_dS F [], sy_dh F X1 X2 (iv_H 1), 0, 0) := by
  refine hd_ret (s := 1) (nv := 84) (v := some (.inl (.int (-1)))) (uh := hd_ov (iv_id 0 iv_B0) []) (f := true) (sp := []) (d0 := 1) (O := [false, false, false, false, false]) (T := []) (P := [(3, .inr (.inl 82), .inl (.int 1)), (3, .inl (.int 9), .inr (.inl 82)), (3, .inr (.inl 83), .inl (.int 0)), (3, .inl (.int 9), .inr (.inl 83)), (3, .inr (.inl 79), .inl (.int 7))]) jm_ok108 (by decide +kernel) (by decide +kernel) hd F X1 X2 (fun F' hF hs => ?_)
  have b82 := hd_b (F := F) (F' := F') (k := 82) (hF 82 (by decide))
  have b83 := hd_b (F := F) (F' := F') (k := 83) (hF 83 (by decide))
  have b79 := hd_b (F := F) (F' := F') (k := 79) (hF 79 (by decide))
  have hB' : iv_in F' iv_B0 := iv_in_eq hB (fun j hj => hF j (Nat.lt_of_lt_of_le hj (by decide +kernel)))
  refine ⟨List.forall_mem_cons.mpr ⟨hd_p3 b82 rfl (by have hc : ((1) : Int32).toInt = 1 := (by decide); omega), List.forall_mem_cons.mpr ⟨hd_p3 rfl b82 (by have hc : ((9) : Int32).toInt = 9 := (by decide); omega), List.forall_mem_cons.mpr ⟨hd_p3 b83 rfl (by have hc : ((0) : Int32).toInt = 0 := (by decide); omega), List.forall_mem_cons.mpr ⟨hd_p3 rfl b83 (by have hc : ((9) : Int32).toInt = 9 := (by decide); omega), List.forall_mem_cons.mpr ⟨hd_p3 b79 rfl (by have hc : ((7) : Int32).toInt = 7 := (by decide); omega), fun _ h => absurd h List.not_mem_nil⟩⟩⟩⟩⟩, ?_⟩
  refine k _ ?_
  · exact fun j hj _ => (hd_keep hB' (Nat.lt_of_lt_of_le hj (by decide +kernel)) (by simp)).trans (hF j (Nat.lt_of_lt_of_le hj (by decide)))
theorem j1tq_0 {Ls : Nat} {xs : Nat → Int32} {d : Nat} {Q : Option Value → jm_h → Prop} (hd : 2 ≤ d) (F : Nat → sy_d) (X1 X2 : List jm_c) (hB : iv_in F iv_B0)
    (k0 : (sy_i F 82).toInt < 1 → ∀ F1 : Nat → sy_d, iv_in F1 iv_B0 → (∀ j, j < 82 → j ∉ ([] : List Nat) → F1 j = F j) → Q (some (.int (((-1) : Int32)))) (sy_dh F1 X1 X2 (iv_H 1)))
    (k1 : 1 ≤ (sy_i F 82).toInt → 9 < (sy_i F 82).toInt → ∀ F1 : Nat → sy_d, iv_in F1 iv_B0 → (∀ j, j < 82 → j ∉ ([] : List Nat) → F1 j = F j) → Q (some (.int (((-1) : Int32)))) (sy_dh F1 X1 X2 (iv_H 1)))
    (k2 : 1 ≤ (sy_i F 82).toInt → (sy_i F 82).toInt ≤ 9 → (sy_i F 83).toInt < 0 → ∀ F1 : Nat → sy_d, iv_in F1 iv_B0 → (∀ j, j < 82 → j ∉ ([] : List Nat) → F1 j = F j) → Q (some (.int (((-1) : Int32)))) (sy_dh F1 X1 X2 (iv_H 1)))
    (k3 : 1 ≤ (sy_i F 82).toInt → (sy_i F 82).toInt ≤ 9 → 0 ≤ (sy_i F 83).toInt → 9 < (sy_i F 83).toInt → ∀ F1 : Nat → sy_d, iv_in F1 iv_B0 → (∀ j, j < 82 → j ∉ ([] : List Nat) → F1 j = F j) → Q (some (.int (((-1) : Int32)))) (sy_dh F1 X1 X2 (iv_H 1)))
    (k4 : 1 ≤ (sy_i F 82).toInt → (sy_i F 82).toInt ≤ 9 → 0 ≤ (sy_i F 83).toInt → (sy_i F 83).toInt ≤ 9 → (sy_i F 79).toInt < 7 → ∀ F1 : Nat → sy_d, iv_in F1 iv_B0 → (∀ j, j < 82 → j ∉ ([79, 80, 81] : List Nat) → F1 j = F j) → (sy_i F1 79).toInt = ((sy_i F 79).toInt + 1) → sy_i F1 79 = (sy_i F 79) + ((1 : Int32)) → sy_ai F1 80 = jm_upd (sy_ai F 80) ((sy_i F 79).toInt).toNat (sy_i F 82) → sy_ai F1 81 = jm_upd (sy_ai F 81) ((sy_i F 79).toInt).toNat (sy_i F 83) → Q (some (.int (((sy_i F 79) + ((1 : Int32))) - ((1 : Int32))))) (sy_dh F1 X1 X2 (iv_H 1)))
    (k5 : 1 ≤ (sy_i F 82).toInt → (sy_i F 82).toInt ≤ 9 → 0 ≤ (sy_i F 83).toInt → (sy_i F 83).toInt ≤ 9 → 7 ≤ (sy_i F 79).toInt → ∀ F1 : Nat → sy_d, iv_in F1 iv_B0 → (∀ j, j < 82 → j ∉ ([] : List Nat) → F1 j = F j) → Q (some (.int (((-1) : Int32)))) (sy_dh F1 X1 X2 (iv_H 1))) :
    hd_W Ls xs d jm_M108 Q (0, sy_dL F [some (.inl (.ref 8)), some (.inr (.inl 82)), some (.inr (.inl 83))], sy_dS F [], sy_dh F X1 X2 (iv_H 1), 0, 0) := by
  by_cases g0 : (sy_i F 82).toInt < 1
  · exact j1tq_0_p0 hd F X1 X2 hB (by first | exact g0 | (simp only [nz_c]; exact g0)) (fun F1 g  => k0 g0 F1 (nz_in0 hB [] (fun j hj hn => g j hj (by simp only [List.mem_cons, List.not_mem_nil, or_false, not_or] at hn; exact trivial)) (List.forall_mem_nil _)) (fun j hj hn => g j hj (by simp only [List.mem_cons, List.not_mem_nil, or_false, not_or] at hn; exact trivial)) )
  replace g0 : 1 ≤ (sy_i F 82).toInt := by omega
  by_cases g1 : 9 < (sy_i F 82).toInt
  · exact j1tq_0_p1 hd F X1 X2 hB (by first | exact g0 | (simp only [nz_c]; exact g0)) (by first | exact g1 | (simp only [nz_c]; exact g1)) (fun F1 g  => k1 g0 g1 F1 (nz_in0 hB [] (fun j hj hn => g j hj (by simp only [List.mem_cons, List.not_mem_nil, or_false, not_or] at hn; exact trivial)) (List.forall_mem_nil _)) (fun j hj hn => g j hj (by simp only [List.mem_cons, List.not_mem_nil, or_false, not_or] at hn; exact trivial)) )
  replace g1 : (sy_i F 82).toInt ≤ 9 := by omega
  by_cases g2 : (sy_i F 83).toInt < 0
  · exact j1tq_0_p2 hd F X1 X2 hB (by first | exact g0 | (simp only [nz_c]; exact g0)) (by first | exact g1 | (simp only [nz_c]; exact g1)) (by first | exact g2 | (simp only [nz_c]; exact g2)) (fun F1 g  => k2 g0 g1 g2 F1 (nz_in0 hB [] (fun j hj hn => g j hj (by simp only [List.mem_cons, List.not_mem_nil, or_false, not_or] at hn; exact trivial)) (List.forall_mem_nil _)) (fun j hj hn => g j hj (by simp only [List.mem_cons, List.not_mem_nil, or_false, not_or] at hn; exact trivial)) )
  replace g2 : 0 ≤ (sy_i F 83).toInt := by omega
  by_cases g3 : 9 < (sy_i F 83).toInt
  · exact j1tq_0_p3 hd F X1 X2 hB (by first | exact g0 | (simp only [nz_c]; exact g0)) (by first | exact g1 | (simp only [nz_c]; exact g1)) (by first | exact g2 | (simp only [nz_c]; exact g2)) (by first | exact g3 | (simp only [nz_c]; exact g3)) (fun F1 g  => k3 g0 g1 g2 g3 F1 (nz_in0 hB [] (fun j hj hn => g j hj (by simp only [List.mem_cons, List.not_mem_nil, or_false, not_or] at hn; exact trivial)) (List.forall_mem_nil _)) (fun j hj hn => g j hj (by simp only [List.mem_cons, List.not_mem_nil, or_false, not_or] at hn; exact trivial)) )
  replace g3 : (sy_i F 83).toInt ≤ 9 := by omega
  by_cases g4 : (sy_i F 79).toInt < 7
  · have c79 := nz_bx hB (k := 79) (lo := 0) (hi := 7) rfl
    have n86 : nzI ((sy_i F 79) + ((1 : Int32))) (((sy_i F 79).toInt + 1)) := nz_add (rfl : (sy_i F 79).toInt = (sy_i F 79).toInt) (by decide : ((1 : Int32)).toInt = 1) (by omega) (by omega)
    have w84 : jm_upd (sy_ai F 80) (sy_i F 79).toNatClampNeg (sy_i F 82) = jm_upd (sy_ai F 80) ((sy_i F 79).toInt).toNat (sy_i F 82) := by simp only [nz_c]
    have w85 : jm_upd (sy_ai F 81) (sy_i F 79).toNatClampNeg (sy_i F 83) = jm_upd (sy_ai F 81) ((sy_i F 79).toInt).toNat (sy_i F 83) := by simp only [nz_c]
    exact j1tq_0_p4 hd F X1 X2 hB (by first | exact g0 | (simp only [nz_c]; exact g0)) (by first | exact g1 | (simp only [nz_c]; exact g1)) (by first | exact g2 | (simp only [nz_c]; exact g2)) (by first | exact g3 | (simp only [nz_c]; exact g3)) (by first | exact g4 | (simp only [nz_c]; exact g4)) (by first | exact ⟨by omega, by omega⟩ | (simp only [nz_c]; exact ⟨by omega, by omega⟩)) (by first | exact ⟨by omega, by omega⟩ | (simp only [nz_c]; exact ⟨by omega, by omega⟩)) (fun F1 g e79 e80 e81 => by rw [(rfl : ((sy_i F 79) + ((1 : Int32))) - ((1 : Int32)) = ((sy_i F 79) + ((1 : Int32))) - ((1 : Int32)))]; exact k4 g0 g1 g2 g3 g4 F1 (nz_in0 hB [79, 80, 81] (fun j hj hn => g j hj (by simp only [List.mem_cons, List.not_mem_nil, or_false, not_or] at hn; omega)) (List.forall_mem_cons.mpr ⟨fun t ht => (Option.some.inj ht) ▸ (nz_hi e79 (nzE n86) (by omega) (by omega)), List.forall_mem_cons.mpr ⟨fun t ht => (Option.some.inj ht) ▸ (nz_hz2 e80), List.forall_mem_cons.mpr ⟨fun t ht => (Option.some.inj ht) ▸ (nz_hz2 e81), List.forall_mem_nil _⟩⟩⟩)) (fun j hj hn => g j hj (by simp only [List.mem_cons, List.not_mem_nil, or_false, not_or] at hn; omega)) ((congrArg Int32.toInt (zz_i e79)).trans (nzE n86)) ((zz_i e79).trans (rfl : (sy_i F 79) + ((1 : Int32)) = (sy_i F 79) + ((1 : Int32)))) ((zz_ai e80).trans w84) ((zz_ai e81).trans w85))
  replace g4 : 7 ≤ (sy_i F 79).toInt := by omega
  have c79 := nz_bx hB (k := 79) (lo := 0) (hi := 7) rfl
  exact j1tq_0_p5 hd F X1 X2 hB (by first | exact g0 | (simp only [nz_c]; exact g0)) (by first | exact g1 | (simp only [nz_c]; exact g1)) (by first | exact g2 | (simp only [nz_c]; exact g2)) (by first | exact g3 | (simp only [nz_c]; exact g3)) (by first | exact g4 | (simp only [nz_c]; exact g4)) (fun F1 g  => k5 g0 g1 g2 g3 g4 F1 (nz_in0 hB [] (fun j hj hn => g j hj (by simp only [List.mem_cons, List.not_mem_nil, or_false, not_or] at hn; exact trivial)) (List.forall_mem_nil _)) (fun j hj hn => g j hj (by simp only [List.mem_cons, List.not_mem_nil, or_false, not_or] at hn; exact trivial)) )
end
section
/-! ===== prop, shake, hours on the class's side (shape 1) ===== -/
section SH1
variable {Ls : Nat} {xs : Nat → Int32} {T : tX} {g : gS} (F : Nat → sy_d) (X1 X2 : List jm_c)
theorem j1pr_W (hC : xC 3 T F) (hg : gC 50 (nfS T) (nbS T) F g) {U : List gS} (hT : trC (nfS T) (nbS T) F U) {f w : Int32} (hf : 0 ≤ f.toInt ∧ f.toInt < nfS T) (hw : 0 ≤ w.toInt ∧ w.toInt ≤ 1) {F1 : Nat → sy_d} (q1 : qC [] F F1) (j82 : sy_i F1 82 = f) (j83 : sy_i F1 83 = w) :
    hd_W Ls xs 3 jm_M89 (pI 1 X1 X2 (fun x F' => x = 1 ∧ qC [57, 74, 75, 76] F F' ∧ gC 50 (nfS T) (nbS T) F' (upS g 5 f.toInt.toNat w) ∧ trC (nfS T) (nbS T) F' (rmS g U))) (53, sy_dL F1 [some (.inl (.ref 8)), some (.inr (.inl 82)), none, some (.inr (.inl 83))], sy_dS F1 [.inl (.ref 46), .inl (.ref 66)], sy_dh F1 X1 X2 (iv_H 1), 0, 0) := by
  have l7 : nfS T ≤ 7 := hC.2.2.1.1.1
  have l4 : nbS T ≤ 4 := hC.2.2.1.1.2.1
  have f1 : ∀ j, j < 82 → F1 j = F j := fun j hj => q1.2 j hj (by simp)
  refine hd_calV (R := fun F' => qC [74, 75, 76] F1 F' ∧ trC (nfS T) (nbS T) F' (rmS g U)) (nh := 82) (nv := 84) (s := 1) (s1 := 1) (d1 := 2) (M1 := jm_M78) (As := [.inl (.ref 66), .inl (.ref 46)]) (rest := []) jm_ok89 rfl rfl (by decide) (by decide +kernel) (j1re_V F1 X1 X2 q1.1 l7 l4 (gC_eq hg (fun j h1 h2 => f1 j (by omega))) (trC_eq hT (f1 74 (by decide)) (f1 75 (by decide)) (f1 76 (by decide)))) (fun F3 F' hR p1 p2 => ?_)
  obtain ⟨r1, r2⟩ := hR
  have r1' : qC [74, 75, 76] F1 F3 := qC_dst r1 p1
  have k82 : sy_i F3 82 = f := (eI (p2 82 (by decide) (by decide))).trans j82
  have k83 : sy_i F3 83 = w := (eI (p2 83 (by decide) (by decide))).trans j83
  refine j1pr_56 (by decide) F3 X1 X2 r1'.1 (by rw [k82]; omega) (by rw [k83]; omega) ?_
  intro F4 hb4 g4 a57
  rw [k82, k83] at a57
  have f3 : ∀ j, 50 ≤ j → j < 62 → F3 j = F j := fun j h1 h2 => (r1'.2 j (by omega) (by simp; omega)).trans (f1 j (by omega))
  exact ⟨_, F4, rfl, rfl, rfl, qq_on (qq_trans (qq_up q1 (by decide)) (qq_up r1' (by decide))) hb4 g4 (by decide), gC_up (gC_eq hg (fun j h1 h2 => f3 j h1 (by omega))) (by decide) rfl a57 (fun j h1 h2 h3 => g4 j (by omega) (by intro z; simp at z; exact h3 z)), trC_eq r2 ((g4 74 (by decide) (by decide)).trans (p1 74 (by decide))) ((g4 75 (by decide) (by decide)).trans (p1 75 (by decide))) ((g4 76 (by decide) (by decide)).trans (p1 76 (by decide)))⟩
theorem j1pr_V (hC : xC 3 T F) (hg : gC 50 (nfS T) (nbS T) F g) {U : List gS} (hT : trC (nfS T) (nbS T) F U) (f v : Int32) (hv : 0 ≤ v.toInt ∧ v.toInt ≤ 1) : jm_T Ls xs 3 jm_M89 [.ref 8, .int f, .int v] (sy_dh F X1 X2 (iv_H 1)) 0 0 (pI 1 X1 X2 (fun x F' => (¬ (0 ≤ f.toInt ∧ f.toInt < nfS T ∧ (g 2 f.toInt.toNat).toInt = 0 ∧ g 5 f.toInt.toNat ≠ v) → x = 0 ∧ qC [] F F') ∧ (0 ≤ f.toInt ∧ f.toInt < nfS T ∧ (g 2 f.toInt.toNat).toInt = 0 ∧ g 5 f.toInt.toNat ≠ v → x = 1 ∧ qC [57, 74, 75, 76] F F' ∧ gC 50 (nfS T) (nbS T) F' (upS g 5 f.toInt.toNat v) ∧ trC (nfS T) (nbS T) F' (rmS g U)))) := by
  have l7 : nfS T ≤ 7 := hC.2.2.1.1.1
  have enf : (sy_i F 3).toInt = (nfS T : Int) := hC.2.1.1.1
  refine C_T (by decide) [f, v] [.inl (.ref 8), .inr (.inl 82), .inr (.inl 83)] jm_ok89 (by decide) rfl (fun F0 k0 ki => ?_)
  have i82 : sy_i F0 82 = f := ki 0
  have i83 : sy_i F0 83 = v := ki 1
  have enf0 : (sy_i F0 3).toInt = (nfS T : Int) := by rw [nz_fi (k0 3 (by decide))]; exact enf
  have rd : f.toInt.toNat < nfS T → ((sy_ai F0 54).getD f.toInt.toNat 0) = g 2 f.toInt.toNat := fun h => by
    rw [nz_fa (k0 54 (by decide))]
    exact hg.1 2 _ (by decide) (vF (by decide) h)
  have rp : f.toInt.toNat < nfS T → ((sy_ai F0 57).getD f.toInt.toNat 0) = g 5 f.toInt.toNat := fun h => by
    rw [nz_fa (k0 57 (by decide))]
    exact hg.1 5 _ (by decide) (vF (by decide) h)
  have no : ∀ F1 : Nat → sy_d, iv_in F1 iv_B0 → (∀ j, j < 82 → j ∉ ([] : List Nat) → F1 j = F0 j) → ¬ (0 ≤ f.toInt ∧ f.toInt < nfS T ∧ (g 2 f.toInt.toNat).toInt = 0 ∧ g 5 f.toInt.toNat ≠ v) → pI 1 X1 X2 (fun x F' => (¬ (0 ≤ f.toInt ∧ f.toInt < nfS T ∧ (g 2 f.toInt.toNat).toInt = 0 ∧ g 5 f.toInt.toNat ≠ v) → x = 0 ∧ qC [] F F') ∧ (0 ≤ f.toInt ∧ f.toInt < nfS T ∧ (g 2 f.toInt.toNat).toInt = 0 ∧ g 5 f.toInt.toNat ≠ v → x = 1 ∧ qC [57, 74, 75, 76] F F' ∧ gC 50 (nfS T) (nbS T) F' (upS g 5 f.toInt.toNat v) ∧ trC (nfS T) (nbS T) F' (rmS g U))) (some (.int (0 : Int32))) (sy_dh F1 X1 X2 (iv_H 1)) := fun F1 hb1 gg h => ⟨_, F1, rfl, rfl, fun _ => ⟨rfl, qq_src (qq_mk hb1 gg (by decide)) k0⟩, fun z => absurd z h⟩
  have yes : ∀ (F1 : Nat → sy_d) (w : Int32), w = v → iv_in F1 iv_B0 → (∀ j, j < 82 → j ∉ ([] : List Nat) → F1 j = F0 j) → sy_i F1 82 = sy_i F0 82 → sy_i F1 83 = w → (0 ≤ f.toInt ∧ f.toInt < nfS T ∧ (g 2 f.toInt.toNat).toInt = 0 ∧ g 5 f.toInt.toNat ≠ v) → hd_W Ls xs 3 jm_M89 (pI 1 X1 X2 (fun x F' => (¬ (0 ≤ f.toInt ∧ f.toInt < nfS T ∧ (g 2 f.toInt.toNat).toInt = 0 ∧ g 5 f.toInt.toNat ≠ v) → x = 0 ∧ qC [] F F') ∧ (0 ≤ f.toInt ∧ f.toInt < nfS T ∧ (g 2 f.toInt.toNat).toInt = 0 ∧ g 5 f.toInt.toNat ≠ v → x = 1 ∧ qC [57, 74, 75, 76] F F' ∧ gC 50 (nfS T) (nbS T) F' (upS g 5 f.toInt.toNat v) ∧ trC (nfS T) (nbS T) F' (rmS g U)))) (53, sy_dL F1 [some (.inl (.ref 8)), some (.inr (.inl 82)), none, some (.inr (.inl 83))], sy_dS F1 [.inl (.ref 46), .inl (.ref 66)], sy_dh F1 X1 X2 (iv_H 1), 0, 0) := fun F1 w ew hb1 gg j82 j83 h => by
    subst ew
    refine hd_mono (j1pr_W F X1 X2 hC hg hT ⟨h.1, h.2.1⟩ hv (qq_src (qq_mk hb1 gg (by decide)) k0) (j82.trans i82) j83) ?_
    rintro x G ⟨r, F', e1, e2, e3⟩
    exact ⟨r, F', e1, e2, fun z => absurd h z, fun _ => e3⟩
  have z0 : (0 : Int32).toInt = 0 := by decide
  have z1 : (1 : Int32).toInt = 1 := by decide
  refine j1pr_0 (by decide) F0 X1 X2 (hd_iveq0 hC.1 k0) ?_ ?_ ?_ ?_ ?_ ?_ ?_ ?_ ?_ ?_
  · intro cv c0 F1 hb1 gg
    rw [i82] at c0
    exact no F1 hb1 gg (fun h => absurd h.1 (by omega))
  · intro cv c0 c1 F1 hb1 gg
    rw [i82] at c0 c1
    exact no F1 hb1 gg (fun h => absurd h.2.1 (by omega))
  · intro cv c0 c1 c2 F1 hb1 gg
    rw [i82] at c0 c1 c2
    rw [rd (by omega)] at c2
    exact no F1 hb1 gg (fun h => c2 h.2.2.1)
  · intro cv c0 c1 c2 c3 F1 hb1 gg e82 j82 e83 j83
    rw [i83] at cv
    rw [i82] at c0 c1 c2 c3
    rw [rd (by omega)] at c2
    rw [rp (by omega)] at c3
    have ev : (0 : Int32) = v := Int32.toInt_inj.mp (by omega)
    exact yes F1 0 ev hb1 gg j82 j83 ⟨c0, by omega, c2, fun z => c3 (by rw [z, ← ev]; exact z0)⟩
  · intro cv c0 c1 c2 c3 F1 hb1 gg
    rw [i83] at cv
    rw [i82] at c0 c1 c2 c3
    rw [rp (by omega)] at c3
    have ev : (0 : Int32) = v := Int32.toInt_inj.mp (by omega)
    exact no F1 hb1 gg (fun h => h.2.2.2 (Int32.toInt_inj.mp (by rw [← ev]; omega)))
  · intro cv c0 F1 hb1 gg
    rw [i82] at c0
    exact no F1 hb1 gg (fun h => absurd h.1 (by omega))
  · intro cv c0 c1 F1 hb1 gg
    rw [i82] at c0 c1
    exact no F1 hb1 gg (fun h => absurd h.2.1 (by omega))
  · intro cv c0 c1 c2 F1 hb1 gg
    rw [i82] at c0 c1 c2
    rw [rd (by omega)] at c2
    exact no F1 hb1 gg (fun h => c2 h.2.2.1)
  · intro cv c0 c1 c2 c3 F1 hb1 gg e82 j82 e83 j83
    rw [i83] at cv
    rw [i82] at c0 c1 c2 c3
    rw [rd (by omega)] at c2
    rw [rp (by omega)] at c3
    have ev : (1 : Int32) = v := Int32.toInt_inj.mp (by omega)
    exact yes F1 1 ev hb1 gg j82 j83 ⟨c0, by omega, c2, fun z => c3 (by rw [z, ← ev]; exact z1)⟩
  · intro cv c0 c1 c2 c3 F1 hb1 gg
    rw [i83] at cv
    rw [i82] at c0 c1 c2 c3
    rw [rp (by omega)] at c3
    have ev : (1 : Int32) = v := Int32.toInt_inj.mp (by omega)
    exact no F1 hb1 gg (fun h => h.2.2.2 (Int32.toInt_inj.mp (by rw [← ev]; omega)))
noncomputable def j1sqP (T : tX) (g : gS) (U : List gS) (f : Nat) (F : Nat → sy_d) (x : Int32) (F' : Nat → sy_d) : Prop := qC [45, 46, 51, 52, 58, 74, 75, 76] F F' ∧ trC (nfS T) (nbS T) F' (rmS g U) ∧ (fdS T g → x = 1 ∧ gC 50 (nfS T) (nbS T) F' (fndS T g f)) ∧ (¬ fdS T g → x = 0 ∧ gC 50 (nfS T) (nbS T) F' (shkS g f))
theorem j1sq_V (hC : xC 3 T F) (hg : gC 50 (nfS T) (nbS T) F g) {U : List gS} (hT : trC (nfS T) (nbS T) F U) (f : Int32) : jm_T Ls xs 6 jm_M90 [.ref 8, .int f] (sy_dh F X1 X2 (iv_H 1)) 0 0 (pI 1 X1 X2 (fun x F' => (¬ (0 ≤ f.toInt ∧ f.toInt < nfS T) → x = -1 ∧ qC [] F F') ∧ (0 ≤ f.toInt ∧ f.toInt < nfS T → (g 2 f.toInt.toNat).toInt ≠ 0 → x = -2 ∧ qC [] F F') ∧ (0 ≤ f.toInt ∧ f.toInt < nfS T → (g 2 f.toInt.toNat).toInt = 0 → j1sqP T g U f.toInt.toNat F x F'))) := by
  have l7 : nfS T ≤ 7 := hC.2.2.1.1.1
  have l4 : nbS T ≤ 4 := hC.2.2.1.1.2.1
  have enf : (sy_i F 3).toInt = (nfS T : Int) := hC.2.1.1.1
  refine C_T (by decide) [f] [.inl (.ref 8), .inr (.inl 82)] jm_ok90 (by decide) rfl (fun F0 k0 ki => ?_)
  have i82 : sy_i F0 82 = f := ki 0
  have enf0 : (sy_i F0 3).toInt = (nfS T : Int) := by rw [nz_fi (k0 3 (by decide))]; exact enf
  have rd : f.toInt.toNat < nfS T → ((sy_ai F0 54).getD f.toInt.toNat 0) = g 2 f.toInt.toNat := fun h => by
    rw [nz_fa (k0 54 (by decide))]
    exact hg.1 2 _ (by decide) (vF (by decide) h)
  refine j1sq_0 (by decide) F0 X1 X2 (hd_iveq0 hC.1 k0) ?_ ?_ ?_ ?_
  · intro c0 F1 hb1 gg
    rw [i82] at c0
    exact ⟨_, F1, rfl, rfl, fun _ => ⟨rfl, qq_src (qq_mk hb1 gg (by decide)) k0⟩, fun h => absurd h.1 (by omega), fun h => absurd h.1 (by omega)⟩
  · intro c0 c1 F1 hb1 gg
    rw [i82] at c0 c1
    exact ⟨_, F1, rfl, rfl, fun _ => ⟨rfl, qq_src (qq_mk hb1 gg (by decide)) k0⟩, fun h => absurd h.2 (by omega), fun h => absurd h.2 (by omega)⟩
  · intro c0 c1 c2 F1 hb1 gg e82 j82
    rw [i82] at c0 c1 c2 j82
    have hlt : f.toInt.toNat < nfS T := by omega
    rw [rd hlt] at c2
    have q1 : qC [] F F1 := qq_src (qq_mk hb1 gg (by decide)) k0
    have f1 : ∀ j, j < 82 → F1 j = F j := fun j hj => q1.2 j hj (by simp)
    refine hd_calV (R := fun F' => qC [74, 75, 76] F1 F' ∧ trC (nfS T) (nbS T) F' (rmS g U)) (nh := 82) (nv := 83) (s := 1) (s1 := 1) (d1 := 2) (M1 := jm_M78) (As := [.inl (.ref 66), .inl (.ref 46)]) (rest := []) jm_ok90 rfl rfl (by decide) (by decide +kernel) (j1re_V F1 X1 X2 hb1 l7 l4 (gC_eq hg (fun j h1 h2 => f1 j (by omega))) (trC_eq hT (f1 74 (by decide)) (f1 75 (by decide)) (f1 76 (by decide)))) (fun F3 F' hR p1 p2 => ?_)
    obtain ⟨r1, r2⟩ := hR
    have r1' : qC [74, 75, 76] F1 F3 := qC_dst r1 p1
    have q3 : qC [74, 75, 76] F F3 := qq_trans (qq_up q1 (by decide)) r1'
    have t3 : trC (nfS T) (nbS T) F3 (rmS g U) := trC_eq r2 (p1 74 (by decide)) (p1 75 (by decide)) (p1 76 (by decide))
    have k82 : sy_i F3 82 = f := (eI (p2 82 (by decide) (by decide))).trans j82
    have g3 : gC 50 (nfS T) (nbS T) F3 g := gC_eq hg (fun j h1 h2 => q3.2 j (by omega) (by simp; omega))
    have sd3 : sy_i F3 7 = Int32.ofInt T.2.2.2.2.1 := (qq_i q3 (by decide) (by decide)).trans (ofi hC.2.1.2.2.2.2.1).symm
    have n3 : sy_i F3 51 = g 9 1 := g3.2 1 (by decide)
    have h3 : sy_i F3 50 = g 9 0 := g3.2 0 (by decide)
    refine j1sq_36 (by decide) F3 X1 X2 r1'.1 (by rw [k82]; omega) ?_
    intro F4 hb4 g4 e51 i51 a58 e82' i82' e83 i83 e84 i84
    rw [k82] at a58
    rw [n3] at i51
    rw [sd3, n3] at i82'
    rw [h3] at i83
    have i82' : sy_i F4 82 = lotS (Int32.ofInt T.2.2.2.2.1) ((1000000 : Int32) + g 9 1) := i82'
    have q4 : qC [51, 58, 74, 75, 76] F F4 := qq_on (qq_up q3 (by decide)) hb4 g4 (by decide)
    have r6 : (sy_ai F3 58).getD f.toInt.toNat 0 = g 6 f.toInt.toNat := g3.1 6 _ (by decide) (vF (by decide) hlt)
    rw [r6] at a58
    have g4' : gC 50 (nfS T) (nbS T) F4 (shkS g f.toInt.toNat) := gC_upn (k := 1) g3 (by decide) rfl (by decide) a58 i51 (fun j h1 h2 h3 h4 => g4 j (by omega) (by intro z; simp at z; rcases z with z | z; exact h4 z; exact h3 z))
    have t4 : trC (nfS T) (nbS T) F4 (rmS g U) := trC_eq t3 (g4 74 (by decide) (by decide)) (g4 75 (by decide) (by decide)) (g4 76 (by decide) (by decide))
    have c4 := xC_q (by decide) hC q4 (by decide)
    refine hd_calI (R := fun x F' => qC [] F4 F' ∧ x = ppS (mkS (shkS g f.toInt.toNat) (0 : Int32).toInt (nfS T))) (nh := 82) (nv := 84) (s := 1) (s1 := 1) (d1 := 2) (M1 := jm_M12) (As := [.inl (.ref 46), .inl (.int 0), .inr (.inl 84)]) (rest := [.inr (.inl 83), .inl (.ref 10), .inl (.ref 38)]) jm_ok90 rfl rfl (by decide) (by decide +kernel) (j1nhm_V F4 X1 X2 c4 g4' 0 _ (by rw [e84, qq_i q3 (j := 3) (by decide) (by decide)]; exact enf)) (fun F5 F6 x hR5 s1 s2 s3 => ?_)
    obtain ⟨u1, u2⟩ := hR5
    have q5 : qC [51, 58, 74, 75, 76] F F5 := qq_trans q4 (qq_up (qC_dst u1 s1) (by decide))
    have c5 := xC_q (by decide) hC q5 (by decide)
    have k84 : sy_i F5 84 = lfS T g := (zz_i s3).trans (u2.trans (lf_shk T g f.toInt.toNat))
    have k83 : sy_i F5 83 = g 9 0 := (eI (s2 83 (by decide) (by decide))).trans i83
    have k82b : sy_i F5 82 = lotS (Int32.ofInt T.2.2.2.2.1) ((1000000 : Int32) + g 9 1) := (eI (s2 82 (by decide) (by decide))).trans i82'
    have f45 : ∀ j, j < 82 → F5 j = F4 j := fun j hj => (s1 j hj).trans (u1.2 j hj (by simp))
    refine hd_calV (R := fun F' => qC [45, 46] F5 F' ∧ v45 F' 2 = sy_i F5 83 ∧ v45 F' 8 = sy_i F5 84 ∧ v45 F' 3 = Int32.ofInt (windT T (sy_i F5 83) (sy_i F5 84))) (nh := 82) (nv := 83) (s := 1) (s1 := 1) (d1 := 5) (M1 := jm_M17) (As := [.inl (.ref 38), .inl (.ref 10), .inr (.inl 83), .inr (.inl 84)]) (rest := []) jm_ok90 rfl rfl (by decide) (by decide +kernel) (j1sh_V F5 X1 X2 c5 _ _) (fun F7 F8 hR7 w1 w2 => ?_)
    obtain ⟨v1, v2, v3, v4⟩ := hR7
    rw [k83] at v2 v4
    rw [k84] at v3 v4
    have v1' : qC [45, 46] F5 F7 := qC_dst v1 w1
    have q7 : qC [45, 46, 51, 52, 58, 74, 75, 76] F F7 := qq_trans (qq_up q5 (by decide)) (qq_up v1' (by decide))
    have e45 : v45 F7 = v45 F8 := by unfold v45; rw [nz_fa (w1 45 (by decide))]
    have k82c : sy_i F7 82 = lotS (Int32.ofInt T.2.2.2.2.1) ((1000000 : Int32) + g 9 1) := (eI (w2 82 (by decide) (by decide))).trans k82b
    refine j1sq_116 (by decide) F7 X1 X2 q7.1 ?_
    intro F9 hb9 g9 a45 e82'' i82''
    have n7 : sy_i F7 51 = g 9 1 + 1 := (qq_i v1' (by decide) (by decide)).trans ((eI (f45 51 (by decide))).trans i51)
    rw [n7] at a45
    have q9 : qC [45, 46, 51, 52, 58, 74, 75, 76] F F9 := qq_on q7 hb9 g9 (by decide)
    have c9 := xC_q (by decide) hC q9 (by decide)
    have key : ∀ j : Nat, v45 F9 j = if j = (5 : Int).toNat then g 9 1 + 1 else v45 F7 j := fun j => by
      show (sy_ai F9 45).getD j 0 = _
      rw [a45, jm_upd_at]
      rfl
    have hfd : lwT T 5 (v45 F9) = foundT T (g 9 1 + 1) (Int32.ofInt (wiS T g)) (g 9 0) (lfS T g) := lwT_cg hC.2.2.1 (nine9 (fun t => absurd t (by decide)) (fun t => absurd t (by decide)) (fun _ => by rw [key, e45]; exact v2) (fun _ => by rw [key, e45]; exact v4) (fun t => absurd t (by decide)) (fun _ => by rw [key]; rfl) (fun t => absurd t (by decide)) (fun t => absurd t (by decide)) (fun _ => by rw [key, e45]; exact v3))
    refine hd_calI (R := fun x F' => qC [46] F9 F' ∧ x.toInt = lwT T 5 (v45 F9)) (nh := 82) (nv := 83) (s := 1) (s1 := 1) (d1 := 4) (M1 := jm_M21) (As := [.inl (.ref 38), .inl (.ref 10), .inl (.int 5)]) (rest := [.inr (.inl 82)]) jm_ok90 rfl rfl (by decide) (by decide +kernel) (j1tl_V F9 X1 X2 c9 (by decide) (by decide)) (fun FA FB y hRA y1 y2 y3 => ?_)
    obtain ⟨z1, z2⟩ := hRA
    rw [hfd] at z2
    have z1' : qC [46] F9 FA := qC_dst z1 y1
    have qA : qC [45, 46, 51, 52, 58, 74, 75, 76] F FA := qq_trans q9 (qq_up z1' (by decide))
    have m82 : sy_i FA 82 = lotS (Int32.ofInt T.2.2.2.2.1) ((1000000 : Int32) + g 9 1) := (eI (y2 82 (by decide) (by decide))).trans (i82''.trans k82c)
    have m83 : (sy_i FA 83).toInt = foundT T (g 9 1 + 1) (Int32.ofInt (wiS T g)) (g 9 0) (lfS T g) := by rw [zz_i y3]; exact z2
    have fA : ∀ j, j < 82 → j ≠ 45 → j ≠ 46 → FA j = F4 j := fun j hj n1 n2 => (z1'.2 j hj (by simp; omega)).trans ((g9 j hj (by simp; omega)).trans ((v1'.2 j hj (by simp; omega)).trans (f45 j hj)))
    have gA : gC 50 (nfS T) (nbS T) FA (shkS g f.toInt.toNat) := gC_eq g4' (fun j h1 h2 => fA j (by omega) (by omega) (by omega))
    have tA : trC (nfS T) (nbS T) FA (rmS g U) := trC_eq t4 (fA 74 (by decide) (by decide) (by decide)) (fA 75 (by decide) (by decide) (by decide)) (fA 76 (by decide) (by decide) (by decide))
    have hfd2 : fdS T g ↔ (sy_i FA 82).toInt < (sy_i FA 83).toInt := by rw [m82, m83]; exact Iff.rfl
    refine j1sq_145 (by decide) FA X1 X2 qA.1 ?_ ?_
    · intro d0 FC hbC gC'
      have hn : ¬ fdS T g := fun h => absurd (hfd2.mp h) (by omega)
      exact ⟨_, FC, rfl, rfl, fun h => absurd ⟨c0, by omega⟩ h, fun _ h => absurd c2 h, fun _ _ => ⟨qq_on qA hbC gC' (by decide), trC_eq tA (gC' 74 (by decide) (by decide)) (gC' 75 (by decide) (by decide)) (gC' 76 (by decide) (by decide)), fun h => absurd h hn, fun _ => ⟨rfl, gC_eq gA (fun j h1 h2 => gC' j (by omega) (by simp))⟩⟩⟩
    · intro d0 FC hbC gC' e52 i52
      have hy : fdS T g := hfd2.mpr d0
      have n52 : sy_i FA 52 = g 9 2 := (gA.2 2 (by decide)).trans (shkS_9 g f.toInt.toNat).2.2.1
      rw [n52] at i52
      exact ⟨_, FC, rfl, rfl, fun h => absurd ⟨c0, by omega⟩ h, fun _ h => absurd c2 h, fun _ _ => ⟨qq_on qA hbC gC' (by decide), trC_eq tA (gC' 74 (by decide) (by decide)) (gC' 75 (by decide) (by decide)) (gC' 76 (by decide) (by decide)), fun _ => ⟨rfl, gC_93 (gC_n gA (i := 2) (by decide) i52 (fun j h1 h2 h3 => gC' j (by omega) (by intro z; simp at z; exact h3 z))) _⟩, fun h => absurd hy h⟩⟩
  · intro c0 c1 c2 F1 hb1 gg
    rw [i82] at c0 c1 c2
    rw [rd (by omega)] at c2
    exact ⟨_, F1, rfl, rfl, fun h => absurd ⟨c0, by omega⟩ h, fun _ _ => ⟨rfl, qq_src (qq_mk hb1 gg (by decide)) k0⟩, fun _ z => absurd z c2⟩
theorem j1hq_L (hC : xC 3 T F) (hO : okS T g) {U : List gS} {N : Nat} (hN : N ≤ 48) : ∀ (m : Nat) (F1 : Nat → sy_d) (n : Nat), n + m = N → qC [45, 46, 50, 51, 52, 53, 54, 55, 56, 57, 58, 59, 60, 61, 74, 75, 76] F F1 → (sy_i F1 82).toInt = N → (sy_i F1 83).toInt = n → gC 50 (nfS T) (nbS T) F1 (hrsS T (Int32.ofInt T.2.2.2.2.1) g n) → trC (nfS T) (nbS T) F1 U →
    hd_W Ls xs 8 jm_M91 (pI 1 X1 X2 (fun x F' => x = hrsS T (Int32.ofInt T.2.2.2.2.1) g N 9 0 ∧ qC [45, 46, 50, 51, 52, 53, 54, 55, 56, 57, 58, 59, 60, 61, 74, 75, 76] F F' ∧ gC 50 (nfS T) (nbS T) F' (hrsS T (Int32.ofInt T.2.2.2.2.1) g N) ∧ trC (nfS T) (nbS T) F' U)) (29, sy_dL F1 [some (.inl (.ref 8)), some (.inr (.inl 82)), some (.inr (.inl 83))], sy_dS F1 [], sy_dh F1 X1 X2 (iv_H 1), 0, 0) := by
  intro m
  induction m with
  | zero =>
    intro F1 n hm hq e82 e83 hG hU
    have en : n = N := by omega
    subst en
    refine j1hq_29 (by decide) F1 X1 X2 hq.1 (by omega) (by omega) ?_ ?_
    · intro c0 F2 hb gg
      exact ⟨_, F2, rfl, rfl, hG.2 0 (by decide), qq_on hq hb gg (by decide), gC_eq hG (fun j h1 h2 => gg j (by omega) (by simp)), trC_eq hU (gg 74 (by decide) (by decide)) (gg 75 (by decide) (by decide)) (gg 76 (by decide) (by decide))⟩
    · intros
      omega
  | succ m ih =>
    intro F1 n hm hq e82 e83 hG hU
    refine j1hq_29 (by decide) F1 X1 X2 hq.1 (by omega) (by omega) ?_ ?_
    · intros
      omega
    · intro c0 F2 hb gg f82 i82 f83 i83 f84 i84
      have q2 := qq_on hq hb gg (by decide)
      have c2 := xC_q (by decide) hC q2 (by decide)
      have sd2 : sy_i F2 84 = Int32.ofInt T.2.2.2.2.1 := i84.trans ((qq_i hq (by decide) (by decide)).trans (ofi hC.2.1.2.2.2.2.1).symm)
      have g2 : gC 50 (nfS T) (nbS T) F2 (hrsS T (Int32.ofInt T.2.2.2.2.1) g n) := gC_eq hG (fun j h1 h2 => gg j (by omega) (by simp))
      have u2 : trC (nfS T) (nbS T) F2 U := trC_eq hU (gg 74 (by decide) (by decide)) (gg 75 (by decide) (by decide)) (gg 76 (by decide) (by decide))
      refine hd_calV (R := fun F' => qC W1n F2 F' ∧ gC 50 (nfS T) (nbS T) F' (hourS T (sy_i F2 84) (hrsS T (Int32.ofInt T.2.2.2.2.1) g n))) (nh := 82) (nv := 84) (s := 1) (s1 := 1) (d1 := 7) (M1 := jm_M3) (As := [.inl (.ref 41), .inl (.ref 10), .inl (.ref 46), .inr (.inl 84)]) (rest := []) jm_ok91 rfl rfl (by decide) (by decide +kernel) (j1nph_V F2 X1 X2 c2 g2 (okS_hrs hO n) _) (fun F3 F' hR p1 p2 => ?_)
      obtain ⟨r1, r2⟩ := hR
      rw [sd2] at r2
      have r1' : qC W1n F2 F3 := qC_dst r1 p1
      refine j1hq_56 (by decide) F3 X1 X2 r1'.1 (by rw [nz_fi (p2 83 (by decide) (by decide))]; omega) ?_
      intro F4 hb4 g4 h82 k82 h83 k83
      have q4 : qC [45, 46, 50, 51, 52, 53, 54, 55, 56, 57, 58, 59, 60, 61, 74, 75, 76] F F4 := qq_on (qq_trans q2 (qq_up r1' (by decide))) hb4 g4 (by decide)
      refine ih F4 (n + 1) (by omega) q4 (by rw [h82, nz_fi (p2 82 (by decide) (by decide))]; omega) (by rw [h83, nz_fi (p2 83 (by decide) (by decide))]; omega) (gC_eq r2 (fun j h1 h2 => (g4 j (by omega) (by simp)).trans (p1 j (by omega)))) (trC_eq u2 ?_ ?_ ?_)
      · exact (g4 74 (by decide) (by decide)).trans (r1'.2 74 (by decide) (by decide))
      · exact (g4 75 (by decide) (by decide)).trans (r1'.2 75 (by decide) (by decide))
      · exact (g4 76 (by decide) (by decide)).trans (r1'.2 76 (by decide) (by decide))
theorem j1hq_V (hC : xC 3 T F) (hg : gC 50 (nfS T) (nbS T) F g) (hO : okS T g) {U : List gS} (hT : trC (nfS T) (nbS T) F U) (n : Int32) : jm_T Ls xs 8 jm_M91 [.ref 8, .int n] (sy_dh F X1 X2 (iv_H 1)) 0 0 (pI 1 X1 X2 (fun x F' => (¬ (0 ≤ n.toInt ∧ n.toInt ≤ 48) → x = -1 ∧ qC [] F F') ∧ (n.toInt = 0 → x = g 9 0 ∧ qC [] F F') ∧ (1 ≤ n.toInt ∧ n.toInt ≤ 48 → x = hrsS T (Int32.ofInt T.2.2.2.2.1) g n.toInt.toNat 9 0 ∧ qC [45, 46, 50, 51, 52, 53, 54, 55, 56, 57, 58, 59, 60, 61, 74, 75, 76] F F' ∧ gC 50 (nfS T) (nbS T) F' (hrsS T (Int32.ofInt T.2.2.2.2.1) g n.toInt.toNat) ∧ trC (nfS T) (nbS T) F' (rmS g U)))) := by
  have l7 : nfS T ≤ 7 := hC.2.2.1.1.1
  have l4 : nbS T ≤ 4 := hC.2.2.1.1.2.1
  refine C_T (by decide) [n] [.inl (.ref 8), .inr (.inl 82)] jm_ok91 (by decide) rfl (fun F0 k0 ki => ?_)
  have i82 : sy_i F0 82 = n := ki 0
  refine j1hq_0 (by decide) F0 X1 X2 (hd_iveq0 hC.1 k0) ?_ ?_ ?_ ?_
  · intro c0 F1 hb1 gg
    rw [i82] at c0
    exact ⟨_, F1, rfl, rfl, fun _ => ⟨rfl, qq_src (qq_mk hb1 gg (by decide)) k0⟩, fun h => absurd h (by omega), fun h => absurd h.1 (by omega)⟩
  · intro c0 c1 F1 hb1 gg
    rw [i82] at c0 c1
    exact ⟨_, F1, rfl, rfl, fun _ => ⟨rfl, qq_src (qq_mk hb1 gg (by decide)) k0⟩, fun h => absurd h (by omega), fun h => absurd h.2 (by omega)⟩
  · intro c0 c1 c2 F1 hb1 gg
    rw [i82] at c0 c1 c2
    exact ⟨_, F1, rfl, rfl, fun h => absurd ⟨c0, c1⟩ h, fun _ => ⟨(eI (k0 50 (by decide))).trans (hg.2 0 (by decide)), qq_src (qq_mk hb1 gg (by decide)) k0⟩, fun h => absurd h.1 (by omega)⟩
  · intro c0 c1 c2 F1 hb1 gg e82 j82
    rw [i82] at c0 c1 c2 j82
    have q1 : qC [] F F1 := qq_src (qq_mk hb1 gg (by decide)) k0
    have f1 : ∀ j, j < 82 → F1 j = F j := fun j hj => q1.2 j hj (by simp)
    refine hd_calV (R := fun F' => qC [74, 75, 76] F1 F' ∧ trC (nfS T) (nbS T) F' (rmS g U)) (nh := 82) (nv := 83) (s := 1) (s1 := 1) (d1 := 2) (M1 := jm_M78) (As := [.inl (.ref 66), .inl (.ref 46)]) (rest := []) jm_ok91 rfl rfl (by decide) (by decide +kernel) (j1re_V F1 X1 X2 hb1 l7 l4 (gC_eq hg (fun j h1 h2 => f1 j (by omega))) (trC_eq hT (f1 74 (by decide)) (f1 75 (by decide)) (f1 76 (by decide)))) (fun F3 F' hR p1 p2 => ?_)
    obtain ⟨r1, r2⟩ := hR
    have r1' : qC [74, 75, 76] F1 F3 := qC_dst r1 p1
    have q3 : qC [74, 75, 76] F F3 := qq_trans (qq_up q1 (by decide)) r1'
    have k82 : sy_i F3 82 = n := (eI (p2 82 (by decide) (by decide))).trans j82
    refine j1hq_27 (by decide) F3 X1 X2 q3.1 ?_
    intro F4 hb4 g4 h82 m82 h83 m83
    have f4 : ∀ j, j < 82 → F4 j = F3 j := fun j hj => g4 j hj (by simp)
    refine hd_mono (j1hq_L F X1 X2 hC hO (U := rmS g U) (N := n.toInt.toNat) (by omega) n.toInt.toNat F4 0 (by omega) (qq_on (qq_up q3 (by decide)) hb4 g4 (by decide)) (by rw [h82, k82]; omega) h83 (gC_eq hg (fun j h1 h2 => (f4 j (by omega)).trans (q3.2 j (by omega) (by simp; omega)))) (trC_eq r2 ((f4 74 (by decide)).trans (p1 74 (by decide))) ((f4 75 (by decide)).trans (p1 75 (by decide))) ((f4 76 (by decide)).trans (p1 76 (by decide))))) ?_
    rintro x G ⟨r, F', e1, e2, e3⟩
    exact ⟨r, F', e1, e2, fun h => absurd ⟨c0, c1⟩ h, fun h => absurd h (by omega), fun _ => e3⟩
end SH1
end
section
/-! ===== what is told and taped, on the class's side (shape 1) ===== -/
section TT1
variable {Ls : Nat} {xs : Nat → Int32} (X1 X2 : List jm_c)
theorem j1pq_V (F : Nat → sy_d) (hB : iv_in F iv_B0) : jm_T Ls xs 1 jm_M84 [.ref 8] (sy_dh F X1 X2 (iv_H 1)) 0 0 (pI 1 X1 X2 (fun x F' => x = sy_i F 1 ∧ qC [] F F')) := by
  refine hd_T (As := [.inl (.ref 8)]) jm_ok84 (by decide) (j1pq_0 (by decide) F X1 X2 hB ?_)
  intro F1 hb gg
  exact ⟨_, F1, rfl, rfl, rfl, qq_mk hb gg (by decide)⟩
theorem j1fq_V (F : Nat → sy_d) (hB : iv_in F iv_B0) : jm_T Ls xs 1 jm_M109 [.ref 8] (sy_dh F X1 X2 (iv_H 1)) 0 0 (pI 1 X1 X2 (fun x F' => x = sy_i F 79 ∧ qC [79] F F' ∧ (sy_i F' 79).toInt = 0)) := by
  refine hd_T (As := [.inl (.ref 8)]) jm_ok109 (by decide) (j1fq_0 (by decide) F X1 X2 hB ?_)
  intro F1 hb gg e79 i79
  exact ⟨_, F1, rfl, rfl, rfl, qq_mk hb gg (by decide), e79⟩
theorem j1bq_V (F : Nat → sy_d) (hB : iv_in F iv_B0) (v : Int32) : jm_T Ls xs 1 jm_M82 [.ref 8, .int v] (sy_dh F X1 X2 (iv_H 1)) 0 0 (pI 1 X1 X2 (fun x F' => (v.toInt < 0 ∨ (sy_i F 0).toInt < v.toInt → x = -1 ∧ qC [] F F') ∧ (¬ (v.toInt < 0 ∨ (sy_i F 0).toInt < v.toInt) → x.toInt = (sy_i F 0).toInt - v.toInt ∧ qC [0] F F' ∧ (sy_i F' 0).toInt = (sy_i F 0).toInt - v.toInt))) := by
  have c1 := nz_bx hB (k := 0) (lo := 0) (hi := 2000) rfl
  refine C_T (by decide) [v] [.inl (.ref 8), .inr (.inl 82)] jm_ok82 (by decide) rfl (fun F0 k0 ki => ?_)
  have i82 : sy_i F0 82 = v := ki 0
  have e0 : (sy_i F0 0).toInt = (sy_i F 0).toInt := nz_fi (k0 0 (by decide))
  have z82 : (sy_i F0 82).toInt = v.toInt := congrArg Int32.toInt i82
  refine j1bq_0 (by decide) F0 X1 X2 (hd_iveq0 hB k0) (by intros; omega) ?_ ?_ ?_
  · intro c0 F1 hb1 gg
    exact ⟨_, F1, rfl, rfl, fun _ => ⟨rfl, qq_src (qq_mk hb1 gg (by decide)) k0⟩, fun h => absurd (Or.inl (by omega)) h⟩
  · intro c0 c2 F1 hb1 gg f0 i0
    exact ⟨_, F1, rfl, rfl, fun h => absurd h (by omega), fun _ => ⟨by rw [nz_sub rfl rfl (by omega) (by omega)]; omega, qq_src (qq_mk hb1 gg (by decide)) k0, by omega⟩⟩
  · intro c0 c2 F1 hb1 gg
    exact ⟨_, F1, rfl, rfl, fun _ => ⟨rfl, qq_src (qq_mk hb1 gg (by decide)) k0⟩, fun h => absurd (Or.inr (by omega)) h⟩
theorem j1tq_V (F : Nat → sy_d) (hB : iv_in F iv_B0) (a b : Int32) : jm_T Ls xs 2 jm_M108 [.ref 8, .int a, .int b] (sy_dh F X1 X2 (iv_H 1)) 0 0 (pI 1 X1 X2 (fun x F' => (¬ ((1 ≤ a.toInt ∧ a.toInt ≤ 9) ∧ (0 ≤ b.toInt ∧ b.toInt ≤ 9) ∧ (sy_i F 79).toInt < 7) → x = -1 ∧ qC [] F F') ∧ ((1 ≤ a.toInt ∧ a.toInt ≤ 9) ∧ (0 ≤ b.toInt ∧ b.toInt ≤ 9) ∧ (sy_i F 79).toInt < 7 → x.toInt = (sy_i F 79).toInt ∧ qC [79, 80, 81] F F' ∧ (sy_i F' 79).toInt = (sy_i F 79).toInt + 1 ∧ sy_ai F' 80 = jm_upd (sy_ai F 80) (sy_i F 79).toInt.toNat a ∧ sy_ai F' 81 = jm_upd (sy_ai F 81) (sy_i F 79).toInt.toNat b))) := by
  have c1 := nz_bx hB (k := 79) (lo := 0) (hi := 7) rfl
  refine C_T (by decide) [a, b] [.inl (.ref 8), .inr (.inl 82), .inr (.inl 83)] jm_ok108 (by decide) rfl (fun F0 k0 ki => ?_)
  have i82 : sy_i F0 82 = a := ki 0
  have i83 : sy_i F0 83 = b := ki 1
  have e0 : sy_i F0 79 = sy_i F 79 := eI (k0 79 (by decide))
  have z82 : (sy_i F0 82).toInt = a.toInt := congrArg Int32.toInt i82
  have z83 : (sy_i F0 83).toInt = b.toInt := congrArg Int32.toInt i83
  have z79 : (sy_i F0 79).toInt = (sy_i F 79).toInt := congrArg Int32.toInt e0
  have no : ∀ F1 : Nat → sy_d, iv_in F1 iv_B0 → (∀ j, j < 82 → j ∉ ([] : List Nat) → F1 j = F0 j) → ¬ ((1 ≤ a.toInt ∧ a.toInt ≤ 9) ∧ (0 ≤ b.toInt ∧ b.toInt ≤ 9) ∧ (sy_i F 79).toInt < 7) → pI 1 X1 X2 (fun x F' => (¬ ((1 ≤ a.toInt ∧ a.toInt ≤ 9) ∧ (0 ≤ b.toInt ∧ b.toInt ≤ 9) ∧ (sy_i F 79).toInt < 7) → x = -1 ∧ qC [] F F') ∧ ((1 ≤ a.toInt ∧ a.toInt ≤ 9) ∧ (0 ≤ b.toInt ∧ b.toInt ≤ 9) ∧ (sy_i F 79).toInt < 7 → x.toInt = (sy_i F 79).toInt ∧ qC [79, 80, 81] F F' ∧ (sy_i F' 79).toInt = (sy_i F 79).toInt + 1 ∧ sy_ai F' 80 = jm_upd (sy_ai F 80) (sy_i F 79).toInt.toNat a ∧ sy_ai F' 81 = jm_upd (sy_ai F 81) (sy_i F 79).toInt.toNat b)) (some (.int (-1 : Int32))) (sy_dh F1 X1 X2 (iv_H 1)) := fun F1 hb1 gg h => ⟨_, F1, rfl, rfl, fun _ => ⟨rfl, qq_src (qq_mk hb1 gg (by decide)) k0⟩, fun z => absurd z h⟩
  refine j1tq_0 (by decide) F0 X1 X2 (hd_iveq0 hB k0) ?_ ?_ ?_ ?_ ?_ ?_
  · intro d1 F1 hb1 gg
    exact no F1 hb1 gg (by omega)
  · intro d1 d2 F1 hb1 gg
    exact no F1 hb1 gg (by omega)
  · intro d1 d2 d3 F1 hb1 gg
    exact no F1 hb1 gg (by omega)
  · intro d1 d2 d3 d4 F1 hb1 gg
    exact no F1 hb1 gg (by omega)
  · intro d1 d2 d3 d4 d5 F1 hb1 gg f79 i79 a80 a81
    rw [i82, e0, nz_fa (k0 80 (by decide))] at a80
    rw [i83, e0, nz_fa (k0 81 (by decide))] at a81
    have o1 : (1 : Int32).toInt = 1 := by decide
    exact ⟨_, F1, rfl, rfl, fun h => absurd (by omega) h, fun _ => ⟨by rw [nz_sub (nz_add rfl o1 (by omega) (by omega)) o1 (by omega) (by omega)]; omega, qq_src (qq_mk hb1 gg (by decide)) k0, by omega, a80, a81⟩⟩
  · intro d1 d2 d3 d4 d5 F1 hb1 gg
    exact no F1 hb1 gg (by omega)
theorem j1fd_V (F : Nat → sy_d) (hB : iv_in F iv_B0) (a b c d e : Int32) : jm_T Ls xs 2 jm_M81 [.ref 8, .int a, .int b, .int c, .int d, .int e] (sy_dh F X1 X2 (iv_H 1)) 0 0 (pI 1 X1 X2 (fun x F' => (2000 < (sy_i F 0).toInt + 20 → x = -1 ∧ qC [] F F') ∧ (¬ 2000 < (sy_i F 0).toInt + 20 → x.toInt = (sy_i F 0).toInt + 20 ∧ qC [0, 2] F F' ∧ (sy_i F' 0).toInt = (sy_i F 0).toInt + 20 ∧ ub (sy_ai F' 2) ((sy_i F 0).toInt + 20).toNat = apB (apB (apB (apB (apB (ub (sy_ai F 2) (sy_i F 0).toInt.toNat) (sy_i F 0).toInt.toNat a) ((sy_i F 0).toInt.toNat + 4) b) ((sy_i F 0).toInt.toNat + 8) c) ((sy_i F 0).toInt.toNat + 12) d) ((sy_i F 0).toInt.toNat + 16) e))) := by
  obtain ⟨F0, hF0⟩ : ∃ F0, F0 = ny F (fun j => .inl (.int (if j = 0 then a else if j = 1 then b else if j = 2 then c else if j = 3 then d else e))) := ⟨_, rfl⟩
  have k0 : ∀ j, j < 82 → F0 j = F j := fun j hj => by rw [hF0]; exact ny_lt j hj
  have i82 : sy_i F0 82 = a := by rw [hF0]; rfl
  have i83 : sy_i F0 83 = b := by rw [hF0]; rfl
  have i84 : sy_i F0 84 = c := by rw [hF0]; rfl
  have i85 : sy_i F0 85 = d := by rw [hF0]; rfl
  have i86 : sy_i F0 86 = e := by rw [hF0]; rfl
  have hB0 := hd_iveq0 hB k0
  have e00 : (sy_i F0 0).toInt = (sy_i F 0).toInt := nz_fi (k0 0 (by decide))
  have c1 := nz_bx hB0 (k := 0) (lo := 0) (hi := 2000) rfl
  refine nyy_T (by decide) F (fun j => .inl (.int (if j = 0 then a else if j = 1 then b else if j = 2 then c else if j = 3 then d else e))) X1 X2 (A := [.inl (.ref 8), .inr (.inl 82), .inr (.inl 83), .inr (.inl 84), .inr (.inl 85), .inr (.inl 86)]) jm_ok81 (by decide) rfl ?_
  rw [← hF0]
  refine k1ofd_0 (by decide) F0 X1 X2 hB0 ?_ ?_
  · intro q F1 hb g e0 e1 e79 a2 a78 f82 f83 f84 f85 f86
    have hn : ¬ 2000 < (sy_i F 0).toInt + 20 := by omega
    obtain ⟨t, ht⟩ : ∃ t : Nat, t = (sy_i F0 0).toInt.toNat := ⟨_, rfl⟩
    have h1 : fC1 F0 F1 t (ub (sy_ai F0 2) t) := ⟨hb, fun j hj hn => g j hj (by simp), by omega, by rw [a2]⟩
    have v0 : sy_i F1 82 = sy_i F0 82 := Int32.toInt_inj.mp f82
    have v1 : sy_i F1 83 = sy_i F0 83 := Int32.toInt_inj.mp f83
    have v2 : sy_i F1 84 = sy_i F0 84 := Int32.toInt_inj.mp f84
    have v3 : sy_i F1 85 = sy_i F0 85 := Int32.toInt_inj.mp f85
    have v4 : sy_i F1 86 = sy_i F0 86 := Int32.toInt_inj.mp f86
    refine hd_calV (R := fun F' => fC1 F0 F' (t + 4) (apB (ub (sy_ai F0 2) t) (t) (sy_i F0 82))) (nh := 82) (nv := 87) (s := 1) (s1 := 1) (d1 := 1) (M1 := jm_M116) (As := [.inl (.ref 8), .inr (.inl 82)]) (rest := []) jm_ok81 rfl rfl (by decide) (by decide +kernel) (by rw [← v0]; exact k1oap_T X1 X2 F0 F1 h1 (by omega) _) (fun G0 H0 hR0 p0 r0 => ?_)
    have h0a := fC1_eq hR0 p0
    have w0_1 : sy_i G0 83 = sy_i F0 83 := (show sy_i G0 83 = sy_i F1 83 by unfold sy_i; rw [r0 83 (by decide) (by decide)]).trans v1
    have w0_2 : sy_i G0 84 = sy_i F0 84 := (show sy_i G0 84 = sy_i F1 84 by unfold sy_i; rw [r0 84 (by decide) (by decide)]).trans v2
    have w0_3 : sy_i G0 85 = sy_i F0 85 := (show sy_i G0 85 = sy_i F1 85 by unfold sy_i; rw [r0 85 (by decide) (by decide)]).trans v3
    have w0_4 : sy_i G0 86 = sy_i F0 86 := (show sy_i G0 86 = sy_i F1 86 by unfold sy_i; rw [r0 86 (by decide) (by decide)]).trans v4
    refine k1ofd_20 (by decide) G0 X1 X2 h0a.1 ?_
    intro K0 kb0 kg0 z0_e0 z0_e1 z0_e79 z0_a2 z0_a78 y0_0 y0_1 y0_2 y0_3 y0_4
    have h0b := fC1_eq h0a (fun j hj => kg0 j hj (by simp))
    have u0_1 : sy_i K0 83 = sy_i F0 83 := (Int32.toInt_inj.mp y0_1).trans w0_1
    have u0_2 : sy_i K0 84 = sy_i F0 84 := (Int32.toInt_inj.mp y0_2).trans w0_2
    have u0_3 : sy_i K0 85 = sy_i F0 85 := (Int32.toInt_inj.mp y0_3).trans w0_3
    have u0_4 : sy_i K0 86 = sy_i F0 86 := (Int32.toInt_inj.mp y0_4).trans w0_4
    refine hd_calV (R := fun F' => fC1 F0 F' (t + 4 + 4) (apB (apB (ub (sy_ai F0 2) t) (t) (sy_i F0 82)) (t + 4) (sy_i F0 83))) (nh := 82) (nv := 87) (s := 1) (s1 := 1) (d1 := 1) (M1 := jm_M116) (As := [.inl (.ref 8), .inr (.inl 83)]) (rest := []) jm_ok81 rfl rfl (by decide) (by decide +kernel) (by rw [← u0_1]; exact k1oap_T X1 X2 F0 K0 h0b (by omega) _) (fun G1 H1 hR1 p1 r1 => ?_)
    have h1a := fC1_eq hR1 p1
    have w1_2 : sy_i G1 84 = sy_i F0 84 := (show sy_i G1 84 = sy_i K0 84 by unfold sy_i; rw [r1 84 (by decide) (by decide)]).trans u0_2
    have w1_3 : sy_i G1 85 = sy_i F0 85 := (show sy_i G1 85 = sy_i K0 85 by unfold sy_i; rw [r1 85 (by decide) (by decide)]).trans u0_3
    have w1_4 : sy_i G1 86 = sy_i F0 86 := (show sy_i G1 86 = sy_i K0 86 by unfold sy_i; rw [r1 86 (by decide) (by decide)]).trans u0_4
    refine k1ofd_25 (by decide) G1 X1 X2 h1a.1 ?_
    intro K1 kb1 kg1 z1_e0 z1_e1 z1_e79 z1_a2 z1_a78 y1_0 y1_1 y1_2 y1_3 y1_4
    have h1b := fC1_eq h1a (fun j hj => kg1 j hj (by simp))
    have u1_2 : sy_i K1 84 = sy_i F0 84 := (Int32.toInt_inj.mp y1_2).trans w1_2
    have u1_3 : sy_i K1 85 = sy_i F0 85 := (Int32.toInt_inj.mp y1_3).trans w1_3
    have u1_4 : sy_i K1 86 = sy_i F0 86 := (Int32.toInt_inj.mp y1_4).trans w1_4
    refine hd_calV (R := fun F' => fC1 F0 F' (t + 4 + 4 + 4) (apB (apB (apB (ub (sy_ai F0 2) t) (t) (sy_i F0 82)) (t + 4) (sy_i F0 83)) (t + 4 + 4) (sy_i F0 84))) (nh := 82) (nv := 87) (s := 1) (s1 := 1) (d1 := 1) (M1 := jm_M116) (As := [.inl (.ref 8), .inr (.inl 84)]) (rest := []) jm_ok81 rfl rfl (by decide) (by decide +kernel) (by rw [← u1_2]; exact k1oap_T X1 X2 F0 K1 h1b (by omega) _) (fun G2 H2 hR2 p2 r2 => ?_)
    have h2a := fC1_eq hR2 p2
    have w2_3 : sy_i G2 85 = sy_i F0 85 := (show sy_i G2 85 = sy_i K1 85 by unfold sy_i; rw [r2 85 (by decide) (by decide)]).trans u1_3
    have w2_4 : sy_i G2 86 = sy_i F0 86 := (show sy_i G2 86 = sy_i K1 86 by unfold sy_i; rw [r2 86 (by decide) (by decide)]).trans u1_4
    refine k1ofd_30 (by decide) G2 X1 X2 h2a.1 ?_
    intro K2 kb2 kg2 z2_e0 z2_e1 z2_e79 z2_a2 z2_a78 y2_0 y2_1 y2_2 y2_3 y2_4
    have h2b := fC1_eq h2a (fun j hj => kg2 j hj (by simp))
    have u2_3 : sy_i K2 85 = sy_i F0 85 := (Int32.toInt_inj.mp y2_3).trans w2_3
    have u2_4 : sy_i K2 86 = sy_i F0 86 := (Int32.toInt_inj.mp y2_4).trans w2_4
    refine hd_calV (R := fun F' => fC1 F0 F' (t + 4 + 4 + 4 + 4) (apB (apB (apB (apB (ub (sy_ai F0 2) t) (t) (sy_i F0 82)) (t + 4) (sy_i F0 83)) (t + 4 + 4) (sy_i F0 84)) (t + 4 + 4 + 4) (sy_i F0 85))) (nh := 82) (nv := 87) (s := 1) (s1 := 1) (d1 := 1) (M1 := jm_M116) (As := [.inl (.ref 8), .inr (.inl 85)]) (rest := []) jm_ok81 rfl rfl (by decide) (by decide +kernel) (by rw [← u2_3]; exact k1oap_T X1 X2 F0 K2 h2b (by omega) _) (fun G3 H3 hR3 p3 r3 => ?_)
    have h3a := fC1_eq hR3 p3
    have w3_4 : sy_i G3 86 = sy_i F0 86 := (show sy_i G3 86 = sy_i K2 86 by unfold sy_i; rw [r3 86 (by decide) (by decide)]).trans u2_4
    refine k1ofd_36 (by decide) G3 X1 X2 h3a.1 ?_
    intro K3 kb3 kg3 z3_e0 z3_e1 z3_e79 z3_a2 z3_a78 y3_0 y3_1 y3_2 y3_3 y3_4
    have h3b := fC1_eq h3a (fun j hj => kg3 j hj (by simp))
    have u3_4 : sy_i K3 86 = sy_i F0 86 := (Int32.toInt_inj.mp y3_4).trans w3_4
    refine hd_calV (R := fun F' => fC1 F0 F' (t + 4 + 4 + 4 + 4 + 4) (apB (apB (apB (apB (apB (ub (sy_ai F0 2) t) (t) (sy_i F0 82)) (t + 4) (sy_i F0 83)) (t + 4 + 4) (sy_i F0 84)) (t + 4 + 4 + 4) (sy_i F0 85)) (t + 4 + 4 + 4 + 4) (sy_i F0 86))) (nh := 82) (nv := 87) (s := 1) (s1 := 1) (d1 := 1) (M1 := jm_M116) (As := [.inl (.ref 8), .inr (.inl 86)]) (rest := []) jm_ok81 rfl rfl (by decide) (by decide +kernel) (by rw [← u3_4]; exact k1oap_T X1 X2 F0 K3 h3b (by omega) _) (fun G4 H4 hR4 p4 r4 => ?_)
    have h4a := fC1_eq hR4 p4
    refine k1ofd_42 (by decide) G4 X1 X2 h4a.1 ?_
    intro F9 kb kg z_e0 z_e1 z_e79 z_a2 z_a78
    have h6 := h4a
    have q5 := fC1_eq h4a (fun j hj => kg j hj (by simp))
    have w5 := q5.2.2.1
    have w6 := h6.2.2.1
    refine ⟨_, F9, rfl, rfl, fun h => absurd h hn, fun _ => ⟨by omega, ⟨q5.1, fun j hj hn => (q5.2.1 j hj hn).trans (k0 j hj)⟩, by omega, ?_⟩⟩
    have hA := q5.2.2.2
    rw [i82, i83, i84, i85, i86, nz_fa (k0 2 (by decide))] at hA
    have ht2 : (sy_i F 0).toInt.toNat = t := by omega
    rw [ht2, show ((sy_i F 0).toInt + 20).toNat = t + 4 + 4 + 4 + 4 + 4 by omega]
    exact hA
  · intro q F1 hb g e0 e1 e79 a2 a78
    have hn : 2000 < (sy_i F 0).toInt + 20 := by omega
    exact ⟨_, F1, rfl, rfl, fun _ => ⟨rfl, qq_src (qq_mk hb g (by decide)) k0⟩, fun h => absurd hn h⟩
end TT1
end
section
/-! ===== the class reads: what is behind it (shape 1) ===== -/
section RV1
variable {Ls : Nat} {xs : Nat → Int32} (X1 X2 : List jm_c)
noncomputable def j1rdP (F : Nat → sy_d) (B : Nat → Int) (e : Nat) (v : Option Value) (G : jm_h) : Prop := ∃ (r : Int32) (t : Nat) (F' : Nat → sy_d), v = some (.int r) ∧ G = sy_dh F' X1 X2 (iv_H t) ∧ r.toInt = (rdA B e).1 ∧ iv_in F' iv_B0 ∧ jx_ok F' ∧ sy_al F' 42 = wls ∧ (sy_i F' 0).toInt = 0 ∧ (sy_i F' 1).toInt = (rdA B e).2 ∧ ((rdA B e).1 ≠ 0 → t = 0 ∧ ∀ j, j < 82 → j ∉ (0 :: 1 :: 39 :: 40 :: 41 :: 35 :: k0_WP) → F' j = F j) ∧ ((rdA B e).1 = 0 → t = 2 ∧ xC 18 (rdT B e) F' ∧ gC 50 (nfS (rdT B e)) (nbS (rdT B e)) F' (begS (rdT B e)) ∧ rstC 18 (rdT B e) F' ∧ (sy_i F' 75).toInt = 0 ∧ (sy_i F' 74).toInt = 0 ∧ (sy_i F' 79).toInt = 0 ∧ ∀ j, j < 3 → (sy_ai F' 78).getD j 0 = 0)
theorem j1rd_V (F : Nat → sy_d) (hB : iv_in F iv_B0) (hJ : jx_ok F) (hw : sy_al F 42 = wls) : jm_T Ls xs 29 jm_M83 [.ref 8] (sy_dh F X1 X2 (iv_H 1)) 0 0 (j1rdP X1 X2 F (ub (sy_ai F 2) (sy_i F 0).toInt.toNat) (sy_i F 0).toInt.toNat) := by
  have c0 := nz_bx hB (k := 0) (lo := 0) (hi := 2000) rfl
  refine hd_T (As := [.inl (.ref 8)]) jm_ok83 (by decide) (k1ord_0 (by decide) F X1 X2 hB ?_)
  intro F1 hb g e0 e1 e35 e79 a2 a78 f82
  have g1 : ∀ j, j < 82 → F1 j = F j := fun j hj => g j hj (by simp)
  refine hd_calI (R := fun x F' => gc (39 :: 40 :: 41 :: 35 :: k0_WP) F1 F' ∧ jx_ok F' ∧ x.toInt = (rdA (ub (sy_ai F1 2) (sy_i F 0).toInt.toNat) (sy_i F 0).toInt.toNat).1 ∧ (sy_i F' 35).toInt = (rdA (ub (sy_ai F1 2) (sy_i F 0).toInt.toNat) (sy_i F 0).toInt.toNat).2 ∧ (x.toInt = 0 → rXc 18 (rdT (ub (sy_ai F1 2) (sy_i F 0).toInt.toNat) (sy_i F 0).toInt.toNat) F' ∧ (sy_i F' 23).toInt ≤ 412)) (nh := 82) (nv := 82) (s := 1) (s1 := 0) (d1 := 28) (M1 := jm_M31) (As := [.inl (.ref 30), .inl (.ref 9), .inr (.inl 82), .inl (.ref 20)]) (rest := []) jm_ok83 rfl rfl (by decide) (by decide +kernel) (k1py_C X1 X2 F1 hb (jx_ok_eq (g1 39 (by decide)) (g1 41 (by decide)) hJ) ((nz_fl (g1 42 (by decide))).trans hw) _ (e := (sy_i F 0).toInt.toNat) (by omega) (by omega)) (fun F3 F' x hR p1 _ p3 => ?_)
  obtain ⟨r1, r2, r3, r4, r5⟩ := hR
  rw [a2] at r3 r4 r5
  have hb3 := hd_iveq0 r1.1 p1
  have m82 : (sy_i F3 82).toInt = (rdA (ub (sy_ai F 2) (sy_i F 0).toInt.toNat) (sy_i F 0).toInt.toNat).1 := by rw [zz_i p3, r3]
  have m35 : (sy_i F3 35).toInt = (rdA (ub (sy_ai F 2) (sy_i F 0).toInt.toNat) (sy_i F 0).toInt.toNat).2 := by rw [nz_fi (p1 35 (by decide)), r4]
  obtain ⟨B, eB⟩ : ∃ B, B = ub (sy_ai F 2) (sy_i F 0).toInt.toNat := ⟨_, rfl⟩
  obtain ⟨E, eE⟩ : ∃ E, E = (sy_i F 0).toInt.toNat := ⟨_, rfl⟩
  rw [← eB, ← eE] at m82 m35 r5
  rw [← eB, ← eE]
  have g3 : ∀ j, j < 82 → j ∉ (39 :: 40 :: 41 :: 35 :: k0_WP) → F3 j = F j := fun j hj hn => (p1 j hj).trans ((r1.2 j hj hn).trans (g1 j hj))
  have j3 : jx_ok F3 := jx_ok_eq (p1 39 (by decide)) (p1 41 (by decide)) r2
  have w3 : sy_al F3 42 = wls := (nz_fl (g3 42 (by decide) (by decide))).trans hw
  refine k0ord_19 (by decide) F3 X1 X2 hb3 ?_ ?_
  · intro q F4 hb4 g4 e0' e1' e35' e79' a2' a78'
    have gg : ∀ j, j < 82 → j ∉ (0 :: 1 :: 39 :: 40 :: 41 :: 35 :: k0_WP) → F4 j = F j := fun j hj hn => (g4 j hj (fun q => hn (by revert q; simp; omega))).trans (g3 j hj (fun q => hn (List.mem_cons_of_mem _ (List.mem_cons_of_mem _ q))))
    exact ⟨_, 0, F4, rfl, rfl, m82, hb4, jx_ok_eq (g4 39 (by decide) (by decide)) (g4 41 (by decide) (by decide)) j3, (nz_fl (g4 42 (by decide) (by decide))).trans w3, e0', e1'.trans m35, fun _ => ⟨rfl, gg⟩, fun z => absurd (m82.trans z) q⟩
  · intro q F4 hb4 g4 e0' e1' e35' e79' a2' a78' f82'
    have hA : (rdA B E).1 = 0 := m82.symm.trans q
    obtain ⟨x1, x2⟩ := r5 (by rw [← zz_i p3]; exact q)
    have hT : wT (rdT B E) := rdT_wf hA
    have f4 : ∀ j, j < 82 → j ≠ 0 → j ≠ 1 → F4 j = F' j := fun j hj n0 n1 => (g4 j hj (by simp; omega)).trans (p1 j hj)
    have j4 : jx_ok F4 := jx_ok_eq (g4 39 (by decide) (by decide)) (g4 41 (by decide) (by decide)) j3
    have c4 : xC 18 (rdT B E) F4 := ⟨hb4, rXc_e9 x1 (fun j h1 h2 h3 => f4 j (by omega) (by omega) (by omega)), hT, by rw [nz_fi (f4 23 (by decide) (by decide) (by decide))]; exact x2⟩
    refine hd_calV (R := fun F' => qC jw2_BE F4 F' ∧ gC 50 (nfS (rdT B E)) (nbS (rdT B E)) F' (begS (rdT B E)) ∧ rstC 18 (rdT B E) F' ∧ (sy_i F' 75).toInt = 0 ∧ (sy_i F' 74).toInt = 0 ∧ (sy_i F' 79).toInt = 0 ∧ ∀ j, j < 3 → (sy_ai F' 78).getD j 0 = 0) (nh := 82) (nv := 83) (s := 2) (s1 := 2) (d1 := 8) (M1 := jm_M117) (As := [.inl (.ref 8)]) (rest := []) jm_ok83 rfl rfl (by decide) (by decide +kernel) (j2be_V F4 X1 X2 c4 j4) (fun F5 F6 hR6 p5 u5 => ?_)
    obtain ⟨y1, y2, y3, y4, y5, y6, y7⟩ := hR6
    have n82 := nz_fi (u5 82 (by decide) (by decide))
    refine k2ord_62 (by decide) F5 X1 X2 (hd_iveq0 y1.1 p5) ?_
    intro F7 hb7 g7 e0'' e1'' e79'' a2'' a78''
    have p7 : ∀ j, j < 82 → F7 j = F6 j := fun j hj => (g7 j hj (by simp)).trans (p5 j hj)
    have q7 : qC jw2_BE F4 F7 := qC_dst y1 p7
    refine ⟨_, 2, F7, rfl, rfl, ?_, hb7, jx_ok_eq (q7.2 39 (by decide) (by decide)) (q7.2 41 (by decide) (by decide)) j4, ?_, ?_, ?_, fun z => absurd hA z, fun _ => ⟨rfl, xC_q (by decide) c4 q7 (by decide), gC_eq y2 (fun j h1 h2 => p7 j (by omega)), fun f hf => ?_, ?_, ?_, ?_, fun j hj => ?_⟩⟩
    · show (sy_i F5 82).toInt = _
      rw [n82, f82']
      exact m82
    · rw [nz_fl (q7.2 42 (by decide) (by decide)), nz_fl (g4 42 (by decide) (by decide))]
      exact w3
    · rw [nz_fi (q7.2 0 (by decide) (by decide))]
      exact e0'
    · rw [nz_fi (q7.2 1 (by decide) (by decide))]
      exact e1'.trans m35
    · rw [nz_fa (p7 (18 + 9) (by decide))]
      exact y3 f hf
    · rw [nz_fi (p7 75 (by decide))]
      exact y4
    · rw [nz_fi (p7 74 (by decide))]
      exact y5
    · rw [nz_fi (p7 79 (by decide))]
      exact y6
    · rw [nz_fa (p7 78 (by decide))]
      exact y7 j hj
end RV1
end
section
/-! ===== shake, hours, what is told and taped, way by way (shape 2) ===== -/
theorem j2sq_0_p0 {Ls : Nat} {xs : Nat → Int32} {d : Nat} {Q : Option Value → jm_h → Prop} (hd : 2 ≤ d) (F : Nat → sy_d) (X1 X2 : List jm_c) (hB : iv_in F iv_B0)
    (h0 : (sy_i F 82).toInt < 0)
    (k : ∀ F1 : Nat → sy_d, (∀ j, j < 82 → True → F1 j = F j) → Q (some (.int (((-1) : Int32)))) (sy_dh F1 X1 X2 (iv_H 2))) :
    hd_W Ls xs d jm_M90 Q (0, sy_dL F [some (.inl (.ref 8)), some (.inr (.inl 82)), none, none], sy_dS F [], sy_dh F X1 X2 (iv_H 2), 0, 0) := by
  refine hd_ret (s := 2) (nv := 83) (v := some (.inl (.int (-1)))) (uh := hd_ov (iv_id 0 iv_B0) []) (f := true) (sp := [33]) (d0 := 1) (O := [true]) (T := []) (P := [(2, .inr (.inl 82), .inl (.int 0))]) jm_ok90 (by decide +kernel) (by decide +kernel) hd F X1 X2 (fun F' hF hs => ?_)
  have b82 := hd_b (F := F) (F' := F') (k := 82) (hF 82 (by decide))
  have hB' : iv_in F' iv_B0 := iv_in_eq hB (fun j hj => hF j (Nat.lt_of_lt_of_le hj (by decide +kernel)))
  refine ⟨List.forall_mem_cons.mpr ⟨hd_p2 b82 rfl (by have hc : ((0) : Int32).toInt = 0 := (by decide); omega), fun _ h => absurd h List.not_mem_nil⟩, ?_⟩
  refine k _ ?_
  · exact fun j hj _ => (hd_keep hB' (Nat.lt_of_lt_of_le hj (by decide +kernel)) (by simp)).trans (hF j (Nat.lt_of_lt_of_le hj (by decide)))
theorem j2sq_0_p1 {Ls : Nat} {xs : Nat → Int32} {d : Nat} {Q : Option Value → jm_h → Prop} (hd : 2 ≤ d) (F : Nat → sy_d) (X1 X2 : List jm_c) (hB : iv_in F iv_B0)
    (h0 : 0 ≤ (sy_i F 82).toInt)
    (h1 : (sy_i F 18).toInt ≤ (sy_i F 82).toInt)
    (k : ∀ F1 : Nat → sy_d, (∀ j, j < 82 → True → F1 j = F j) → Q (some (.int (((-1) : Int32)))) (sy_dh F1 X1 X2 (iv_H 2))) :
    hd_W Ls xs d jm_M90 Q (0, sy_dL F [some (.inl (.ref 8)), some (.inr (.inl 82)), none, none], sy_dS F [], sy_dh F X1 X2 (iv_H 2), 0, 0) := by
  refine hd_ret (s := 2) (nv := 83) (v := some (.inl (.int (-1)))) (uh := hd_ov (iv_id 0 iv_B0) []) (f := true) (sp := [33]) (d0 := 1) (O := [false, true]) (T := []) (P := [(3, .inr (.inl 82), .inl (.int 0)), (4, .inr (.inl 18), .inr (.inl 82))]) jm_ok90 (by decide +kernel) (by decide +kernel) hd F X1 X2 (fun F' hF hs => ?_)
  have b82 := hd_b (F := F) (F' := F') (k := 82) (hF 82 (by decide))
  have b18 := hd_b (F := F) (F' := F') (k := 18) (hF 18 (by decide))
  have hB' : iv_in F' iv_B0 := iv_in_eq hB (fun j hj => hF j (Nat.lt_of_lt_of_le hj (by decide +kernel)))
  refine ⟨List.forall_mem_cons.mpr ⟨hd_p3 b82 rfl (by have hc : ((0) : Int32).toInt = 0 := (by decide); omega), List.forall_mem_cons.mpr ⟨hd_p4 b18 b82 h1, fun _ h => absurd h List.not_mem_nil⟩⟩, ?_⟩
  refine k _ ?_
  · exact fun j hj _ => (hd_keep hB' (Nat.lt_of_lt_of_le hj (by decide +kernel)) (by simp)).trans (hF j (Nat.lt_of_lt_of_le hj (by decide)))
theorem j2sq_0_p2 {Ls : Nat} {xs : Nat → Int32} {d : Nat} {Q : Option Value → jm_h → Prop} (hd : 2 ≤ d) (F : Nat → sy_d) (X1 X2 : List jm_c) (hB : iv_in F iv_B0)
    (h0 : 0 ≤ (sy_i F 82).toInt)
    (h1 : (sy_i F 82).toInt < (sy_i F 18).toInt)
    (h2 : 0 ≤ (sy_i F 82).toInt ∧ (sy_i F 82).toInt < 7)
    (h3 : ((sy_ai F 54).getD (sy_i F 82).toNatClampNeg 0).toInt = 0)
    (k : ∀ F1 : Nat → sy_d, (∀ j, j < 82 → True → F1 j = F j) → F1 82 = .inl (.int (sy_i F 82)) → hd_W Ls xs d jm_M90 Q (33, sy_dL F1 [some (.inl (.ref 8)), some (.inr (.inl 82)), none, none], sy_dS F1 [.inl (.ref 46), .inl (.ref 66)], sy_dh F1 X1 X2 (iv_H 2), 0, 0)) :
    hd_W Ls xs d jm_M90 Q (0, sy_dL F [some (.inl (.ref 8)), some (.inr (.inl 82)), none, none], sy_dS F [], sy_dh F X1 X2 (iv_H 2), 0, 0) := by
  refine hd_run (s := 2) (nv := 83) (pc := 33) (L := [some (.inl (.ref 8)), some (.inr (.inl 82)), none, none]) (S := [.inl (.ref 46), .inl (.ref 66)]) (uh := hd_ov (iv_id 0 iv_B0) []) (ul := [.inl (.inr (.inl 82))]) (f := true) (sp := [33]) (d0 := 1) (O := [false, false, true]) (T := [(30, [.inr (.inl 82)], [.inr (.inl 54)])]) (P := [(3, .inr (.inl 82), .inl (.int 0)), (5, .inr (.inl 18), .inr (.inl 82)), (6, .inr (.inl 82), .inl (.ref 7)), (0, .inr (.inl 83), .inl (.int 0))]) jm_ok90 (by decide +kernel) (by decide +kernel) hd F X1 X2 (fun F' hF hs => ?_)
  have b82 := hd_b (F := F) (F' := F') (k := 82) (hF 82 (by decide))
  have b18 := hd_b (F := F) (F' := F') (k := 18) (hF 18 (by decide))
  have a54 := hd_ba (F := F) (F' := F') (k := 54) (hF 54 (by decide))
  have t83 : sy_dv F' (.inr (.inl 83)) = .int ((sy_ai F 54).getD (sy_i F 82).toNatClampNeg 0) := hd_rd (hs 0 _ rfl) b82 a54
  have hB' : iv_in F' iv_B0 := iv_in_eq hB (fun j hj => hF j (Nat.lt_of_lt_of_le hj (by decide +kernel)))
  refine ⟨List.forall_mem_cons.mpr ⟨hd_p3 b82 rfl (by have hc : ((0) : Int32).toInt = 0 := (by decide); omega), List.forall_mem_cons.mpr ⟨hd_p5 b18 b82 h1, List.forall_mem_cons.mpr ⟨hd_pb b82 (by first | exact h2 | exact h2), List.forall_mem_cons.mpr ⟨hd_p0 t83 rfl (by have hc : ((0) : Int32).toInt = 0 := (by decide); omega), fun _ h => absurd h List.not_mem_nil⟩⟩⟩⟩, ?_⟩
  refine k _ ?_ ?_
  · exact fun j hj _ => (hd_keep hB' (Nat.lt_of_lt_of_le hj (by decide +kernel)) (by simp)).trans (hF j (Nat.lt_of_lt_of_le hj (by decide)))
  · exact hd_gi (x := .inr (.inl 82)) (by decide +kernel) b82
theorem j2sq_0_p3 {Ls : Nat} {xs : Nat → Int32} {d : Nat} {Q : Option Value → jm_h → Prop} (hd : 2 ≤ d) (F : Nat → sy_d) (X1 X2 : List jm_c) (hB : iv_in F iv_B0)
    (h0 : 0 ≤ (sy_i F 82).toInt)
    (h1 : (sy_i F 82).toInt < (sy_i F 18).toInt)
    (h2 : 0 ≤ (sy_i F 82).toInt ∧ (sy_i F 82).toInt < 7)
    (h3 : ((sy_ai F 54).getD (sy_i F 82).toNatClampNeg 0).toInt ≠ 0)
    (k : ∀ F1 : Nat → sy_d, (∀ j, j < 82 → True → F1 j = F j) → Q (some (.int (((-2) : Int32)))) (sy_dh F1 X1 X2 (iv_H 2))) :
    hd_W Ls xs d jm_M90 Q (0, sy_dL F [some (.inl (.ref 8)), some (.inr (.inl 82)), none, none], sy_dS F [], sy_dh F X1 X2 (iv_H 2), 0, 0) := by
  refine hd_ret (s := 2) (nv := 83) (v := some (.inl (.int (-2)))) (uh := hd_ov (iv_id 0 iv_B0) []) (f := true) (sp := [33]) (d0 := 1) (O := [false, false, false]) (T := [(30, [.inr (.inl 82)], [.inr (.inl 54)])]) (P := [(3, .inr (.inl 82), .inl (.int 0)), (5, .inr (.inl 18), .inr (.inl 82)), (6, .inr (.inl 82), .inl (.ref 7)), (1, .inr (.inl 83), .inl (.int 0))]) jm_ok90 (by decide +kernel) (by decide +kernel) hd F X1 X2 (fun F' hF hs => ?_)
  have b82 := hd_b (F := F) (F' := F') (k := 82) (hF 82 (by decide))
  have b18 := hd_b (F := F) (F' := F') (k := 18) (hF 18 (by decide))
  have a54 := hd_ba (F := F) (F' := F') (k := 54) (hF 54 (by decide))
  have t83 : sy_dv F' (.inr (.inl 83)) = .int ((sy_ai F 54).getD (sy_i F 82).toNatClampNeg 0) := hd_rd (hs 0 _ rfl) b82 a54
  have hB' : iv_in F' iv_B0 := iv_in_eq hB (fun j hj => hF j (Nat.lt_of_lt_of_le hj (by decide +kernel)))
  refine ⟨List.forall_mem_cons.mpr ⟨hd_p3 b82 rfl (by have hc : ((0) : Int32).toInt = 0 := (by decide); omega), List.forall_mem_cons.mpr ⟨hd_p5 b18 b82 h1, List.forall_mem_cons.mpr ⟨hd_pb b82 (by first | exact h2 | exact h2), List.forall_mem_cons.mpr ⟨hd_p1 t83 rfl (by have hc : ((0) : Int32).toInt = 0 := (by decide); omega), fun _ h => absurd h List.not_mem_nil⟩⟩⟩⟩, ?_⟩
  refine k _ ?_
  · exact fun j hj _ => (hd_keep hB' (Nat.lt_of_lt_of_le hj (by decide +kernel)) (by simp)).trans (hF j (Nat.lt_of_lt_of_le hj (by decide)))
theorem j2sq_0 {Ls : Nat} {xs : Nat → Int32} {d : Nat} {Q : Option Value → jm_h → Prop} (hd : 2 ≤ d) (F : Nat → sy_d) (X1 X2 : List jm_c) (hB : iv_in F iv_B0)
    (k0 : (sy_i F 82).toInt < 0 → ∀ F1 : Nat → sy_d, iv_in F1 iv_B0 → (∀ j, j < 82 → j ∉ ([] : List Nat) → F1 j = F j) → Q (some (.int (((-1) : Int32)))) (sy_dh F1 X1 X2 (iv_H 2)))
    (k1 : 0 ≤ (sy_i F 82).toInt → (sy_i F 18).toInt ≤ (sy_i F 82).toInt → ∀ F1 : Nat → sy_d, iv_in F1 iv_B0 → (∀ j, j < 82 → j ∉ ([] : List Nat) → F1 j = F j) → Q (some (.int (((-1) : Int32)))) (sy_dh F1 X1 X2 (iv_H 2)))
    (k2 : 0 ≤ (sy_i F 82).toInt → (sy_i F 82).toInt < (sy_i F 18).toInt → ((sy_ai F 54).getD ((sy_i F 82).toInt).toNat 0).toInt = 0 → ∀ F1 : Nat → sy_d, iv_in F1 iv_B0 → (∀ j, j < 82 → j ∉ ([] : List Nat) → F1 j = F j) → (sy_i F1 82).toInt = (sy_i F 82).toInt → sy_i F1 82 = sy_i F 82 → hd_W Ls xs d jm_M90 Q (33, sy_dL F1 [some (.inl (.ref 8)), some (.inr (.inl 82)), none, none], sy_dS F1 [.inl (.ref 46), .inl (.ref 66)], sy_dh F1 X1 X2 (iv_H 2), 0, 0))
    (k3 : 0 ≤ (sy_i F 82).toInt → (sy_i F 82).toInt < (sy_i F 18).toInt → ((sy_ai F 54).getD ((sy_i F 82).toInt).toNat 0).toInt ≠ 0 → ∀ F1 : Nat → sy_d, iv_in F1 iv_B0 → (∀ j, j < 82 → j ∉ ([] : List Nat) → F1 j = F j) → Q (some (.int (((-2) : Int32)))) (sy_dh F1 X1 X2 (iv_H 2))) :
    hd_W Ls xs d jm_M90 Q (0, sy_dL F [some (.inl (.ref 8)), some (.inr (.inl 82)), none, none], sy_dS F [], sy_dh F X1 X2 (iv_H 2), 0, 0) := by
  by_cases g0 : (sy_i F 82).toInt < 0
  · exact j2sq_0_p0 hd F X1 X2 hB (by first | exact g0 | (simp only [nz_c]; exact g0)) (fun F1 g  => k0 g0 F1 (nz_in0 hB [] (fun j hj hn => g j hj (by simp only [List.mem_cons, List.not_mem_nil, or_false, not_or] at hn; exact trivial)) (List.forall_mem_nil _)) (fun j hj hn => g j hj (by simp only [List.mem_cons, List.not_mem_nil, or_false, not_or] at hn; exact trivial)) )
  replace g0 : 0 ≤ (sy_i F 82).toInt := by omega
  by_cases g1 : (sy_i F 18).toInt ≤ (sy_i F 82).toInt
  · have c18 := nz_bx hB (k := 18) (lo := 0) (hi := 7) rfl
    exact j2sq_0_p1 hd F X1 X2 hB (by first | exact g0 | (simp only [nz_c]; exact g0)) (by first | exact g1 | (simp only [nz_c]; exact g1)) (fun F1 g  => k1 g0 g1 F1 (nz_in0 hB [] (fun j hj hn => g j hj (by simp only [List.mem_cons, List.not_mem_nil, or_false, not_or] at hn; exact trivial)) (List.forall_mem_nil _)) (fun j hj hn => g j hj (by simp only [List.mem_cons, List.not_mem_nil, or_false, not_or] at hn; exact trivial)) )
  replace g1 : (sy_i F 82).toInt < (sy_i F 18).toInt := by omega
  by_cases g2 : ((sy_ai F 54).getD ((sy_i F 82).toInt).toNat 0).toInt = 0
  · have c18 := nz_bx hB (k := 18) (lo := 0) (hi := 7) rfl
    have q83 : (sy_ai F 54).getD (sy_i F 82).toNatClampNeg 0 = (sy_ai F 54).getD ((sy_i F 82).toInt).toNat 0 := by simp only [nz_c]
    have n83 : nzI ((sy_ai F 54).getD (sy_i F 82).toNatClampNeg 0) (((sy_ai F 54).getD ((sy_i F 82).toInt).toNat 0).toInt) := congrArg Int32.toInt q83
    exact j2sq_0_p2 hd F X1 X2 hB (by first | exact g0 | (simp only [nz_c]; exact g0)) (by first | exact g1 | (simp only [nz_c]; exact g1)) (by first | exact ⟨by omega, by omega⟩ | (simp only [nz_c]; exact ⟨by omega, by omega⟩)) (by first | exact g2 | (simp only [nz_c]; exact g2) | (rw [(nzE n83)]; exact g2)) (fun F1 g e82 => k2 g0 g1 g2 F1 (nz_in0 hB [] (fun j hj hn => g j hj (by simp only [List.mem_cons, List.not_mem_nil, or_false, not_or] at hn; exact trivial)) (List.forall_mem_nil _)) (fun j hj hn => g j hj (by simp only [List.mem_cons, List.not_mem_nil, or_false, not_or] at hn; exact trivial)) ((congrArg Int32.toInt (zz_i e82)).trans (rfl : (sy_i F 82).toInt = (sy_i F 82).toInt)) ((zz_i e82).trans (rfl : sy_i F 82 = sy_i F 82)))
  replace g2 : ((sy_ai F 54).getD ((sy_i F 82).toInt).toNat 0).toInt ≠ 0 := by omega
  have c18 := nz_bx hB (k := 18) (lo := 0) (hi := 7) rfl
  have q83 : (sy_ai F 54).getD (sy_i F 82).toNatClampNeg 0 = (sy_ai F 54).getD ((sy_i F 82).toInt).toNat 0 := by simp only [nz_c]
  have n83 : nzI ((sy_ai F 54).getD (sy_i F 82).toNatClampNeg 0) (((sy_ai F 54).getD ((sy_i F 82).toInt).toNat 0).toInt) := congrArg Int32.toInt q83
  exact j2sq_0_p3 hd F X1 X2 hB (by first | exact g0 | (simp only [nz_c]; exact g0)) (by first | exact g1 | (simp only [nz_c]; exact g1)) (by first | exact ⟨by omega, by omega⟩ | (simp only [nz_c]; exact ⟨by omega, by omega⟩)) (by first | exact g2 | (simp only [nz_c]; exact g2) | (rw [(nzE n83)]; exact g2)) (fun F1 g  => k3 g0 g1 g2 F1 (nz_in0 hB [] (fun j hj hn => g j hj (by simp only [List.mem_cons, List.not_mem_nil, or_false, not_or] at hn; exact trivial)) (List.forall_mem_nil _)) (fun j hj hn => g j hj (by simp only [List.mem_cons, List.not_mem_nil, or_false, not_or] at hn; exact trivial)) )
theorem j2sq_36_p0 {Ls : Nat} {xs : Nat → Int32} {d : Nat} {Q : Option Value → jm_h → Prop} (hd : 3 ≤ d) (F : Nat → sy_d) (X1 X2 : List jm_c) (hB : iv_in F iv_B0)
    (h1 : 0 ≤ (sy_i F 82).toInt ∧ (sy_i F 82).toInt < 7)
    (h2 : 0 ≤ (sy_i F 82).toInt ∧ (sy_i F 82).toInt < 7)
    (k : ∀ F1 : Nat → sy_d, (∀ j, j < 82 → j ≠ 51 ∧ j ≠ 58 → F1 j = F j) → F1 51 = .inl (.int ((sy_i F 51) + ((1 : Int32)))) → F1 58 = .inr (.inl (jm_upd (sy_ai F 58) (sy_i F 82).toNatClampNeg (((sy_ai F 58).getD (sy_i F 82).toNatClampNeg 0) + ((1 : Int32))))) → F1 82 = .inl (.int (((((((((((((sy_i F 22) ^^^ ((101 : Int32))) * ((1103515245 : Int32))) + ((12345 : Int32))) ^^^ (((((((sy_i F 22) ^^^ ((101 : Int32))) * ((1103515245 : Int32))) + ((12345 : Int32)))).toUInt32 >>> ((((15 : Int32))).toUInt32 &&& Int32.toUInt32 31)).toInt32)) ^^^ (((1000000 : Int32)) + (sy_i F 51))) * ((1103515245 : Int32))) + ((12345 : Int32))) ^^^ (((((((((((sy_i F 22) ^^^ ((101 : Int32))) * ((1103515245 : Int32))) + ((12345 : Int32))) ^^^ (((((((sy_i F 22) ^^^ ((101 : Int32))) * ((1103515245 : Int32))) + ((12345 : Int32)))).toUInt32 >>> ((((15 : Int32))).toUInt32 &&& Int32.toUInt32 31)).toInt32)) ^^^ (((1000000 : Int32)) + (sy_i F 51))) * ((1103515245 : Int32))) + ((12345 : Int32)))).toUInt32 >>> ((((15 : Int32))).toUInt32 &&& Int32.toUInt32 31)).toInt32))).toUInt32 >>> ((((1 : Int32))).toUInt32 &&& Int32.toUInt32 31)).toInt32) - ((((((((((((sy_i F 22) ^^^ ((101 : Int32))) * ((1103515245 : Int32))) + ((12345 : Int32))) ^^^ (((((((sy_i F 22) ^^^ ((101 : Int32))) * ((1103515245 : Int32))) + ((12345 : Int32)))).toUInt32 >>> ((((15 : Int32))).toUInt32 &&& Int32.toUInt32 31)).toInt32)) ^^^ (((1000000 : Int32)) + (sy_i F 51))) * ((1103515245 : Int32))) + ((12345 : Int32))) ^^^ (((((((((((sy_i F 22) ^^^ ((101 : Int32))) * ((1103515245 : Int32))) + ((12345 : Int32))) ^^^ (((((((sy_i F 22) ^^^ ((101 : Int32))) * ((1103515245 : Int32))) + ((12345 : Int32)))).toUInt32 >>> ((((15 : Int32))).toUInt32 &&& Int32.toUInt32 31)).toInt32)) ^^^ (((1000000 : Int32)) + (sy_i F 51))) * ((1103515245 : Int32))) + ((12345 : Int32)))).toUInt32 >>> ((((15 : Int32))).toUInt32 &&& Int32.toUInt32 31)).toInt32))).toUInt32 >>> ((((1 : Int32))).toUInt32 &&& Int32.toUInt32 31)).toInt32) / ((100 : Int32)) * ((100 : Int32)))) → F1 83 = .inl (.int (sy_i F 50)) → F1 84 = .inl (.int (sy_i F 18)) → hd_W Ls xs d jm_M90 Q (110, sy_dL F1 [some (.inl (.ref 8)), none, some (.inr (.inl 82)), none], sy_dS F1 [.inr (.inl 84), .inl (.int 0), .inl (.ref 46), .inr (.inl 83), .inl (.ref 20), .inl (.ref 38)], sy_dh F1 X1 X2 (iv_H 2), 0, 0)) :
    hd_W Ls xs d jm_M90 Q (36, sy_dL F [some (.inl (.ref 8)), some (.inr (.inl 82)), none, none], sy_dS F [], sy_dh F X1 X2 (iv_H 2), 0, 0) := by
  refine hd_run (s := 2) (nv := 83) (pc := 110) (L := [some (.inl (.ref 8)), none, some (.inr (.inl 82)), none]) (S := [.inr (.inl 84), .inl (.int 0), .inl (.ref 46), .inr (.inl 83), .inl (.ref 20), .inl (.ref 38)]) (uh := hd_ov (iv_id 0 iv_B0) [(51, .inl (.inr (.inl 99))), (58, .inr (.inr (.inl 98)))]) (ul := [.inl (.inr (.inl 95)), .inl (.inr (.inl 50)), .inl (.inr (.inl 18))]) (f := false) (sp := [110]) (d0 := 2) (O := []) (T := [(0, [.inl (.int 1000000), .inr (.inl 51)], []), (5, [.inr (.inl 22), .inl (.int 101)], []), (2, [.inr (.inl 84), .inl (.int 1103515245)], []), (0, [.inr (.inl 85), .inl (.int 12345)], []), (8, [.inr (.inl 86), .inl (.int 15)], []), (5, [.inr (.inl 86), .inr (.inl 87)], []), (5, [.inr (.inl 88), .inr (.inl 83)], []), (2, [.inr (.inl 89), .inl (.int 1103515245)], []), (0, [.inr (.inl 90), .inl (.int 12345)], []), (8, [.inr (.inl 91), .inl (.int 15)], []), (5, [.inr (.inl 91), .inr (.inl 92)], []), (8, [.inr (.inl 93), .inl (.int 1)], []), (10, [.inr (.inl 94), .inl (.int 100)], []), (30, [.inr (.inl 82)], [.inr (.inl 58)]), (0, [.inr (.inl 96), .inl (.int 1)], []), (40, [.inr (.inl 82), .inr (.inl 97)], [.inr (.inl 58)]), (0, [.inr (.inl 51), .inl (.int 1)], [])]) (P := [(1, .inl (.int 100), .inl (.int 0)), (6, .inr (.inl 82), .inl (.ref 7)), (6, .inr (.inl 82), .inl (.ref 7))]) jm_ok90 (by decide +kernel) (by decide +kernel) hd F X1 X2 (fun F' hF hs => ?_)
  have b82 := hd_b (F := F) (F' := F') (k := 82) (hF 82 (by decide))
  have b51 := hd_b (F := F) (F' := F') (k := 51) (hF 51 (by decide))
  have t99 : sy_dv F' (.inr (.inl 99)) = .int ((sy_i F 51) + ((1 : Int32))) := hd_o (hs 16 _ rfl) b51 rfl rfl
  have a58 := hd_ba (F := F) (F' := F') (k := 58) (hF 58 (by decide))
  have t96 : sy_dv F' (.inr (.inl 96)) = .int ((sy_ai F 58).getD (sy_i F 82).toNatClampNeg 0) := hd_rd (hs 13 _ rfl) b82 a58
  have t97 : sy_dv F' (.inr (.inl 97)) = .int (((sy_ai F 58).getD (sy_i F 82).toNatClampNeg 0) + ((1 : Int32))) := hd_o (hs 14 _ rfl) t96 rfl rfl
  have t98 : sy_da F' (.inr (.inl 98)) = .inl (jm_upd (sy_ai F 58) (sy_i F 82).toNatClampNeg (((sy_ai F 58).getD (sy_i F 82).toNatClampNeg 0) + ((1 : Int32)))) := hd_up (hs 15 _ rfl) b82 t97 a58
  have b22 := hd_b (F := F) (F' := F') (k := 22) (hF 22 (by decide))
  have t84 : sy_dv F' (.inr (.inl 84)) = .int ((sy_i F 22) ^^^ ((101 : Int32))) := hd_o (hs 1 _ rfl) b22 rfl rfl
  have t85 : sy_dv F' (.inr (.inl 85)) = .int (((sy_i F 22) ^^^ ((101 : Int32))) * ((1103515245 : Int32))) := hd_o (hs 2 _ rfl) t84 rfl rfl
  have t86 : sy_dv F' (.inr (.inl 86)) = .int ((((sy_i F 22) ^^^ ((101 : Int32))) * ((1103515245 : Int32))) + ((12345 : Int32))) := hd_o (hs 3 _ rfl) t85 rfl rfl
  have t87 : sy_dv F' (.inr (.inl 87)) = .int (((((((sy_i F 22) ^^^ ((101 : Int32))) * ((1103515245 : Int32))) + ((12345 : Int32)))).toUInt32 >>> ((((15 : Int32))).toUInt32 &&& Int32.toUInt32 31)).toInt32) := hd_o (hs 4 _ rfl) t86 rfl rfl
  have t88 : sy_dv F' (.inr (.inl 88)) = .int (((((sy_i F 22) ^^^ ((101 : Int32))) * ((1103515245 : Int32))) + ((12345 : Int32))) ^^^ (((((((sy_i F 22) ^^^ ((101 : Int32))) * ((1103515245 : Int32))) + ((12345 : Int32)))).toUInt32 >>> ((((15 : Int32))).toUInt32 &&& Int32.toUInt32 31)).toInt32)) := hd_o (hs 5 _ rfl) t86 t87 rfl
  have t83 : sy_dv F' (.inr (.inl 83)) = .int (((1000000 : Int32)) + (sy_i F 51)) := hd_o (hs 0 _ rfl) rfl b51 rfl
  have t89 : sy_dv F' (.inr (.inl 89)) = .int ((((((sy_i F 22) ^^^ ((101 : Int32))) * ((1103515245 : Int32))) + ((12345 : Int32))) ^^^ (((((((sy_i F 22) ^^^ ((101 : Int32))) * ((1103515245 : Int32))) + ((12345 : Int32)))).toUInt32 >>> ((((15 : Int32))).toUInt32 &&& Int32.toUInt32 31)).toInt32)) ^^^ (((1000000 : Int32)) + (sy_i F 51))) := hd_o (hs 6 _ rfl) t88 t83 rfl
  have t90 : sy_dv F' (.inr (.inl 90)) = .int (((((((sy_i F 22) ^^^ ((101 : Int32))) * ((1103515245 : Int32))) + ((12345 : Int32))) ^^^ (((((((sy_i F 22) ^^^ ((101 : Int32))) * ((1103515245 : Int32))) + ((12345 : Int32)))).toUInt32 >>> ((((15 : Int32))).toUInt32 &&& Int32.toUInt32 31)).toInt32)) ^^^ (((1000000 : Int32)) + (sy_i F 51))) * ((1103515245 : Int32))) := hd_o (hs 7 _ rfl) t89 rfl rfl
  have t91 : sy_dv F' (.inr (.inl 91)) = .int ((((((((sy_i F 22) ^^^ ((101 : Int32))) * ((1103515245 : Int32))) + ((12345 : Int32))) ^^^ (((((((sy_i F 22) ^^^ ((101 : Int32))) * ((1103515245 : Int32))) + ((12345 : Int32)))).toUInt32 >>> ((((15 : Int32))).toUInt32 &&& Int32.toUInt32 31)).toInt32)) ^^^ (((1000000 : Int32)) + (sy_i F 51))) * ((1103515245 : Int32))) + ((12345 : Int32))) := hd_o (hs 8 _ rfl) t90 rfl rfl
  have t92 : sy_dv F' (.inr (.inl 92)) = .int (((((((((((sy_i F 22) ^^^ ((101 : Int32))) * ((1103515245 : Int32))) + ((12345 : Int32))) ^^^ (((((((sy_i F 22) ^^^ ((101 : Int32))) * ((1103515245 : Int32))) + ((12345 : Int32)))).toUInt32 >>> ((((15 : Int32))).toUInt32 &&& Int32.toUInt32 31)).toInt32)) ^^^ (((1000000 : Int32)) + (sy_i F 51))) * ((1103515245 : Int32))) + ((12345 : Int32)))).toUInt32 >>> ((((15 : Int32))).toUInt32 &&& Int32.toUInt32 31)).toInt32) := hd_o (hs 9 _ rfl) t91 rfl rfl
  have t93 : sy_dv F' (.inr (.inl 93)) = .int (((((((((sy_i F 22) ^^^ ((101 : Int32))) * ((1103515245 : Int32))) + ((12345 : Int32))) ^^^ (((((((sy_i F 22) ^^^ ((101 : Int32))) * ((1103515245 : Int32))) + ((12345 : Int32)))).toUInt32 >>> ((((15 : Int32))).toUInt32 &&& Int32.toUInt32 31)).toInt32)) ^^^ (((1000000 : Int32)) + (sy_i F 51))) * ((1103515245 : Int32))) + ((12345 : Int32))) ^^^ (((((((((((sy_i F 22) ^^^ ((101 : Int32))) * ((1103515245 : Int32))) + ((12345 : Int32))) ^^^ (((((((sy_i F 22) ^^^ ((101 : Int32))) * ((1103515245 : Int32))) + ((12345 : Int32)))).toUInt32 >>> ((((15 : Int32))).toUInt32 &&& Int32.toUInt32 31)).toInt32)) ^^^ (((1000000 : Int32)) + (sy_i F 51))) * ((1103515245 : Int32))) + ((12345 : Int32)))).toUInt32 >>> ((((15 : Int32))).toUInt32 &&& Int32.toUInt32 31)).toInt32)) := hd_o (hs 10 _ rfl) t91 t92 rfl
  have t94 : sy_dv F' (.inr (.inl 94)) = .int ((((((((((((sy_i F 22) ^^^ ((101 : Int32))) * ((1103515245 : Int32))) + ((12345 : Int32))) ^^^ (((((((sy_i F 22) ^^^ ((101 : Int32))) * ((1103515245 : Int32))) + ((12345 : Int32)))).toUInt32 >>> ((((15 : Int32))).toUInt32 &&& Int32.toUInt32 31)).toInt32)) ^^^ (((1000000 : Int32)) + (sy_i F 51))) * ((1103515245 : Int32))) + ((12345 : Int32))) ^^^ (((((((((((sy_i F 22) ^^^ ((101 : Int32))) * ((1103515245 : Int32))) + ((12345 : Int32))) ^^^ (((((((sy_i F 22) ^^^ ((101 : Int32))) * ((1103515245 : Int32))) + ((12345 : Int32)))).toUInt32 >>> ((((15 : Int32))).toUInt32 &&& Int32.toUInt32 31)).toInt32)) ^^^ (((1000000 : Int32)) + (sy_i F 51))) * ((1103515245 : Int32))) + ((12345 : Int32)))).toUInt32 >>> ((((15 : Int32))).toUInt32 &&& Int32.toUInt32 31)).toInt32))).toUInt32 >>> ((((1 : Int32))).toUInt32 &&& Int32.toUInt32 31)).toInt32) := hd_o (hs 11 _ rfl) t93 rfl rfl
  have t95 : sy_dv F' (.inr (.inl 95)) = .int (((((((((((((sy_i F 22) ^^^ ((101 : Int32))) * ((1103515245 : Int32))) + ((12345 : Int32))) ^^^ (((((((sy_i F 22) ^^^ ((101 : Int32))) * ((1103515245 : Int32))) + ((12345 : Int32)))).toUInt32 >>> ((((15 : Int32))).toUInt32 &&& Int32.toUInt32 31)).toInt32)) ^^^ (((1000000 : Int32)) + (sy_i F 51))) * ((1103515245 : Int32))) + ((12345 : Int32))) ^^^ (((((((((((sy_i F 22) ^^^ ((101 : Int32))) * ((1103515245 : Int32))) + ((12345 : Int32))) ^^^ (((((((sy_i F 22) ^^^ ((101 : Int32))) * ((1103515245 : Int32))) + ((12345 : Int32)))).toUInt32 >>> ((((15 : Int32))).toUInt32 &&& Int32.toUInt32 31)).toInt32)) ^^^ (((1000000 : Int32)) + (sy_i F 51))) * ((1103515245 : Int32))) + ((12345 : Int32)))).toUInt32 >>> ((((15 : Int32))).toUInt32 &&& Int32.toUInt32 31)).toInt32))).toUInt32 >>> ((((1 : Int32))).toUInt32 &&& Int32.toUInt32 31)).toInt32) - ((((((((((((sy_i F 22) ^^^ ((101 : Int32))) * ((1103515245 : Int32))) + ((12345 : Int32))) ^^^ (((((((sy_i F 22) ^^^ ((101 : Int32))) * ((1103515245 : Int32))) + ((12345 : Int32)))).toUInt32 >>> ((((15 : Int32))).toUInt32 &&& Int32.toUInt32 31)).toInt32)) ^^^ (((1000000 : Int32)) + (sy_i F 51))) * ((1103515245 : Int32))) + ((12345 : Int32))) ^^^ (((((((((((sy_i F 22) ^^^ ((101 : Int32))) * ((1103515245 : Int32))) + ((12345 : Int32))) ^^^ (((((((sy_i F 22) ^^^ ((101 : Int32))) * ((1103515245 : Int32))) + ((12345 : Int32)))).toUInt32 >>> ((((15 : Int32))).toUInt32 &&& Int32.toUInt32 31)).toInt32)) ^^^ (((1000000 : Int32)) + (sy_i F 51))) * ((1103515245 : Int32))) + ((12345 : Int32)))).toUInt32 >>> ((((15 : Int32))).toUInt32 &&& Int32.toUInt32 31)).toInt32))).toUInt32 >>> ((((1 : Int32))).toUInt32 &&& Int32.toUInt32 31)).toInt32) / ((100 : Int32)) * ((100 : Int32))) := hd_o (hs 12 _ rfl) t94 rfl rfl
  have b50 := hd_b (F := F) (F' := F') (k := 50) (hF 50 (by decide))
  have b18 := hd_b (F := F) (F' := F') (k := 18) (hF 18 (by decide))
  have hB' : iv_in F' iv_B0 := iv_in_eq hB (fun j hj => hF j (Nat.lt_of_lt_of_le hj (by decide +kernel)))
  refine ⟨List.forall_mem_cons.mpr ⟨(hd_p1 (X := 100) (Y := 0) rfl rfl (by decide)), List.forall_mem_cons.mpr ⟨hd_pb b82 (by first | exact h1 | exact h1), List.forall_mem_cons.mpr ⟨hd_pb b82 (by first | exact h2 | exact h2), fun _ h => absurd h List.not_mem_nil⟩⟩⟩, ?_⟩
  refine k _ ?_ ?_ ?_ ?_ ?_ ?_
  · exact fun j hj hn => (hd_keep hB' (Nat.lt_of_lt_of_le hj (by decide +kernel)) (by simp; omega)).trans (hF j (Nat.lt_of_lt_of_le hj (by decide)))
  · exact hd_gi (x := .inr (.inl 99)) (by decide +kernel) t99
  · exact hd_ga (a := .inr (.inl 98)) (by decide +kernel) t98
  · exact hd_gi (x := .inr (.inl 95)) (by decide +kernel) t95
  · exact hd_gi (x := .inr (.inl 50)) (by decide +kernel) b50
  · exact hd_gi (x := .inr (.inl 18)) (by decide +kernel) b18
theorem j2sq_36 {Ls : Nat} {xs : Nat → Int32} {d : Nat} {Q : Option Value → jm_h → Prop} (hd : 3 ≤ d) (F : Nat → sy_d) (X1 X2 : List jm_c) (hB : iv_in F iv_B0)
    (a82 : 0 ≤ (sy_i F 82).toInt ∧ (sy_i F 82).toInt ≤ 6)
    (k0 : ∀ F1 : Nat → sy_d, iv_in F1 iv_B0 → (∀ j, j < 82 → j ∉ ([51, 58] : List Nat) → F1 j = F j) → (sy_i F1 51).toInt = ((sy_i F 51) + ((1 : Int32))).toInt → sy_i F1 51 = (sy_i F 51) + ((1 : Int32)) → sy_ai F1 58 = jm_upd (sy_ai F 58) ((sy_i F 82).toInt).toNat (((sy_ai F 58).getD ((sy_i F 82).toInt).toNat 0) + ((1 : Int32))) → (sy_i F1 82).toInt = (((((((((((((sy_i F 22) ^^^ ((101 : Int32))) * ((1103515245 : Int32))) + ((12345 : Int32))) ^^^ (((((((sy_i F 22) ^^^ ((101 : Int32))) * ((1103515245 : Int32))) + ((12345 : Int32)))).toUInt32 >>> ((((15 : Int32))).toUInt32 &&& Int32.toUInt32 31)).toInt32)) ^^^ (((1000000 : Int32)) + (sy_i F 51))) * ((1103515245 : Int32))) + ((12345 : Int32))) ^^^ (((((((((((sy_i F 22) ^^^ ((101 : Int32))) * ((1103515245 : Int32))) + ((12345 : Int32))) ^^^ (((((((sy_i F 22) ^^^ ((101 : Int32))) * ((1103515245 : Int32))) + ((12345 : Int32)))).toUInt32 >>> ((((15 : Int32))).toUInt32 &&& Int32.toUInt32 31)).toInt32)) ^^^ (((1000000 : Int32)) + (sy_i F 51))) * ((1103515245 : Int32))) + ((12345 : Int32)))).toUInt32 >>> ((((15 : Int32))).toUInt32 &&& Int32.toUInt32 31)).toInt32))).toUInt32 >>> ((((1 : Int32))).toUInt32 &&& Int32.toUInt32 31)).toInt32) - ((((((((((((sy_i F 22) ^^^ ((101 : Int32))) * ((1103515245 : Int32))) + ((12345 : Int32))) ^^^ (((((((sy_i F 22) ^^^ ((101 : Int32))) * ((1103515245 : Int32))) + ((12345 : Int32)))).toUInt32 >>> ((((15 : Int32))).toUInt32 &&& Int32.toUInt32 31)).toInt32)) ^^^ (((1000000 : Int32)) + (sy_i F 51))) * ((1103515245 : Int32))) + ((12345 : Int32))) ^^^ (((((((((((sy_i F 22) ^^^ ((101 : Int32))) * ((1103515245 : Int32))) + ((12345 : Int32))) ^^^ (((((((sy_i F 22) ^^^ ((101 : Int32))) * ((1103515245 : Int32))) + ((12345 : Int32)))).toUInt32 >>> ((((15 : Int32))).toUInt32 &&& Int32.toUInt32 31)).toInt32)) ^^^ (((1000000 : Int32)) + (sy_i F 51))) * ((1103515245 : Int32))) + ((12345 : Int32)))).toUInt32 >>> ((((15 : Int32))).toUInt32 &&& Int32.toUInt32 31)).toInt32))).toUInt32 >>> ((((1 : Int32))).toUInt32 &&& Int32.toUInt32 31)).toInt32) / ((100 : Int32)) * ((100 : Int32))).toInt → sy_i F1 82 = ((((((((((((sy_i F 22) ^^^ ((101 : Int32))) * ((1103515245 : Int32))) + ((12345 : Int32))) ^^^ (((((((sy_i F 22) ^^^ ((101 : Int32))) * ((1103515245 : Int32))) + ((12345 : Int32)))).toUInt32 >>> ((((15 : Int32))).toUInt32 &&& Int32.toUInt32 31)).toInt32)) ^^^ (((1000000 : Int32)) + (sy_i F 51))) * ((1103515245 : Int32))) + ((12345 : Int32))) ^^^ (((((((((((sy_i F 22) ^^^ ((101 : Int32))) * ((1103515245 : Int32))) + ((12345 : Int32))) ^^^ (((((((sy_i F 22) ^^^ ((101 : Int32))) * ((1103515245 : Int32))) + ((12345 : Int32)))).toUInt32 >>> ((((15 : Int32))).toUInt32 &&& Int32.toUInt32 31)).toInt32)) ^^^ (((1000000 : Int32)) + (sy_i F 51))) * ((1103515245 : Int32))) + ((12345 : Int32)))).toUInt32 >>> ((((15 : Int32))).toUInt32 &&& Int32.toUInt32 31)).toInt32))).toUInt32 >>> ((((1 : Int32))).toUInt32 &&& Int32.toUInt32 31)).toInt32) - ((((((((((((sy_i F 22) ^^^ ((101 : Int32))) * ((1103515245 : Int32))) + ((12345 : Int32))) ^^^ (((((((sy_i F 22) ^^^ ((101 : Int32))) * ((1103515245 : Int32))) + ((12345 : Int32)))).toUInt32 >>> ((((15 : Int32))).toUInt32 &&& Int32.toUInt32 31)).toInt32)) ^^^ (((1000000 : Int32)) + (sy_i F 51))) * ((1103515245 : Int32))) + ((12345 : Int32))) ^^^ (((((((((((sy_i F 22) ^^^ ((101 : Int32))) * ((1103515245 : Int32))) + ((12345 : Int32))) ^^^ (((((((sy_i F 22) ^^^ ((101 : Int32))) * ((1103515245 : Int32))) + ((12345 : Int32)))).toUInt32 >>> ((((15 : Int32))).toUInt32 &&& Int32.toUInt32 31)).toInt32)) ^^^ (((1000000 : Int32)) + (sy_i F 51))) * ((1103515245 : Int32))) + ((12345 : Int32)))).toUInt32 >>> ((((15 : Int32))).toUInt32 &&& Int32.toUInt32 31)).toInt32))).toUInt32 >>> ((((1 : Int32))).toUInt32 &&& Int32.toUInt32 31)).toInt32) / ((100 : Int32)) * ((100 : Int32)) → (sy_i F1 83).toInt = (sy_i F 50).toInt → sy_i F1 83 = sy_i F 50 → (sy_i F1 84).toInt = (sy_i F 18).toInt → sy_i F1 84 = sy_i F 18 → hd_W Ls xs d jm_M90 Q (110, sy_dL F1 [some (.inl (.ref 8)), none, some (.inr (.inl 82)), none], sy_dS F1 [.inr (.inl 84), .inl (.int 0), .inl (.ref 46), .inr (.inl 83), .inl (.ref 20), .inl (.ref 38)], sy_dh F1 X1 X2 (iv_H 2), 0, 0)) :
    hd_W Ls xs d jm_M90 Q (36, sy_dL F [some (.inl (.ref 8)), some (.inr (.inl 82)), none, none], sy_dS F [], sy_dh F X1 X2 (iv_H 2), 0, 0) := by
  have n99 : nzI ((sy_i F 51) + ((1 : Int32))) (((sy_i F 51) + ((1 : Int32))).toInt) := congrArg Int32.toInt (rfl : (sy_i F 51) + ((1 : Int32)) = (sy_i F 51) + ((1 : Int32)))
  have w98 : jm_upd (sy_ai F 58) (sy_i F 82).toNatClampNeg (((sy_ai F 58).getD (sy_i F 82).toNatClampNeg 0) + ((1 : Int32))) = jm_upd (sy_ai F 58) ((sy_i F 82).toInt).toNat (((sy_ai F 58).getD ((sy_i F 82).toInt).toNat 0) + ((1 : Int32))) := by simp only [nz_c, (by decide : ((1 : Int32)).toInt = 1)]
  have n95 : nzI (((((((((((((sy_i F 22) ^^^ ((101 : Int32))) * ((1103515245 : Int32))) + ((12345 : Int32))) ^^^ (((((((sy_i F 22) ^^^ ((101 : Int32))) * ((1103515245 : Int32))) + ((12345 : Int32)))).toUInt32 >>> ((((15 : Int32))).toUInt32 &&& Int32.toUInt32 31)).toInt32)) ^^^ (((1000000 : Int32)) + (sy_i F 51))) * ((1103515245 : Int32))) + ((12345 : Int32))) ^^^ (((((((((((sy_i F 22) ^^^ ((101 : Int32))) * ((1103515245 : Int32))) + ((12345 : Int32))) ^^^ (((((((sy_i F 22) ^^^ ((101 : Int32))) * ((1103515245 : Int32))) + ((12345 : Int32)))).toUInt32 >>> ((((15 : Int32))).toUInt32 &&& Int32.toUInt32 31)).toInt32)) ^^^ (((1000000 : Int32)) + (sy_i F 51))) * ((1103515245 : Int32))) + ((12345 : Int32)))).toUInt32 >>> ((((15 : Int32))).toUInt32 &&& Int32.toUInt32 31)).toInt32))).toUInt32 >>> ((((1 : Int32))).toUInt32 &&& Int32.toUInt32 31)).toInt32) - ((((((((((((sy_i F 22) ^^^ ((101 : Int32))) * ((1103515245 : Int32))) + ((12345 : Int32))) ^^^ (((((((sy_i F 22) ^^^ ((101 : Int32))) * ((1103515245 : Int32))) + ((12345 : Int32)))).toUInt32 >>> ((((15 : Int32))).toUInt32 &&& Int32.toUInt32 31)).toInt32)) ^^^ (((1000000 : Int32)) + (sy_i F 51))) * ((1103515245 : Int32))) + ((12345 : Int32))) ^^^ (((((((((((sy_i F 22) ^^^ ((101 : Int32))) * ((1103515245 : Int32))) + ((12345 : Int32))) ^^^ (((((((sy_i F 22) ^^^ ((101 : Int32))) * ((1103515245 : Int32))) + ((12345 : Int32)))).toUInt32 >>> ((((15 : Int32))).toUInt32 &&& Int32.toUInt32 31)).toInt32)) ^^^ (((1000000 : Int32)) + (sy_i F 51))) * ((1103515245 : Int32))) + ((12345 : Int32)))).toUInt32 >>> ((((15 : Int32))).toUInt32 &&& Int32.toUInt32 31)).toInt32))).toUInt32 >>> ((((1 : Int32))).toUInt32 &&& Int32.toUInt32 31)).toInt32) / ((100 : Int32)) * ((100 : Int32))) ((((((((((((((sy_i F 22) ^^^ ((101 : Int32))) * ((1103515245 : Int32))) + ((12345 : Int32))) ^^^ (((((((sy_i F 22) ^^^ ((101 : Int32))) * ((1103515245 : Int32))) + ((12345 : Int32)))).toUInt32 >>> ((((15 : Int32))).toUInt32 &&& Int32.toUInt32 31)).toInt32)) ^^^ (((1000000 : Int32)) + (sy_i F 51))) * ((1103515245 : Int32))) + ((12345 : Int32))) ^^^ (((((((((((sy_i F 22) ^^^ ((101 : Int32))) * ((1103515245 : Int32))) + ((12345 : Int32))) ^^^ (((((((sy_i F 22) ^^^ ((101 : Int32))) * ((1103515245 : Int32))) + ((12345 : Int32)))).toUInt32 >>> ((((15 : Int32))).toUInt32 &&& Int32.toUInt32 31)).toInt32)) ^^^ (((1000000 : Int32)) + (sy_i F 51))) * ((1103515245 : Int32))) + ((12345 : Int32)))).toUInt32 >>> ((((15 : Int32))).toUInt32 &&& Int32.toUInt32 31)).toInt32))).toUInt32 >>> ((((1 : Int32))).toUInt32 &&& Int32.toUInt32 31)).toInt32) - ((((((((((((sy_i F 22) ^^^ ((101 : Int32))) * ((1103515245 : Int32))) + ((12345 : Int32))) ^^^ (((((((sy_i F 22) ^^^ ((101 : Int32))) * ((1103515245 : Int32))) + ((12345 : Int32)))).toUInt32 >>> ((((15 : Int32))).toUInt32 &&& Int32.toUInt32 31)).toInt32)) ^^^ (((1000000 : Int32)) + (sy_i F 51))) * ((1103515245 : Int32))) + ((12345 : Int32))) ^^^ (((((((((((sy_i F 22) ^^^ ((101 : Int32))) * ((1103515245 : Int32))) + ((12345 : Int32))) ^^^ (((((((sy_i F 22) ^^^ ((101 : Int32))) * ((1103515245 : Int32))) + ((12345 : Int32)))).toUInt32 >>> ((((15 : Int32))).toUInt32 &&& Int32.toUInt32 31)).toInt32)) ^^^ (((1000000 : Int32)) + (sy_i F 51))) * ((1103515245 : Int32))) + ((12345 : Int32)))).toUInt32 >>> ((((15 : Int32))).toUInt32 &&& Int32.toUInt32 31)).toInt32))).toUInt32 >>> ((((1 : Int32))).toUInt32 &&& Int32.toUInt32 31)).toInt32) / ((100 : Int32)) * ((100 : Int32))).toInt) := congrArg Int32.toInt (rfl : ((((((((((((sy_i F 22) ^^^ ((101 : Int32))) * ((1103515245 : Int32))) + ((12345 : Int32))) ^^^ (((((((sy_i F 22) ^^^ ((101 : Int32))) * ((1103515245 : Int32))) + ((12345 : Int32)))).toUInt32 >>> ((((15 : Int32))).toUInt32 &&& Int32.toUInt32 31)).toInt32)) ^^^ (((1000000 : Int32)) + (sy_i F 51))) * ((1103515245 : Int32))) + ((12345 : Int32))) ^^^ (((((((((((sy_i F 22) ^^^ ((101 : Int32))) * ((1103515245 : Int32))) + ((12345 : Int32))) ^^^ (((((((sy_i F 22) ^^^ ((101 : Int32))) * ((1103515245 : Int32))) + ((12345 : Int32)))).toUInt32 >>> ((((15 : Int32))).toUInt32 &&& Int32.toUInt32 31)).toInt32)) ^^^ (((1000000 : Int32)) + (sy_i F 51))) * ((1103515245 : Int32))) + ((12345 : Int32)))).toUInt32 >>> ((((15 : Int32))).toUInt32 &&& Int32.toUInt32 31)).toInt32))).toUInt32 >>> ((((1 : Int32))).toUInt32 &&& Int32.toUInt32 31)).toInt32) - ((((((((((((sy_i F 22) ^^^ ((101 : Int32))) * ((1103515245 : Int32))) + ((12345 : Int32))) ^^^ (((((((sy_i F 22) ^^^ ((101 : Int32))) * ((1103515245 : Int32))) + ((12345 : Int32)))).toUInt32 >>> ((((15 : Int32))).toUInt32 &&& Int32.toUInt32 31)).toInt32)) ^^^ (((1000000 : Int32)) + (sy_i F 51))) * ((1103515245 : Int32))) + ((12345 : Int32))) ^^^ (((((((((((sy_i F 22) ^^^ ((101 : Int32))) * ((1103515245 : Int32))) + ((12345 : Int32))) ^^^ (((((((sy_i F 22) ^^^ ((101 : Int32))) * ((1103515245 : Int32))) + ((12345 : Int32)))).toUInt32 >>> ((((15 : Int32))).toUInt32 &&& Int32.toUInt32 31)).toInt32)) ^^^ (((1000000 : Int32)) + (sy_i F 51))) * ((1103515245 : Int32))) + ((12345 : Int32)))).toUInt32 >>> ((((15 : Int32))).toUInt32 &&& Int32.toUInt32 31)).toInt32))).toUInt32 >>> ((((1 : Int32))).toUInt32 &&& Int32.toUInt32 31)).toInt32) / ((100 : Int32)) * ((100 : Int32)) = ((((((((((((sy_i F 22) ^^^ ((101 : Int32))) * ((1103515245 : Int32))) + ((12345 : Int32))) ^^^ (((((((sy_i F 22) ^^^ ((101 : Int32))) * ((1103515245 : Int32))) + ((12345 : Int32)))).toUInt32 >>> ((((15 : Int32))).toUInt32 &&& Int32.toUInt32 31)).toInt32)) ^^^ (((1000000 : Int32)) + (sy_i F 51))) * ((1103515245 : Int32))) + ((12345 : Int32))) ^^^ (((((((((((sy_i F 22) ^^^ ((101 : Int32))) * ((1103515245 : Int32))) + ((12345 : Int32))) ^^^ (((((((sy_i F 22) ^^^ ((101 : Int32))) * ((1103515245 : Int32))) + ((12345 : Int32)))).toUInt32 >>> ((((15 : Int32))).toUInt32 &&& Int32.toUInt32 31)).toInt32)) ^^^ (((1000000 : Int32)) + (sy_i F 51))) * ((1103515245 : Int32))) + ((12345 : Int32)))).toUInt32 >>> ((((15 : Int32))).toUInt32 &&& Int32.toUInt32 31)).toInt32))).toUInt32 >>> ((((1 : Int32))).toUInt32 &&& Int32.toUInt32 31)).toInt32) - ((((((((((((sy_i F 22) ^^^ ((101 : Int32))) * ((1103515245 : Int32))) + ((12345 : Int32))) ^^^ (((((((sy_i F 22) ^^^ ((101 : Int32))) * ((1103515245 : Int32))) + ((12345 : Int32)))).toUInt32 >>> ((((15 : Int32))).toUInt32 &&& Int32.toUInt32 31)).toInt32)) ^^^ (((1000000 : Int32)) + (sy_i F 51))) * ((1103515245 : Int32))) + ((12345 : Int32))) ^^^ (((((((((((sy_i F 22) ^^^ ((101 : Int32))) * ((1103515245 : Int32))) + ((12345 : Int32))) ^^^ (((((((sy_i F 22) ^^^ ((101 : Int32))) * ((1103515245 : Int32))) + ((12345 : Int32)))).toUInt32 >>> ((((15 : Int32))).toUInt32 &&& Int32.toUInt32 31)).toInt32)) ^^^ (((1000000 : Int32)) + (sy_i F 51))) * ((1103515245 : Int32))) + ((12345 : Int32)))).toUInt32 >>> ((((15 : Int32))).toUInt32 &&& Int32.toUInt32 31)).toInt32))).toUInt32 >>> ((((1 : Int32))).toUInt32 &&& Int32.toUInt32 31)).toInt32) / ((100 : Int32)) * ((100 : Int32)))
  have c18 := nz_bx hB (k := 18) (lo := 0) (hi := 7) rfl
  exact j2sq_36_p0 hd F X1 X2 hB (by first | exact ⟨by omega, by omega⟩ | (simp only [nz_c]; exact ⟨by omega, by omega⟩)) (by first | exact ⟨by omega, by omega⟩ | (simp only [nz_c]; exact ⟨by omega, by omega⟩)) (fun F1 g e51 e58 e82 e83 e84 => k0 F1 (nz_in0 hB [51, 58] (fun j hj hn => g j hj (by simp only [List.mem_cons, List.not_mem_nil, or_false, not_or] at hn; omega)) (List.forall_mem_cons.mpr ⟨fun t ht => (Option.some.inj ht) ▸ (nz_hz e51), List.forall_mem_cons.mpr ⟨fun t ht => (Option.some.inj ht) ▸ (nz_hz2 e58), List.forall_mem_nil _⟩⟩)) (fun j hj hn => g j hj (by simp only [List.mem_cons, List.not_mem_nil, or_false, not_or] at hn; omega)) ((congrArg Int32.toInt (zz_i e51)).trans (nzE n99)) ((zz_i e51).trans (rfl : (sy_i F 51) + ((1 : Int32)) = (sy_i F 51) + ((1 : Int32)))) ((zz_ai e58).trans w98) ((congrArg Int32.toInt (zz_i e82)).trans (nzE n95)) ((zz_i e82).trans (rfl : ((((((((((((sy_i F 22) ^^^ ((101 : Int32))) * ((1103515245 : Int32))) + ((12345 : Int32))) ^^^ (((((((sy_i F 22) ^^^ ((101 : Int32))) * ((1103515245 : Int32))) + ((12345 : Int32)))).toUInt32 >>> ((((15 : Int32))).toUInt32 &&& Int32.toUInt32 31)).toInt32)) ^^^ (((1000000 : Int32)) + (sy_i F 51))) * ((1103515245 : Int32))) + ((12345 : Int32))) ^^^ (((((((((((sy_i F 22) ^^^ ((101 : Int32))) * ((1103515245 : Int32))) + ((12345 : Int32))) ^^^ (((((((sy_i F 22) ^^^ ((101 : Int32))) * ((1103515245 : Int32))) + ((12345 : Int32)))).toUInt32 >>> ((((15 : Int32))).toUInt32 &&& Int32.toUInt32 31)).toInt32)) ^^^ (((1000000 : Int32)) + (sy_i F 51))) * ((1103515245 : Int32))) + ((12345 : Int32)))).toUInt32 >>> ((((15 : Int32))).toUInt32 &&& Int32.toUInt32 31)).toInt32))).toUInt32 >>> ((((1 : Int32))).toUInt32 &&& Int32.toUInt32 31)).toInt32) - ((((((((((((sy_i F 22) ^^^ ((101 : Int32))) * ((1103515245 : Int32))) + ((12345 : Int32))) ^^^ (((((((sy_i F 22) ^^^ ((101 : Int32))) * ((1103515245 : Int32))) + ((12345 : Int32)))).toUInt32 >>> ((((15 : Int32))).toUInt32 &&& Int32.toUInt32 31)).toInt32)) ^^^ (((1000000 : Int32)) + (sy_i F 51))) * ((1103515245 : Int32))) + ((12345 : Int32))) ^^^ (((((((((((sy_i F 22) ^^^ ((101 : Int32))) * ((1103515245 : Int32))) + ((12345 : Int32))) ^^^ (((((((sy_i F 22) ^^^ ((101 : Int32))) * ((1103515245 : Int32))) + ((12345 : Int32)))).toUInt32 >>> ((((15 : Int32))).toUInt32 &&& Int32.toUInt32 31)).toInt32)) ^^^ (((1000000 : Int32)) + (sy_i F 51))) * ((1103515245 : Int32))) + ((12345 : Int32)))).toUInt32 >>> ((((15 : Int32))).toUInt32 &&& Int32.toUInt32 31)).toInt32))).toUInt32 >>> ((((1 : Int32))).toUInt32 &&& Int32.toUInt32 31)).toInt32) / ((100 : Int32)) * ((100 : Int32)) = ((((((((((((sy_i F 22) ^^^ ((101 : Int32))) * ((1103515245 : Int32))) + ((12345 : Int32))) ^^^ (((((((sy_i F 22) ^^^ ((101 : Int32))) * ((1103515245 : Int32))) + ((12345 : Int32)))).toUInt32 >>> ((((15 : Int32))).toUInt32 &&& Int32.toUInt32 31)).toInt32)) ^^^ (((1000000 : Int32)) + (sy_i F 51))) * ((1103515245 : Int32))) + ((12345 : Int32))) ^^^ (((((((((((sy_i F 22) ^^^ ((101 : Int32))) * ((1103515245 : Int32))) + ((12345 : Int32))) ^^^ (((((((sy_i F 22) ^^^ ((101 : Int32))) * ((1103515245 : Int32))) + ((12345 : Int32)))).toUInt32 >>> ((((15 : Int32))).toUInt32 &&& Int32.toUInt32 31)).toInt32)) ^^^ (((1000000 : Int32)) + (sy_i F 51))) * ((1103515245 : Int32))) + ((12345 : Int32)))).toUInt32 >>> ((((15 : Int32))).toUInt32 &&& Int32.toUInt32 31)).toInt32))).toUInt32 >>> ((((1 : Int32))).toUInt32 &&& Int32.toUInt32 31)).toInt32) - ((((((((((((sy_i F 22) ^^^ ((101 : Int32))) * ((1103515245 : Int32))) + ((12345 : Int32))) ^^^ (((((((sy_i F 22) ^^^ ((101 : Int32))) * ((1103515245 : Int32))) + ((12345 : Int32)))).toUInt32 >>> ((((15 : Int32))).toUInt32 &&& Int32.toUInt32 31)).toInt32)) ^^^ (((1000000 : Int32)) + (sy_i F 51))) * ((1103515245 : Int32))) + ((12345 : Int32))) ^^^ (((((((((((sy_i F 22) ^^^ ((101 : Int32))) * ((1103515245 : Int32))) + ((12345 : Int32))) ^^^ (((((((sy_i F 22) ^^^ ((101 : Int32))) * ((1103515245 : Int32))) + ((12345 : Int32)))).toUInt32 >>> ((((15 : Int32))).toUInt32 &&& Int32.toUInt32 31)).toInt32)) ^^^ (((1000000 : Int32)) + (sy_i F 51))) * ((1103515245 : Int32))) + ((12345 : Int32)))).toUInt32 >>> ((((15 : Int32))).toUInt32 &&& Int32.toUInt32 31)).toInt32))).toUInt32 >>> ((((1 : Int32))).toUInt32 &&& Int32.toUInt32 31)).toInt32) / ((100 : Int32)) * ((100 : Int32)))) ((congrArg Int32.toInt (zz_i e83)).trans (rfl : (sy_i F 50).toInt = (sy_i F 50).toInt)) ((zz_i e83).trans (rfl : sy_i F 50 = sy_i F 50)) ((congrArg Int32.toInt (zz_i e84)).trans (rfl : (sy_i F 18).toInt = (sy_i F 18).toInt)) ((zz_i e84).trans (rfl : sy_i F 18 = sy_i F 18)))
theorem j2sq_116_p0 {Ls : Nat} {xs : Nat → Int32} {d : Nat} {Q : Option Value → jm_h → Prop} (hd : 1 ≤ d) (F : Nat → sy_d) (X1 X2 : List jm_c) (hB : iv_in F iv_B0)
    (k : ∀ F1 : Nat → sy_d, (∀ j, j < 82 → j ≠ 45 → F1 j = F j) → F1 45 = .inr (.inl (jm_upd (sy_ai F 45) ((5 : Int32)).toNatClampNeg (sy_i F 51))) → F1 82 = .inl (.int (sy_i F 82)) → hd_W Ls xs d jm_M90 Q (142, sy_dL F1 [some (.inl (.ref 8)), none, some (.inr (.inl 82)), none], sy_dS F1 [.inl (.int 5), .inl (.ref 20), .inl (.ref 38), .inr (.inl 82)], sy_dh F1 X1 X2 (iv_H 2), 0, 0)) :
    hd_W Ls xs d jm_M90 Q (116, sy_dL F [some (.inl (.ref 8)), none, some (.inr (.inl 82)), none], sy_dS F [], sy_dh F X1 X2 (iv_H 2), 0, 0) := by
  refine hd_run (s := 2) (nv := 83) (pc := 142) (L := [some (.inl (.ref 8)), none, some (.inr (.inl 82)), none]) (S := [.inl (.int 5), .inl (.ref 20), .inl (.ref 38), .inr (.inl 82)]) (uh := hd_ov (iv_id 0 iv_B0) [(45, .inr (.inr (.inl 83)))]) (ul := [.inl (.inr (.inl 82))]) (f := false) (sp := [142]) (d0 := 0) (O := []) (T := [(40, [.inl (.int 5), .inr (.inl 51)], [.inr (.inl 45)])]) (P := []) jm_ok90 (by decide +kernel) (by decide +kernel) hd F X1 X2 (fun F' hF hs => ?_)
  have b51 := hd_b (F := F) (F' := F') (k := 51) (hF 51 (by decide))
  have a45 := hd_ba (F := F) (F' := F') (k := 45) (hF 45 (by decide))
  have t83 : sy_da F' (.inr (.inl 83)) = .inl (jm_upd (sy_ai F 45) ((5 : Int32)).toNatClampNeg (sy_i F 51)) := hd_up (hs 0 _ rfl) rfl b51 a45
  have b82 := hd_b (F := F) (F' := F') (k := 82) (hF 82 (by decide))
  have hB' : iv_in F' iv_B0 := iv_in_eq hB (fun j hj => hF j (Nat.lt_of_lt_of_le hj (by decide +kernel)))
  refine ⟨fun _ h => absurd h List.not_mem_nil, ?_⟩
  refine k _ ?_ ?_ ?_
  · exact fun j hj hn => (hd_keep hB' (Nat.lt_of_lt_of_le hj (by decide +kernel)) (by simp; omega)).trans (hF j (Nat.lt_of_lt_of_le hj (by decide)))
  · exact hd_ga (a := .inr (.inl 83)) (by decide +kernel) t83
  · exact hd_gi (x := .inr (.inl 82)) (by decide +kernel) b82
theorem j2sq_116 {Ls : Nat} {xs : Nat → Int32} {d : Nat} {Q : Option Value → jm_h → Prop} (hd : 1 ≤ d) (F : Nat → sy_d) (X1 X2 : List jm_c) (hB : iv_in F iv_B0)
    (k0 : ∀ F1 : Nat → sy_d, iv_in F1 iv_B0 → (∀ j, j < 82 → j ∉ ([45] : List Nat) → F1 j = F j) → sy_ai F1 45 = jm_upd (sy_ai F 45) (5 : Int).toNat (sy_i F 51) → (sy_i F1 82).toInt = (sy_i F 82).toInt → sy_i F1 82 = sy_i F 82 → hd_W Ls xs d jm_M90 Q (142, sy_dL F1 [some (.inl (.ref 8)), none, some (.inr (.inl 82)), none], sy_dS F1 [.inl (.int 5), .inl (.ref 20), .inl (.ref 38), .inr (.inl 82)], sy_dh F1 X1 X2 (iv_H 2), 0, 0)) :
    hd_W Ls xs d jm_M90 Q (116, sy_dL F [some (.inl (.ref 8)), none, some (.inr (.inl 82)), none], sy_dS F [], sy_dh F X1 X2 (iv_H 2), 0, 0) := by
  have w83 : jm_upd (sy_ai F 45) ((5 : Int32)).toNatClampNeg (sy_i F 51) = jm_upd (sy_ai F 45) (5 : Int).toNat (sy_i F 51) := by simp only [nz_c, (by decide : ((5 : Int32)).toInt = 5)]
  exact j2sq_116_p0 hd F X1 X2 hB  (fun F1 g e45 e82 => k0 F1 (nz_in0 hB [45] (fun j hj hn => g j hj (by simp only [List.mem_cons, List.not_mem_nil, or_false, not_or] at hn; omega)) (List.forall_mem_cons.mpr ⟨fun t ht => (Option.some.inj ht) ▸ (nz_hz2 e45), List.forall_mem_nil _⟩)) (fun j hj hn => g j hj (by simp only [List.mem_cons, List.not_mem_nil, or_false, not_or] at hn; omega)) ((zz_ai e45).trans w83) ((congrArg Int32.toInt (zz_i e82)).trans (rfl : (sy_i F 82).toInt = (sy_i F 82).toInt)) ((zz_i e82).trans (rfl : sy_i F 82 = sy_i F 82)))
theorem j2sq_145_p0 {Ls : Nat} {xs : Nat → Int32} {d : Nat} {Q : Option Value → jm_h → Prop} (hd : 1 ≤ d) (F : Nat → sy_d) (X1 X2 : List jm_c) (hB : iv_in F iv_B0)
    (h0 : (sy_i F 83).toInt ≤ (sy_i F 82).toInt)
    (k : ∀ F1 : Nat → sy_d, (∀ j, j < 82 → True → F1 j = F j) → Q (some (.int ((0 : Int32)))) (sy_dh F1 X1 X2 (iv_H 2))) :
    hd_W Ls xs d jm_M90 Q (145, sy_dL F [some (.inl (.ref 8)), none, some (.inr (.inl 82)), none], sy_dS F [.inr (.inl 83), .inr (.inl 82)], sy_dh F X1 X2 (iv_H 2), 0, 0) := by
  refine hd_ret (s := 2) (nv := 84) (v := some (.inl (.int 0))) (uh := hd_ov (iv_id 0 iv_B0) []) (f := false) (sp := []) (d0 := 0) (O := [true]) (T := []) (P := [(4, .inr (.inl 83), .inr (.inl 82))]) jm_ok90 (by decide +kernel) (by decide +kernel) hd F X1 X2 (fun F' hF hs => ?_)
  have b83 := hd_b (F := F) (F' := F') (k := 83) (hF 83 (by decide))
  have b82 := hd_b (F := F) (F' := F') (k := 82) (hF 82 (by decide))
  have hB' : iv_in F' iv_B0 := iv_in_eq hB (fun j hj => hF j (Nat.lt_of_lt_of_le hj (by decide +kernel)))
  refine ⟨List.forall_mem_cons.mpr ⟨hd_p4 b83 b82 h0, fun _ h => absurd h List.not_mem_nil⟩, ?_⟩
  refine k _ ?_
  · exact fun j hj _ => (hd_keep hB' (Nat.lt_of_lt_of_le hj (by decide +kernel)) (by simp)).trans (hF j (Nat.lt_of_lt_of_le hj (by decide)))
theorem j2sq_145_p1 {Ls : Nat} {xs : Nat → Int32} {d : Nat} {Q : Option Value → jm_h → Prop} (hd : 1 ≤ d) (F : Nat → sy_d) (X1 X2 : List jm_c) (hB : iv_in F iv_B0)
    (h0 : (sy_i F 82).toInt < (sy_i F 83).toInt)
    (k : ∀ F1 : Nat → sy_d, (∀ j, j < 82 → j ≠ 52 → F1 j = F j) → F1 52 = .inl (.int ((sy_i F 52) + ((1 : Int32)))) → Q (some (.int ((1 : Int32)))) (sy_dh F1 X1 X2 (iv_H 2))) :
    hd_W Ls xs d jm_M90 Q (145, sy_dL F [some (.inl (.ref 8)), none, some (.inr (.inl 82)), none], sy_dS F [.inr (.inl 83), .inr (.inl 82)], sy_dh F X1 X2 (iv_H 2), 0, 0) := by
  refine hd_ret (s := 2) (nv := 84) (v := some (.inl (.int 1))) (uh := hd_ov (iv_id 0 iv_B0) [(52, .inl (.inr (.inl 84)))]) (f := false) (sp := []) (d0 := 0) (O := [false]) (T := [(0, [.inr (.inl 52), .inl (.int 1)], [])]) (P := [(5, .inr (.inl 83), .inr (.inl 82))]) jm_ok90 (by decide +kernel) (by decide +kernel) hd F X1 X2 (fun F' hF hs => ?_)
  have b83 := hd_b (F := F) (F' := F') (k := 83) (hF 83 (by decide))
  have b82 := hd_b (F := F) (F' := F') (k := 82) (hF 82 (by decide))
  have b52 := hd_b (F := F) (F' := F') (k := 52) (hF 52 (by decide))
  have t84 : sy_dv F' (.inr (.inl 84)) = .int ((sy_i F 52) + ((1 : Int32))) := hd_o (hs 0 _ rfl) b52 rfl rfl
  have hB' : iv_in F' iv_B0 := iv_in_eq hB (fun j hj => hF j (Nat.lt_of_lt_of_le hj (by decide +kernel)))
  refine ⟨List.forall_mem_cons.mpr ⟨hd_p5 b83 b82 h0, fun _ h => absurd h List.not_mem_nil⟩, ?_⟩
  refine k _ ?_ ?_
  · exact fun j hj hn => (hd_keep hB' (Nat.lt_of_lt_of_le hj (by decide +kernel)) (by simp; omega)).trans (hF j (Nat.lt_of_lt_of_le hj (by decide)))
  · exact hd_gi (x := .inr (.inl 84)) (by decide +kernel) t84
theorem j2sq_145 {Ls : Nat} {xs : Nat → Int32} {d : Nat} {Q : Option Value → jm_h → Prop} (hd : 1 ≤ d) (F : Nat → sy_d) (X1 X2 : List jm_c) (hB : iv_in F iv_B0)
    (k0 : (sy_i F 83).toInt ≤ (sy_i F 82).toInt → ∀ F1 : Nat → sy_d, iv_in F1 iv_B0 → (∀ j, j < 82 → j ∉ ([] : List Nat) → F1 j = F j) → Q (some (.int ((0 : Int32)))) (sy_dh F1 X1 X2 (iv_H 2)))
    (k1 : (sy_i F 82).toInt < (sy_i F 83).toInt → ∀ F1 : Nat → sy_d, iv_in F1 iv_B0 → (∀ j, j < 82 → j ∉ ([52] : List Nat) → F1 j = F j) → (sy_i F1 52).toInt = ((sy_i F 52) + ((1 : Int32))).toInt → sy_i F1 52 = (sy_i F 52) + ((1 : Int32)) → Q (some (.int ((1 : Int32)))) (sy_dh F1 X1 X2 (iv_H 2))) :
    hd_W Ls xs d jm_M90 Q (145, sy_dL F [some (.inl (.ref 8)), none, some (.inr (.inl 82)), none], sy_dS F [.inr (.inl 83), .inr (.inl 82)], sy_dh F X1 X2 (iv_H 2), 0, 0) := by
  by_cases g0 : (sy_i F 83).toInt ≤ (sy_i F 82).toInt
  · exact j2sq_145_p0 hd F X1 X2 hB (by first | exact g0 | (simp only [nz_c]; exact g0)) (fun F1 g  => k0 g0 F1 (nz_in0 hB [] (fun j hj hn => g j hj (by simp only [List.mem_cons, List.not_mem_nil, or_false, not_or] at hn; exact trivial)) (List.forall_mem_nil _)) (fun j hj hn => g j hj (by simp only [List.mem_cons, List.not_mem_nil, or_false, not_or] at hn; exact trivial)) )
  replace g0 : (sy_i F 82).toInt < (sy_i F 83).toInt := by omega
  have n84 : nzI ((sy_i F 52) + ((1 : Int32))) (((sy_i F 52) + ((1 : Int32))).toInt) := congrArg Int32.toInt (rfl : (sy_i F 52) + ((1 : Int32)) = (sy_i F 52) + ((1 : Int32)))
  exact j2sq_145_p1 hd F X1 X2 hB (by first | exact g0 | (simp only [nz_c]; exact g0)) (fun F1 g e52 => k1 g0 F1 (nz_in0 hB [52] (fun j hj hn => g j hj (by simp only [List.mem_cons, List.not_mem_nil, or_false, not_or] at hn; omega)) (List.forall_mem_cons.mpr ⟨fun t ht => (Option.some.inj ht) ▸ (nz_hz e52), List.forall_mem_nil _⟩)) (fun j hj hn => g j hj (by simp only [List.mem_cons, List.not_mem_nil, or_false, not_or] at hn; omega)) ((congrArg Int32.toInt (zz_i e52)).trans (nzE n84)) ((zz_i e52).trans (rfl : (sy_i F 52) + ((1 : Int32)) = (sy_i F 52) + ((1 : Int32)))))
theorem j2hq_0_p0 {Ls : Nat} {xs : Nat → Int32} {d : Nat} {Q : Option Value → jm_h → Prop} (hd : 2 ≤ d) (F : Nat → sy_d) (X1 X2 : List jm_c) (hB : iv_in F iv_B0)
    (h0 : (sy_i F 82).toInt < 0)
    (k : ∀ F1 : Nat → sy_d, (∀ j, j < 82 → True → F1 j = F j) → Q (some (.int (((-1) : Int32)))) (sy_dh F1 X1 X2 (iv_H 2))) :
    hd_W Ls xs d jm_M91 Q (0, sy_dL F [some (.inl (.ref 8)), some (.inr (.inl 82)), none], sy_dS F [], sy_dh F X1 X2 (iv_H 2), 0, 0) := by
  refine hd_ret (s := 2) (nv := 83) (v := some (.inl (.int (-1)))) (uh := hd_ov (iv_id 0 iv_B0) []) (f := true) (sp := [24]) (d0 := 1) (O := [true]) (T := []) (P := [(2, .inr (.inl 82), .inl (.int 0))]) jm_ok91 (by decide +kernel) (by decide +kernel) hd F X1 X2 (fun F' hF hs => ?_)
  have b82 := hd_b (F := F) (F' := F') (k := 82) (hF 82 (by decide))
  have hB' : iv_in F' iv_B0 := iv_in_eq hB (fun j hj => hF j (Nat.lt_of_lt_of_le hj (by decide +kernel)))
  refine ⟨List.forall_mem_cons.mpr ⟨hd_p2 b82 rfl (by have hc : ((0) : Int32).toInt = 0 := (by decide); omega), fun _ h => absurd h List.not_mem_nil⟩, ?_⟩
  refine k _ ?_
  · exact fun j hj _ => (hd_keep hB' (Nat.lt_of_lt_of_le hj (by decide +kernel)) (by simp)).trans (hF j (Nat.lt_of_lt_of_le hj (by decide)))
theorem j2hq_0_p1 {Ls : Nat} {xs : Nat → Int32} {d : Nat} {Q : Option Value → jm_h → Prop} (hd : 2 ≤ d) (F : Nat → sy_d) (X1 X2 : List jm_c) (hB : iv_in F iv_B0)
    (h0 : 0 ≤ (sy_i F 82).toInt)
    (h1 : 48 < (sy_i F 82).toInt)
    (k : ∀ F1 : Nat → sy_d, (∀ j, j < 82 → True → F1 j = F j) → Q (some (.int (((-1) : Int32)))) (sy_dh F1 X1 X2 (iv_H 2))) :
    hd_W Ls xs d jm_M91 Q (0, sy_dL F [some (.inl (.ref 8)), some (.inr (.inl 82)), none], sy_dS F [], sy_dh F X1 X2 (iv_H 2), 0, 0) := by
  refine hd_ret (s := 2) (nv := 83) (v := some (.inl (.int (-1)))) (uh := hd_ov (iv_id 0 iv_B0) []) (f := true) (sp := [24]) (d0 := 1) (O := [false, true]) (T := []) (P := [(3, .inr (.inl 82), .inl (.int 0)), (2, .inl (.int 48), .inr (.inl 82))]) jm_ok91 (by decide +kernel) (by decide +kernel) hd F X1 X2 (fun F' hF hs => ?_)
  have b82 := hd_b (F := F) (F' := F') (k := 82) (hF 82 (by decide))
  have hB' : iv_in F' iv_B0 := iv_in_eq hB (fun j hj => hF j (Nat.lt_of_lt_of_le hj (by decide +kernel)))
  refine ⟨List.forall_mem_cons.mpr ⟨hd_p3 b82 rfl (by have hc : ((0) : Int32).toInt = 0 := (by decide); omega), List.forall_mem_cons.mpr ⟨hd_p2 rfl b82 (by have hc : ((48) : Int32).toInt = 48 := (by decide); omega), fun _ h => absurd h List.not_mem_nil⟩⟩, ?_⟩
  refine k _ ?_
  · exact fun j hj _ => (hd_keep hB' (Nat.lt_of_lt_of_le hj (by decide +kernel)) (by simp)).trans (hF j (Nat.lt_of_lt_of_le hj (by decide)))
theorem j2hq_0_p2 {Ls : Nat} {xs : Nat → Int32} {d : Nat} {Q : Option Value → jm_h → Prop} (hd : 2 ≤ d) (F : Nat → sy_d) (X1 X2 : List jm_c) (hB : iv_in F iv_B0)
    (h0 : 0 ≤ (sy_i F 82).toInt)
    (h1 : (sy_i F 82).toInt ≤ 48)
    (h2 : (sy_i F 82).toInt ≤ 0)
    (k : ∀ F1 : Nat → sy_d, (∀ j, j < 82 → True → F1 j = F j) → Q (some (.int (sy_i F 50))) (sy_dh F1 X1 X2 (iv_H 2))) :
    hd_W Ls xs d jm_M91 Q (0, sy_dL F [some (.inl (.ref 8)), some (.inr (.inl 82)), none], sy_dS F [], sy_dh F X1 X2 (iv_H 2), 0, 0) := by
  refine hd_ret (s := 2) (nv := 83) (v := some (.inr (.inl 50))) (uh := hd_ov (iv_id 0 iv_B0) []) (f := true) (sp := [24]) (d0 := 1) (O := [false, false, true]) (T := []) (P := [(3, .inr (.inl 82), .inl (.int 0)), (3, .inl (.int 48), .inr (.inl 82)), (4, .inr (.inl 82), .inl (.int 0))]) jm_ok91 (by decide +kernel) (by decide +kernel) hd F X1 X2 (fun F' hF hs => ?_)
  have b82 := hd_b (F := F) (F' := F') (k := 82) (hF 82 (by decide))
  have b50 := hd_b (F := F) (F' := F') (k := 50) (hF 50 (by decide))
  have hB' : iv_in F' iv_B0 := iv_in_eq hB (fun j hj => hF j (Nat.lt_of_lt_of_le hj (by decide +kernel)))
  have hk := k (sy_cm F' (hd_ov (iv_id 0 iv_B0) [] ++ [])) (fun j hj _ => (hd_keep hB' (Nat.lt_of_lt_of_le hj (by decide +kernel)) (by simp)).trans (hF j (Nat.lt_of_lt_of_le hj (by decide))))
  refine ⟨List.forall_mem_cons.mpr ⟨hd_p3 b82 rfl (by have hc : ((0) : Int32).toInt = 0 := (by decide); omega), List.forall_mem_cons.mpr ⟨hd_p3 rfl b82 (by have hc : ((48) : Int32).toInt = 48 := (by decide); omega), List.forall_mem_cons.mpr ⟨hd_p4 b82 rfl (by have hc : ((0) : Int32).toInt = 0 := (by decide); omega), fun _ h => absurd h List.not_mem_nil⟩⟩⟩, ?_⟩
  show Q (some (sy_dv F' (.inr (.inl 50)))) _
  rw [b50]
  exact hk
theorem j2hq_0_p3 {Ls : Nat} {xs : Nat → Int32} {d : Nat} {Q : Option Value → jm_h → Prop} (hd : 2 ≤ d) (F : Nat → sy_d) (X1 X2 : List jm_c) (hB : iv_in F iv_B0)
    (h0 : 0 ≤ (sy_i F 82).toInt)
    (h1 : (sy_i F 82).toInt ≤ 48)
    (h2 : 0 < (sy_i F 82).toInt)
    (k : ∀ F1 : Nat → sy_d, (∀ j, j < 82 → True → F1 j = F j) → F1 82 = .inl (.int (sy_i F 82)) → hd_W Ls xs d jm_M91 Q (24, sy_dL F1 [some (.inl (.ref 8)), some (.inr (.inl 82)), none], sy_dS F1 [.inl (.ref 46), .inl (.ref 66)], sy_dh F1 X1 X2 (iv_H 2), 0, 0)) :
    hd_W Ls xs d jm_M91 Q (0, sy_dL F [some (.inl (.ref 8)), some (.inr (.inl 82)), none], sy_dS F [], sy_dh F X1 X2 (iv_H 2), 0, 0) := by
  refine hd_run (s := 2) (nv := 83) (pc := 24) (L := [some (.inl (.ref 8)), some (.inr (.inl 82)), none]) (S := [.inl (.ref 46), .inl (.ref 66)]) (uh := hd_ov (iv_id 0 iv_B0) []) (ul := [.inl (.inr (.inl 82))]) (f := true) (sp := [24]) (d0 := 1) (O := [false, false, false]) (T := []) (P := [(3, .inr (.inl 82), .inl (.int 0)), (3, .inl (.int 48), .inr (.inl 82)), (5, .inr (.inl 82), .inl (.int 0))]) jm_ok91 (by decide +kernel) (by decide +kernel) hd F X1 X2 (fun F' hF hs => ?_)
  have b82 := hd_b (F := F) (F' := F') (k := 82) (hF 82 (by decide))
  have hB' : iv_in F' iv_B0 := iv_in_eq hB (fun j hj => hF j (Nat.lt_of_lt_of_le hj (by decide +kernel)))
  refine ⟨List.forall_mem_cons.mpr ⟨hd_p3 b82 rfl (by have hc : ((0) : Int32).toInt = 0 := (by decide); omega), List.forall_mem_cons.mpr ⟨hd_p3 rfl b82 (by have hc : ((48) : Int32).toInt = 48 := (by decide); omega), List.forall_mem_cons.mpr ⟨hd_p5 b82 rfl (by have hc : ((0) : Int32).toInt = 0 := (by decide); omega), fun _ h => absurd h List.not_mem_nil⟩⟩⟩, ?_⟩
  refine k _ ?_ ?_
  · exact fun j hj _ => (hd_keep hB' (Nat.lt_of_lt_of_le hj (by decide +kernel)) (by simp)).trans (hF j (Nat.lt_of_lt_of_le hj (by decide)))
  · exact hd_gi (x := .inr (.inl 82)) (by decide +kernel) b82
theorem j2hq_0 {Ls : Nat} {xs : Nat → Int32} {d : Nat} {Q : Option Value → jm_h → Prop} (hd : 2 ≤ d) (F : Nat → sy_d) (X1 X2 : List jm_c) (hB : iv_in F iv_B0)
    (k0 : (sy_i F 82).toInt < 0 → ∀ F1 : Nat → sy_d, iv_in F1 iv_B0 → (∀ j, j < 82 → j ∉ ([] : List Nat) → F1 j = F j) → Q (some (.int (((-1) : Int32)))) (sy_dh F1 X1 X2 (iv_H 2)))
    (k1 : 0 ≤ (sy_i F 82).toInt → 48 < (sy_i F 82).toInt → ∀ F1 : Nat → sy_d, iv_in F1 iv_B0 → (∀ j, j < 82 → j ∉ ([] : List Nat) → F1 j = F j) → Q (some (.int (((-1) : Int32)))) (sy_dh F1 X1 X2 (iv_H 2)))
    (k2 : 0 ≤ (sy_i F 82).toInt → (sy_i F 82).toInt ≤ 48 → (sy_i F 82).toInt ≤ 0 → ∀ F1 : Nat → sy_d, iv_in F1 iv_B0 → (∀ j, j < 82 → j ∉ ([] : List Nat) → F1 j = F j) → Q (some (.int (sy_i F 50))) (sy_dh F1 X1 X2 (iv_H 2)))
    (k3 : 0 ≤ (sy_i F 82).toInt → (sy_i F 82).toInt ≤ 48 → 0 < (sy_i F 82).toInt → ∀ F1 : Nat → sy_d, iv_in F1 iv_B0 → (∀ j, j < 82 → j ∉ ([] : List Nat) → F1 j = F j) → (sy_i F1 82).toInt = (sy_i F 82).toInt → sy_i F1 82 = sy_i F 82 → hd_W Ls xs d jm_M91 Q (24, sy_dL F1 [some (.inl (.ref 8)), some (.inr (.inl 82)), none], sy_dS F1 [.inl (.ref 46), .inl (.ref 66)], sy_dh F1 X1 X2 (iv_H 2), 0, 0)) :
    hd_W Ls xs d jm_M91 Q (0, sy_dL F [some (.inl (.ref 8)), some (.inr (.inl 82)), none], sy_dS F [], sy_dh F X1 X2 (iv_H 2), 0, 0) := by
  by_cases g0 : (sy_i F 82).toInt < 0
  · exact j2hq_0_p0 hd F X1 X2 hB (by first | exact g0 | (simp only [nz_c]; exact g0)) (fun F1 g  => k0 g0 F1 (nz_in0 hB [] (fun j hj hn => g j hj (by simp only [List.mem_cons, List.not_mem_nil, or_false, not_or] at hn; exact trivial)) (List.forall_mem_nil _)) (fun j hj hn => g j hj (by simp only [List.mem_cons, List.not_mem_nil, or_false, not_or] at hn; exact trivial)) )
  replace g0 : 0 ≤ (sy_i F 82).toInt := by omega
  by_cases g1 : 48 < (sy_i F 82).toInt
  · exact j2hq_0_p1 hd F X1 X2 hB (by first | exact g0 | (simp only [nz_c]; exact g0)) (by first | exact g1 | (simp only [nz_c]; exact g1)) (fun F1 g  => k1 g0 g1 F1 (nz_in0 hB [] (fun j hj hn => g j hj (by simp only [List.mem_cons, List.not_mem_nil, or_false, not_or] at hn; exact trivial)) (List.forall_mem_nil _)) (fun j hj hn => g j hj (by simp only [List.mem_cons, List.not_mem_nil, or_false, not_or] at hn; exact trivial)) )
  replace g1 : (sy_i F 82).toInt ≤ 48 := by omega
  by_cases g2 : (sy_i F 82).toInt ≤ 0
  · exact j2hq_0_p2 hd F X1 X2 hB (by first | exact g0 | (simp only [nz_c]; exact g0)) (by first | exact g1 | (simp only [nz_c]; exact g1)) (by first | exact g2 | (simp only [nz_c]; exact g2)) (fun F1 g  => by rw [(rfl : sy_i F 50 = sy_i F 50)]; exact k2 g0 g1 g2 F1 (nz_in0 hB [] (fun j hj hn => g j hj (by simp only [List.mem_cons, List.not_mem_nil, or_false, not_or] at hn; exact trivial)) (List.forall_mem_nil _)) (fun j hj hn => g j hj (by simp only [List.mem_cons, List.not_mem_nil, or_false, not_or] at hn; exact trivial)) )
  replace g2 : 0 < (sy_i F 82).toInt := by omega
  exact j2hq_0_p3 hd F X1 X2 hB (by first | exact g0 | (simp only [nz_c]; exact g0)) (by first | exact g1 | (simp only [nz_c]; exact g1)) (by first | exact g2 | (simp only [nz_c]; exact g2)) (fun F1 g e82 => k3 g0 g1 g2 F1 (nz_in0 hB [] (fun j hj hn => g j hj (by simp only [List.mem_cons, List.not_mem_nil, or_false, not_or] at hn; exact trivial)) (List.forall_mem_nil _)) (fun j hj hn => g j hj (by simp only [List.mem_cons, List.not_mem_nil, or_false, not_or] at hn; exact trivial)) ((congrArg Int32.toInt (zz_i e82)).trans (rfl : (sy_i F 82).toInt = (sy_i F 82).toInt)) ((zz_i e82).trans (rfl : sy_i F 82 = sy_i F 82)))
theorem j2hq_27_p0 {Ls : Nat} {xs : Nat → Int32} {d : Nat} {Q : Option Value → jm_h → Prop} (hd : 1 ≤ d) (F : Nat → sy_d) (X1 X2 : List jm_c) (hB : iv_in F iv_B0)
    (k : ∀ F1 : Nat → sy_d, (∀ j, j < 82 → True → F1 j = F j) → F1 82 = .inl (.int (sy_i F 82)) → F1 83 = .inl (.int ((0 : Int32))) → hd_W Ls xs d jm_M91 Q (29, sy_dL F1 [some (.inl (.ref 8)), some (.inr (.inl 82)), some (.inr (.inl 83))], sy_dS F1 [], sy_dh F1 X1 X2 (iv_H 2), 0, 0)) :
    hd_W Ls xs d jm_M91 Q (27, sy_dL F [some (.inl (.ref 8)), some (.inr (.inl 82)), none], sy_dS F [], sy_dh F X1 X2 (iv_H 2), 0, 0) := by
  refine hd_run (s := 2) (nv := 83) (pc := 29) (L := [some (.inl (.ref 8)), some (.inr (.inl 82)), some (.inr (.inl 83))]) (S := []) (uh := hd_ov (iv_id 0 iv_B0) []) (ul := [.inl (.inr (.inl 82)), .inl (.inl (.int 0))]) (f := false) (sp := [29]) (d0 := 0) (O := []) (T := []) (P := []) jm_ok91 (by decide +kernel) (by decide +kernel) hd F X1 X2 (fun F' hF hs => ?_)
  have b82 := hd_b (F := F) (F' := F') (k := 82) (hF 82 (by decide))
  have hB' : iv_in F' iv_B0 := iv_in_eq hB (fun j hj => hF j (Nat.lt_of_lt_of_le hj (by decide +kernel)))
  refine ⟨fun _ h => absurd h List.not_mem_nil, ?_⟩
  refine k _ ?_ ?_ ?_
  · exact fun j hj _ => (hd_keep hB' (Nat.lt_of_lt_of_le hj (by decide +kernel)) (by simp)).trans (hF j (Nat.lt_of_lt_of_le hj (by decide)))
  · exact hd_gi (x := .inr (.inl 82)) (by decide +kernel) b82
  · exact hd_gi (x := .inl (.int 0)) (by decide +kernel) rfl
theorem j2hq_27 {Ls : Nat} {xs : Nat → Int32} {d : Nat} {Q : Option Value → jm_h → Prop} (hd : 1 ≤ d) (F : Nat → sy_d) (X1 X2 : List jm_c) (hB : iv_in F iv_B0)
    (k0 : ∀ F1 : Nat → sy_d, iv_in F1 iv_B0 → (∀ j, j < 82 → j ∉ ([] : List Nat) → F1 j = F j) → (sy_i F1 82).toInt = (sy_i F 82).toInt → sy_i F1 82 = sy_i F 82 → (sy_i F1 83).toInt = 0 → sy_i F1 83 = (0 : Int32) → hd_W Ls xs d jm_M91 Q (29, sy_dL F1 [some (.inl (.ref 8)), some (.inr (.inl 82)), some (.inr (.inl 83))], sy_dS F1 [], sy_dh F1 X1 X2 (iv_H 2), 0, 0)) :
    hd_W Ls xs d jm_M91 Q (27, sy_dL F [some (.inl (.ref 8)), some (.inr (.inl 82)), none], sy_dS F [], sy_dh F X1 X2 (iv_H 2), 0, 0) := by
  exact j2hq_27_p0 hd F X1 X2 hB  (fun F1 g e82 e83 => k0 F1 (nz_in0 hB [] (fun j hj hn => g j hj (by simp only [List.mem_cons, List.not_mem_nil, or_false, not_or] at hn; exact trivial)) (List.forall_mem_nil _)) (fun j hj hn => g j hj (by simp only [List.mem_cons, List.not_mem_nil, or_false, not_or] at hn; exact trivial)) ((congrArg Int32.toInt (zz_i e82)).trans (rfl : (sy_i F 82).toInt = (sy_i F 82).toInt)) ((zz_i e82).trans (rfl : sy_i F 82 = sy_i F 82)) ((congrArg Int32.toInt (zz_i e83)).trans (by decide : ((0 : Int32)).toInt = 0)) ((zz_i e83).trans (rfl : (0 : Int32) = (0 : Int32))))
theorem j2hq_29_p0 {Ls : Nat} {xs : Nat → Int32} {d : Nat} {Q : Option Value → jm_h → Prop} (hd : 1 ≤ d) (F : Nat → sy_d) (X1 X2 : List jm_c) (hB : iv_in F iv_B0)
    (h0 : (sy_i F 82).toInt ≤ (sy_i F 83).toInt)
    (k : ∀ F1 : Nat → sy_d, (∀ j, j < 82 → True → F1 j = F j) → Q (some (.int (sy_i F 50))) (sy_dh F1 X1 X2 (iv_H 2))) :
    hd_W Ls xs d jm_M91 Q (29, sy_dL F [some (.inl (.ref 8)), some (.inr (.inl 82)), some (.inr (.inl 83))], sy_dS F [], sy_dh F X1 X2 (iv_H 2), 0, 0) := by
  refine hd_ret (s := 2) (nv := 84) (v := some (.inr (.inl 50))) (uh := hd_ov (iv_id 0 iv_B0) []) (f := true) (sp := [53]) (d0 := 0) (O := [true]) (T := []) (P := [(4, .inr (.inl 82), .inr (.inl 83))]) jm_ok91 (by decide +kernel) (by decide +kernel) hd F X1 X2 (fun F' hF hs => ?_)
  have b82 := hd_b (F := F) (F' := F') (k := 82) (hF 82 (by decide))
  have b83 := hd_b (F := F) (F' := F') (k := 83) (hF 83 (by decide))
  have b50 := hd_b (F := F) (F' := F') (k := 50) (hF 50 (by decide))
  have hB' : iv_in F' iv_B0 := iv_in_eq hB (fun j hj => hF j (Nat.lt_of_lt_of_le hj (by decide +kernel)))
  have hk := k (sy_cm F' (hd_ov (iv_id 0 iv_B0) [] ++ [])) (fun j hj _ => (hd_keep hB' (Nat.lt_of_lt_of_le hj (by decide +kernel)) (by simp)).trans (hF j (Nat.lt_of_lt_of_le hj (by decide))))
  refine ⟨List.forall_mem_cons.mpr ⟨hd_p4 b82 b83 h0, fun _ h => absurd h List.not_mem_nil⟩, ?_⟩
  show Q (some (sy_dv F' (.inr (.inl 50)))) _
  rw [b50]
  exact hk
theorem j2hq_29_p1 {Ls : Nat} {xs : Nat → Int32} {d : Nat} {Q : Option Value → jm_h → Prop} (hd : 1 ≤ d) (F : Nat → sy_d) (X1 X2 : List jm_c) (hB : iv_in F iv_B0)
    (h0 : (sy_i F 83).toInt < (sy_i F 82).toInt)
    (k : ∀ F1 : Nat → sy_d, (∀ j, j < 82 → True → F1 j = F j) → F1 82 = .inl (.int (sy_i F 82)) → F1 83 = .inl (.int (sy_i F 83)) → F1 84 = .inl (.int (sy_i F 22)) → hd_W Ls xs d jm_M91 Q (53, sy_dL F1 [some (.inl (.ref 8)), some (.inr (.inl 82)), some (.inr (.inl 83))], sy_dS F1 [.inr (.inl 84), .inl (.ref 46), .inl (.ref 20), .inl (.ref 41)], sy_dh F1 X1 X2 (iv_H 2), 0, 0)) :
    hd_W Ls xs d jm_M91 Q (29, sy_dL F [some (.inl (.ref 8)), some (.inr (.inl 82)), some (.inr (.inl 83))], sy_dS F [], sy_dh F X1 X2 (iv_H 2), 0, 0) := by
  refine hd_run (s := 2) (nv := 84) (pc := 53) (L := [some (.inl (.ref 8)), some (.inr (.inl 82)), some (.inr (.inl 83))]) (S := [.inr (.inl 84), .inl (.ref 46), .inl (.ref 20), .inl (.ref 41)]) (uh := hd_ov (iv_id 0 iv_B0) []) (ul := [.inl (.inr (.inl 82)), .inl (.inr (.inl 83)), .inl (.inr (.inl 22))]) (f := true) (sp := [53]) (d0 := 0) (O := [false]) (T := []) (P := [(5, .inr (.inl 82), .inr (.inl 83))]) jm_ok91 (by decide +kernel) (by decide +kernel) hd F X1 X2 (fun F' hF hs => ?_)
  have b82 := hd_b (F := F) (F' := F') (k := 82) (hF 82 (by decide))
  have b83 := hd_b (F := F) (F' := F') (k := 83) (hF 83 (by decide))
  have b22 := hd_b (F := F) (F' := F') (k := 22) (hF 22 (by decide))
  have hB' : iv_in F' iv_B0 := iv_in_eq hB (fun j hj => hF j (Nat.lt_of_lt_of_le hj (by decide +kernel)))
  refine ⟨List.forall_mem_cons.mpr ⟨hd_p5 b82 b83 h0, fun _ h => absurd h List.not_mem_nil⟩, ?_⟩
  refine k _ ?_ ?_ ?_ ?_
  · exact fun j hj _ => (hd_keep hB' (Nat.lt_of_lt_of_le hj (by decide +kernel)) (by simp)).trans (hF j (Nat.lt_of_lt_of_le hj (by decide)))
  · exact hd_gi (x := .inr (.inl 82)) (by decide +kernel) b82
  · exact hd_gi (x := .inr (.inl 83)) (by decide +kernel) b83
  · exact hd_gi (x := .inr (.inl 22)) (by decide +kernel) b22
theorem j2hq_29 {Ls : Nat} {xs : Nat → Int32} {d : Nat} {Q : Option Value → jm_h → Prop} (hd : 1 ≤ d) (F : Nat → sy_d) (X1 X2 : List jm_c) (hB : iv_in F iv_B0)
    (a82 : 0 ≤ (sy_i F 82).toInt ∧ (sy_i F 82).toInt ≤ 48)
    (a83 : 0 ≤ (sy_i F 83).toInt ∧ (sy_i F 83).toInt ≤ 48)
    (k0 : (sy_i F 82).toInt ≤ (sy_i F 83).toInt → ∀ F1 : Nat → sy_d, iv_in F1 iv_B0 → (∀ j, j < 82 → j ∉ ([] : List Nat) → F1 j = F j) → Q (some (.int (sy_i F 50))) (sy_dh F1 X1 X2 (iv_H 2)))
    (k1 : (sy_i F 83).toInt < (sy_i F 82).toInt → ∀ F1 : Nat → sy_d, iv_in F1 iv_B0 → (∀ j, j < 82 → j ∉ ([] : List Nat) → F1 j = F j) → (sy_i F1 82).toInt = (sy_i F 82).toInt → sy_i F1 82 = sy_i F 82 → (sy_i F1 83).toInt = (sy_i F 83).toInt → sy_i F1 83 = sy_i F 83 → (sy_i F1 84).toInt = (sy_i F 22).toInt → sy_i F1 84 = sy_i F 22 → hd_W Ls xs d jm_M91 Q (53, sy_dL F1 [some (.inl (.ref 8)), some (.inr (.inl 82)), some (.inr (.inl 83))], sy_dS F1 [.inr (.inl 84), .inl (.ref 46), .inl (.ref 20), .inl (.ref 41)], sy_dh F1 X1 X2 (iv_H 2), 0, 0)) :
    hd_W Ls xs d jm_M91 Q (29, sy_dL F [some (.inl (.ref 8)), some (.inr (.inl 82)), some (.inr (.inl 83))], sy_dS F [], sy_dh F X1 X2 (iv_H 2), 0, 0) := by
  by_cases g0 : (sy_i F 82).toInt ≤ (sy_i F 83).toInt
  · exact j2hq_29_p0 hd F X1 X2 hB (by first | exact g0 | (simp only [nz_c]; exact g0)) (fun F1 g  => by rw [(rfl : sy_i F 50 = sy_i F 50)]; exact k0 g0 F1 (nz_in0 hB [] (fun j hj hn => g j hj (by simp only [List.mem_cons, List.not_mem_nil, or_false, not_or] at hn; exact trivial)) (List.forall_mem_nil _)) (fun j hj hn => g j hj (by simp only [List.mem_cons, List.not_mem_nil, or_false, not_or] at hn; exact trivial)) )
  replace g0 : (sy_i F 83).toInt < (sy_i F 82).toInt := by omega
  exact j2hq_29_p1 hd F X1 X2 hB (by first | exact g0 | (simp only [nz_c]; exact g0)) (fun F1 g e82 e83 e84 => k1 g0 F1 (nz_in0 hB [] (fun j hj hn => g j hj (by simp only [List.mem_cons, List.not_mem_nil, or_false, not_or] at hn; exact trivial)) (List.forall_mem_nil _)) (fun j hj hn => g j hj (by simp only [List.mem_cons, List.not_mem_nil, or_false, not_or] at hn; exact trivial)) ((congrArg Int32.toInt (zz_i e82)).trans (rfl : (sy_i F 82).toInt = (sy_i F 82).toInt)) ((zz_i e82).trans (rfl : sy_i F 82 = sy_i F 82)) ((congrArg Int32.toInt (zz_i e83)).trans (rfl : (sy_i F 83).toInt = (sy_i F 83).toInt)) ((zz_i e83).trans (rfl : sy_i F 83 = sy_i F 83)) ((congrArg Int32.toInt (zz_i e84)).trans (rfl : (sy_i F 22).toInt = (sy_i F 22).toInt)) ((zz_i e84).trans (rfl : sy_i F 22 = sy_i F 22)))
theorem j2hq_56_p0 {Ls : Nat} {xs : Nat → Int32} {d : Nat} {Q : Option Value → jm_h → Prop} (hd : 1 ≤ d) (F : Nat → sy_d) (X1 X2 : List jm_c) (hB : iv_in F iv_B0)
    (k : ∀ F1 : Nat → sy_d, (∀ j, j < 82 → True → F1 j = F j) → F1 82 = .inl (.int (sy_i F 82)) → F1 83 = .inl (.int ((sy_i F 83) + ((1 : Int32)))) → hd_W Ls xs d jm_M91 Q (29, sy_dL F1 [some (.inl (.ref 8)), some (.inr (.inl 82)), some (.inr (.inl 83))], sy_dS F1 [], sy_dh F1 X1 X2 (iv_H 2), 0, 0)) :
    hd_W Ls xs d jm_M91 Q (56, sy_dL F [some (.inl (.ref 8)), some (.inr (.inl 82)), some (.inr (.inl 83))], sy_dS F [], sy_dh F X1 X2 (iv_H 2), 0, 0) := by
  refine hd_run (s := 2) (nv := 84) (pc := 29) (L := [some (.inl (.ref 8)), some (.inr (.inl 82)), some (.inr (.inl 83))]) (S := []) (uh := hd_ov (iv_id 0 iv_B0) []) (ul := [.inl (.inr (.inl 82)), .inl (.inr (.inl 84))]) (f := false) (sp := [29]) (d0 := 0) (O := []) (T := [(0, [.inr (.inl 83), .inl (.int 1)], [])]) (P := []) jm_ok91 (by decide +kernel) (by decide +kernel) hd F X1 X2 (fun F' hF hs => ?_)
  have b82 := hd_b (F := F) (F' := F') (k := 82) (hF 82 (by decide))
  have b83 := hd_b (F := F) (F' := F') (k := 83) (hF 83 (by decide))
  have t84 : sy_dv F' (.inr (.inl 84)) = .int ((sy_i F 83) + ((1 : Int32))) := hd_o (hs 0 _ rfl) b83 rfl rfl
  have hB' : iv_in F' iv_B0 := iv_in_eq hB (fun j hj => hF j (Nat.lt_of_lt_of_le hj (by decide +kernel)))
  refine ⟨fun _ h => absurd h List.not_mem_nil, ?_⟩
  refine k _ ?_ ?_ ?_
  · exact fun j hj _ => (hd_keep hB' (Nat.lt_of_lt_of_le hj (by decide +kernel)) (by simp)).trans (hF j (Nat.lt_of_lt_of_le hj (by decide)))
  · exact hd_gi (x := .inr (.inl 82)) (by decide +kernel) b82
  · exact hd_gi (x := .inr (.inl 84)) (by decide +kernel) t84
theorem j2hq_56 {Ls : Nat} {xs : Nat → Int32} {d : Nat} {Q : Option Value → jm_h → Prop} (hd : 1 ≤ d) (F : Nat → sy_d) (X1 X2 : List jm_c) (hB : iv_in F iv_B0)
    (a83 : 0 ≤ (sy_i F 83).toInt ∧ (sy_i F 83).toInt ≤ 47)
    (k0 : ∀ F1 : Nat → sy_d, iv_in F1 iv_B0 → (∀ j, j < 82 → j ∉ ([] : List Nat) → F1 j = F j) → (sy_i F1 82).toInt = (sy_i F 82).toInt → sy_i F1 82 = sy_i F 82 → (sy_i F1 83).toInt = ((sy_i F 83).toInt + 1) → sy_i F1 83 = (sy_i F 83) + ((1 : Int32)) → hd_W Ls xs d jm_M91 Q (29, sy_dL F1 [some (.inl (.ref 8)), some (.inr (.inl 82)), some (.inr (.inl 83))], sy_dS F1 [], sy_dh F1 X1 X2 (iv_H 2), 0, 0)) :
    hd_W Ls xs d jm_M91 Q (56, sy_dL F [some (.inl (.ref 8)), some (.inr (.inl 82)), some (.inr (.inl 83))], sy_dS F [], sy_dh F X1 X2 (iv_H 2), 0, 0) := by
  have n84 : nzI ((sy_i F 83) + ((1 : Int32))) (((sy_i F 83).toInt + 1)) := nz_add (rfl : (sy_i F 83).toInt = (sy_i F 83).toInt) (by decide : ((1 : Int32)).toInt = 1) (by omega) (by omega)
  exact j2hq_56_p0 hd F X1 X2 hB  (fun F1 g e82 e83 => k0 F1 (nz_in0 hB [] (fun j hj hn => g j hj (by simp only [List.mem_cons, List.not_mem_nil, or_false, not_or] at hn; exact trivial)) (List.forall_mem_nil _)) (fun j hj hn => g j hj (by simp only [List.mem_cons, List.not_mem_nil, or_false, not_or] at hn; exact trivial)) ((congrArg Int32.toInt (zz_i e82)).trans (rfl : (sy_i F 82).toInt = (sy_i F 82).toInt)) ((zz_i e82).trans (rfl : sy_i F 82 = sy_i F 82)) ((congrArg Int32.toInt (zz_i e83)).trans (nzE n84)) ((zz_i e83).trans (rfl : (sy_i F 83) + ((1 : Int32)) = (sy_i F 83) + ((1 : Int32)))))
theorem j2pq_0_p0 {Ls : Nat} {xs : Nat → Int32} {d : Nat} {Q : Option Value → jm_h → Prop} (hd : 1 ≤ d) (F : Nat → sy_d) (X1 X2 : List jm_c) (hB : iv_in F iv_B0)
    (k : ∀ F1 : Nat → sy_d, (∀ j, j < 82 → True → F1 j = F j) → Q (some (.int (sy_i F 1))) (sy_dh F1 X1 X2 (iv_H 2))) :
    hd_W Ls xs d jm_M84 Q (0, sy_dL F [some (.inl (.ref 8))], sy_dS F [], sy_dh F X1 X2 (iv_H 2), 0, 0) := by
  refine hd_ret (s := 2) (nv := 82) (v := some (.inr (.inl 1))) (uh := hd_ov (iv_id 0 iv_B0) []) (f := true) (sp := []) (d0 := 0) (O := []) (T := []) (P := []) jm_ok84 (by decide +kernel) (by decide +kernel) hd F X1 X2 (fun F' hF hs => ?_)
  have b1 := hd_b (F := F) (F' := F') (k := 1) (hF 1 (by decide))
  have hB' : iv_in F' iv_B0 := iv_in_eq hB (fun j hj => hF j (Nat.lt_of_lt_of_le hj (by decide +kernel)))
  have hk := k (sy_cm F' (hd_ov (iv_id 0 iv_B0) [] ++ [])) (fun j hj _ => (hd_keep hB' (Nat.lt_of_lt_of_le hj (by decide +kernel)) (by simp)).trans (hF j (Nat.lt_of_lt_of_le hj (by decide))))
  refine ⟨fun _ h => absurd h List.not_mem_nil, ?_⟩
  show Q (some (sy_dv F' (.inr (.inl 1)))) _
  rw [b1]
  exact hk
theorem j2pq_0 {Ls : Nat} {xs : Nat → Int32} {d : Nat} {Q : Option Value → jm_h → Prop} (hd : 1 ≤ d) (F : Nat → sy_d) (X1 X2 : List jm_c) (hB : iv_in F iv_B0)
    (k0 : ∀ F1 : Nat → sy_d, iv_in F1 iv_B0 → (∀ j, j < 82 → j ∉ ([] : List Nat) → F1 j = F j) → Q (some (.int (sy_i F 1))) (sy_dh F1 X1 X2 (iv_H 2))) :
    hd_W Ls xs d jm_M84 Q (0, sy_dL F [some (.inl (.ref 8))], sy_dS F [], sy_dh F X1 X2 (iv_H 2), 0, 0) := by
  exact j2pq_0_p0 hd F X1 X2 hB  (fun F1 g  => by rw [(rfl : sy_i F 1 = sy_i F 1)]; exact k0 F1 (nz_in0 hB [] (fun j hj hn => g j hj (by simp only [List.mem_cons, List.not_mem_nil, or_false, not_or] at hn; exact trivial)) (List.forall_mem_nil _)) (fun j hj hn => g j hj (by simp only [List.mem_cons, List.not_mem_nil, or_false, not_or] at hn; exact trivial)) )
theorem j2fq_0_p0 {Ls : Nat} {xs : Nat → Int32} {d : Nat} {Q : Option Value → jm_h → Prop} (hd : 1 ≤ d) (F : Nat → sy_d) (X1 X2 : List jm_c) (hB : iv_in F iv_B0)
    (k : ∀ F1 : Nat → sy_d, (∀ j, j < 82 → j ≠ 79 → F1 j = F j) → F1 79 = .inl (.int ((0 : Int32))) → Q (some (.int (sy_i F 79))) (sy_dh F1 X1 X2 (iv_H 2))) :
    hd_W Ls xs d jm_M109 Q (0, sy_dL F [some (.inl (.ref 8)), none], sy_dS F [], sy_dh F X1 X2 (iv_H 2), 0, 0) := by
  refine hd_ret (s := 2) (nv := 82) (v := some (.inr (.inl 79))) (uh := hd_ov (iv_id 0 iv_B0) [(79, .inl (.inl (.int 0)))]) (f := true) (sp := []) (d0 := 0) (O := []) (T := []) (P := []) jm_ok109 (by decide +kernel) (by decide +kernel) hd F X1 X2 (fun F' hF hs => ?_)
  have b79 := hd_b (F := F) (F' := F') (k := 79) (hF 79 (by decide))
  have hB' : iv_in F' iv_B0 := iv_in_eq hB (fun j hj => hF j (Nat.lt_of_lt_of_le hj (by decide +kernel)))
  have hk := k (sy_cm F' (hd_ov (iv_id 0 iv_B0) [(79, .inl (.inl (.int 0)))] ++ [])) (fun j hj hn => (hd_keep hB' (Nat.lt_of_lt_of_le hj (by decide +kernel)) (by simp; omega)).trans (hF j (Nat.lt_of_lt_of_le hj (by decide)))) (hd_gi (x := .inl (.int 0)) (by decide +kernel) rfl)
  refine ⟨fun _ h => absurd h List.not_mem_nil, ?_⟩
  show Q (some (sy_dv F' (.inr (.inl 79)))) _
  rw [b79]
  exact hk
theorem j2fq_0 {Ls : Nat} {xs : Nat → Int32} {d : Nat} {Q : Option Value → jm_h → Prop} (hd : 1 ≤ d) (F : Nat → sy_d) (X1 X2 : List jm_c) (hB : iv_in F iv_B0)
    (k0 : ∀ F1 : Nat → sy_d, iv_in F1 iv_B0 → (∀ j, j < 82 → j ∉ ([79] : List Nat) → F1 j = F j) → (sy_i F1 79).toInt = 0 → sy_i F1 79 = (0 : Int32) → Q (some (.int (sy_i F 79))) (sy_dh F1 X1 X2 (iv_H 2))) :
    hd_W Ls xs d jm_M109 Q (0, sy_dL F [some (.inl (.ref 8)), none], sy_dS F [], sy_dh F X1 X2 (iv_H 2), 0, 0) := by
  exact j2fq_0_p0 hd F X1 X2 hB  (fun F1 g e79 => by rw [(rfl : sy_i F 79 = sy_i F 79)]; exact k0 F1 (nz_in0 hB [79] (fun j hj hn => g j hj (by simp only [List.mem_cons, List.not_mem_nil, or_false, not_or] at hn; omega)) (List.forall_mem_cons.mpr ⟨fun t ht => (Option.some.inj ht) ▸ (nz_hi e79 (by decide : ((0 : Int32)).toInt = 0) (by omega) (by omega)), List.forall_mem_nil _⟩)) (fun j hj hn => g j hj (by simp only [List.mem_cons, List.not_mem_nil, or_false, not_or] at hn; omega)) ((congrArg Int32.toInt (zz_i e79)).trans (by decide : ((0 : Int32)).toInt = 0)) ((zz_i e79).trans (rfl : (0 : Int32) = (0 : Int32))))
theorem j2bq_0_p0 {Ls : Nat} {xs : Nat → Int32} {d : Nat} {Q : Option Value → jm_h → Prop} (hd : 1 ≤ d) (F : Nat → sy_d) (X1 X2 : List jm_c) (hB : iv_in F iv_B0)
    (h0 : (sy_i F 82).toInt < 0)
    (k : ∀ F1 : Nat → sy_d, (∀ j, j < 82 → True → F1 j = F j) → Q (some (.int (((-1) : Int32)))) (sy_dh F1 X1 X2 (iv_H 2))) :
    hd_W Ls xs d jm_M82 Q (0, sy_dL F [some (.inl (.ref 8)), some (.inr (.inl 82))], sy_dS F [], sy_dh F X1 X2 (iv_H 2), 0, 0) := by
  refine hd_ret (s := 2) (nv := 83) (v := some (.inl (.int (-1)))) (uh := hd_ov (iv_id 0 iv_B0) []) (f := true) (sp := []) (d0 := 0) (O := [true]) (T := []) (P := [(2, .inr (.inl 82), .inl (.int 0))]) jm_ok82 (by decide +kernel) (by decide +kernel) hd F X1 X2 (fun F' hF hs => ?_)
  have b82 := hd_b (F := F) (F' := F') (k := 82) (hF 82 (by decide))
  have hB' : iv_in F' iv_B0 := iv_in_eq hB (fun j hj => hF j (Nat.lt_of_lt_of_le hj (by decide +kernel)))
  refine ⟨List.forall_mem_cons.mpr ⟨hd_p2 b82 rfl (by have hc : ((0) : Int32).toInt = 0 := (by decide); omega), fun _ h => absurd h List.not_mem_nil⟩, ?_⟩
  refine k _ ?_
  · exact fun j hj _ => (hd_keep hB' (Nat.lt_of_lt_of_le hj (by decide +kernel)) (by simp)).trans (hF j (Nat.lt_of_lt_of_le hj (by decide)))
theorem j2bq_0_p1 {Ls : Nat} {xs : Nat → Int32} {d : Nat} {Q : Option Value → jm_h → Prop} (hd : 1 ≤ d) (F : Nat → sy_d) (X1 X2 : List jm_c) (hB : iv_in F iv_B0)
    (h0 : 0 ≤ (sy_i F 82).toInt)
    (h1 : (sy_i F 82).toInt ≤ (sy_i F 0).toInt)
    (k : ∀ F1 : Nat → sy_d, (∀ j, j < 82 → j ≠ 0 → F1 j = F j) → F1 0 = .inl (.int ((sy_i F 0) - (sy_i F 82))) → Q (some (.int ((sy_i F 0) - (sy_i F 82)))) (sy_dh F1 X1 X2 (iv_H 2))) :
    hd_W Ls xs d jm_M82 Q (0, sy_dL F [some (.inl (.ref 8)), some (.inr (.inl 82))], sy_dS F [], sy_dh F X1 X2 (iv_H 2), 0, 0) := by
  refine hd_ret (s := 2) (nv := 83) (v := some (.inr (.inl 83))) (uh := hd_ov (iv_id 0 iv_B0) [(0, .inl (.inr (.inl 83)))]) (f := true) (sp := []) (d0 := 0) (O := [false, true]) (T := [(1, [.inr (.inl 0), .inr (.inl 82)], [])]) (P := [(3, .inr (.inl 82), .inl (.int 0)), (4, .inr (.inl 82), .inr (.inl 0))]) jm_ok82 (by decide +kernel) (by decide +kernel) hd F X1 X2 (fun F' hF hs => ?_)
  have b82 := hd_b (F := F) (F' := F') (k := 82) (hF 82 (by decide))
  have b0 := hd_b (F := F) (F' := F') (k := 0) (hF 0 (by decide))
  have t83 : sy_dv F' (.inr (.inl 83)) = .int ((sy_i F 0) - (sy_i F 82)) := hd_o (hs 0 _ rfl) b0 b82 rfl
  have hB' : iv_in F' iv_B0 := iv_in_eq hB (fun j hj => hF j (Nat.lt_of_lt_of_le hj (by decide +kernel)))
  have hk := k (sy_cm F' (hd_ov (iv_id 0 iv_B0) [(0, .inl (.inr (.inl 83)))] ++ [])) (fun j hj hn => (hd_keep hB' (Nat.lt_of_lt_of_le hj (by decide +kernel)) (by simp; omega)).trans (hF j (Nat.lt_of_lt_of_le hj (by decide)))) (hd_gi (x := .inr (.inl 83)) (by decide +kernel) t83)
  refine ⟨List.forall_mem_cons.mpr ⟨hd_p3 b82 rfl (by have hc : ((0) : Int32).toInt = 0 := (by decide); omega), List.forall_mem_cons.mpr ⟨hd_p4 b82 b0 h1, fun _ h => absurd h List.not_mem_nil⟩⟩, ?_⟩
  show Q (some (sy_dv F' (.inr (.inl 83)))) _
  rw [t83]
  exact hk
theorem j2bq_0_p2 {Ls : Nat} {xs : Nat → Int32} {d : Nat} {Q : Option Value → jm_h → Prop} (hd : 1 ≤ d) (F : Nat → sy_d) (X1 X2 : List jm_c) (hB : iv_in F iv_B0)
    (h0 : 0 ≤ (sy_i F 82).toInt)
    (h1 : (sy_i F 0).toInt < (sy_i F 82).toInt)
    (k : ∀ F1 : Nat → sy_d, (∀ j, j < 82 → True → F1 j = F j) → Q (some (.int (((-1) : Int32)))) (sy_dh F1 X1 X2 (iv_H 2))) :
    hd_W Ls xs d jm_M82 Q (0, sy_dL F [some (.inl (.ref 8)), some (.inr (.inl 82))], sy_dS F [], sy_dh F X1 X2 (iv_H 2), 0, 0) := by
  refine hd_ret (s := 2) (nv := 83) (v := some (.inl (.int (-1)))) (uh := hd_ov (iv_id 0 iv_B0) []) (f := true) (sp := []) (d0 := 0) (O := [false, false]) (T := []) (P := [(3, .inr (.inl 82), .inl (.int 0)), (5, .inr (.inl 82), .inr (.inl 0))]) jm_ok82 (by decide +kernel) (by decide +kernel) hd F X1 X2 (fun F' hF hs => ?_)
  have b82 := hd_b (F := F) (F' := F') (k := 82) (hF 82 (by decide))
  have b0 := hd_b (F := F) (F' := F') (k := 0) (hF 0 (by decide))
  have hB' : iv_in F' iv_B0 := iv_in_eq hB (fun j hj => hF j (Nat.lt_of_lt_of_le hj (by decide +kernel)))
  refine ⟨List.forall_mem_cons.mpr ⟨hd_p3 b82 rfl (by have hc : ((0) : Int32).toInt = 0 := (by decide); omega), List.forall_mem_cons.mpr ⟨hd_p5 b82 b0 h1, fun _ h => absurd h List.not_mem_nil⟩⟩, ?_⟩
  refine k _ ?_
  · exact fun j hj _ => (hd_keep hB' (Nat.lt_of_lt_of_le hj (by decide +kernel)) (by simp)).trans (hF j (Nat.lt_of_lt_of_le hj (by decide)))
theorem j2bq_0 {Ls : Nat} {xs : Nat → Int32} {d : Nat} {Q : Option Value → jm_h → Prop} (hd : 1 ≤ d) (F : Nat → sy_d) (X1 X2 : List jm_c) (hB : iv_in F iv_B0)
    (o0 : 0 ≤ (sy_i F 82).toInt → (sy_i F 82).toInt ≤ (sy_i F 0).toInt → (0 ≤ ((sy_i F 0).toInt - (sy_i F 82).toInt) ∧ ((sy_i F 0).toInt - (sy_i F 82).toInt) ≤ 2000))
    (k0 : (sy_i F 82).toInt < 0 → ∀ F1 : Nat → sy_d, iv_in F1 iv_B0 → (∀ j, j < 82 → j ∉ ([] : List Nat) → F1 j = F j) → Q (some (.int (((-1) : Int32)))) (sy_dh F1 X1 X2 (iv_H 2)))
    (k1 : 0 ≤ (sy_i F 82).toInt → (sy_i F 82).toInt ≤ (sy_i F 0).toInt → ∀ F1 : Nat → sy_d, iv_in F1 iv_B0 → (∀ j, j < 82 → j ∉ ([0] : List Nat) → F1 j = F j) → (sy_i F1 0).toInt = ((sy_i F 0).toInt - (sy_i F 82).toInt) → sy_i F1 0 = (sy_i F 0) - (sy_i F 82) → Q (some (.int ((sy_i F 0) - (sy_i F 82)))) (sy_dh F1 X1 X2 (iv_H 2)))
    (k2 : 0 ≤ (sy_i F 82).toInt → (sy_i F 0).toInt < (sy_i F 82).toInt → ∀ F1 : Nat → sy_d, iv_in F1 iv_B0 → (∀ j, j < 82 → j ∉ ([] : List Nat) → F1 j = F j) → Q (some (.int (((-1) : Int32)))) (sy_dh F1 X1 X2 (iv_H 2))) :
    hd_W Ls xs d jm_M82 Q (0, sy_dL F [some (.inl (.ref 8)), some (.inr (.inl 82))], sy_dS F [], sy_dh F X1 X2 (iv_H 2), 0, 0) := by
  by_cases g0 : (sy_i F 82).toInt < 0
  · exact j2bq_0_p0 hd F X1 X2 hB (by first | exact g0 | (simp only [nz_c]; exact g0)) (fun F1 g  => k0 g0 F1 (nz_in0 hB [] (fun j hj hn => g j hj (by simp only [List.mem_cons, List.not_mem_nil, or_false, not_or] at hn; exact trivial)) (List.forall_mem_nil _)) (fun j hj hn => g j hj (by simp only [List.mem_cons, List.not_mem_nil, or_false, not_or] at hn; exact trivial)) )
  replace g0 : 0 ≤ (sy_i F 82).toInt := by omega
  by_cases g1 : (sy_i F 82).toInt ≤ (sy_i F 0).toInt
  · have c0 := nz_bx hB (k := 0) (lo := 0) (hi := 2000) rfl
    have n83 : nzI ((sy_i F 0) - (sy_i F 82)) (((sy_i F 0).toInt - (sy_i F 82).toInt)) := nz_sub (rfl : (sy_i F 0).toInt = (sy_i F 0).toInt) (rfl : (sy_i F 82).toInt = (sy_i F 82).toInt) (by omega) (by omega)
    exact j2bq_0_p1 hd F X1 X2 hB (by first | exact g0 | (simp only [nz_c]; exact g0)) (by first | exact g1 | (simp only [nz_c]; exact g1)) (fun F1 g e0 => by rw [(rfl : (sy_i F 0) - (sy_i F 82) = (sy_i F 0) - (sy_i F 82))]; exact k1 g0 g1 F1 (nz_in0 hB [0] (fun j hj hn => g j hj (by simp only [List.mem_cons, List.not_mem_nil, or_false, not_or] at hn; omega)) (List.forall_mem_cons.mpr ⟨fun t ht => (Option.some.inj ht) ▸ (nz_hi e0 (nzE n83) (o0 g0 g1).1 (o0 g0 g1).2), List.forall_mem_nil _⟩)) (fun j hj hn => g j hj (by simp only [List.mem_cons, List.not_mem_nil, or_false, not_or] at hn; omega)) ((congrArg Int32.toInt (zz_i e0)).trans (nzE n83)) ((zz_i e0).trans (rfl : (sy_i F 0) - (sy_i F 82) = (sy_i F 0) - (sy_i F 82))))
  replace g1 : (sy_i F 0).toInt < (sy_i F 82).toInt := by omega
  have c0 := nz_bx hB (k := 0) (lo := 0) (hi := 2000) rfl
  exact j2bq_0_p2 hd F X1 X2 hB (by first | exact g0 | (simp only [nz_c]; exact g0)) (by first | exact g1 | (simp only [nz_c]; exact g1)) (fun F1 g  => k2 g0 g1 F1 (nz_in0 hB [] (fun j hj hn => g j hj (by simp only [List.mem_cons, List.not_mem_nil, or_false, not_or] at hn; exact trivial)) (List.forall_mem_nil _)) (fun j hj hn => g j hj (by simp only [List.mem_cons, List.not_mem_nil, or_false, not_or] at hn; exact trivial)) )
theorem j2tq_0_p0 {Ls : Nat} {xs : Nat → Int32} {d : Nat} {Q : Option Value → jm_h → Prop} (hd : 2 ≤ d) (F : Nat → sy_d) (X1 X2 : List jm_c) (hB : iv_in F iv_B0)
    (h0 : (sy_i F 82).toInt < 1)
    (k : ∀ F1 : Nat → sy_d, (∀ j, j < 82 → True → F1 j = F j) → Q (some (.int (((-1) : Int32)))) (sy_dh F1 X1 X2 (iv_H 2))) :
    hd_W Ls xs d jm_M108 Q (0, sy_dL F [some (.inl (.ref 8)), some (.inr (.inl 82)), some (.inr (.inl 83))], sy_dS F [], sy_dh F X1 X2 (iv_H 2), 0, 0) := by
  refine hd_ret (s := 2) (nv := 84) (v := some (.inl (.int (-1)))) (uh := hd_ov (iv_id 0 iv_B0) []) (f := true) (sp := []) (d0 := 1) (O := [true]) (T := []) (P := [(2, .inr (.inl 82), .inl (.int 1))]) jm_ok108 (by decide +kernel) (by decide +kernel) hd F X1 X2 (fun F' hF hs => ?_)
  have b82 := hd_b (F := F) (F' := F') (k := 82) (hF 82 (by decide))
  have hB' : iv_in F' iv_B0 := iv_in_eq hB (fun j hj => hF j (Nat.lt_of_lt_of_le hj (by decide +kernel)))
  refine ⟨List.forall_mem_cons.mpr ⟨hd_p2 b82 rfl (by have hc : ((1) : Int32).toInt = 1 := (by decide); omega), fun _ h => absurd h List.not_mem_nil⟩, ?_⟩
  refine k _ ?_
  · exact fun j hj _ => (hd_keep hB' (Nat.lt_of_lt_of_le hj (by decide +kernel)) (by simp)).trans (hF j (Nat.lt_of_lt_of_le hj (by decide)))
theorem j2tq_0_p1 {Ls : Nat} {xs : Nat → Int32} {d : Nat} {Q : Option Value → jm_h → Prop} (hd : 2 ≤ d) (F : Nat → sy_d) (X1 X2 : List jm_c) (hB : iv_in F iv_B0)
    (h0 : 1 ≤ (sy_i F 82).toInt)
    (h1 : 9 < (sy_i F 82).toInt)
    (k : ∀ F1 : Nat → sy_d, (∀ j, j < 82 → True → F1 j = F j) → Q (some (.int (((-1) : Int32)))) (sy_dh F1 X1 X2 (iv_H 2))) :
    hd_W Ls xs d jm_M108 Q (0, sy_dL F [some (.inl (.ref 8)), some (.inr (.inl 82)), some (.inr (.inl 83))], sy_dS F [], sy_dh F X1 X2 (iv_H 2), 0, 0) := by
  refine hd_ret (s := 2) (nv := 84) (v := some (.inl (.int (-1)))) (uh := hd_ov (iv_id 0 iv_B0) []) (f := true) (sp := []) (d0 := 1) (O := [false, true]) (T := []) (P := [(3, .inr (.inl 82), .inl (.int 1)), (2, .inl (.int 9), .inr (.inl 82))]) jm_ok108 (by decide +kernel) (by decide +kernel) hd F X1 X2 (fun F' hF hs => ?_)
  have b82 := hd_b (F := F) (F' := F') (k := 82) (hF 82 (by decide))
  have hB' : iv_in F' iv_B0 := iv_in_eq hB (fun j hj => hF j (Nat.lt_of_lt_of_le hj (by decide +kernel)))
  refine ⟨List.forall_mem_cons.mpr ⟨hd_p3 b82 rfl (by have hc : ((1) : Int32).toInt = 1 := (by decide); omega), List.forall_mem_cons.mpr ⟨hd_p2 rfl b82 (by have hc : ((9) : Int32).toInt = 9 := (by decide); omega), fun _ h => absurd h List.not_mem_nil⟩⟩, ?_⟩
  refine k _ ?_
  · exact fun j hj _ => (hd_keep hB' (Nat.lt_of_lt_of_le hj (by decide +kernel)) (by simp)).trans (hF j (Nat.lt_of_lt_of_le hj (by decide)))
theorem j2tq_0_p2 {Ls : Nat} {xs : Nat → Int32} {d : Nat} {Q : Option Value → jm_h → Prop} (hd : 2 ≤ d) (F : Nat → sy_d) (X1 X2 : List jm_c) (hB : iv_in F iv_B0)
    (h0 : 1 ≤ (sy_i F 82).toInt)
    (h1 : (sy_i F 82).toInt ≤ 9)
    (h2 : (sy_i F 83).toInt < 0)
    (k : ∀ F1 : Nat → sy_d, (∀ j, j < 82 → True → F1 j = F j) → Q (some (.int (((-1) : Int32)))) (sy_dh F1 X1 X2 (iv_H 2))) :
    hd_W Ls xs d jm_M108 Q (0, sy_dL F [some (.inl (.ref 8)), some (.inr (.inl 82)), some (.inr (.inl 83))], sy_dS F [], sy_dh F X1 X2 (iv_H 2), 0, 0) := by
  refine hd_ret (s := 2) (nv := 84) (v := some (.inl (.int (-1)))) (uh := hd_ov (iv_id 0 iv_B0) []) (f := true) (sp := []) (d0 := 1) (O := [false, false, true]) (T := []) (P := [(3, .inr (.inl 82), .inl (.int 1)), (3, .inl (.int 9), .inr (.inl 82)), (2, .inr (.inl 83), .inl (.int 0))]) jm_ok108 (by decide +kernel) (by decide +kernel) hd F X1 X2 (fun F' hF hs => ?_)
  have b82 := hd_b (F := F) (F' := F') (k := 82) (hF 82 (by decide))
  have b83 := hd_b (F := F) (F' := F') (k := 83) (hF 83 (by decide))
  have hB' : iv_in F' iv_B0 := iv_in_eq hB (fun j hj => hF j (Nat.lt_of_lt_of_le hj (by decide +kernel)))
  refine ⟨List.forall_mem_cons.mpr ⟨hd_p3 b82 rfl (by have hc : ((1) : Int32).toInt = 1 := (by decide); omega), List.forall_mem_cons.mpr ⟨hd_p3 rfl b82 (by have hc : ((9) : Int32).toInt = 9 := (by decide); omega), List.forall_mem_cons.mpr ⟨hd_p2 b83 rfl (by have hc : ((0) : Int32).toInt = 0 := (by decide); omega), fun _ h => absurd h List.not_mem_nil⟩⟩⟩, ?_⟩
  refine k _ ?_
  · exact fun j hj _ => (hd_keep hB' (Nat.lt_of_lt_of_le hj (by decide +kernel)) (by simp)).trans (hF j (Nat.lt_of_lt_of_le hj (by decide)))
theorem j2tq_0_p3 {Ls : Nat} {xs : Nat → Int32} {d : Nat} {Q : Option Value → jm_h → Prop} (hd : 2 ≤ d) (F : Nat → sy_d) (X1 X2 : List jm_c) (hB : iv_in F iv_B0)
    (h0 : 1 ≤ (sy_i F 82).toInt)
    (h1 : (sy_i F 82).toInt ≤ 9)
    (h2 : 0 ≤ (sy_i F 83).toInt)
    (h3 : 9 < (sy_i F 83).toInt)
    (k : ∀ F1 : Nat → sy_d, (∀ j, j < 82 → True → F1 j = F j) → Q (some (.int (((-1) : Int32)))) (sy_dh F1 X1 X2 (iv_H 2))) :
    hd_W Ls xs d jm_M108 Q (0, sy_dL F [some (.inl (.ref 8)), some (.inr (.inl 82)), some (.inr (.inl 83))], sy_dS F [], sy_dh F X1 X2 (iv_H 2), 0, 0) := by
  refine hd_ret (s := 2) (nv := 84) (v := some (.inl (.int (-1)))) (uh := hd_ov (iv_id 0 iv_B0) []) (f := true) (sp := []) (d0 := 1) (O := [false, false, false, true]) (T := []) (P := [(3, .inr (.inl 82), .inl (.int 1)), (3, .inl (.int 9), .inr (.inl 82)), (3, .inr (.inl 83), .inl (.int 0)), (2, .inl (.int 9), .inr (.inl 83))]) jm_ok108 (by decide +kernel) (by decide +kernel) hd F X1 X2 (fun F' hF hs => ?_)
  have b82 := hd_b (F := F) (F' := F') (k := 82) (hF 82 (by decide))
  have b83 := hd_b (F := F) (F' := F') (k := 83) (hF 83 (by decide))
  have hB' : iv_in F' iv_B0 := iv_in_eq hB (fun j hj => hF j (Nat.lt_of_lt_of_le hj (by decide +kernel)))
  refine ⟨List.forall_mem_cons.mpr ⟨hd_p3 b82 rfl (by have hc : ((1) : Int32).toInt = 1 := (by decide); omega), List.forall_mem_cons.mpr ⟨hd_p3 rfl b82 (by have hc : ((9) : Int32).toInt = 9 := (by decide); omega), List.forall_mem_cons.mpr ⟨hd_p3 b83 rfl (by have hc : ((0) : Int32).toInt = 0 := (by decide); omega), List.forall_mem_cons.mpr ⟨hd_p2 rfl b83 (by have hc : ((9) : Int32).toInt = 9 := (by decide); omega), fun _ h => absurd h List.not_mem_nil⟩⟩⟩⟩, ?_⟩
  refine k _ ?_
  · exact fun j hj _ => (hd_keep hB' (Nat.lt_of_lt_of_le hj (by decide +kernel)) (by simp)).trans (hF j (Nat.lt_of_lt_of_le hj (by decide)))
theorem j2tq_0_p4 {Ls : Nat} {xs : Nat → Int32} {d : Nat} {Q : Option Value → jm_h → Prop} (hd : 2 ≤ d) (F : Nat → sy_d) (X1 X2 : List jm_c) (hB : iv_in F iv_B0)
    (h0 : 1 ≤ (sy_i F 82).toInt)
    (h1 : (sy_i F 82).toInt ≤ 9)
    (h2 : 0 ≤ (sy_i F 83).toInt)
    (h3 : (sy_i F 83).toInt ≤ 9)
    (h4 : (sy_i F 79).toInt < 7)
    (h5 : 0 ≤ (sy_i F 79).toInt ∧ (sy_i F 79).toInt < 7)
    (h6 : 0 ≤ (sy_i F 79).toInt ∧ (sy_i F 79).toInt < 7)
    (k : ∀ F1 : Nat → sy_d, (∀ j, j < 82 → j ≠ 79 ∧ j ≠ 80 ∧ j ≠ 81 → F1 j = F j) → F1 79 = .inl (.int ((sy_i F 79) + ((1 : Int32)))) → F1 80 = .inr (.inl (jm_upd (sy_ai F 80) (sy_i F 79).toNatClampNeg (sy_i F 82))) → F1 81 = .inr (.inl (jm_upd (sy_ai F 81) (sy_i F 79).toNatClampNeg (sy_i F 83))) → Q (some (.int (((sy_i F 79) + ((1 : Int32))) - ((1 : Int32))))) (sy_dh F1 X1 X2 (iv_H 2))) :
    hd_W Ls xs d jm_M108 Q (0, sy_dL F [some (.inl (.ref 8)), some (.inr (.inl 82)), some (.inr (.inl 83))], sy_dS F [], sy_dh F X1 X2 (iv_H 2), 0, 0) := by
  refine hd_ret (s := 2) (nv := 84) (v := some (.inr (.inl 87))) (uh := hd_ov (iv_id 0 iv_B0) [(79, .inl (.inr (.inl 86))), (80, .inr (.inr (.inl 84))), (81, .inr (.inr (.inl 85)))]) (f := true) (sp := []) (d0 := 1) (O := [false, false, false, false, true]) (T := [(40, [.inr (.inl 79), .inr (.inl 82)], [.inr (.inl 80)]), (40, [.inr (.inl 79), .inr (.inl 83)], [.inr (.inl 81)]), (0, [.inr (.inl 79), .inl (.int 1)], []), (1, [.inr (.inl 86), .inl (.int 1)], [])]) (P := [(3, .inr (.inl 82), .inl (.int 1)), (3, .inl (.int 9), .inr (.inl 82)), (3, .inr (.inl 83), .inl (.int 0)), (3, .inl (.int 9), .inr (.inl 83)), (2, .inr (.inl 79), .inl (.int 7)), (6, .inr (.inl 79), .inl (.ref 7)), (6, .inr (.inl 79), .inl (.ref 7))]) jm_ok108 (by decide +kernel) (by decide +kernel) hd F X1 X2 (fun F' hF hs => ?_)
  have b82 := hd_b (F := F) (F' := F') (k := 82) (hF 82 (by decide))
  have b83 := hd_b (F := F) (F' := F') (k := 83) (hF 83 (by decide))
  have b79 := hd_b (F := F) (F' := F') (k := 79) (hF 79 (by decide))
  have t86 : sy_dv F' (.inr (.inl 86)) = .int ((sy_i F 79) + ((1 : Int32))) := hd_o (hs 2 _ rfl) b79 rfl rfl
  have a80 := hd_ba (F := F) (F' := F') (k := 80) (hF 80 (by decide))
  have t84 : sy_da F' (.inr (.inl 84)) = .inl (jm_upd (sy_ai F 80) (sy_i F 79).toNatClampNeg (sy_i F 82)) := hd_up (hs 0 _ rfl) b79 b82 a80
  have a81 := hd_ba (F := F) (F' := F') (k := 81) (hF 81 (by decide))
  have t85 : sy_da F' (.inr (.inl 85)) = .inl (jm_upd (sy_ai F 81) (sy_i F 79).toNatClampNeg (sy_i F 83)) := hd_up (hs 1 _ rfl) b79 b83 a81
  have t87 : sy_dv F' (.inr (.inl 87)) = .int (((sy_i F 79) + ((1 : Int32))) - ((1 : Int32))) := hd_o (hs 3 _ rfl) t86 rfl rfl
  have hB' : iv_in F' iv_B0 := iv_in_eq hB (fun j hj => hF j (Nat.lt_of_lt_of_le hj (by decide +kernel)))
  have hk := k (sy_cm F' (hd_ov (iv_id 0 iv_B0) [(79, .inl (.inr (.inl 86))), (80, .inr (.inr (.inl 84))), (81, .inr (.inr (.inl 85)))] ++ [])) (fun j hj hn => (hd_keep hB' (Nat.lt_of_lt_of_le hj (by decide +kernel)) (by simp; omega)).trans (hF j (Nat.lt_of_lt_of_le hj (by decide)))) (hd_gi (x := .inr (.inl 86)) (by decide +kernel) t86) (hd_ga (a := .inr (.inl 84)) (by decide +kernel) t84) (hd_ga (a := .inr (.inl 85)) (by decide +kernel) t85)
  refine ⟨List.forall_mem_cons.mpr ⟨hd_p3 b82 rfl (by have hc : ((1) : Int32).toInt = 1 := (by decide); omega), List.forall_mem_cons.mpr ⟨hd_p3 rfl b82 (by have hc : ((9) : Int32).toInt = 9 := (by decide); omega), List.forall_mem_cons.mpr ⟨hd_p3 b83 rfl (by have hc : ((0) : Int32).toInt = 0 := (by decide); omega), List.forall_mem_cons.mpr ⟨hd_p3 rfl b83 (by have hc : ((9) : Int32).toInt = 9 := (by decide); omega), List.forall_mem_cons.mpr ⟨hd_p2 b79 rfl (by have hc : ((7) : Int32).toInt = 7 := (by decide); omega), List.forall_mem_cons.mpr ⟨hd_pb b79 (by first | exact h5 | exact h5), List.forall_mem_cons.mpr ⟨hd_pb b79 (by first | exact h6 | exact h6), fun _ h => absurd h List.not_mem_nil⟩⟩⟩⟩⟩⟩⟩, ?_⟩
  show Q (some (sy_dv F' (.inr (.inl 87)))) _
  rw [t87]
  exact hk
theorem j2tq_0_p5 {Ls : Nat} {xs : Nat → Int32} {d : Nat} {Q : Option Value → jm_h → Prop} (hd : 2 ≤ d) (F : Nat → sy_d) (X1 X2 : List jm_c) (hB : iv_in F iv_B0)
    (h0 : 1 ≤ (sy_i F 82).toInt)
    (h1 : (sy_i F 82).toInt ≤ 9)
    (h2 : 0 ≤ (sy_i F 83).toInt)
    (h3 : (sy_i F 83).toInt ≤ 9)
    (h4 : 7 ≤ (sy_i F 79).toInt)
    (k : ∀ F1 : Nat → sy_d, (∀ j, j < 82 → True → F1 j = F j) → Q (some (.int (((-1) : Int32)))) (sy_dh F1 X1 X2 (iv_H 2))) :
    hd_W Ls xs d jm_M108 Q (0, sy_dL F [some (.inl (.ref 8)), some (.inr (.inl 82)), some (.inr (.inl 83))], sy_dS F [], sy_dh F X1 X2 (iv_H 2), 0, 0) := by
  refine hd_ret (s := 2) (nv := 84) (v := some (.inl (.int (-1)))) (uh := hd_ov (iv_id 0 iv_B0) []) (f := true) (sp := []) (d0 := 1) (O := [false, false, false, false, false]) (T := []) (P := [(3, .inr (.inl 82), .inl (.int 1)), (3, .inl (.int 9), .inr (.inl 82)), (3, .inr (.inl 83), .inl (.int 0)), (3, .inl (.int 9), .inr (.inl 83)), (3, .inr (.inl 79), .inl (.int 7))]) jm_ok108 (by decide +kernel) (by decide +kernel) hd F X1 X2 (fun F' hF hs => ?_)
  have b82 := hd_b (F := F) (F' := F') (k := 82) (hF 82 (by decide))
  have b83 := hd_b (F := F) (F' := F') (k := 83) (hF 83 (by decide))
  have b79 := hd_b (F := F) (F' := F') (k := 79) (hF 79 (by decide))
  have hB' : iv_in F' iv_B0 := iv_in_eq hB (fun j hj => hF j (Nat.lt_of_lt_of_le hj (by decide +kernel)))
  refine ⟨List.forall_mem_cons.mpr ⟨hd_p3 b82 rfl (by have hc : ((1) : Int32).toInt = 1 := (by decide); omega), List.forall_mem_cons.mpr ⟨hd_p3 rfl b82 (by have hc : ((9) : Int32).toInt = 9 := (by decide); omega), List.forall_mem_cons.mpr ⟨hd_p3 b83 rfl (by have hc : ((0) : Int32).toInt = 0 := (by decide); omega), List.forall_mem_cons.mpr ⟨hd_p3 rfl b83 (by have hc : ((9) : Int32).toInt = 9 := (by decide); omega), List.forall_mem_cons.mpr ⟨hd_p3 b79 rfl (by have hc : ((7) : Int32).toInt = 7 := (by decide); omega), fun _ h => absurd h List.not_mem_nil⟩⟩⟩⟩⟩, ?_⟩
  refine k _ ?_
  · exact fun j hj _ => (hd_keep hB' (Nat.lt_of_lt_of_le hj (by decide +kernel)) (by simp)).trans (hF j (Nat.lt_of_lt_of_le hj (by decide)))
theorem j2tq_0 {Ls : Nat} {xs : Nat → Int32} {d : Nat} {Q : Option Value → jm_h → Prop} (hd : 2 ≤ d) (F : Nat → sy_d) (X1 X2 : List jm_c) (hB : iv_in F iv_B0)
    (k0 : (sy_i F 82).toInt < 1 → ∀ F1 : Nat → sy_d, iv_in F1 iv_B0 → (∀ j, j < 82 → j ∉ ([] : List Nat) → F1 j = F j) → Q (some (.int (((-1) : Int32)))) (sy_dh F1 X1 X2 (iv_H 2)))
    (k1 : 1 ≤ (sy_i F 82).toInt → 9 < (sy_i F 82).toInt → ∀ F1 : Nat → sy_d, iv_in F1 iv_B0 → (∀ j, j < 82 → j ∉ ([] : List Nat) → F1 j = F j) → Q (some (.int (((-1) : Int32)))) (sy_dh F1 X1 X2 (iv_H 2)))
    (k2 : 1 ≤ (sy_i F 82).toInt → (sy_i F 82).toInt ≤ 9 → (sy_i F 83).toInt < 0 → ∀ F1 : Nat → sy_d, iv_in F1 iv_B0 → (∀ j, j < 82 → j ∉ ([] : List Nat) → F1 j = F j) → Q (some (.int (((-1) : Int32)))) (sy_dh F1 X1 X2 (iv_H 2)))
    (k3 : 1 ≤ (sy_i F 82).toInt → (sy_i F 82).toInt ≤ 9 → 0 ≤ (sy_i F 83).toInt → 9 < (sy_i F 83).toInt → ∀ F1 : Nat → sy_d, iv_in F1 iv_B0 → (∀ j, j < 82 → j ∉ ([] : List Nat) → F1 j = F j) → Q (some (.int (((-1) : Int32)))) (sy_dh F1 X1 X2 (iv_H 2)))
    (k4 : 1 ≤ (sy_i F 82).toInt → (sy_i F 82).toInt ≤ 9 → 0 ≤ (sy_i F 83).toInt → (sy_i F 83).toInt ≤ 9 → (sy_i F 79).toInt < 7 → ∀ F1 : Nat → sy_d, iv_in F1 iv_B0 → (∀ j, j < 82 → j ∉ ([79, 80, 81] : List Nat) → F1 j = F j) → (sy_i F1 79).toInt = ((sy_i F 79).toInt + 1) → sy_i F1 79 = (sy_i F 79) + ((1 : Int32)) → sy_ai F1 80 = jm_upd (sy_ai F 80) ((sy_i F 79).toInt).toNat (sy_i F 82) → sy_ai F1 81 = jm_upd (sy_ai F 81) ((sy_i F 79).toInt).toNat (sy_i F 83) → Q (some (.int (((sy_i F 79) + ((1 : Int32))) - ((1 : Int32))))) (sy_dh F1 X1 X2 (iv_H 2)))
    (k5 : 1 ≤ (sy_i F 82).toInt → (sy_i F 82).toInt ≤ 9 → 0 ≤ (sy_i F 83).toInt → (sy_i F 83).toInt ≤ 9 → 7 ≤ (sy_i F 79).toInt → ∀ F1 : Nat → sy_d, iv_in F1 iv_B0 → (∀ j, j < 82 → j ∉ ([] : List Nat) → F1 j = F j) → Q (some (.int (((-1) : Int32)))) (sy_dh F1 X1 X2 (iv_H 2))) :
    hd_W Ls xs d jm_M108 Q (0, sy_dL F [some (.inl (.ref 8)), some (.inr (.inl 82)), some (.inr (.inl 83))], sy_dS F [], sy_dh F X1 X2 (iv_H 2), 0, 0) := by
  by_cases g0 : (sy_i F 82).toInt < 1
  · exact j2tq_0_p0 hd F X1 X2 hB (by first | exact g0 | (simp only [nz_c]; exact g0)) (fun F1 g  => k0 g0 F1 (nz_in0 hB [] (fun j hj hn => g j hj (by simp only [List.mem_cons, List.not_mem_nil, or_false, not_or] at hn; exact trivial)) (List.forall_mem_nil _)) (fun j hj hn => g j hj (by simp only [List.mem_cons, List.not_mem_nil, or_false, not_or] at hn; exact trivial)) )
  replace g0 : 1 ≤ (sy_i F 82).toInt := by omega
  by_cases g1 : 9 < (sy_i F 82).toInt
  · exact j2tq_0_p1 hd F X1 X2 hB (by first | exact g0 | (simp only [nz_c]; exact g0)) (by first | exact g1 | (simp only [nz_c]; exact g1)) (fun F1 g  => k1 g0 g1 F1 (nz_in0 hB [] (fun j hj hn => g j hj (by simp only [List.mem_cons, List.not_mem_nil, or_false, not_or] at hn; exact trivial)) (List.forall_mem_nil _)) (fun j hj hn => g j hj (by simp only [List.mem_cons, List.not_mem_nil, or_false, not_or] at hn; exact trivial)) )
  replace g1 : (sy_i F 82).toInt ≤ 9 := by omega
  by_cases g2 : (sy_i F 83).toInt < 0
  · exact j2tq_0_p2 hd F X1 X2 hB (by first | exact g0 | (simp only [nz_c]; exact g0)) (by first | exact g1 | (simp only [nz_c]; exact g1)) (by first | exact g2 | (simp only [nz_c]; exact g2)) (fun F1 g  => k2 g0 g1 g2 F1 (nz_in0 hB [] (fun j hj hn => g j hj (by simp only [List.mem_cons, List.not_mem_nil, or_false, not_or] at hn; exact trivial)) (List.forall_mem_nil _)) (fun j hj hn => g j hj (by simp only [List.mem_cons, List.not_mem_nil, or_false, not_or] at hn; exact trivial)) )
  replace g2 : 0 ≤ (sy_i F 83).toInt := by omega
  by_cases g3 : 9 < (sy_i F 83).toInt
  · exact j2tq_0_p3 hd F X1 X2 hB (by first | exact g0 | (simp only [nz_c]; exact g0)) (by first | exact g1 | (simp only [nz_c]; exact g1)) (by first | exact g2 | (simp only [nz_c]; exact g2)) (by first | exact g3 | (simp only [nz_c]; exact g3)) (fun F1 g  => k3 g0 g1 g2 g3 F1 (nz_in0 hB [] (fun j hj hn => g j hj (by simp only [List.mem_cons, List.not_mem_nil, or_false, not_or] at hn; exact trivial)) (List.forall_mem_nil _)) (fun j hj hn => g j hj (by simp only [List.mem_cons, List.not_mem_nil, or_false, not_or] at hn; exact trivial)) )
  replace g3 : (sy_i F 83).toInt ≤ 9 := by omega
  by_cases g4 : (sy_i F 79).toInt < 7
  · have c79 := nz_bx hB (k := 79) (lo := 0) (hi := 7) rfl
    have n86 : nzI ((sy_i F 79) + ((1 : Int32))) (((sy_i F 79).toInt + 1)) := nz_add (rfl : (sy_i F 79).toInt = (sy_i F 79).toInt) (by decide : ((1 : Int32)).toInt = 1) (by omega) (by omega)
    have w84 : jm_upd (sy_ai F 80) (sy_i F 79).toNatClampNeg (sy_i F 82) = jm_upd (sy_ai F 80) ((sy_i F 79).toInt).toNat (sy_i F 82) := by simp only [nz_c]
    have w85 : jm_upd (sy_ai F 81) (sy_i F 79).toNatClampNeg (sy_i F 83) = jm_upd (sy_ai F 81) ((sy_i F 79).toInt).toNat (sy_i F 83) := by simp only [nz_c]
    exact j2tq_0_p4 hd F X1 X2 hB (by first | exact g0 | (simp only [nz_c]; exact g0)) (by first | exact g1 | (simp only [nz_c]; exact g1)) (by first | exact g2 | (simp only [nz_c]; exact g2)) (by first | exact g3 | (simp only [nz_c]; exact g3)) (by first | exact g4 | (simp only [nz_c]; exact g4)) (by first | exact ⟨by omega, by omega⟩ | (simp only [nz_c]; exact ⟨by omega, by omega⟩)) (by first | exact ⟨by omega, by omega⟩ | (simp only [nz_c]; exact ⟨by omega, by omega⟩)) (fun F1 g e79 e80 e81 => by rw [(rfl : ((sy_i F 79) + ((1 : Int32))) - ((1 : Int32)) = ((sy_i F 79) + ((1 : Int32))) - ((1 : Int32)))]; exact k4 g0 g1 g2 g3 g4 F1 (nz_in0 hB [79, 80, 81] (fun j hj hn => g j hj (by simp only [List.mem_cons, List.not_mem_nil, or_false, not_or] at hn; omega)) (List.forall_mem_cons.mpr ⟨fun t ht => (Option.some.inj ht) ▸ (nz_hi e79 (nzE n86) (by omega) (by omega)), List.forall_mem_cons.mpr ⟨fun t ht => (Option.some.inj ht) ▸ (nz_hz2 e80), List.forall_mem_cons.mpr ⟨fun t ht => (Option.some.inj ht) ▸ (nz_hz2 e81), List.forall_mem_nil _⟩⟩⟩)) (fun j hj hn => g j hj (by simp only [List.mem_cons, List.not_mem_nil, or_false, not_or] at hn; omega)) ((congrArg Int32.toInt (zz_i e79)).trans (nzE n86)) ((zz_i e79).trans (rfl : (sy_i F 79) + ((1 : Int32)) = (sy_i F 79) + ((1 : Int32)))) ((zz_ai e80).trans w84) ((zz_ai e81).trans w85))
  replace g4 : 7 ≤ (sy_i F 79).toInt := by omega
  have c79 := nz_bx hB (k := 79) (lo := 0) (hi := 7) rfl
  exact j2tq_0_p5 hd F X1 X2 hB (by first | exact g0 | (simp only [nz_c]; exact g0)) (by first | exact g1 | (simp only [nz_c]; exact g1)) (by first | exact g2 | (simp only [nz_c]; exact g2)) (by first | exact g3 | (simp only [nz_c]; exact g3)) (by first | exact g4 | (simp only [nz_c]; exact g4)) (fun F1 g  => k5 g0 g1 g2 g3 g4 F1 (nz_in0 hB [] (fun j hj hn => g j hj (by simp only [List.mem_cons, List.not_mem_nil, or_false, not_or] at hn; exact trivial)) (List.forall_mem_nil _)) (fun j hj hn => g j hj (by simp only [List.mem_cons, List.not_mem_nil, or_false, not_or] at hn; exact trivial)) )
end
section
/-! ===== prop, shake, hours on the class's side (shape 2) ===== -/
section SH2
variable {Ls : Nat} {xs : Nat → Int32} {T : tX} {g : gS} (F : Nat → sy_d) (X1 X2 : List jm_c)
theorem j2pr_W (hC : xC 18 T F) (hg : gC 50 (nfS T) (nbS T) F g) {U : List gS} (hT : trC (nfS T) (nbS T) F U) {f w : Int32} (hf : 0 ≤ f.toInt ∧ f.toInt < nfS T) (hw : 0 ≤ w.toInt ∧ w.toInt ≤ 1) {F1 : Nat → sy_d} (q1 : qC [] F F1) (j82 : sy_i F1 82 = f) (j83 : sy_i F1 83 = w) :
    hd_W Ls xs 3 jm_M89 (pI 2 X1 X2 (fun x F' => x = 1 ∧ qC [57, 74, 75, 76] F F' ∧ gC 50 (nfS T) (nbS T) F' (upS g 5 f.toInt.toNat w) ∧ trC (nfS T) (nbS T) F' (rmS g U))) (53, sy_dL F1 [some (.inl (.ref 8)), some (.inr (.inl 82)), none, some (.inr (.inl 83))], sy_dS F1 [.inl (.ref 46), .inl (.ref 66)], sy_dh F1 X1 X2 (iv_H 2), 0, 0) := by
  have l7 : nfS T ≤ 7 := hC.2.2.1.1.1
  have l4 : nbS T ≤ 4 := hC.2.2.1.1.2.1
  have f1 : ∀ j, j < 82 → F1 j = F j := fun j hj => q1.2 j hj (by simp)
  refine hd_calV (R := fun F' => qC [74, 75, 76] F1 F' ∧ trC (nfS T) (nbS T) F' (rmS g U)) (nh := 82) (nv := 84) (s := 2) (s1 := 2) (d1 := 2) (M1 := jm_M78) (As := [.inl (.ref 66), .inl (.ref 46)]) (rest := []) jm_ok89 rfl rfl (by decide) (by decide +kernel) (j2re_V F1 X1 X2 q1.1 l7 l4 (gC_eq hg (fun j h1 h2 => f1 j (by omega))) (trC_eq hT (f1 74 (by decide)) (f1 75 (by decide)) (f1 76 (by decide)))) (fun F3 F' hR p1 p2 => ?_)
  obtain ⟨r1, r2⟩ := hR
  have r1' : qC [74, 75, 76] F1 F3 := qC_dst r1 p1
  have k82 : sy_i F3 82 = f := (eI (p2 82 (by decide) (by decide))).trans j82
  have k83 : sy_i F3 83 = w := (eI (p2 83 (by decide) (by decide))).trans j83
  refine j2pr_56 (by decide) F3 X1 X2 r1'.1 (by rw [k82]; omega) (by rw [k83]; omega) ?_
  intro F4 hb4 g4 a57
  rw [k82, k83] at a57
  have f3 : ∀ j, 50 ≤ j → j < 62 → F3 j = F j := fun j h1 h2 => (r1'.2 j (by omega) (by simp; omega)).trans (f1 j (by omega))
  exact ⟨_, F4, rfl, rfl, rfl, qq_on (qq_trans (qq_up q1 (by decide)) (qq_up r1' (by decide))) hb4 g4 (by decide), gC_up (gC_eq hg (fun j h1 h2 => f3 j h1 (by omega))) (by decide) rfl a57 (fun j h1 h2 h3 => g4 j (by omega) (by intro z; simp at z; exact h3 z)), trC_eq r2 ((g4 74 (by decide) (by decide)).trans (p1 74 (by decide))) ((g4 75 (by decide) (by decide)).trans (p1 75 (by decide))) ((g4 76 (by decide) (by decide)).trans (p1 76 (by decide)))⟩
theorem j2pr_V (hC : xC 18 T F) (hg : gC 50 (nfS T) (nbS T) F g) {U : List gS} (hT : trC (nfS T) (nbS T) F U) (f v : Int32) (hv : 0 ≤ v.toInt ∧ v.toInt ≤ 1) : jm_T Ls xs 3 jm_M89 [.ref 8, .int f, .int v] (sy_dh F X1 X2 (iv_H 2)) 0 0 (pI 2 X1 X2 (fun x F' => (¬ (0 ≤ f.toInt ∧ f.toInt < nfS T ∧ (g 2 f.toInt.toNat).toInt = 0 ∧ g 5 f.toInt.toNat ≠ v) → x = 0 ∧ qC [] F F') ∧ (0 ≤ f.toInt ∧ f.toInt < nfS T ∧ (g 2 f.toInt.toNat).toInt = 0 ∧ g 5 f.toInt.toNat ≠ v → x = 1 ∧ qC [57, 74, 75, 76] F F' ∧ gC 50 (nfS T) (nbS T) F' (upS g 5 f.toInt.toNat v) ∧ trC (nfS T) (nbS T) F' (rmS g U)))) := by
  have l7 : nfS T ≤ 7 := hC.2.2.1.1.1
  have enf : (sy_i F 18).toInt = (nfS T : Int) := hC.2.1.1.1
  refine C_T (by decide) [f, v] [.inl (.ref 8), .inr (.inl 82), .inr (.inl 83)] jm_ok89 (by decide) rfl (fun F0 k0 ki => ?_)
  have i82 : sy_i F0 82 = f := ki 0
  have i83 : sy_i F0 83 = v := ki 1
  have enf0 : (sy_i F0 18).toInt = (nfS T : Int) := by rw [nz_fi (k0 18 (by decide))]; exact enf
  have rd : f.toInt.toNat < nfS T → ((sy_ai F0 54).getD f.toInt.toNat 0) = g 2 f.toInt.toNat := fun h => by
    rw [nz_fa (k0 54 (by decide))]
    exact hg.1 2 _ (by decide) (vF (by decide) h)
  have rp : f.toInt.toNat < nfS T → ((sy_ai F0 57).getD f.toInt.toNat 0) = g 5 f.toInt.toNat := fun h => by
    rw [nz_fa (k0 57 (by decide))]
    exact hg.1 5 _ (by decide) (vF (by decide) h)
  have no : ∀ F1 : Nat → sy_d, iv_in F1 iv_B0 → (∀ j, j < 82 → j ∉ ([] : List Nat) → F1 j = F0 j) → ¬ (0 ≤ f.toInt ∧ f.toInt < nfS T ∧ (g 2 f.toInt.toNat).toInt = 0 ∧ g 5 f.toInt.toNat ≠ v) → pI 2 X1 X2 (fun x F' => (¬ (0 ≤ f.toInt ∧ f.toInt < nfS T ∧ (g 2 f.toInt.toNat).toInt = 0 ∧ g 5 f.toInt.toNat ≠ v) → x = 0 ∧ qC [] F F') ∧ (0 ≤ f.toInt ∧ f.toInt < nfS T ∧ (g 2 f.toInt.toNat).toInt = 0 ∧ g 5 f.toInt.toNat ≠ v → x = 1 ∧ qC [57, 74, 75, 76] F F' ∧ gC 50 (nfS T) (nbS T) F' (upS g 5 f.toInt.toNat v) ∧ trC (nfS T) (nbS T) F' (rmS g U))) (some (.int (0 : Int32))) (sy_dh F1 X1 X2 (iv_H 2)) := fun F1 hb1 gg h => ⟨_, F1, rfl, rfl, fun _ => ⟨rfl, qq_src (qq_mk hb1 gg (by decide)) k0⟩, fun z => absurd z h⟩
  have yes : ∀ (F1 : Nat → sy_d) (w : Int32), w = v → iv_in F1 iv_B0 → (∀ j, j < 82 → j ∉ ([] : List Nat) → F1 j = F0 j) → sy_i F1 82 = sy_i F0 82 → sy_i F1 83 = w → (0 ≤ f.toInt ∧ f.toInt < nfS T ∧ (g 2 f.toInt.toNat).toInt = 0 ∧ g 5 f.toInt.toNat ≠ v) → hd_W Ls xs 3 jm_M89 (pI 2 X1 X2 (fun x F' => (¬ (0 ≤ f.toInt ∧ f.toInt < nfS T ∧ (g 2 f.toInt.toNat).toInt = 0 ∧ g 5 f.toInt.toNat ≠ v) → x = 0 ∧ qC [] F F') ∧ (0 ≤ f.toInt ∧ f.toInt < nfS T ∧ (g 2 f.toInt.toNat).toInt = 0 ∧ g 5 f.toInt.toNat ≠ v → x = 1 ∧ qC [57, 74, 75, 76] F F' ∧ gC 50 (nfS T) (nbS T) F' (upS g 5 f.toInt.toNat v) ∧ trC (nfS T) (nbS T) F' (rmS g U)))) (53, sy_dL F1 [some (.inl (.ref 8)), some (.inr (.inl 82)), none, some (.inr (.inl 83))], sy_dS F1 [.inl (.ref 46), .inl (.ref 66)], sy_dh F1 X1 X2 (iv_H 2), 0, 0) := fun F1 w ew hb1 gg j82 j83 h => by
    subst ew
    refine hd_mono (j2pr_W F X1 X2 hC hg hT ⟨h.1, h.2.1⟩ hv (qq_src (qq_mk hb1 gg (by decide)) k0) (j82.trans i82) j83) ?_
    rintro x G ⟨r, F', e1, e2, e3⟩
    exact ⟨r, F', e1, e2, fun z => absurd h z, fun _ => e3⟩
  have z0 : (0 : Int32).toInt = 0 := by decide
  have z1 : (1 : Int32).toInt = 1 := by decide
  refine j2pr_0 (by decide) F0 X1 X2 (hd_iveq0 hC.1 k0) ?_ ?_ ?_ ?_ ?_ ?_ ?_ ?_ ?_ ?_
  · intro cv c0 F1 hb1 gg
    rw [i82] at c0
    exact no F1 hb1 gg (fun h => absurd h.1 (by omega))
  · intro cv c0 c1 F1 hb1 gg
    rw [i82] at c0 c1
    exact no F1 hb1 gg (fun h => absurd h.2.1 (by omega))
  · intro cv c0 c1 c2 F1 hb1 gg
    rw [i82] at c0 c1 c2
    rw [rd (by omega)] at c2
    exact no F1 hb1 gg (fun h => c2 h.2.2.1)
  · intro cv c0 c1 c2 c3 F1 hb1 gg e82 j82 e83 j83
    rw [i83] at cv
    rw [i82] at c0 c1 c2 c3
    rw [rd (by omega)] at c2
    rw [rp (by omega)] at c3
    have ev : (0 : Int32) = v := Int32.toInt_inj.mp (by omega)
    exact yes F1 0 ev hb1 gg j82 j83 ⟨c0, by omega, c2, fun z => c3 (by rw [z, ← ev]; exact z0)⟩
  · intro cv c0 c1 c2 c3 F1 hb1 gg
    rw [i83] at cv
    rw [i82] at c0 c1 c2 c3
    rw [rp (by omega)] at c3
    have ev : (0 : Int32) = v := Int32.toInt_inj.mp (by omega)
    exact no F1 hb1 gg (fun h => h.2.2.2 (Int32.toInt_inj.mp (by rw [← ev]; omega)))
  · intro cv c0 F1 hb1 gg
    rw [i82] at c0
    exact no F1 hb1 gg (fun h => absurd h.1 (by omega))
  · intro cv c0 c1 F1 hb1 gg
    rw [i82] at c0 c1
    exact no F1 hb1 gg (fun h => absurd h.2.1 (by omega))
  · intro cv c0 c1 c2 F1 hb1 gg
    rw [i82] at c0 c1 c2
    rw [rd (by omega)] at c2
    exact no F1 hb1 gg (fun h => c2 h.2.2.1)
  · intro cv c0 c1 c2 c3 F1 hb1 gg e82 j82 e83 j83
    rw [i83] at cv
    rw [i82] at c0 c1 c2 c3
    rw [rd (by omega)] at c2
    rw [rp (by omega)] at c3
    have ev : (1 : Int32) = v := Int32.toInt_inj.mp (by omega)
    exact yes F1 1 ev hb1 gg j82 j83 ⟨c0, by omega, c2, fun z => c3 (by rw [z, ← ev]; exact z1)⟩
  · intro cv c0 c1 c2 c3 F1 hb1 gg
    rw [i83] at cv
    rw [i82] at c0 c1 c2 c3
    rw [rp (by omega)] at c3
    have ev : (1 : Int32) = v := Int32.toInt_inj.mp (by omega)
    exact no F1 hb1 gg (fun h => h.2.2.2 (Int32.toInt_inj.mp (by rw [← ev]; omega)))
noncomputable def j2sqP (T : tX) (g : gS) (U : List gS) (f : Nat) (F : Nat → sy_d) (x : Int32) (F' : Nat → sy_d) : Prop := qC [45, 46, 51, 52, 58, 74, 75, 76] F F' ∧ trC (nfS T) (nbS T) F' (rmS g U) ∧ (fdS T g → x = 1 ∧ gC 50 (nfS T) (nbS T) F' (fndS T g f)) ∧ (¬ fdS T g → x = 0 ∧ gC 50 (nfS T) (nbS T) F' (shkS g f))
theorem j2sq_V (hC : xC 18 T F) (hg : gC 50 (nfS T) (nbS T) F g) {U : List gS} (hT : trC (nfS T) (nbS T) F U) (f : Int32) : jm_T Ls xs 6 jm_M90 [.ref 8, .int f] (sy_dh F X1 X2 (iv_H 2)) 0 0 (pI 2 X1 X2 (fun x F' => (¬ (0 ≤ f.toInt ∧ f.toInt < nfS T) → x = -1 ∧ qC [] F F') ∧ (0 ≤ f.toInt ∧ f.toInt < nfS T → (g 2 f.toInt.toNat).toInt ≠ 0 → x = -2 ∧ qC [] F F') ∧ (0 ≤ f.toInt ∧ f.toInt < nfS T → (g 2 f.toInt.toNat).toInt = 0 → j2sqP T g U f.toInt.toNat F x F'))) := by
  have l7 : nfS T ≤ 7 := hC.2.2.1.1.1
  have l4 : nbS T ≤ 4 := hC.2.2.1.1.2.1
  have enf : (sy_i F 18).toInt = (nfS T : Int) := hC.2.1.1.1
  refine C_T (by decide) [f] [.inl (.ref 8), .inr (.inl 82)] jm_ok90 (by decide) rfl (fun F0 k0 ki => ?_)
  have i82 : sy_i F0 82 = f := ki 0
  have enf0 : (sy_i F0 18).toInt = (nfS T : Int) := by rw [nz_fi (k0 18 (by decide))]; exact enf
  have rd : f.toInt.toNat < nfS T → ((sy_ai F0 54).getD f.toInt.toNat 0) = g 2 f.toInt.toNat := fun h => by
    rw [nz_fa (k0 54 (by decide))]
    exact hg.1 2 _ (by decide) (vF (by decide) h)
  refine j2sq_0 (by decide) F0 X1 X2 (hd_iveq0 hC.1 k0) ?_ ?_ ?_ ?_
  · intro c0 F1 hb1 gg
    rw [i82] at c0
    exact ⟨_, F1, rfl, rfl, fun _ => ⟨rfl, qq_src (qq_mk hb1 gg (by decide)) k0⟩, fun h => absurd h.1 (by omega), fun h => absurd h.1 (by omega)⟩
  · intro c0 c1 F1 hb1 gg
    rw [i82] at c0 c1
    exact ⟨_, F1, rfl, rfl, fun _ => ⟨rfl, qq_src (qq_mk hb1 gg (by decide)) k0⟩, fun h => absurd h.2 (by omega), fun h => absurd h.2 (by omega)⟩
  · intro c0 c1 c2 F1 hb1 gg e82 j82
    rw [i82] at c0 c1 c2 j82
    have hlt : f.toInt.toNat < nfS T := by omega
    rw [rd hlt] at c2
    have q1 : qC [] F F1 := qq_src (qq_mk hb1 gg (by decide)) k0
    have f1 : ∀ j, j < 82 → F1 j = F j := fun j hj => q1.2 j hj (by simp)
    refine hd_calV (R := fun F' => qC [74, 75, 76] F1 F' ∧ trC (nfS T) (nbS T) F' (rmS g U)) (nh := 82) (nv := 83) (s := 2) (s1 := 2) (d1 := 2) (M1 := jm_M78) (As := [.inl (.ref 66), .inl (.ref 46)]) (rest := []) jm_ok90 rfl rfl (by decide) (by decide +kernel) (j2re_V F1 X1 X2 hb1 l7 l4 (gC_eq hg (fun j h1 h2 => f1 j (by omega))) (trC_eq hT (f1 74 (by decide)) (f1 75 (by decide)) (f1 76 (by decide)))) (fun F3 F' hR p1 p2 => ?_)
    obtain ⟨r1, r2⟩ := hR
    have r1' : qC [74, 75, 76] F1 F3 := qC_dst r1 p1
    have q3 : qC [74, 75, 76] F F3 := qq_trans (qq_up q1 (by decide)) r1'
    have t3 : trC (nfS T) (nbS T) F3 (rmS g U) := trC_eq r2 (p1 74 (by decide)) (p1 75 (by decide)) (p1 76 (by decide))
    have k82 : sy_i F3 82 = f := (eI (p2 82 (by decide) (by decide))).trans j82
    have g3 : gC 50 (nfS T) (nbS T) F3 g := gC_eq hg (fun j h1 h2 => q3.2 j (by omega) (by simp; omega))
    have sd3 : sy_i F3 22 = Int32.ofInt T.2.2.2.2.1 := (qq_i q3 (by decide) (by decide)).trans (ofi hC.2.1.2.2.2.2.1).symm
    have n3 : sy_i F3 51 = g 9 1 := g3.2 1 (by decide)
    have h3 : sy_i F3 50 = g 9 0 := g3.2 0 (by decide)
    refine j2sq_36 (by decide) F3 X1 X2 r1'.1 (by rw [k82]; omega) ?_
    intro F4 hb4 g4 e51 i51 a58 e82' i82' e83 i83 e84 i84
    rw [k82] at a58
    rw [n3] at i51
    rw [sd3, n3] at i82'
    rw [h3] at i83
    have i82' : sy_i F4 82 = lotS (Int32.ofInt T.2.2.2.2.1) ((1000000 : Int32) + g 9 1) := i82'
    have q4 : qC [51, 58, 74, 75, 76] F F4 := qq_on (qq_up q3 (by decide)) hb4 g4 (by decide)
    have r6 : (sy_ai F3 58).getD f.toInt.toNat 0 = g 6 f.toInt.toNat := g3.1 6 _ (by decide) (vF (by decide) hlt)
    rw [r6] at a58
    have g4' : gC 50 (nfS T) (nbS T) F4 (shkS g f.toInt.toNat) := gC_upn (k := 1) g3 (by decide) rfl (by decide) a58 i51 (fun j h1 h2 h3 h4 => g4 j (by omega) (by intro z; simp at z; rcases z with z | z; exact h4 z; exact h3 z))
    have t4 : trC (nfS T) (nbS T) F4 (rmS g U) := trC_eq t3 (g4 74 (by decide) (by decide)) (g4 75 (by decide) (by decide)) (g4 76 (by decide) (by decide))
    have c4 := xC_q (by decide) hC q4 (by decide)
    refine hd_calI (R := fun x F' => qC [] F4 F' ∧ x = ppS (mkS (shkS g f.toInt.toNat) (0 : Int32).toInt (nfS T))) (nh := 82) (nv := 84) (s := 2) (s1 := 2) (d1 := 2) (M1 := jm_M12) (As := [.inl (.ref 46), .inl (.int 0), .inr (.inl 84)]) (rest := [.inr (.inl 83), .inl (.ref 20), .inl (.ref 38)]) jm_ok90 rfl rfl (by decide) (by decide +kernel) (j2nhm_V F4 X1 X2 c4 g4' 0 _ (by rw [e84, qq_i q3 (j := 18) (by decide) (by decide)]; exact enf)) (fun F5 F6 x hR5 s1 s2 s3 => ?_)
    obtain ⟨u1, u2⟩ := hR5
    have q5 : qC [51, 58, 74, 75, 76] F F5 := qq_trans q4 (qq_up (qC_dst u1 s1) (by decide))
    have c5 := xC_q (by decide) hC q5 (by decide)
    have k84 : sy_i F5 84 = lfS T g := (zz_i s3).trans (u2.trans (lf_shk T g f.toInt.toNat))
    have k83 : sy_i F5 83 = g 9 0 := (eI (s2 83 (by decide) (by decide))).trans i83
    have k82b : sy_i F5 82 = lotS (Int32.ofInt T.2.2.2.2.1) ((1000000 : Int32) + g 9 1) := (eI (s2 82 (by decide) (by decide))).trans i82'
    have f45 : ∀ j, j < 82 → F5 j = F4 j := fun j hj => (s1 j hj).trans (u1.2 j hj (by simp))
    refine hd_calV (R := fun F' => qC [45, 46] F5 F' ∧ v45 F' 2 = sy_i F5 83 ∧ v45 F' 8 = sy_i F5 84 ∧ v45 F' 3 = Int32.ofInt (windT T (sy_i F5 83) (sy_i F5 84))) (nh := 82) (nv := 83) (s := 2) (s1 := 2) (d1 := 5) (M1 := jm_M17) (As := [.inl (.ref 38), .inl (.ref 20), .inr (.inl 83), .inr (.inl 84)]) (rest := []) jm_ok90 rfl rfl (by decide) (by decide +kernel) (j2sh_V F5 X1 X2 c5 _ _) (fun F7 F8 hR7 w1 w2 => ?_)
    obtain ⟨v1, v2, v3, v4⟩ := hR7
    rw [k83] at v2 v4
    rw [k84] at v3 v4
    have v1' : qC [45, 46] F5 F7 := qC_dst v1 w1
    have q7 : qC [45, 46, 51, 52, 58, 74, 75, 76] F F7 := qq_trans (qq_up q5 (by decide)) (qq_up v1' (by decide))
    have e45 : v45 F7 = v45 F8 := by unfold v45; rw [nz_fa (w1 45 (by decide))]
    have k82c : sy_i F7 82 = lotS (Int32.ofInt T.2.2.2.2.1) ((1000000 : Int32) + g 9 1) := (eI (w2 82 (by decide) (by decide))).trans k82b
    refine j2sq_116 (by decide) F7 X1 X2 q7.1 ?_
    intro F9 hb9 g9 a45 e82'' i82''
    have n7 : sy_i F7 51 = g 9 1 + 1 := (qq_i v1' (by decide) (by decide)).trans ((eI (f45 51 (by decide))).trans i51)
    rw [n7] at a45
    have q9 : qC [45, 46, 51, 52, 58, 74, 75, 76] F F9 := qq_on q7 hb9 g9 (by decide)
    have c9 := xC_q (by decide) hC q9 (by decide)
    have key : ∀ j : Nat, v45 F9 j = if j = (5 : Int).toNat then g 9 1 + 1 else v45 F7 j := fun j => by
      show (sy_ai F9 45).getD j 0 = _
      rw [a45, jm_upd_at]
      rfl
    have hfd : lwT T 5 (v45 F9) = foundT T (g 9 1 + 1) (Int32.ofInt (wiS T g)) (g 9 0) (lfS T g) := lwT_cg hC.2.2.1 (nine9 (fun t => absurd t (by decide)) (fun t => absurd t (by decide)) (fun _ => by rw [key, e45]; exact v2) (fun _ => by rw [key, e45]; exact v4) (fun t => absurd t (by decide)) (fun _ => by rw [key]; rfl) (fun t => absurd t (by decide)) (fun t => absurd t (by decide)) (fun _ => by rw [key, e45]; exact v3))
    refine hd_calI (R := fun x F' => qC [46] F9 F' ∧ x.toInt = lwT T 5 (v45 F9)) (nh := 82) (nv := 83) (s := 2) (s1 := 2) (d1 := 4) (M1 := jm_M21) (As := [.inl (.ref 38), .inl (.ref 20), .inl (.int 5)]) (rest := [.inr (.inl 82)]) jm_ok90 rfl rfl (by decide) (by decide +kernel) (j2tl_V F9 X1 X2 c9 (by decide) (by decide)) (fun FA FB y hRA y1 y2 y3 => ?_)
    obtain ⟨z1, z2⟩ := hRA
    rw [hfd] at z2
    have z1' : qC [46] F9 FA := qC_dst z1 y1
    have qA : qC [45, 46, 51, 52, 58, 74, 75, 76] F FA := qq_trans q9 (qq_up z1' (by decide))
    have m82 : sy_i FA 82 = lotS (Int32.ofInt T.2.2.2.2.1) ((1000000 : Int32) + g 9 1) := (eI (y2 82 (by decide) (by decide))).trans (i82''.trans k82c)
    have m83 : (sy_i FA 83).toInt = foundT T (g 9 1 + 1) (Int32.ofInt (wiS T g)) (g 9 0) (lfS T g) := by rw [zz_i y3]; exact z2
    have fA : ∀ j, j < 82 → j ≠ 45 → j ≠ 46 → FA j = F4 j := fun j hj n1 n2 => (z1'.2 j hj (by simp; omega)).trans ((g9 j hj (by simp; omega)).trans ((v1'.2 j hj (by simp; omega)).trans (f45 j hj)))
    have gA : gC 50 (nfS T) (nbS T) FA (shkS g f.toInt.toNat) := gC_eq g4' (fun j h1 h2 => fA j (by omega) (by omega) (by omega))
    have tA : trC (nfS T) (nbS T) FA (rmS g U) := trC_eq t4 (fA 74 (by decide) (by decide) (by decide)) (fA 75 (by decide) (by decide) (by decide)) (fA 76 (by decide) (by decide) (by decide))
    have hfd2 : fdS T g ↔ (sy_i FA 82).toInt < (sy_i FA 83).toInt := by rw [m82, m83]; exact Iff.rfl
    refine j2sq_145 (by decide) FA X1 X2 qA.1 ?_ ?_
    · intro d0 FC hbC gC'
      have hn : ¬ fdS T g := fun h => absurd (hfd2.mp h) (by omega)
      exact ⟨_, FC, rfl, rfl, fun h => absurd ⟨c0, by omega⟩ h, fun _ h => absurd c2 h, fun _ _ => ⟨qq_on qA hbC gC' (by decide), trC_eq tA (gC' 74 (by decide) (by decide)) (gC' 75 (by decide) (by decide)) (gC' 76 (by decide) (by decide)), fun h => absurd h hn, fun _ => ⟨rfl, gC_eq gA (fun j h1 h2 => gC' j (by omega) (by simp))⟩⟩⟩
    · intro d0 FC hbC gC' e52 i52
      have hy : fdS T g := hfd2.mpr d0
      have n52 : sy_i FA 52 = g 9 2 := (gA.2 2 (by decide)).trans (shkS_9 g f.toInt.toNat).2.2.1
      rw [n52] at i52
      exact ⟨_, FC, rfl, rfl, fun h => absurd ⟨c0, by omega⟩ h, fun _ h => absurd c2 h, fun _ _ => ⟨qq_on qA hbC gC' (by decide), trC_eq tA (gC' 74 (by decide) (by decide)) (gC' 75 (by decide) (by decide)) (gC' 76 (by decide) (by decide)), fun _ => ⟨rfl, gC_93 (gC_n gA (i := 2) (by decide) i52 (fun j h1 h2 h3 => gC' j (by omega) (by intro z; simp at z; exact h3 z))) _⟩, fun h => absurd hy h⟩⟩
  · intro c0 c1 c2 F1 hb1 gg
    rw [i82] at c0 c1 c2
    rw [rd (by omega)] at c2
    exact ⟨_, F1, rfl, rfl, fun h => absurd ⟨c0, by omega⟩ h, fun _ _ => ⟨rfl, qq_src (qq_mk hb1 gg (by decide)) k0⟩, fun _ z => absurd z c2⟩
theorem j2hq_L (hC : xC 18 T F) (hO : okS T g) {U : List gS} {N : Nat} (hN : N ≤ 48) : ∀ (m : Nat) (F1 : Nat → sy_d) (n : Nat), n + m = N → qC [45, 46, 50, 51, 52, 53, 54, 55, 56, 57, 58, 59, 60, 61, 74, 75, 76] F F1 → (sy_i F1 82).toInt = N → (sy_i F1 83).toInt = n → gC 50 (nfS T) (nbS T) F1 (hrsS T (Int32.ofInt T.2.2.2.2.1) g n) → trC (nfS T) (nbS T) F1 U →
    hd_W Ls xs 8 jm_M91 (pI 2 X1 X2 (fun x F' => x = hrsS T (Int32.ofInt T.2.2.2.2.1) g N 9 0 ∧ qC [45, 46, 50, 51, 52, 53, 54, 55, 56, 57, 58, 59, 60, 61, 74, 75, 76] F F' ∧ gC 50 (nfS T) (nbS T) F' (hrsS T (Int32.ofInt T.2.2.2.2.1) g N) ∧ trC (nfS T) (nbS T) F' U)) (29, sy_dL F1 [some (.inl (.ref 8)), some (.inr (.inl 82)), some (.inr (.inl 83))], sy_dS F1 [], sy_dh F1 X1 X2 (iv_H 2), 0, 0) := by
  intro m
  induction m with
  | zero =>
    intro F1 n hm hq e82 e83 hG hU
    have en : n = N := by omega
    subst en
    refine j2hq_29 (by decide) F1 X1 X2 hq.1 (by omega) (by omega) ?_ ?_
    · intro c0 F2 hb gg
      exact ⟨_, F2, rfl, rfl, hG.2 0 (by decide), qq_on hq hb gg (by decide), gC_eq hG (fun j h1 h2 => gg j (by omega) (by simp)), trC_eq hU (gg 74 (by decide) (by decide)) (gg 75 (by decide) (by decide)) (gg 76 (by decide) (by decide))⟩
    · intros
      omega
  | succ m ih =>
    intro F1 n hm hq e82 e83 hG hU
    refine j2hq_29 (by decide) F1 X1 X2 hq.1 (by omega) (by omega) ?_ ?_
    · intros
      omega
    · intro c0 F2 hb gg f82 i82 f83 i83 f84 i84
      have q2 := qq_on hq hb gg (by decide)
      have c2 := xC_q (by decide) hC q2 (by decide)
      have sd2 : sy_i F2 84 = Int32.ofInt T.2.2.2.2.1 := i84.trans ((qq_i hq (by decide) (by decide)).trans (ofi hC.2.1.2.2.2.2.1).symm)
      have g2 : gC 50 (nfS T) (nbS T) F2 (hrsS T (Int32.ofInt T.2.2.2.2.1) g n) := gC_eq hG (fun j h1 h2 => gg j (by omega) (by simp))
      have u2 : trC (nfS T) (nbS T) F2 U := trC_eq hU (gg 74 (by decide) (by decide)) (gg 75 (by decide) (by decide)) (gg 76 (by decide) (by decide))
      refine hd_calV (R := fun F' => qC W2n F2 F' ∧ gC 50 (nfS T) (nbS T) F' (hourS T (sy_i F2 84) (hrsS T (Int32.ofInt T.2.2.2.2.1) g n))) (nh := 82) (nv := 84) (s := 2) (s1 := 2) (d1 := 7) (M1 := jm_M3) (As := [.inl (.ref 41), .inl (.ref 20), .inl (.ref 46), .inr (.inl 84)]) (rest := []) jm_ok91 rfl rfl (by decide) (by decide +kernel) (j2nph_V F2 X1 X2 c2 g2 (okS_hrs hO n) _) (fun F3 F' hR p1 p2 => ?_)
      obtain ⟨r1, r2⟩ := hR
      rw [sd2] at r2
      have r1' : qC W2n F2 F3 := qC_dst r1 p1
      refine j2hq_56 (by decide) F3 X1 X2 r1'.1 (by rw [nz_fi (p2 83 (by decide) (by decide))]; omega) ?_
      intro F4 hb4 g4 h82 k82 h83 k83
      have q4 : qC [45, 46, 50, 51, 52, 53, 54, 55, 56, 57, 58, 59, 60, 61, 74, 75, 76] F F4 := qq_on (qq_trans q2 (qq_up r1' (by decide))) hb4 g4 (by decide)
      refine ih F4 (n + 1) (by omega) q4 (by rw [h82, nz_fi (p2 82 (by decide) (by decide))]; omega) (by rw [h83, nz_fi (p2 83 (by decide) (by decide))]; omega) (gC_eq r2 (fun j h1 h2 => (g4 j (by omega) (by simp)).trans (p1 j (by omega)))) (trC_eq u2 ?_ ?_ ?_)
      · exact (g4 74 (by decide) (by decide)).trans (r1'.2 74 (by decide) (by decide))
      · exact (g4 75 (by decide) (by decide)).trans (r1'.2 75 (by decide) (by decide))
      · exact (g4 76 (by decide) (by decide)).trans (r1'.2 76 (by decide) (by decide))
theorem j2hq_V (hC : xC 18 T F) (hg : gC 50 (nfS T) (nbS T) F g) (hO : okS T g) {U : List gS} (hT : trC (nfS T) (nbS T) F U) (n : Int32) : jm_T Ls xs 8 jm_M91 [.ref 8, .int n] (sy_dh F X1 X2 (iv_H 2)) 0 0 (pI 2 X1 X2 (fun x F' => (¬ (0 ≤ n.toInt ∧ n.toInt ≤ 48) → x = -1 ∧ qC [] F F') ∧ (n.toInt = 0 → x = g 9 0 ∧ qC [] F F') ∧ (1 ≤ n.toInt ∧ n.toInt ≤ 48 → x = hrsS T (Int32.ofInt T.2.2.2.2.1) g n.toInt.toNat 9 0 ∧ qC [45, 46, 50, 51, 52, 53, 54, 55, 56, 57, 58, 59, 60, 61, 74, 75, 76] F F' ∧ gC 50 (nfS T) (nbS T) F' (hrsS T (Int32.ofInt T.2.2.2.2.1) g n.toInt.toNat) ∧ trC (nfS T) (nbS T) F' (rmS g U)))) := by
  have l7 : nfS T ≤ 7 := hC.2.2.1.1.1
  have l4 : nbS T ≤ 4 := hC.2.2.1.1.2.1
  refine C_T (by decide) [n] [.inl (.ref 8), .inr (.inl 82)] jm_ok91 (by decide) rfl (fun F0 k0 ki => ?_)
  have i82 : sy_i F0 82 = n := ki 0
  refine j2hq_0 (by decide) F0 X1 X2 (hd_iveq0 hC.1 k0) ?_ ?_ ?_ ?_
  · intro c0 F1 hb1 gg
    rw [i82] at c0
    exact ⟨_, F1, rfl, rfl, fun _ => ⟨rfl, qq_src (qq_mk hb1 gg (by decide)) k0⟩, fun h => absurd h (by omega), fun h => absurd h.1 (by omega)⟩
  · intro c0 c1 F1 hb1 gg
    rw [i82] at c0 c1
    exact ⟨_, F1, rfl, rfl, fun _ => ⟨rfl, qq_src (qq_mk hb1 gg (by decide)) k0⟩, fun h => absurd h (by omega), fun h => absurd h.2 (by omega)⟩
  · intro c0 c1 c2 F1 hb1 gg
    rw [i82] at c0 c1 c2
    exact ⟨_, F1, rfl, rfl, fun h => absurd ⟨c0, c1⟩ h, fun _ => ⟨(eI (k0 50 (by decide))).trans (hg.2 0 (by decide)), qq_src (qq_mk hb1 gg (by decide)) k0⟩, fun h => absurd h.1 (by omega)⟩
  · intro c0 c1 c2 F1 hb1 gg e82 j82
    rw [i82] at c0 c1 c2 j82
    have q1 : qC [] F F1 := qq_src (qq_mk hb1 gg (by decide)) k0
    have f1 : ∀ j, j < 82 → F1 j = F j := fun j hj => q1.2 j hj (by simp)
    refine hd_calV (R := fun F' => qC [74, 75, 76] F1 F' ∧ trC (nfS T) (nbS T) F' (rmS g U)) (nh := 82) (nv := 83) (s := 2) (s1 := 2) (d1 := 2) (M1 := jm_M78) (As := [.inl (.ref 66), .inl (.ref 46)]) (rest := []) jm_ok91 rfl rfl (by decide) (by decide +kernel) (j2re_V F1 X1 X2 hb1 l7 l4 (gC_eq hg (fun j h1 h2 => f1 j (by omega))) (trC_eq hT (f1 74 (by decide)) (f1 75 (by decide)) (f1 76 (by decide)))) (fun F3 F' hR p1 p2 => ?_)
    obtain ⟨r1, r2⟩ := hR
    have r1' : qC [74, 75, 76] F1 F3 := qC_dst r1 p1
    have q3 : qC [74, 75, 76] F F3 := qq_trans (qq_up q1 (by decide)) r1'
    have k82 : sy_i F3 82 = n := (eI (p2 82 (by decide) (by decide))).trans j82
    refine j2hq_27 (by decide) F3 X1 X2 q3.1 ?_
    intro F4 hb4 g4 h82 m82 h83 m83
    have f4 : ∀ j, j < 82 → F4 j = F3 j := fun j hj => g4 j hj (by simp)
    refine hd_mono (j2hq_L F X1 X2 hC hO (U := rmS g U) (N := n.toInt.toNat) (by omega) n.toInt.toNat F4 0 (by omega) (qq_on (qq_up q3 (by decide)) hb4 g4 (by decide)) (by rw [h82, k82]; omega) h83 (gC_eq hg (fun j h1 h2 => (f4 j (by omega)).trans (q3.2 j (by omega) (by simp; omega)))) (trC_eq r2 ((f4 74 (by decide)).trans (p1 74 (by decide))) ((f4 75 (by decide)).trans (p1 75 (by decide))) ((f4 76 (by decide)).trans (p1 76 (by decide))))) ?_
    rintro x G ⟨r, F', e1, e2, e3⟩
    exact ⟨r, F', e1, e2, fun h => absurd ⟨c0, c1⟩ h, fun h => absurd h (by omega), fun _ => e3⟩
end SH2
end
section
/-! ===== what is told and taped, on the class's side (shape 2) ===== -/
section TT2
variable {Ls : Nat} {xs : Nat → Int32} (X1 X2 : List jm_c)
theorem j2pq_V (F : Nat → sy_d) (hB : iv_in F iv_B0) : jm_T Ls xs 1 jm_M84 [.ref 8] (sy_dh F X1 X2 (iv_H 2)) 0 0 (pI 2 X1 X2 (fun x F' => x = sy_i F 1 ∧ qC [] F F')) := by
  refine hd_T (As := [.inl (.ref 8)]) jm_ok84 (by decide) (j2pq_0 (by decide) F X1 X2 hB ?_)
  intro F1 hb gg
  exact ⟨_, F1, rfl, rfl, rfl, qq_mk hb gg (by decide)⟩
theorem j2fq_V (F : Nat → sy_d) (hB : iv_in F iv_B0) : jm_T Ls xs 1 jm_M109 [.ref 8] (sy_dh F X1 X2 (iv_H 2)) 0 0 (pI 2 X1 X2 (fun x F' => x = sy_i F 79 ∧ qC [79] F F' ∧ (sy_i F' 79).toInt = 0)) := by
  refine hd_T (As := [.inl (.ref 8)]) jm_ok109 (by decide) (j2fq_0 (by decide) F X1 X2 hB ?_)
  intro F1 hb gg e79 i79
  exact ⟨_, F1, rfl, rfl, rfl, qq_mk hb gg (by decide), e79⟩
theorem j2bq_V (F : Nat → sy_d) (hB : iv_in F iv_B0) (v : Int32) : jm_T Ls xs 1 jm_M82 [.ref 8, .int v] (sy_dh F X1 X2 (iv_H 2)) 0 0 (pI 2 X1 X2 (fun x F' => (v.toInt < 0 ∨ (sy_i F 0).toInt < v.toInt → x = -1 ∧ qC [] F F') ∧ (¬ (v.toInt < 0 ∨ (sy_i F 0).toInt < v.toInt) → x.toInt = (sy_i F 0).toInt - v.toInt ∧ qC [0] F F' ∧ (sy_i F' 0).toInt = (sy_i F 0).toInt - v.toInt))) := by
  have c1 := nz_bx hB (k := 0) (lo := 0) (hi := 2000) rfl
  refine C_T (by decide) [v] [.inl (.ref 8), .inr (.inl 82)] jm_ok82 (by decide) rfl (fun F0 k0 ki => ?_)
  have i82 : sy_i F0 82 = v := ki 0
  have e0 : (sy_i F0 0).toInt = (sy_i F 0).toInt := nz_fi (k0 0 (by decide))
  have z82 : (sy_i F0 82).toInt = v.toInt := congrArg Int32.toInt i82
  refine j2bq_0 (by decide) F0 X1 X2 (hd_iveq0 hB k0) (by intros; omega) ?_ ?_ ?_
  · intro c0 F1 hb1 gg
    exact ⟨_, F1, rfl, rfl, fun _ => ⟨rfl, qq_src (qq_mk hb1 gg (by decide)) k0⟩, fun h => absurd (Or.inl (by omega)) h⟩
  · intro c0 c2 F1 hb1 gg f0 i0
    exact ⟨_, F1, rfl, rfl, fun h => absurd h (by omega), fun _ => ⟨by rw [nz_sub rfl rfl (by omega) (by omega)]; omega, qq_src (qq_mk hb1 gg (by decide)) k0, by omega⟩⟩
  · intro c0 c2 F1 hb1 gg
    exact ⟨_, F1, rfl, rfl, fun _ => ⟨rfl, qq_src (qq_mk hb1 gg (by decide)) k0⟩, fun h => absurd (Or.inr (by omega)) h⟩
theorem j2tq_V (F : Nat → sy_d) (hB : iv_in F iv_B0) (a b : Int32) : jm_T Ls xs 2 jm_M108 [.ref 8, .int a, .int b] (sy_dh F X1 X2 (iv_H 2)) 0 0 (pI 2 X1 X2 (fun x F' => (¬ ((1 ≤ a.toInt ∧ a.toInt ≤ 9) ∧ (0 ≤ b.toInt ∧ b.toInt ≤ 9) ∧ (sy_i F 79).toInt < 7) → x = -1 ∧ qC [] F F') ∧ ((1 ≤ a.toInt ∧ a.toInt ≤ 9) ∧ (0 ≤ b.toInt ∧ b.toInt ≤ 9) ∧ (sy_i F 79).toInt < 7 → x.toInt = (sy_i F 79).toInt ∧ qC [79, 80, 81] F F' ∧ (sy_i F' 79).toInt = (sy_i F 79).toInt + 1 ∧ sy_ai F' 80 = jm_upd (sy_ai F 80) (sy_i F 79).toInt.toNat a ∧ sy_ai F' 81 = jm_upd (sy_ai F 81) (sy_i F 79).toInt.toNat b))) := by
  have c1 := nz_bx hB (k := 79) (lo := 0) (hi := 7) rfl
  refine C_T (by decide) [a, b] [.inl (.ref 8), .inr (.inl 82), .inr (.inl 83)] jm_ok108 (by decide) rfl (fun F0 k0 ki => ?_)
  have i82 : sy_i F0 82 = a := ki 0
  have i83 : sy_i F0 83 = b := ki 1
  have e0 : sy_i F0 79 = sy_i F 79 := eI (k0 79 (by decide))
  have z82 : (sy_i F0 82).toInt = a.toInt := congrArg Int32.toInt i82
  have z83 : (sy_i F0 83).toInt = b.toInt := congrArg Int32.toInt i83
  have z79 : (sy_i F0 79).toInt = (sy_i F 79).toInt := congrArg Int32.toInt e0
  have no : ∀ F1 : Nat → sy_d, iv_in F1 iv_B0 → (∀ j, j < 82 → j ∉ ([] : List Nat) → F1 j = F0 j) → ¬ ((1 ≤ a.toInt ∧ a.toInt ≤ 9) ∧ (0 ≤ b.toInt ∧ b.toInt ≤ 9) ∧ (sy_i F 79).toInt < 7) → pI 2 X1 X2 (fun x F' => (¬ ((1 ≤ a.toInt ∧ a.toInt ≤ 9) ∧ (0 ≤ b.toInt ∧ b.toInt ≤ 9) ∧ (sy_i F 79).toInt < 7) → x = -1 ∧ qC [] F F') ∧ ((1 ≤ a.toInt ∧ a.toInt ≤ 9) ∧ (0 ≤ b.toInt ∧ b.toInt ≤ 9) ∧ (sy_i F 79).toInt < 7 → x.toInt = (sy_i F 79).toInt ∧ qC [79, 80, 81] F F' ∧ (sy_i F' 79).toInt = (sy_i F 79).toInt + 1 ∧ sy_ai F' 80 = jm_upd (sy_ai F 80) (sy_i F 79).toInt.toNat a ∧ sy_ai F' 81 = jm_upd (sy_ai F 81) (sy_i F 79).toInt.toNat b)) (some (.int (-1 : Int32))) (sy_dh F1 X1 X2 (iv_H 2)) := fun F1 hb1 gg h => ⟨_, F1, rfl, rfl, fun _ => ⟨rfl, qq_src (qq_mk hb1 gg (by decide)) k0⟩, fun z => absurd z h⟩
  refine j2tq_0 (by decide) F0 X1 X2 (hd_iveq0 hB k0) ?_ ?_ ?_ ?_ ?_ ?_
  · intro d1 F1 hb1 gg
    exact no F1 hb1 gg (by omega)
  · intro d1 d2 F1 hb1 gg
    exact no F1 hb1 gg (by omega)
  · intro d1 d2 d3 F1 hb1 gg
    exact no F1 hb1 gg (by omega)
  · intro d1 d2 d3 d4 F1 hb1 gg
    exact no F1 hb1 gg (by omega)
  · intro d1 d2 d3 d4 d5 F1 hb1 gg f79 i79 a80 a81
    rw [i82, e0, nz_fa (k0 80 (by decide))] at a80
    rw [i83, e0, nz_fa (k0 81 (by decide))] at a81
    have o1 : (1 : Int32).toInt = 1 := by decide
    exact ⟨_, F1, rfl, rfl, fun h => absurd (by omega) h, fun _ => ⟨by rw [nz_sub (nz_add rfl o1 (by omega) (by omega)) o1 (by omega) (by omega)]; omega, qq_src (qq_mk hb1 gg (by decide)) k0, by omega, a80, a81⟩⟩
  · intro d1 d2 d3 d4 d5 F1 hb1 gg
    exact no F1 hb1 gg (by omega)
theorem j2fd_V (F : Nat → sy_d) (hB : iv_in F iv_B0) (a b c d e : Int32) : jm_T Ls xs 2 jm_M81 [.ref 8, .int a, .int b, .int c, .int d, .int e] (sy_dh F X1 X2 (iv_H 2)) 0 0 (pI 2 X1 X2 (fun x F' => (2000 < (sy_i F 0).toInt + 20 → x = -1 ∧ qC [] F F') ∧ (¬ 2000 < (sy_i F 0).toInt + 20 → x.toInt = (sy_i F 0).toInt + 20 ∧ qC [0, 2] F F' ∧ (sy_i F' 0).toInt = (sy_i F 0).toInt + 20 ∧ ub (sy_ai F' 2) ((sy_i F 0).toInt + 20).toNat = apB (apB (apB (apB (apB (ub (sy_ai F 2) (sy_i F 0).toInt.toNat) (sy_i F 0).toInt.toNat a) ((sy_i F 0).toInt.toNat + 4) b) ((sy_i F 0).toInt.toNat + 8) c) ((sy_i F 0).toInt.toNat + 12) d) ((sy_i F 0).toInt.toNat + 16) e))) := by
  obtain ⟨F0, hF0⟩ : ∃ F0, F0 = ny F (fun j => .inl (.int (if j = 0 then a else if j = 1 then b else if j = 2 then c else if j = 3 then d else e))) := ⟨_, rfl⟩
  have k0 : ∀ j, j < 82 → F0 j = F j := fun j hj => by rw [hF0]; exact ny_lt j hj
  have i82 : sy_i F0 82 = a := by rw [hF0]; rfl
  have i83 : sy_i F0 83 = b := by rw [hF0]; rfl
  have i84 : sy_i F0 84 = c := by rw [hF0]; rfl
  have i85 : sy_i F0 85 = d := by rw [hF0]; rfl
  have i86 : sy_i F0 86 = e := by rw [hF0]; rfl
  have hB0 := hd_iveq0 hB k0
  have e00 : (sy_i F0 0).toInt = (sy_i F 0).toInt := nz_fi (k0 0 (by decide))
  have c1 := nz_bx hB0 (k := 0) (lo := 0) (hi := 2000) rfl
  refine nyy_T (by decide) F (fun j => .inl (.int (if j = 0 then a else if j = 1 then b else if j = 2 then c else if j = 3 then d else e))) X1 X2 (A := [.inl (.ref 8), .inr (.inl 82), .inr (.inl 83), .inr (.inl 84), .inr (.inl 85), .inr (.inl 86)]) jm_ok81 (by decide) rfl ?_
  rw [← hF0]
  refine k2ofd_0 (by decide) F0 X1 X2 hB0 ?_ ?_
  · intro q F1 hb g e0 e1 e79 a2 a78 f82 f83 f84 f85 f86
    have hn : ¬ 2000 < (sy_i F 0).toInt + 20 := by omega
    obtain ⟨t, ht⟩ : ∃ t : Nat, t = (sy_i F0 0).toInt.toNat := ⟨_, rfl⟩
    have h1 : fC2 F0 F1 t (ub (sy_ai F0 2) t) := ⟨hb, fun j hj hn => g j hj (by simp), by omega, by rw [a2]⟩
    have v0 : sy_i F1 82 = sy_i F0 82 := Int32.toInt_inj.mp f82
    have v1 : sy_i F1 83 = sy_i F0 83 := Int32.toInt_inj.mp f83
    have v2 : sy_i F1 84 = sy_i F0 84 := Int32.toInt_inj.mp f84
    have v3 : sy_i F1 85 = sy_i F0 85 := Int32.toInt_inj.mp f85
    have v4 : sy_i F1 86 = sy_i F0 86 := Int32.toInt_inj.mp f86
    refine hd_calV (R := fun F' => fC2 F0 F' (t + 4) (apB (ub (sy_ai F0 2) t) (t) (sy_i F0 82))) (nh := 82) (nv := 87) (s := 2) (s1 := 2) (d1 := 1) (M1 := jm_M116) (As := [.inl (.ref 8), .inr (.inl 82)]) (rest := []) jm_ok81 rfl rfl (by decide) (by decide +kernel) (by rw [← v0]; exact k2oap_T X1 X2 F0 F1 h1 (by omega) _) (fun G0 H0 hR0 p0 r0 => ?_)
    have h0a := fC2_eq hR0 p0
    have w0_1 : sy_i G0 83 = sy_i F0 83 := (show sy_i G0 83 = sy_i F1 83 by unfold sy_i; rw [r0 83 (by decide) (by decide)]).trans v1
    have w0_2 : sy_i G0 84 = sy_i F0 84 := (show sy_i G0 84 = sy_i F1 84 by unfold sy_i; rw [r0 84 (by decide) (by decide)]).trans v2
    have w0_3 : sy_i G0 85 = sy_i F0 85 := (show sy_i G0 85 = sy_i F1 85 by unfold sy_i; rw [r0 85 (by decide) (by decide)]).trans v3
    have w0_4 : sy_i G0 86 = sy_i F0 86 := (show sy_i G0 86 = sy_i F1 86 by unfold sy_i; rw [r0 86 (by decide) (by decide)]).trans v4
    refine k2ofd_20 (by decide) G0 X1 X2 h0a.1 ?_
    intro K0 kb0 kg0 z0_e0 z0_e1 z0_e79 z0_a2 z0_a78 y0_0 y0_1 y0_2 y0_3 y0_4
    have h0b := fC2_eq h0a (fun j hj => kg0 j hj (by simp))
    have u0_1 : sy_i K0 83 = sy_i F0 83 := (Int32.toInt_inj.mp y0_1).trans w0_1
    have u0_2 : sy_i K0 84 = sy_i F0 84 := (Int32.toInt_inj.mp y0_2).trans w0_2
    have u0_3 : sy_i K0 85 = sy_i F0 85 := (Int32.toInt_inj.mp y0_3).trans w0_3
    have u0_4 : sy_i K0 86 = sy_i F0 86 := (Int32.toInt_inj.mp y0_4).trans w0_4
    refine hd_calV (R := fun F' => fC2 F0 F' (t + 4 + 4) (apB (apB (ub (sy_ai F0 2) t) (t) (sy_i F0 82)) (t + 4) (sy_i F0 83))) (nh := 82) (nv := 87) (s := 2) (s1 := 2) (d1 := 1) (M1 := jm_M116) (As := [.inl (.ref 8), .inr (.inl 83)]) (rest := []) jm_ok81 rfl rfl (by decide) (by decide +kernel) (by rw [← u0_1]; exact k2oap_T X1 X2 F0 K0 h0b (by omega) _) (fun G1 H1 hR1 p1 r1 => ?_)
    have h1a := fC2_eq hR1 p1
    have w1_2 : sy_i G1 84 = sy_i F0 84 := (show sy_i G1 84 = sy_i K0 84 by unfold sy_i; rw [r1 84 (by decide) (by decide)]).trans u0_2
    have w1_3 : sy_i G1 85 = sy_i F0 85 := (show sy_i G1 85 = sy_i K0 85 by unfold sy_i; rw [r1 85 (by decide) (by decide)]).trans u0_3
    have w1_4 : sy_i G1 86 = sy_i F0 86 := (show sy_i G1 86 = sy_i K0 86 by unfold sy_i; rw [r1 86 (by decide) (by decide)]).trans u0_4
    refine k2ofd_25 (by decide) G1 X1 X2 h1a.1 ?_
    intro K1 kb1 kg1 z1_e0 z1_e1 z1_e79 z1_a2 z1_a78 y1_0 y1_1 y1_2 y1_3 y1_4
    have h1b := fC2_eq h1a (fun j hj => kg1 j hj (by simp))
    have u1_2 : sy_i K1 84 = sy_i F0 84 := (Int32.toInt_inj.mp y1_2).trans w1_2
    have u1_3 : sy_i K1 85 = sy_i F0 85 := (Int32.toInt_inj.mp y1_3).trans w1_3
    have u1_4 : sy_i K1 86 = sy_i F0 86 := (Int32.toInt_inj.mp y1_4).trans w1_4
    refine hd_calV (R := fun F' => fC2 F0 F' (t + 4 + 4 + 4) (apB (apB (apB (ub (sy_ai F0 2) t) (t) (sy_i F0 82)) (t + 4) (sy_i F0 83)) (t + 4 + 4) (sy_i F0 84))) (nh := 82) (nv := 87) (s := 2) (s1 := 2) (d1 := 1) (M1 := jm_M116) (As := [.inl (.ref 8), .inr (.inl 84)]) (rest := []) jm_ok81 rfl rfl (by decide) (by decide +kernel) (by rw [← u1_2]; exact k2oap_T X1 X2 F0 K1 h1b (by omega) _) (fun G2 H2 hR2 p2 r2 => ?_)
    have h2a := fC2_eq hR2 p2
    have w2_3 : sy_i G2 85 = sy_i F0 85 := (show sy_i G2 85 = sy_i K1 85 by unfold sy_i; rw [r2 85 (by decide) (by decide)]).trans u1_3
    have w2_4 : sy_i G2 86 = sy_i F0 86 := (show sy_i G2 86 = sy_i K1 86 by unfold sy_i; rw [r2 86 (by decide) (by decide)]).trans u1_4
    refine k2ofd_30 (by decide) G2 X1 X2 h2a.1 ?_
    intro K2 kb2 kg2 z2_e0 z2_e1 z2_e79 z2_a2 z2_a78 y2_0 y2_1 y2_2 y2_3 y2_4
    have h2b := fC2_eq h2a (fun j hj => kg2 j hj (by simp))
    have u2_3 : sy_i K2 85 = sy_i F0 85 := (Int32.toInt_inj.mp y2_3).trans w2_3
    have u2_4 : sy_i K2 86 = sy_i F0 86 := (Int32.toInt_inj.mp y2_4).trans w2_4
    refine hd_calV (R := fun F' => fC2 F0 F' (t + 4 + 4 + 4 + 4) (apB (apB (apB (apB (ub (sy_ai F0 2) t) (t) (sy_i F0 82)) (t + 4) (sy_i F0 83)) (t + 4 + 4) (sy_i F0 84)) (t + 4 + 4 + 4) (sy_i F0 85))) (nh := 82) (nv := 87) (s := 2) (s1 := 2) (d1 := 1) (M1 := jm_M116) (As := [.inl (.ref 8), .inr (.inl 85)]) (rest := []) jm_ok81 rfl rfl (by decide) (by decide +kernel) (by rw [← u2_3]; exact k2oap_T X1 X2 F0 K2 h2b (by omega) _) (fun G3 H3 hR3 p3 r3 => ?_)
    have h3a := fC2_eq hR3 p3
    have w3_4 : sy_i G3 86 = sy_i F0 86 := (show sy_i G3 86 = sy_i K2 86 by unfold sy_i; rw [r3 86 (by decide) (by decide)]).trans u2_4
    refine k2ofd_36 (by decide) G3 X1 X2 h3a.1 ?_
    intro K3 kb3 kg3 z3_e0 z3_e1 z3_e79 z3_a2 z3_a78 y3_0 y3_1 y3_2 y3_3 y3_4
    have h3b := fC2_eq h3a (fun j hj => kg3 j hj (by simp))
    have u3_4 : sy_i K3 86 = sy_i F0 86 := (Int32.toInt_inj.mp y3_4).trans w3_4
    refine hd_calV (R := fun F' => fC2 F0 F' (t + 4 + 4 + 4 + 4 + 4) (apB (apB (apB (apB (apB (ub (sy_ai F0 2) t) (t) (sy_i F0 82)) (t + 4) (sy_i F0 83)) (t + 4 + 4) (sy_i F0 84)) (t + 4 + 4 + 4) (sy_i F0 85)) (t + 4 + 4 + 4 + 4) (sy_i F0 86))) (nh := 82) (nv := 87) (s := 2) (s1 := 2) (d1 := 1) (M1 := jm_M116) (As := [.inl (.ref 8), .inr (.inl 86)]) (rest := []) jm_ok81 rfl rfl (by decide) (by decide +kernel) (by rw [← u3_4]; exact k2oap_T X1 X2 F0 K3 h3b (by omega) _) (fun G4 H4 hR4 p4 r4 => ?_)
    have h4a := fC2_eq hR4 p4
    refine k2ofd_42 (by decide) G4 X1 X2 h4a.1 ?_
    intro F9 kb kg z_e0 z_e1 z_e79 z_a2 z_a78
    have h6 := h4a
    have q5 := fC2_eq h4a (fun j hj => kg j hj (by simp))
    have w5 := q5.2.2.1
    have w6 := h6.2.2.1
    refine ⟨_, F9, rfl, rfl, fun h => absurd h hn, fun _ => ⟨by omega, ⟨q5.1, fun j hj hn => (q5.2.1 j hj hn).trans (k0 j hj)⟩, by omega, ?_⟩⟩
    have hA := q5.2.2.2
    rw [i82, i83, i84, i85, i86, nz_fa (k0 2 (by decide))] at hA
    have ht2 : (sy_i F 0).toInt.toNat = t := by omega
    rw [ht2, show ((sy_i F 0).toInt + 20).toNat = t + 4 + 4 + 4 + 4 + 4 by omega]
    exact hA
  · intro q F1 hb g e0 e1 e79 a2 a78
    have hn : 2000 < (sy_i F 0).toInt + 20 := by omega
    exact ⟨_, F1, rfl, rfl, fun _ => ⟨rfl, qq_src (qq_mk hb g (by decide)) k0⟩, fun h => absurd hn h⟩
end TT2
end
section
/-! ===== the class reads: what is behind it (shape 2) ===== -/
section RV2
variable {Ls : Nat} {xs : Nat → Int32} (X1 X2 : List jm_c)
noncomputable def j2rdP (F : Nat → sy_d) (B : Nat → Int) (e : Nat) (v : Option Value) (G : jm_h) : Prop := ∃ (r : Int32) (t : Nat) (F' : Nat → sy_d), v = some (.int r) ∧ G = sy_dh F' X1 X2 (iv_H t) ∧ r.toInt = (rdA B e).1 ∧ iv_in F' iv_B0 ∧ jx_ok F' ∧ sy_al F' 42 = wls ∧ (sy_i F' 0).toInt = 0 ∧ (sy_i F' 1).toInt = (rdA B e).2 ∧ ((rdA B e).1 ≠ 0 → t = 3 ∧ ∀ j, j < 82 → j ∉ (0 :: 1 :: 39 :: 40 :: 41 :: 35 :: k3_WP) → F' j = F j) ∧ ((rdA B e).1 = 0 → t = 1 ∧ xC 3 (rdT B e) F' ∧ gC 50 (nfS (rdT B e)) (nbS (rdT B e)) F' (begS (rdT B e)) ∧ rstC 3 (rdT B e) F' ∧ (sy_i F' 75).toInt = 0 ∧ (sy_i F' 74).toInt = 0 ∧ (sy_i F' 79).toInt = 0 ∧ ∀ j, j < 3 → (sy_ai F' 78).getD j 0 = 0)
theorem j2rd_V (F : Nat → sy_d) (hB : iv_in F iv_B0) (hJ : jx_ok F) (hw : sy_al F 42 = wls) : jm_T Ls xs 29 jm_M83 [.ref 8] (sy_dh F X1 X2 (iv_H 2)) 0 0 (j2rdP X1 X2 F (ub (sy_ai F 2) (sy_i F 0).toInt.toNat) (sy_i F 0).toInt.toNat) := by
  have c0 := nz_bx hB (k := 0) (lo := 0) (hi := 2000) rfl
  refine hd_T (As := [.inl (.ref 8)]) jm_ok83 (by decide) (k2ord_0 (by decide) F X1 X2 hB ?_)
  intro F1 hb g e0 e1 e35 e79 a2 a78 f82
  have g1 : ∀ j, j < 82 → F1 j = F j := fun j hj => g j hj (by simp)
  refine hd_calI (R := fun x F' => gc (39 :: 40 :: 41 :: 35 :: k3_WP) F1 F' ∧ jx_ok F' ∧ x.toInt = (rdA (ub (sy_ai F1 2) (sy_i F 0).toInt.toNat) (sy_i F 0).toInt.toNat).1 ∧ (sy_i F' 35).toInt = (rdA (ub (sy_ai F1 2) (sy_i F 0).toInt.toNat) (sy_i F 0).toInt.toNat).2 ∧ (x.toInt = 0 → rXc 3 (rdT (ub (sy_ai F1 2) (sy_i F 0).toInt.toNat) (sy_i F 0).toInt.toNat) F' ∧ (sy_i F' 8).toInt ≤ 412)) (nh := 82) (nv := 82) (s := 2) (s1 := 3) (d1 := 28) (M1 := jm_M31) (As := [.inl (.ref 30), .inl (.ref 9), .inr (.inl 82), .inl (.ref 10)]) (rest := []) jm_ok83 rfl rfl (by decide) (by decide +kernel) (k2py_C X1 X2 F1 hb (jx_ok_eq (g1 39 (by decide)) (g1 41 (by decide)) hJ) ((nz_fl (g1 42 (by decide))).trans hw) _ (e := (sy_i F 0).toInt.toNat) (by omega) (by omega)) (fun F3 F' x hR p1 _ p3 => ?_)
  obtain ⟨r1, r2, r3, r4, r5⟩ := hR
  rw [a2] at r3 r4 r5
  have hb3 := hd_iveq0 r1.1 p1
  have m82 : (sy_i F3 82).toInt = (rdA (ub (sy_ai F 2) (sy_i F 0).toInt.toNat) (sy_i F 0).toInt.toNat).1 := by rw [zz_i p3, r3]
  have m35 : (sy_i F3 35).toInt = (rdA (ub (sy_ai F 2) (sy_i F 0).toInt.toNat) (sy_i F 0).toInt.toNat).2 := by rw [nz_fi (p1 35 (by decide)), r4]
  obtain ⟨B, eB⟩ : ∃ B, B = ub (sy_ai F 2) (sy_i F 0).toInt.toNat := ⟨_, rfl⟩
  obtain ⟨E, eE⟩ : ∃ E, E = (sy_i F 0).toInt.toNat := ⟨_, rfl⟩
  rw [← eB, ← eE] at m82 m35 r5
  rw [← eB, ← eE]
  have g3 : ∀ j, j < 82 → j ∉ (39 :: 40 :: 41 :: 35 :: k3_WP) → F3 j = F j := fun j hj hn => (p1 j hj).trans ((r1.2 j hj hn).trans (g1 j hj))
  have j3 : jx_ok F3 := jx_ok_eq (p1 39 (by decide)) (p1 41 (by decide)) r2
  have w3 : sy_al F3 42 = wls := (nz_fl (g3 42 (by decide) (by decide))).trans hw
  refine k3ord_19 (by decide) F3 X1 X2 hb3 ?_ ?_
  · intro q F4 hb4 g4 e0' e1' e35' e79' a2' a78'
    have gg : ∀ j, j < 82 → j ∉ (0 :: 1 :: 39 :: 40 :: 41 :: 35 :: k3_WP) → F4 j = F j := fun j hj hn => (g4 j hj (fun q => hn (by revert q; simp; omega))).trans (g3 j hj (fun q => hn (List.mem_cons_of_mem _ (List.mem_cons_of_mem _ q))))
    exact ⟨_, 3, F4, rfl, rfl, m82, hb4, jx_ok_eq (g4 39 (by decide) (by decide)) (g4 41 (by decide) (by decide)) j3, (nz_fl (g4 42 (by decide) (by decide))).trans w3, e0', e1'.trans m35, fun _ => ⟨rfl, gg⟩, fun z => absurd (m82.trans z) q⟩
  · intro q F4 hb4 g4 e0' e1' e35' e79' a2' a78' f82'
    have hA : (rdA B E).1 = 0 := m82.symm.trans q
    obtain ⟨x1, x2⟩ := r5 (by rw [← zz_i p3]; exact q)
    have hT : wT (rdT B E) := rdT_wf hA
    have f4 : ∀ j, j < 82 → j ≠ 0 → j ≠ 1 → F4 j = F' j := fun j hj n0 n1 => (g4 j hj (by simp; omega)).trans (p1 j hj)
    have j4 : jx_ok F4 := jx_ok_eq (g4 39 (by decide) (by decide)) (g4 41 (by decide) (by decide)) j3
    have c4 : xC 3 (rdT B E) F4 := ⟨hb4, rXc_e9 x1 (fun j h1 h2 h3 => f4 j (by omega) (by omega) (by omega)), hT, by rw [nz_fi (f4 8 (by decide) (by decide) (by decide))]; exact x2⟩
    refine hd_calV (R := fun F' => qC jw1_BE F4 F' ∧ gC 50 (nfS (rdT B E)) (nbS (rdT B E)) F' (begS (rdT B E)) ∧ rstC 3 (rdT B E) F' ∧ (sy_i F' 75).toInt = 0 ∧ (sy_i F' 74).toInt = 0 ∧ (sy_i F' 79).toInt = 0 ∧ ∀ j, j < 3 → (sy_ai F' 78).getD j 0 = 0) (nh := 82) (nv := 83) (s := 1) (s1 := 1) (d1 := 8) (M1 := jm_M117) (As := [.inl (.ref 8)]) (rest := []) jm_ok83 rfl rfl (by decide) (by decide +kernel) (j1be_V F4 X1 X2 c4 j4) (fun F5 F6 hR6 p5 u5 => ?_)
    obtain ⟨y1, y2, y3, y4, y5, y6, y7⟩ := hR6
    have n82 := nz_fi (u5 82 (by decide) (by decide))
    refine k1ord_62 (by decide) F5 X1 X2 (hd_iveq0 y1.1 p5) ?_
    intro F7 hb7 g7 e0'' e1'' e79'' a2'' a78''
    have p7 : ∀ j, j < 82 → F7 j = F6 j := fun j hj => (g7 j hj (by simp)).trans (p5 j hj)
    have q7 : qC jw1_BE F4 F7 := qC_dst y1 p7
    refine ⟨_, 1, F7, rfl, rfl, ?_, hb7, jx_ok_eq (q7.2 39 (by decide) (by decide)) (q7.2 41 (by decide) (by decide)) j4, ?_, ?_, ?_, fun z => absurd hA z, fun _ => ⟨rfl, xC_q (by decide) c4 q7 (by decide), gC_eq y2 (fun j h1 h2 => p7 j (by omega)), fun f hf => ?_, ?_, ?_, ?_, fun j hj => ?_⟩⟩
    · show (sy_i F5 82).toInt = _
      rw [n82, f82']
      exact m82
    · rw [nz_fl (q7.2 42 (by decide) (by decide)), nz_fl (g4 42 (by decide) (by decide))]
      exact w3
    · rw [nz_fi (q7.2 0 (by decide) (by decide))]
      exact e0'
    · rw [nz_fi (q7.2 1 (by decide) (by decide))]
      exact e1'.trans m35
    · rw [nz_fa (p7 (3 + 9) (by decide))]
      exact y3 f hf
    · rw [nz_fi (p7 75 (by decide))]
      exact y4
    · rw [nz_fi (p7 74 (by decide))]
      exact y5
    · rw [nz_fi (p7 79 (by decide))]
      exact y6
    · rw [nz_fa (p7 78 (by decide))]
      exact y7 j hj
end RV2
end
