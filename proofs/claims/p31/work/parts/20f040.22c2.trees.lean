section
/-! ===== the class: a law worked out, way by way (shape 2) ===== -/
theorem j2wo_0_p0 {Ls : Nat} {xs : Nat → Int32} {d : Nat} {Q : Option Value → jm_h → Prop} (hd : 1 ≤ d) (F : Nat → sy_d) (X1 X2 : List jm_c) (hB : iv_in F iv_B0)
    (k : ∀ F1 : Nat → sy_d, (∀ j, j < 82 → True → F1 j = F j) → F1 82 = .inl (.int (sy_i F 82)) → F1 83 = .inl (.int ((0 : Int32))) → F1 84 = .inl (.int ((0 : Int32))) → hd_W Ls xs d jm_M22 Q (8, sy_dL F1 [some (.inl (.ref 38)), some (.inl (.ref 20)), none, some (.inr (.inl 82)), some (.inr (.inl 83)), some (.inr (.inl 84)), none], sy_dS F1 [], sy_dh F1 X1 X2 (iv_H 2), 0, 0)) :
    hd_W Ls xs d jm_M22 Q (0, sy_dL F [some (.inl (.ref 38)), some (.inl (.ref 20)), some (.inr (.inl 82)), none, none, none, none], sy_dS F [], sy_dh F X1 X2 (iv_H 2), 0, 0) := by
  refine hd_run (s := 2) (nv := 83) (pc := 8) (L := [some (.inl (.ref 38)), some (.inl (.ref 20)), none, some (.inr (.inl 82)), some (.inr (.inl 83)), some (.inr (.inl 84)), none]) (S := []) (uh := hd_ov (iv_id 0 iv_B0) []) (ul := [.inl (.inr (.inl 82)), .inl (.inl (.int 0)), .inl (.inl (.int 0))]) (f := true) (sp := [8]) (d0 := 0) (O := []) (T := []) (P := []) jm_ok22 (by decide +kernel) (by decide +kernel) hd F X1 X2 (fun F' hF hs => ?_)
  have b82 := hd_b (F := F) (F' := F') (k := 82) (hF 82 (by decide))
  have hB' : iv_in F' iv_B0 := iv_in_eq hB (fun j hj => hF j (Nat.lt_of_lt_of_le hj (by decide +kernel)))
  refine ⟨fun _ h => absurd h List.not_mem_nil, ?_⟩
  refine k _ ?_ ?_ ?_ ?_
  · exact fun j hj _ => (hd_keep hB' (Nat.lt_of_lt_of_le hj (by decide +kernel)) (by simp)).trans (hF j (Nat.lt_of_lt_of_le hj (by decide)))
  · exact hd_gi (x := .inr (.inl 82)) (by decide +kernel) b82
  · exact hd_gi (x := .inl (.int 0)) (by decide +kernel) rfl
  · exact hd_gi (x := .inl (.int 0)) (by decide +kernel) rfl
theorem j2wo_0 {Ls : Nat} {xs : Nat → Int32} {d : Nat} {Q : Option Value → jm_h → Prop} (hd : 1 ≤ d) (F : Nat → sy_d) (X1 X2 : List jm_c) (hB : iv_in F iv_B0)
    (k0 : ∀ F1 : Nat → sy_d, iv_in F1 iv_B0 → (∀ j, j < 82 → j ∉ ([] : List Nat) → F1 j = F j) → (sy_i F1 82).toInt = (sy_i F 82).toInt → sy_i F1 82 = sy_i F 82 → (sy_i F1 83).toInt = 0 → sy_i F1 83 = (0 : Int32) → (sy_i F1 84).toInt = 0 → sy_i F1 84 = (0 : Int32) → hd_W Ls xs d jm_M22 Q (8, sy_dL F1 [some (.inl (.ref 38)), some (.inl (.ref 20)), none, some (.inr (.inl 82)), some (.inr (.inl 83)), some (.inr (.inl 84)), none], sy_dS F1 [], sy_dh F1 X1 X2 (iv_H 2), 0, 0)) :
    hd_W Ls xs d jm_M22 Q (0, sy_dL F [some (.inl (.ref 38)), some (.inl (.ref 20)), some (.inr (.inl 82)), none, none, none, none], sy_dS F [], sy_dh F X1 X2 (iv_H 2), 0, 0) := by
  exact j2wo_0_p0 hd F X1 X2 hB  (fun F1 g e82 e83 e84 => k0 F1 (nz_in0 hB [] (fun j hj hn => g j hj (by simp only [List.mem_cons, List.not_mem_nil, or_false, not_or] at hn; exact trivial)) (List.forall_mem_nil _)) (fun j hj hn => g j hj (by simp only [List.mem_cons, List.not_mem_nil, or_false, not_or] at hn; exact trivial)) ((congrArg Int32.toInt (zz_i e82)).trans (rfl : (sy_i F 82).toInt = (sy_i F 82).toInt)) ((zz_i e82).trans (rfl : sy_i F 82 = sy_i F 82)) ((congrArg Int32.toInt (zz_i e83)).trans (by decide : ((0 : Int32)).toInt = 0)) ((zz_i e83).trans (rfl : (0 : Int32) = (0 : Int32))) ((congrArg Int32.toInt (zz_i e84)).trans (by decide : ((0 : Int32)).toInt = 0)) ((zz_i e84).trans (rfl : (0 : Int32) = (0 : Int32))))
theorem j2wo_8_p0 {Ls : Nat} {xs : Nat → Int32} {d : Nat} {Q : Option Value → jm_h → Prop} (hd : 2 ≤ d) (F : Nat → sy_d) (X1 X2 : List jm_c) (hB : iv_in F iv_B0)
    (h0 : 512 ≤ (sy_i F 84).toInt)
    (k : ∀ F1 : Nat → sy_d, (∀ j, j < 82 → True → F1 j = F j) → Q (some (.int ((0 : Int32)))) (sy_dh F1 X1 X2 (iv_H 2))) :
    hd_W Ls xs d jm_M22 Q (8, sy_dL F [some (.inl (.ref 38)), some (.inl (.ref 20)), none, some (.inr (.inl 82)), some (.inr (.inl 83)), some (.inr (.inl 84)), none], sy_dS F [], sy_dh F X1 X2 (iv_H 2), 0, 0) := by
  refine hd_ret (s := 2) (nv := 85) (v := some (.inl (.int 0))) (uh := hd_ov (iv_id 0 iv_B0) []) (f := true) (sp := [8]) (d0 := 1) (O := [true]) (T := []) (P := [(4, .inl (.int 512), .inr (.inl 84))]) jm_ok22 (by decide +kernel) (by decide +kernel) hd F X1 X2 (fun F' hF hs => ?_)
  have b84 := hd_b (F := F) (F' := F') (k := 84) (hF 84 (by decide))
  have hB' : iv_in F' iv_B0 := iv_in_eq hB (fun j hj => hF j (Nat.lt_of_lt_of_le hj (by decide +kernel)))
  refine ⟨List.forall_mem_cons.mpr ⟨hd_p4 rfl b84 (by have hc : ((512) : Int32).toInt = 512 := (by decide); omega), fun _ h => absurd h List.not_mem_nil⟩, ?_⟩
  refine k _ ?_
  · exact fun j hj _ => (hd_keep hB' (Nat.lt_of_lt_of_le hj (by decide +kernel)) (by simp)).trans (hF j (Nat.lt_of_lt_of_le hj (by decide)))
theorem j2wo_8_p1 {Ls : Nat} {xs : Nat → Int32} {d : Nat} {Q : Option Value → jm_h → Prop} (hd : 2 ≤ d) (F : Nat → sy_d) (X1 X2 : List jm_c) (hB : iv_in F iv_B0)
    (h0 : (sy_i F 84).toInt < 512)
    (h1 : 0 ≤ (sy_i F 82).toInt)
    (h2 : ((sy_i F 82) + ((1 : Int32))).toInt < 512)
    (h3 : 0 ≤ (sy_i F 82).toInt ∧ (sy_i F 82).toInt < 512)
    (h4 : ((sy_ai F 32).getD (sy_i F 82).toNatClampNeg 0).toInt < (-9))
    (h5 : ((sy_ai F 32).getD (sy_i F 82).toNatClampNeg 0).toInt ≠ (-14))
    (h6 : 2 ≤ (sy_i F 83).toInt)
    (h7 : ((sy_ai F 32).getD (sy_i F 82).toNatClampNeg 0).toInt ≠ (-15))
    (h8 : ((sy_ai F 32).getD (sy_i F 82).toNatClampNeg 0).toInt ≠ (-13))
    (h9 : 0 ≤ (((sy_i F 83) + (((-1) : Int32))) - ((1 : Int32))).toInt ∧ (((sy_i F 83) + (((-1) : Int32))) - ((1 : Int32))).toInt < 32)
    (h10 : 0 ≤ ((sy_i F 83) + (((-1) : Int32))).toInt ∧ ((sy_i F 83) + (((-1) : Int32))).toInt < 32)
    (h11 : ((sy_ai F 32).getD (sy_i F 82).toNatClampNeg 0).toInt < (-12))
    (h12 : ((sy_ai F 46).getD ((sy_i F 83) + (((-1) : Int32))).toNatClampNeg 0).toInt ≠ 0)
    (h13 : ((sy_ai F 46).getD ((sy_i F 83) + (((-1) : Int32))).toNatClampNeg 0).toInt ≠ 0)
    (h14 : 0 ≤ (((sy_i F 83) + (((-1) : Int32))) - ((1 : Int32))).toInt ∧ (((sy_i F 83) + (((-1) : Int32))) - ((1 : Int32))).toInt < 32)
    (k : ∀ F1 : Nat → sy_d, (∀ j, j < 82 → j ≠ 46 → F1 j = F j) → F1 46 = .inr (.inl (jm_upd (sy_ai F 46) (((sy_i F 83) + (((-1) : Int32))) - ((1 : Int32))).toNatClampNeg (((sy_ai F 46).getD (((sy_i F 83) + (((-1) : Int32))) - ((1 : Int32))).toNatClampNeg 0) / ((sy_ai F 46).getD ((sy_i F 83) + (((-1) : Int32))).toNatClampNeg 0)))) → F1 82 = .inl (.int ((sy_i F 82) + ((1 : Int32)))) → F1 83 = .inl (.int ((sy_i F 83) + (((-1) : Int32)))) → F1 84 = .inl (.int ((sy_i F 84) + ((1 : Int32)))) → hd_W Ls xs d jm_M22 Q (8, sy_dL F1 [some (.inl (.ref 38)), some (.inl (.ref 20)), none, some (.inr (.inl 82)), some (.inr (.inl 83)), some (.inr (.inl 84)), none], sy_dS F1 [], sy_dh F1 X1 X2 (iv_H 2), 0, 0)) :
    hd_W Ls xs d jm_M22 Q (8, sy_dL F [some (.inl (.ref 38)), some (.inl (.ref 20)), none, some (.inr (.inl 82)), some (.inr (.inl 83)), some (.inr (.inl 84)), none], sy_dS F [], sy_dh F X1 X2 (iv_H 2), 0, 0) := by
  refine hd_run (s := 2) (nv := 85) (pc := 8) (L := [some (.inl (.ref 38)), some (.inl (.ref 20)), none, some (.inr (.inl 82)), some (.inr (.inl 83)), some (.inr (.inl 84)), none]) (S := []) (uh := hd_ov (iv_id 0 iv_B0) [(46, .inr (.inr (.inl 94)))]) (ul := [.inl (.inr (.inl 87)), .inl (.inr (.inl 88)), .inl (.inr (.inl 95))]) (f := true) (sp := [8]) (d0 := 1) (O := [false, false, true, true, true, true, true, true, true, true, true]) (T := [(0, [.inr (.inl 82), .inl (.int 1)], []), (30, [.inr (.inl 82)], [.inr (.inl 32)]), (0, [.inr (.inl 82), .inl (.int 1)], []), (0, [.inr (.inl 83), .inl (.int (-1))], []), (1, [.inr (.inl 88), .inl (.int 1)], []), (1, [.inr (.inl 88), .inl (.int 1)], []), (30, [.inr (.inl 90)], [.inr (.inl 46)]), (30, [.inr (.inl 88)], [.inr (.inl 46)]), (9, [.inr (.inl 91), .inr (.inl 92)], []), (40, [.inr (.inl 89), .inr (.inl 93)], [.inr (.inl 46)]), (0, [.inr (.inl 84), .inl (.int 1)], [])]) (P := [(5, .inl (.int 512), .inr (.inl 84)), (3, .inr (.inl 82), .inl (.int 0)), (2, .inr (.inl 85), .inl (.int 512)), (6, .inr (.inl 82), .inl (.ref 512)), (2, .inr (.inl 86), .inl (.int (-9))), (1, .inr (.inl 86), .inl (.int (-14))), (4, .inl (.int 2), .inr (.inl 83)), (1, .inr (.inl 86), .inl (.int (-15))), (1, .inr (.inl 86), .inl (.int (-13))), (6, .inr (.inl 90), .inl (.ref 32)), (6, .inr (.inl 88), .inl (.ref 32)), (2, .inr (.inl 86), .inl (.int (-12))), (1, .inr (.inl 92), .inl (.int 0)), (1, .inr (.inl 92), .inl (.int 0)), (6, .inr (.inl 89), .inl (.ref 32))]) jm_ok22 (by decide +kernel) (by decide +kernel) hd F X1 X2 (fun F' hF hs => ?_)
  have b84 := hd_b (F := F) (F' := F') (k := 84) (hF 84 (by decide))
  have b82 := hd_b (F := F) (F' := F') (k := 82) (hF 82 (by decide))
  have t85 : sy_dv F' (.inr (.inl 85)) = .int ((sy_i F 82) + ((1 : Int32))) := hd_o (hs 0 _ rfl) b82 rfl rfl
  have a32 := hd_ba (F := F) (F' := F') (k := 32) (hF 32 (by decide))
  have t86 : sy_dv F' (.inr (.inl 86)) = .int ((sy_ai F 32).getD (sy_i F 82).toNatClampNeg 0) := hd_rd (hs 1 _ rfl) b82 a32
  have b83 := hd_b (F := F) (F' := F') (k := 83) (hF 83 (by decide))
  have t88 : sy_dv F' (.inr (.inl 88)) = .int ((sy_i F 83) + (((-1) : Int32))) := hd_o (hs 3 _ rfl) b83 rfl rfl
  have t90 : sy_dv F' (.inr (.inl 90)) = .int (((sy_i F 83) + (((-1) : Int32))) - ((1 : Int32))) := hd_o (hs 5 _ rfl) t88 rfl rfl
  have a46 := hd_ba (F := F) (F' := F') (k := 46) (hF 46 (by decide))
  have t92 : sy_dv F' (.inr (.inl 92)) = .int ((sy_ai F 46).getD ((sy_i F 83) + (((-1) : Int32))).toNatClampNeg 0) := hd_rd (hs 7 _ rfl) t88 a46
  have t89 : sy_dv F' (.inr (.inl 89)) = .int (((sy_i F 83) + (((-1) : Int32))) - ((1 : Int32))) := hd_o (hs 4 _ rfl) t88 rfl rfl
  have t91 : sy_dv F' (.inr (.inl 91)) = .int ((sy_ai F 46).getD (((sy_i F 83) + (((-1) : Int32))) - ((1 : Int32))).toNatClampNeg 0) := hd_rd (hs 6 _ rfl) t90 a46
  have t93 : sy_dv F' (.inr (.inl 93)) = .int (((sy_ai F 46).getD (((sy_i F 83) + (((-1) : Int32))) - ((1 : Int32))).toNatClampNeg 0) / ((sy_ai F 46).getD ((sy_i F 83) + (((-1) : Int32))).toNatClampNeg 0)) := hd_o (hs 8 _ rfl) t91 t92 rfl
  have t94 : sy_da F' (.inr (.inl 94)) = .inl (jm_upd (sy_ai F 46) (((sy_i F 83) + (((-1) : Int32))) - ((1 : Int32))).toNatClampNeg (((sy_ai F 46).getD (((sy_i F 83) + (((-1) : Int32))) - ((1 : Int32))).toNatClampNeg 0) / ((sy_ai F 46).getD ((sy_i F 83) + (((-1) : Int32))).toNatClampNeg 0))) := hd_up (hs 9 _ rfl) t89 t93 a46
  have t87 : sy_dv F' (.inr (.inl 87)) = .int ((sy_i F 82) + ((1 : Int32))) := hd_o (hs 2 _ rfl) b82 rfl rfl
  have t95 : sy_dv F' (.inr (.inl 95)) = .int ((sy_i F 84) + ((1 : Int32))) := hd_o (hs 10 _ rfl) b84 rfl rfl
  have hB' : iv_in F' iv_B0 := iv_in_eq hB (fun j hj => hF j (Nat.lt_of_lt_of_le hj (by decide +kernel)))
  refine ⟨List.forall_mem_cons.mpr ⟨hd_p5 rfl b84 (by have hc : ((512) : Int32).toInt = 512 := (by decide); omega), List.forall_mem_cons.mpr ⟨hd_p3 b82 rfl (by have hc : ((0) : Int32).toInt = 0 := (by decide); omega), List.forall_mem_cons.mpr ⟨hd_p2 t85 rfl (by have hc : ((512) : Int32).toInt = 512 := (by decide); omega), List.forall_mem_cons.mpr ⟨hd_pb b82 (by first | exact h3 | exact h3), List.forall_mem_cons.mpr ⟨hd_p2 t86 rfl (by have hc : (((-9)) : Int32).toInt = (-9) := (by decide); omega), List.forall_mem_cons.mpr ⟨hd_p1 t86 rfl (by have hc : (((-14)) : Int32).toInt = (-14) := (by decide); omega), List.forall_mem_cons.mpr ⟨hd_p4 rfl b83 (by have hc : ((2) : Int32).toInt = 2 := (by decide); omega), List.forall_mem_cons.mpr ⟨hd_p1 t86 rfl (by have hc : (((-15)) : Int32).toInt = (-15) := (by decide); omega), List.forall_mem_cons.mpr ⟨hd_p1 t86 rfl (by have hc : (((-13)) : Int32).toInt = (-13) := (by decide); omega), List.forall_mem_cons.mpr ⟨hd_pb t90 (by first | exact h9 | exact h9), List.forall_mem_cons.mpr ⟨hd_pb t88 (by first | exact h10 | exact h10), List.forall_mem_cons.mpr ⟨hd_p2 t86 rfl (by have hc : (((-12)) : Int32).toInt = (-12) := (by decide); omega), List.forall_mem_cons.mpr ⟨hd_p1 t92 rfl (by have hc : ((0) : Int32).toInt = 0 := (by decide); omega), List.forall_mem_cons.mpr ⟨hd_p1 t92 rfl (by have hc : ((0) : Int32).toInt = 0 := (by decide); omega), List.forall_mem_cons.mpr ⟨hd_pb t89 (by first | exact h14 | exact h14), fun _ h => absurd h List.not_mem_nil⟩⟩⟩⟩⟩⟩⟩⟩⟩⟩⟩⟩⟩⟩⟩, ?_⟩
  refine k _ ?_ ?_ ?_ ?_ ?_
  · exact fun j hj hn => (hd_keep hB' (Nat.lt_of_lt_of_le hj (by decide +kernel)) (by simp; omega)).trans (hF j (Nat.lt_of_lt_of_le hj (by decide)))
  · exact hd_ga (a := .inr (.inl 94)) (by decide +kernel) t94
  · exact hd_gi (x := .inr (.inl 87)) (by decide +kernel) t87
  · exact hd_gi (x := .inr (.inl 88)) (by decide +kernel) t88
  · exact hd_gi (x := .inr (.inl 95)) (by decide +kernel) t95
theorem j2wo_8_p2 {Ls : Nat} {xs : Nat → Int32} {d : Nat} {Q : Option Value → jm_h → Prop} (hd : 2 ≤ d) (F : Nat → sy_d) (X1 X2 : List jm_c) (hB : iv_in F iv_B0)
    (h0 : (sy_i F 84).toInt < 512)
    (h1 : 0 ≤ (sy_i F 82).toInt)
    (h2 : ((sy_i F 82) + ((1 : Int32))).toInt < 512)
    (h3 : 0 ≤ (sy_i F 82).toInt ∧ (sy_i F 82).toInt < 512)
    (h4 : ((sy_ai F 32).getD (sy_i F 82).toNatClampNeg 0).toInt < (-9))
    (h5 : ((sy_ai F 32).getD (sy_i F 82).toNatClampNeg 0).toInt ≠ (-14))
    (h6 : 2 ≤ (sy_i F 83).toInt)
    (h7 : ((sy_ai F 32).getD (sy_i F 82).toNatClampNeg 0).toInt ≠ (-15))
    (h8 : ((sy_ai F 32).getD (sy_i F 82).toNatClampNeg 0).toInt ≠ (-13))
    (h9 : 0 ≤ (((sy_i F 83) + (((-1) : Int32))) - ((1 : Int32))).toInt ∧ (((sy_i F 83) + (((-1) : Int32))) - ((1 : Int32))).toInt < 32)
    (h10 : 0 ≤ ((sy_i F 83) + (((-1) : Int32))).toInt ∧ ((sy_i F 83) + (((-1) : Int32))).toInt < 32)
    (h11 : ((sy_ai F 32).getD (sy_i F 82).toNatClampNeg 0).toInt < (-12))
    (h12 : ((sy_ai F 46).getD ((sy_i F 83) + (((-1) : Int32))).toNatClampNeg 0).toInt = 0)
    (h13 : 0 ≤ (((sy_i F 83) + (((-1) : Int32))) - ((1 : Int32))).toInt ∧ (((sy_i F 83) + (((-1) : Int32))) - ((1 : Int32))).toInt < 32)
    (k : ∀ F1 : Nat → sy_d, (∀ j, j < 82 → j ≠ 46 → F1 j = F j) → F1 46 = .inr (.inl (jm_upd (sy_ai F 46) (((sy_i F 83) + (((-1) : Int32))) - ((1 : Int32))).toNatClampNeg ((0 : Int32)))) → F1 82 = .inl (.int ((sy_i F 82) + ((1 : Int32)))) → F1 83 = .inl (.int ((sy_i F 83) + (((-1) : Int32)))) → F1 84 = .inl (.int ((sy_i F 84) + ((1 : Int32)))) → hd_W Ls xs d jm_M22 Q (8, sy_dL F1 [some (.inl (.ref 38)), some (.inl (.ref 20)), none, some (.inr (.inl 82)), some (.inr (.inl 83)), some (.inr (.inl 84)), none], sy_dS F1 [], sy_dh F1 X1 X2 (iv_H 2), 0, 0)) :
    hd_W Ls xs d jm_M22 Q (8, sy_dL F [some (.inl (.ref 38)), some (.inl (.ref 20)), none, some (.inr (.inl 82)), some (.inr (.inl 83)), some (.inr (.inl 84)), none], sy_dS F [], sy_dh F X1 X2 (iv_H 2), 0, 0) := by
  refine hd_run (s := 2) (nv := 85) (pc := 8) (L := [some (.inl (.ref 38)), some (.inl (.ref 20)), none, some (.inr (.inl 82)), some (.inr (.inl 83)), some (.inr (.inl 84)), none]) (S := []) (uh := hd_ov (iv_id 0 iv_B0) [(46, .inr (.inr (.inl 93)))]) (ul := [.inl (.inr (.inl 87)), .inl (.inr (.inl 88)), .inl (.inr (.inl 94))]) (f := true) (sp := [8]) (d0 := 1) (O := [false, false, true, true, true, true, true, true, true, true, false]) (T := [(0, [.inr (.inl 82), .inl (.int 1)], []), (30, [.inr (.inl 82)], [.inr (.inl 32)]), (0, [.inr (.inl 82), .inl (.int 1)], []), (0, [.inr (.inl 83), .inl (.int (-1))], []), (1, [.inr (.inl 88), .inl (.int 1)], []), (1, [.inr (.inl 88), .inl (.int 1)], []), (30, [.inr (.inl 90)], [.inr (.inl 46)]), (30, [.inr (.inl 88)], [.inr (.inl 46)]), (40, [.inr (.inl 89), .inl (.int 0)], [.inr (.inl 46)]), (0, [.inr (.inl 84), .inl (.int 1)], [])]) (P := [(5, .inl (.int 512), .inr (.inl 84)), (3, .inr (.inl 82), .inl (.int 0)), (2, .inr (.inl 85), .inl (.int 512)), (6, .inr (.inl 82), .inl (.ref 512)), (2, .inr (.inl 86), .inl (.int (-9))), (1, .inr (.inl 86), .inl (.int (-14))), (4, .inl (.int 2), .inr (.inl 83)), (1, .inr (.inl 86), .inl (.int (-15))), (1, .inr (.inl 86), .inl (.int (-13))), (6, .inr (.inl 90), .inl (.ref 32)), (6, .inr (.inl 88), .inl (.ref 32)), (2, .inr (.inl 86), .inl (.int (-12))), (0, .inr (.inl 92), .inl (.int 0)), (6, .inr (.inl 89), .inl (.ref 32))]) jm_ok22 (by decide +kernel) (by decide +kernel) hd F X1 X2 (fun F' hF hs => ?_)
  have b84 := hd_b (F := F) (F' := F') (k := 84) (hF 84 (by decide))
  have b82 := hd_b (F := F) (F' := F') (k := 82) (hF 82 (by decide))
  have t85 : sy_dv F' (.inr (.inl 85)) = .int ((sy_i F 82) + ((1 : Int32))) := hd_o (hs 0 _ rfl) b82 rfl rfl
  have a32 := hd_ba (F := F) (F' := F') (k := 32) (hF 32 (by decide))
  have t86 : sy_dv F' (.inr (.inl 86)) = .int ((sy_ai F 32).getD (sy_i F 82).toNatClampNeg 0) := hd_rd (hs 1 _ rfl) b82 a32
  have b83 := hd_b (F := F) (F' := F') (k := 83) (hF 83 (by decide))
  have t88 : sy_dv F' (.inr (.inl 88)) = .int ((sy_i F 83) + (((-1) : Int32))) := hd_o (hs 3 _ rfl) b83 rfl rfl
  have t90 : sy_dv F' (.inr (.inl 90)) = .int (((sy_i F 83) + (((-1) : Int32))) - ((1 : Int32))) := hd_o (hs 5 _ rfl) t88 rfl rfl
  have a46 := hd_ba (F := F) (F' := F') (k := 46) (hF 46 (by decide))
  have t92 : sy_dv F' (.inr (.inl 92)) = .int ((sy_ai F 46).getD ((sy_i F 83) + (((-1) : Int32))).toNatClampNeg 0) := hd_rd (hs 7 _ rfl) t88 a46
  have t89 : sy_dv F' (.inr (.inl 89)) = .int (((sy_i F 83) + (((-1) : Int32))) - ((1 : Int32))) := hd_o (hs 4 _ rfl) t88 rfl rfl
  have t93 : sy_da F' (.inr (.inl 93)) = .inl (jm_upd (sy_ai F 46) (((sy_i F 83) + (((-1) : Int32))) - ((1 : Int32))).toNatClampNeg ((0 : Int32))) := hd_up (hs 8 _ rfl) t89 rfl a46
  have t87 : sy_dv F' (.inr (.inl 87)) = .int ((sy_i F 82) + ((1 : Int32))) := hd_o (hs 2 _ rfl) b82 rfl rfl
  have t94 : sy_dv F' (.inr (.inl 94)) = .int ((sy_i F 84) + ((1 : Int32))) := hd_o (hs 9 _ rfl) b84 rfl rfl
  have hB' : iv_in F' iv_B0 := iv_in_eq hB (fun j hj => hF j (Nat.lt_of_lt_of_le hj (by decide +kernel)))
  refine ⟨List.forall_mem_cons.mpr ⟨hd_p5 rfl b84 (by have hc : ((512) : Int32).toInt = 512 := (by decide); omega), List.forall_mem_cons.mpr ⟨hd_p3 b82 rfl (by have hc : ((0) : Int32).toInt = 0 := (by decide); omega), List.forall_mem_cons.mpr ⟨hd_p2 t85 rfl (by have hc : ((512) : Int32).toInt = 512 := (by decide); omega), List.forall_mem_cons.mpr ⟨hd_pb b82 (by first | exact h3 | exact h3), List.forall_mem_cons.mpr ⟨hd_p2 t86 rfl (by have hc : (((-9)) : Int32).toInt = (-9) := (by decide); omega), List.forall_mem_cons.mpr ⟨hd_p1 t86 rfl (by have hc : (((-14)) : Int32).toInt = (-14) := (by decide); omega), List.forall_mem_cons.mpr ⟨hd_p4 rfl b83 (by have hc : ((2) : Int32).toInt = 2 := (by decide); omega), List.forall_mem_cons.mpr ⟨hd_p1 t86 rfl (by have hc : (((-15)) : Int32).toInt = (-15) := (by decide); omega), List.forall_mem_cons.mpr ⟨hd_p1 t86 rfl (by have hc : (((-13)) : Int32).toInt = (-13) := (by decide); omega), List.forall_mem_cons.mpr ⟨hd_pb t90 (by first | exact h9 | exact h9), List.forall_mem_cons.mpr ⟨hd_pb t88 (by first | exact h10 | exact h10), List.forall_mem_cons.mpr ⟨hd_p2 t86 rfl (by have hc : (((-12)) : Int32).toInt = (-12) := (by decide); omega), List.forall_mem_cons.mpr ⟨hd_p0 t92 rfl (by have hc : ((0) : Int32).toInt = 0 := (by decide); omega), List.forall_mem_cons.mpr ⟨hd_pb t89 (by first | exact h13 | exact h13), fun _ h => absurd h List.not_mem_nil⟩⟩⟩⟩⟩⟩⟩⟩⟩⟩⟩⟩⟩⟩, ?_⟩
  refine k _ ?_ ?_ ?_ ?_ ?_
  · exact fun j hj hn => (hd_keep hB' (Nat.lt_of_lt_of_le hj (by decide +kernel)) (by simp; omega)).trans (hF j (Nat.lt_of_lt_of_le hj (by decide)))
  · exact hd_ga (a := .inr (.inl 93)) (by decide +kernel) t93
  · exact hd_gi (x := .inr (.inl 87)) (by decide +kernel) t87
  · exact hd_gi (x := .inr (.inl 88)) (by decide +kernel) t88
  · exact hd_gi (x := .inr (.inl 94)) (by decide +kernel) t94
theorem j2wo_8_p3 {Ls : Nat} {xs : Nat → Int32} {d : Nat} {Q : Option Value → jm_h → Prop} (hd : 2 ≤ d) (F : Nat → sy_d) (X1 X2 : List jm_c) (hB : iv_in F iv_B0)
    (h0 : (sy_i F 84).toInt < 512)
    (h1 : 0 ≤ (sy_i F 82).toInt)
    (h2 : ((sy_i F 82) + ((1 : Int32))).toInt < 512)
    (h3 : 0 ≤ (sy_i F 82).toInt ∧ (sy_i F 82).toInt < 512)
    (h4 : ((sy_ai F 32).getD (sy_i F 82).toNatClampNeg 0).toInt < (-9))
    (h5 : ((sy_ai F 32).getD (sy_i F 82).toNatClampNeg 0).toInt ≠ (-14))
    (h6 : 2 ≤ (sy_i F 83).toInt)
    (h7 : ((sy_ai F 32).getD (sy_i F 82).toNatClampNeg 0).toInt ≠ (-15))
    (h8 : ((sy_ai F 32).getD (sy_i F 82).toNatClampNeg 0).toInt ≠ (-13))
    (h9 : 0 ≤ (((sy_i F 83) + (((-1) : Int32))) - ((1 : Int32))).toInt ∧ (((sy_i F 83) + (((-1) : Int32))) - ((1 : Int32))).toInt < 32)
    (h10 : 0 ≤ ((sy_i F 83) + (((-1) : Int32))).toInt ∧ ((sy_i F 83) + (((-1) : Int32))).toInt < 32)
    (h11 : ((sy_ai F 32).getD (sy_i F 82).toNatClampNeg 0).toInt = (-12))
    (h12 : 0 ≤ (((sy_i F 83) + (((-1) : Int32))) - ((1 : Int32))).toInt ∧ (((sy_i F 83) + (((-1) : Int32))) - ((1 : Int32))).toInt < 32)
    (k : ∀ F1 : Nat → sy_d, (∀ j, j < 82 → j ≠ 46 → F1 j = F j) → F1 46 = .inr (.inl (jm_upd (sy_ai F 46) (((sy_i F 83) + (((-1) : Int32))) - ((1 : Int32))).toNatClampNeg (((sy_ai F 46).getD (((sy_i F 83) + (((-1) : Int32))) - ((1 : Int32))).toNatClampNeg 0) * ((sy_ai F 46).getD ((sy_i F 83) + (((-1) : Int32))).toNatClampNeg 0)))) → F1 82 = .inl (.int ((sy_i F 82) + ((1 : Int32)))) → F1 83 = .inl (.int ((sy_i F 83) + (((-1) : Int32)))) → F1 84 = .inl (.int ((sy_i F 84) + ((1 : Int32)))) → hd_W Ls xs d jm_M22 Q (8, sy_dL F1 [some (.inl (.ref 38)), some (.inl (.ref 20)), none, some (.inr (.inl 82)), some (.inr (.inl 83)), some (.inr (.inl 84)), none], sy_dS F1 [], sy_dh F1 X1 X2 (iv_H 2), 0, 0)) :
    hd_W Ls xs d jm_M22 Q (8, sy_dL F [some (.inl (.ref 38)), some (.inl (.ref 20)), none, some (.inr (.inl 82)), some (.inr (.inl 83)), some (.inr (.inl 84)), none], sy_dS F [], sy_dh F X1 X2 (iv_H 2), 0, 0) := by
  refine hd_run (s := 2) (nv := 85) (pc := 8) (L := [some (.inl (.ref 38)), some (.inl (.ref 20)), none, some (.inr (.inl 82)), some (.inr (.inl 83)), some (.inr (.inl 84)), none]) (S := []) (uh := hd_ov (iv_id 0 iv_B0) [(46, .inr (.inr (.inl 94)))]) (ul := [.inl (.inr (.inl 87)), .inl (.inr (.inl 88)), .inl (.inr (.inl 95))]) (f := true) (sp := [8]) (d0 := 1) (O := [false, false, true, true, true, true, true, true, false, true]) (T := [(0, [.inr (.inl 82), .inl (.int 1)], []), (30, [.inr (.inl 82)], [.inr (.inl 32)]), (0, [.inr (.inl 82), .inl (.int 1)], []), (0, [.inr (.inl 83), .inl (.int (-1))], []), (1, [.inr (.inl 88), .inl (.int 1)], []), (1, [.inr (.inl 88), .inl (.int 1)], []), (30, [.inr (.inl 90)], [.inr (.inl 46)]), (30, [.inr (.inl 88)], [.inr (.inl 46)]), (2, [.inr (.inl 91), .inr (.inl 92)], []), (40, [.inr (.inl 89), .inr (.inl 93)], [.inr (.inl 46)]), (0, [.inr (.inl 84), .inl (.int 1)], [])]) (P := [(5, .inl (.int 512), .inr (.inl 84)), (3, .inr (.inl 82), .inl (.int 0)), (2, .inr (.inl 85), .inl (.int 512)), (6, .inr (.inl 82), .inl (.ref 512)), (2, .inr (.inl 86), .inl (.int (-9))), (1, .inr (.inl 86), .inl (.int (-14))), (4, .inl (.int 2), .inr (.inl 83)), (1, .inr (.inl 86), .inl (.int (-15))), (1, .inr (.inl 86), .inl (.int (-13))), (6, .inr (.inl 90), .inl (.ref 32)), (6, .inr (.inl 88), .inl (.ref 32)), (0, .inr (.inl 86), .inl (.int (-12))), (6, .inr (.inl 89), .inl (.ref 32))]) jm_ok22 (by decide +kernel) (by decide +kernel) hd F X1 X2 (fun F' hF hs => ?_)
  have b84 := hd_b (F := F) (F' := F') (k := 84) (hF 84 (by decide))
  have b82 := hd_b (F := F) (F' := F') (k := 82) (hF 82 (by decide))
  have t85 : sy_dv F' (.inr (.inl 85)) = .int ((sy_i F 82) + ((1 : Int32))) := hd_o (hs 0 _ rfl) b82 rfl rfl
  have a32 := hd_ba (F := F) (F' := F') (k := 32) (hF 32 (by decide))
  have t86 : sy_dv F' (.inr (.inl 86)) = .int ((sy_ai F 32).getD (sy_i F 82).toNatClampNeg 0) := hd_rd (hs 1 _ rfl) b82 a32
  have b83 := hd_b (F := F) (F' := F') (k := 83) (hF 83 (by decide))
  have t88 : sy_dv F' (.inr (.inl 88)) = .int ((sy_i F 83) + (((-1) : Int32))) := hd_o (hs 3 _ rfl) b83 rfl rfl
  have t90 : sy_dv F' (.inr (.inl 90)) = .int (((sy_i F 83) + (((-1) : Int32))) - ((1 : Int32))) := hd_o (hs 5 _ rfl) t88 rfl rfl
  have t89 : sy_dv F' (.inr (.inl 89)) = .int (((sy_i F 83) + (((-1) : Int32))) - ((1 : Int32))) := hd_o (hs 4 _ rfl) t88 rfl rfl
  have a46 := hd_ba (F := F) (F' := F') (k := 46) (hF 46 (by decide))
  have t91 : sy_dv F' (.inr (.inl 91)) = .int ((sy_ai F 46).getD (((sy_i F 83) + (((-1) : Int32))) - ((1 : Int32))).toNatClampNeg 0) := hd_rd (hs 6 _ rfl) t90 a46
  have t92 : sy_dv F' (.inr (.inl 92)) = .int ((sy_ai F 46).getD ((sy_i F 83) + (((-1) : Int32))).toNatClampNeg 0) := hd_rd (hs 7 _ rfl) t88 a46
  have t93 : sy_dv F' (.inr (.inl 93)) = .int (((sy_ai F 46).getD (((sy_i F 83) + (((-1) : Int32))) - ((1 : Int32))).toNatClampNeg 0) * ((sy_ai F 46).getD ((sy_i F 83) + (((-1) : Int32))).toNatClampNeg 0)) := hd_o (hs 8 _ rfl) t91 t92 rfl
  have t94 : sy_da F' (.inr (.inl 94)) = .inl (jm_upd (sy_ai F 46) (((sy_i F 83) + (((-1) : Int32))) - ((1 : Int32))).toNatClampNeg (((sy_ai F 46).getD (((sy_i F 83) + (((-1) : Int32))) - ((1 : Int32))).toNatClampNeg 0) * ((sy_ai F 46).getD ((sy_i F 83) + (((-1) : Int32))).toNatClampNeg 0))) := hd_up (hs 9 _ rfl) t89 t93 a46
  have t87 : sy_dv F' (.inr (.inl 87)) = .int ((sy_i F 82) + ((1 : Int32))) := hd_o (hs 2 _ rfl) b82 rfl rfl
  have t95 : sy_dv F' (.inr (.inl 95)) = .int ((sy_i F 84) + ((1 : Int32))) := hd_o (hs 10 _ rfl) b84 rfl rfl
  have hB' : iv_in F' iv_B0 := iv_in_eq hB (fun j hj => hF j (Nat.lt_of_lt_of_le hj (by decide +kernel)))
  refine ⟨List.forall_mem_cons.mpr ⟨hd_p5 rfl b84 (by have hc : ((512) : Int32).toInt = 512 := (by decide); omega), List.forall_mem_cons.mpr ⟨hd_p3 b82 rfl (by have hc : ((0) : Int32).toInt = 0 := (by decide); omega), List.forall_mem_cons.mpr ⟨hd_p2 t85 rfl (by have hc : ((512) : Int32).toInt = 512 := (by decide); omega), List.forall_mem_cons.mpr ⟨hd_pb b82 (by first | exact h3 | exact h3), List.forall_mem_cons.mpr ⟨hd_p2 t86 rfl (by have hc : (((-9)) : Int32).toInt = (-9) := (by decide); omega), List.forall_mem_cons.mpr ⟨hd_p1 t86 rfl (by have hc : (((-14)) : Int32).toInt = (-14) := (by decide); omega), List.forall_mem_cons.mpr ⟨hd_p4 rfl b83 (by have hc : ((2) : Int32).toInt = 2 := (by decide); omega), List.forall_mem_cons.mpr ⟨hd_p1 t86 rfl (by have hc : (((-15)) : Int32).toInt = (-15) := (by decide); omega), List.forall_mem_cons.mpr ⟨hd_p1 t86 rfl (by have hc : (((-13)) : Int32).toInt = (-13) := (by decide); omega), List.forall_mem_cons.mpr ⟨hd_pb t90 (by first | exact h9 | exact h9), List.forall_mem_cons.mpr ⟨hd_pb t88 (by first | exact h10 | exact h10), List.forall_mem_cons.mpr ⟨hd_p0 t86 rfl (by have hc : (((-12)) : Int32).toInt = (-12) := (by decide); omega), List.forall_mem_cons.mpr ⟨hd_pb t89 (by first | exact h12 | exact h12), fun _ h => absurd h List.not_mem_nil⟩⟩⟩⟩⟩⟩⟩⟩⟩⟩⟩⟩⟩, ?_⟩
  refine k _ ?_ ?_ ?_ ?_ ?_
  · exact fun j hj hn => (hd_keep hB' (Nat.lt_of_lt_of_le hj (by decide +kernel)) (by simp; omega)).trans (hF j (Nat.lt_of_lt_of_le hj (by decide)))
  · exact hd_ga (a := .inr (.inl 94)) (by decide +kernel) t94
  · exact hd_gi (x := .inr (.inl 87)) (by decide +kernel) t87
  · exact hd_gi (x := .inr (.inl 88)) (by decide +kernel) t88
  · exact hd_gi (x := .inr (.inl 95)) (by decide +kernel) t95
theorem j2wo_8_p4 {Ls : Nat} {xs : Nat → Int32} {d : Nat} {Q : Option Value → jm_h → Prop} (hd : 2 ≤ d) (F : Nat → sy_d) (X1 X2 : List jm_c) (hB : iv_in F iv_B0)
    (h0 : (sy_i F 84).toInt < 512)
    (h1 : 0 ≤ (sy_i F 82).toInt)
    (h2 : ((sy_i F 82) + ((1 : Int32))).toInt < 512)
    (h3 : 0 ≤ (sy_i F 82).toInt ∧ (sy_i F 82).toInt < 512)
    (h4 : ((sy_ai F 32).getD (sy_i F 82).toNatClampNeg 0).toInt < (-9))
    (h5 : ((sy_ai F 32).getD (sy_i F 82).toNatClampNeg 0).toInt ≠ (-14))
    (h6 : 2 ≤ (sy_i F 83).toInt)
    (h7 : ((sy_ai F 32).getD (sy_i F 82).toNatClampNeg 0).toInt ≠ (-15))
    (h8 : ((sy_ai F 32).getD (sy_i F 82).toNatClampNeg 0).toInt ≠ (-13))
    (h9 : 0 ≤ (((sy_i F 83) + (((-1) : Int32))) - ((1 : Int32))).toInt ∧ (((sy_i F 83) + (((-1) : Int32))) - ((1 : Int32))).toInt < 32)
    (h10 : 0 ≤ ((sy_i F 83) + (((-1) : Int32))).toInt ∧ ((sy_i F 83) + (((-1) : Int32))).toInt < 32)
    (h11 : ((sy_ai F 32).getD (sy_i F 82).toNatClampNeg 0).toInt = (-11))
    (h12 : 0 ≤ (((sy_i F 83) + (((-1) : Int32))) - ((1 : Int32))).toInt ∧ (((sy_i F 83) + (((-1) : Int32))) - ((1 : Int32))).toInt < 32)
    (k : ∀ F1 : Nat → sy_d, (∀ j, j < 82 → j ≠ 46 → F1 j = F j) → F1 46 = .inr (.inl (jm_upd (sy_ai F 46) (((sy_i F 83) + (((-1) : Int32))) - ((1 : Int32))).toNatClampNeg (((sy_ai F 46).getD (((sy_i F 83) + (((-1) : Int32))) - ((1 : Int32))).toNatClampNeg 0) - ((sy_ai F 46).getD ((sy_i F 83) + (((-1) : Int32))).toNatClampNeg 0)))) → F1 82 = .inl (.int ((sy_i F 82) + ((1 : Int32)))) → F1 83 = .inl (.int ((sy_i F 83) + (((-1) : Int32)))) → F1 84 = .inl (.int ((sy_i F 84) + ((1 : Int32)))) → hd_W Ls xs d jm_M22 Q (8, sy_dL F1 [some (.inl (.ref 38)), some (.inl (.ref 20)), none, some (.inr (.inl 82)), some (.inr (.inl 83)), some (.inr (.inl 84)), none], sy_dS F1 [], sy_dh F1 X1 X2 (iv_H 2), 0, 0)) :
    hd_W Ls xs d jm_M22 Q (8, sy_dL F [some (.inl (.ref 38)), some (.inl (.ref 20)), none, some (.inr (.inl 82)), some (.inr (.inl 83)), some (.inr (.inl 84)), none], sy_dS F [], sy_dh F X1 X2 (iv_H 2), 0, 0) := by
  refine hd_run (s := 2) (nv := 85) (pc := 8) (L := [some (.inl (.ref 38)), some (.inl (.ref 20)), none, some (.inr (.inl 82)), some (.inr (.inl 83)), some (.inr (.inl 84)), none]) (S := []) (uh := hd_ov (iv_id 0 iv_B0) [(46, .inr (.inr (.inl 94)))]) (ul := [.inl (.inr (.inl 87)), .inl (.inr (.inl 88)), .inl (.inr (.inl 95))]) (f := true) (sp := [8]) (d0 := 1) (O := [false, false, true, true, true, true, true, true, false, false, true]) (T := [(0, [.inr (.inl 82), .inl (.int 1)], []), (30, [.inr (.inl 82)], [.inr (.inl 32)]), (0, [.inr (.inl 82), .inl (.int 1)], []), (0, [.inr (.inl 83), .inl (.int (-1))], []), (1, [.inr (.inl 88), .inl (.int 1)], []), (1, [.inr (.inl 88), .inl (.int 1)], []), (30, [.inr (.inl 90)], [.inr (.inl 46)]), (30, [.inr (.inl 88)], [.inr (.inl 46)]), (1, [.inr (.inl 91), .inr (.inl 92)], []), (40, [.inr (.inl 89), .inr (.inl 93)], [.inr (.inl 46)]), (0, [.inr (.inl 84), .inl (.int 1)], [])]) (P := [(5, .inl (.int 512), .inr (.inl 84)), (3, .inr (.inl 82), .inl (.int 0)), (2, .inr (.inl 85), .inl (.int 512)), (6, .inr (.inl 82), .inl (.ref 512)), (2, .inr (.inl 86), .inl (.int (-9))), (1, .inr (.inl 86), .inl (.int (-14))), (4, .inl (.int 2), .inr (.inl 83)), (1, .inr (.inl 86), .inl (.int (-15))), (1, .inr (.inl 86), .inl (.int (-13))), (6, .inr (.inl 90), .inl (.ref 32)), (6, .inr (.inl 88), .inl (.ref 32)), (0, .inr (.inl 86), .inl (.int (-11))), (6, .inr (.inl 89), .inl (.ref 32))]) jm_ok22 (by decide +kernel) (by decide +kernel) hd F X1 X2 (fun F' hF hs => ?_)
  have b84 := hd_b (F := F) (F' := F') (k := 84) (hF 84 (by decide))
  have b82 := hd_b (F := F) (F' := F') (k := 82) (hF 82 (by decide))
  have t85 : sy_dv F' (.inr (.inl 85)) = .int ((sy_i F 82) + ((1 : Int32))) := hd_o (hs 0 _ rfl) b82 rfl rfl
  have a32 := hd_ba (F := F) (F' := F') (k := 32) (hF 32 (by decide))
  have t86 : sy_dv F' (.inr (.inl 86)) = .int ((sy_ai F 32).getD (sy_i F 82).toNatClampNeg 0) := hd_rd (hs 1 _ rfl) b82 a32
  have b83 := hd_b (F := F) (F' := F') (k := 83) (hF 83 (by decide))
  have t88 : sy_dv F' (.inr (.inl 88)) = .int ((sy_i F 83) + (((-1) : Int32))) := hd_o (hs 3 _ rfl) b83 rfl rfl
  have t90 : sy_dv F' (.inr (.inl 90)) = .int (((sy_i F 83) + (((-1) : Int32))) - ((1 : Int32))) := hd_o (hs 5 _ rfl) t88 rfl rfl
  have t89 : sy_dv F' (.inr (.inl 89)) = .int (((sy_i F 83) + (((-1) : Int32))) - ((1 : Int32))) := hd_o (hs 4 _ rfl) t88 rfl rfl
  have a46 := hd_ba (F := F) (F' := F') (k := 46) (hF 46 (by decide))
  have t91 : sy_dv F' (.inr (.inl 91)) = .int ((sy_ai F 46).getD (((sy_i F 83) + (((-1) : Int32))) - ((1 : Int32))).toNatClampNeg 0) := hd_rd (hs 6 _ rfl) t90 a46
  have t92 : sy_dv F' (.inr (.inl 92)) = .int ((sy_ai F 46).getD ((sy_i F 83) + (((-1) : Int32))).toNatClampNeg 0) := hd_rd (hs 7 _ rfl) t88 a46
  have t93 : sy_dv F' (.inr (.inl 93)) = .int (((sy_ai F 46).getD (((sy_i F 83) + (((-1) : Int32))) - ((1 : Int32))).toNatClampNeg 0) - ((sy_ai F 46).getD ((sy_i F 83) + (((-1) : Int32))).toNatClampNeg 0)) := hd_o (hs 8 _ rfl) t91 t92 rfl
  have t94 : sy_da F' (.inr (.inl 94)) = .inl (jm_upd (sy_ai F 46) (((sy_i F 83) + (((-1) : Int32))) - ((1 : Int32))).toNatClampNeg (((sy_ai F 46).getD (((sy_i F 83) + (((-1) : Int32))) - ((1 : Int32))).toNatClampNeg 0) - ((sy_ai F 46).getD ((sy_i F 83) + (((-1) : Int32))).toNatClampNeg 0))) := hd_up (hs 9 _ rfl) t89 t93 a46
  have t87 : sy_dv F' (.inr (.inl 87)) = .int ((sy_i F 82) + ((1 : Int32))) := hd_o (hs 2 _ rfl) b82 rfl rfl
  have t95 : sy_dv F' (.inr (.inl 95)) = .int ((sy_i F 84) + ((1 : Int32))) := hd_o (hs 10 _ rfl) b84 rfl rfl
  have hB' : iv_in F' iv_B0 := iv_in_eq hB (fun j hj => hF j (Nat.lt_of_lt_of_le hj (by decide +kernel)))
  refine ⟨List.forall_mem_cons.mpr ⟨hd_p5 rfl b84 (by have hc : ((512) : Int32).toInt = 512 := (by decide); omega), List.forall_mem_cons.mpr ⟨hd_p3 b82 rfl (by have hc : ((0) : Int32).toInt = 0 := (by decide); omega), List.forall_mem_cons.mpr ⟨hd_p2 t85 rfl (by have hc : ((512) : Int32).toInt = 512 := (by decide); omega), List.forall_mem_cons.mpr ⟨hd_pb b82 (by first | exact h3 | exact h3), List.forall_mem_cons.mpr ⟨hd_p2 t86 rfl (by have hc : (((-9)) : Int32).toInt = (-9) := (by decide); omega), List.forall_mem_cons.mpr ⟨hd_p1 t86 rfl (by have hc : (((-14)) : Int32).toInt = (-14) := (by decide); omega), List.forall_mem_cons.mpr ⟨hd_p4 rfl b83 (by have hc : ((2) : Int32).toInt = 2 := (by decide); omega), List.forall_mem_cons.mpr ⟨hd_p1 t86 rfl (by have hc : (((-15)) : Int32).toInt = (-15) := (by decide); omega), List.forall_mem_cons.mpr ⟨hd_p1 t86 rfl (by have hc : (((-13)) : Int32).toInt = (-13) := (by decide); omega), List.forall_mem_cons.mpr ⟨hd_pb t90 (by first | exact h9 | exact h9), List.forall_mem_cons.mpr ⟨hd_pb t88 (by first | exact h10 | exact h10), List.forall_mem_cons.mpr ⟨hd_p0 t86 rfl (by have hc : (((-11)) : Int32).toInt = (-11) := (by decide); omega), List.forall_mem_cons.mpr ⟨hd_pb t89 (by first | exact h12 | exact h12), fun _ h => absurd h List.not_mem_nil⟩⟩⟩⟩⟩⟩⟩⟩⟩⟩⟩⟩⟩, ?_⟩
  refine k _ ?_ ?_ ?_ ?_ ?_
  · exact fun j hj hn => (hd_keep hB' (Nat.lt_of_lt_of_le hj (by decide +kernel)) (by simp; omega)).trans (hF j (Nat.lt_of_lt_of_le hj (by decide)))
  · exact hd_ga (a := .inr (.inl 94)) (by decide +kernel) t94
  · exact hd_gi (x := .inr (.inl 87)) (by decide +kernel) t87
  · exact hd_gi (x := .inr (.inl 88)) (by decide +kernel) t88
  · exact hd_gi (x := .inr (.inl 95)) (by decide +kernel) t95
theorem j2wo_8_p5 {Ls : Nat} {xs : Nat → Int32} {d : Nat} {Q : Option Value → jm_h → Prop} (hd : 2 ≤ d) (F : Nat → sy_d) (X1 X2 : List jm_c) (hB : iv_in F iv_B0)
    (h0 : (sy_i F 84).toInt < 512)
    (h1 : 0 ≤ (sy_i F 82).toInt)
    (h2 : ((sy_i F 82) + ((1 : Int32))).toInt < 512)
    (h3 : 0 ≤ (sy_i F 82).toInt ∧ (sy_i F 82).toInt < 512)
    (h4 : ((sy_ai F 32).getD (sy_i F 82).toNatClampNeg 0).toInt < (-9))
    (h5 : ((sy_ai F 32).getD (sy_i F 82).toNatClampNeg 0).toInt ≠ (-14))
    (h6 : 2 ≤ (sy_i F 83).toInt)
    (h7 : ((sy_ai F 32).getD (sy_i F 82).toNatClampNeg 0).toInt ≠ (-15))
    (h8 : ((sy_ai F 32).getD (sy_i F 82).toNatClampNeg 0).toInt ≠ (-13))
    (h9 : 0 ≤ (((sy_i F 83) + (((-1) : Int32))) - ((1 : Int32))).toInt ∧ (((sy_i F 83) + (((-1) : Int32))) - ((1 : Int32))).toInt < 32)
    (h10 : 0 ≤ ((sy_i F 83) + (((-1) : Int32))).toInt ∧ ((sy_i F 83) + (((-1) : Int32))).toInt < 32)
    (h11 : ((sy_ai F 32).getD (sy_i F 82).toNatClampNeg 0).toInt = (-10))
    (h12 : 0 ≤ (((sy_i F 83) + (((-1) : Int32))) - ((1 : Int32))).toInt ∧ (((sy_i F 83) + (((-1) : Int32))) - ((1 : Int32))).toInt < 32)
    (k : ∀ F1 : Nat → sy_d, (∀ j, j < 82 → j ≠ 46 → F1 j = F j) → F1 46 = .inr (.inl (jm_upd (sy_ai F 46) (((sy_i F 83) + (((-1) : Int32))) - ((1 : Int32))).toNatClampNeg (((sy_ai F 46).getD (((sy_i F 83) + (((-1) : Int32))) - ((1 : Int32))).toNatClampNeg 0) + ((sy_ai F 46).getD ((sy_i F 83) + (((-1) : Int32))).toNatClampNeg 0)))) → F1 82 = .inl (.int ((sy_i F 82) + ((1 : Int32)))) → F1 83 = .inl (.int ((sy_i F 83) + (((-1) : Int32)))) → F1 84 = .inl (.int ((sy_i F 84) + ((1 : Int32)))) → hd_W Ls xs d jm_M22 Q (8, sy_dL F1 [some (.inl (.ref 38)), some (.inl (.ref 20)), none, some (.inr (.inl 82)), some (.inr (.inl 83)), some (.inr (.inl 84)), none], sy_dS F1 [], sy_dh F1 X1 X2 (iv_H 2), 0, 0)) :
    hd_W Ls xs d jm_M22 Q (8, sy_dL F [some (.inl (.ref 38)), some (.inl (.ref 20)), none, some (.inr (.inl 82)), some (.inr (.inl 83)), some (.inr (.inl 84)), none], sy_dS F [], sy_dh F X1 X2 (iv_H 2), 0, 0) := by
  refine hd_run (s := 2) (nv := 85) (pc := 8) (L := [some (.inl (.ref 38)), some (.inl (.ref 20)), none, some (.inr (.inl 82)), some (.inr (.inl 83)), some (.inr (.inl 84)), none]) (S := []) (uh := hd_ov (iv_id 0 iv_B0) [(46, .inr (.inr (.inl 94)))]) (ul := [.inl (.inr (.inl 87)), .inl (.inr (.inl 88)), .inl (.inr (.inl 95))]) (f := true) (sp := [8]) (d0 := 1) (O := [false, false, true, true, true, true, true, true, false, false, false, true]) (T := [(0, [.inr (.inl 82), .inl (.int 1)], []), (30, [.inr (.inl 82)], [.inr (.inl 32)]), (0, [.inr (.inl 82), .inl (.int 1)], []), (0, [.inr (.inl 83), .inl (.int (-1))], []), (1, [.inr (.inl 88), .inl (.int 1)], []), (1, [.inr (.inl 88), .inl (.int 1)], []), (30, [.inr (.inl 90)], [.inr (.inl 46)]), (30, [.inr (.inl 88)], [.inr (.inl 46)]), (0, [.inr (.inl 91), .inr (.inl 92)], []), (40, [.inr (.inl 89), .inr (.inl 93)], [.inr (.inl 46)]), (0, [.inr (.inl 84), .inl (.int 1)], [])]) (P := [(5, .inl (.int 512), .inr (.inl 84)), (3, .inr (.inl 82), .inl (.int 0)), (2, .inr (.inl 85), .inl (.int 512)), (6, .inr (.inl 82), .inl (.ref 512)), (2, .inr (.inl 86), .inl (.int (-9))), (1, .inr (.inl 86), .inl (.int (-14))), (4, .inl (.int 2), .inr (.inl 83)), (1, .inr (.inl 86), .inl (.int (-15))), (1, .inr (.inl 86), .inl (.int (-13))), (6, .inr (.inl 90), .inl (.ref 32)), (6, .inr (.inl 88), .inl (.ref 32)), (0, .inr (.inl 86), .inl (.int (-10))), (6, .inr (.inl 89), .inl (.ref 32))]) jm_ok22 (by decide +kernel) (by decide +kernel) hd F X1 X2 (fun F' hF hs => ?_)
  have b84 := hd_b (F := F) (F' := F') (k := 84) (hF 84 (by decide))
  have b82 := hd_b (F := F) (F' := F') (k := 82) (hF 82 (by decide))
  have t85 : sy_dv F' (.inr (.inl 85)) = .int ((sy_i F 82) + ((1 : Int32))) := hd_o (hs 0 _ rfl) b82 rfl rfl
  have a32 := hd_ba (F := F) (F' := F') (k := 32) (hF 32 (by decide))
  have t86 : sy_dv F' (.inr (.inl 86)) = .int ((sy_ai F 32).getD (sy_i F 82).toNatClampNeg 0) := hd_rd (hs 1 _ rfl) b82 a32
  have b83 := hd_b (F := F) (F' := F') (k := 83) (hF 83 (by decide))
  have t88 : sy_dv F' (.inr (.inl 88)) = .int ((sy_i F 83) + (((-1) : Int32))) := hd_o (hs 3 _ rfl) b83 rfl rfl
  have t90 : sy_dv F' (.inr (.inl 90)) = .int (((sy_i F 83) + (((-1) : Int32))) - ((1 : Int32))) := hd_o (hs 5 _ rfl) t88 rfl rfl
  have t89 : sy_dv F' (.inr (.inl 89)) = .int (((sy_i F 83) + (((-1) : Int32))) - ((1 : Int32))) := hd_o (hs 4 _ rfl) t88 rfl rfl
  have a46 := hd_ba (F := F) (F' := F') (k := 46) (hF 46 (by decide))
  have t91 : sy_dv F' (.inr (.inl 91)) = .int ((sy_ai F 46).getD (((sy_i F 83) + (((-1) : Int32))) - ((1 : Int32))).toNatClampNeg 0) := hd_rd (hs 6 _ rfl) t90 a46
  have t92 : sy_dv F' (.inr (.inl 92)) = .int ((sy_ai F 46).getD ((sy_i F 83) + (((-1) : Int32))).toNatClampNeg 0) := hd_rd (hs 7 _ rfl) t88 a46
  have t93 : sy_dv F' (.inr (.inl 93)) = .int (((sy_ai F 46).getD (((sy_i F 83) + (((-1) : Int32))) - ((1 : Int32))).toNatClampNeg 0) + ((sy_ai F 46).getD ((sy_i F 83) + (((-1) : Int32))).toNatClampNeg 0)) := hd_o (hs 8 _ rfl) t91 t92 rfl
  have t94 : sy_da F' (.inr (.inl 94)) = .inl (jm_upd (sy_ai F 46) (((sy_i F 83) + (((-1) : Int32))) - ((1 : Int32))).toNatClampNeg (((sy_ai F 46).getD (((sy_i F 83) + (((-1) : Int32))) - ((1 : Int32))).toNatClampNeg 0) + ((sy_ai F 46).getD ((sy_i F 83) + (((-1) : Int32))).toNatClampNeg 0))) := hd_up (hs 9 _ rfl) t89 t93 a46
  have t87 : sy_dv F' (.inr (.inl 87)) = .int ((sy_i F 82) + ((1 : Int32))) := hd_o (hs 2 _ rfl) b82 rfl rfl
  have t95 : sy_dv F' (.inr (.inl 95)) = .int ((sy_i F 84) + ((1 : Int32))) := hd_o (hs 10 _ rfl) b84 rfl rfl
  have hB' : iv_in F' iv_B0 := iv_in_eq hB (fun j hj => hF j (Nat.lt_of_lt_of_le hj (by decide +kernel)))
  refine ⟨List.forall_mem_cons.mpr ⟨hd_p5 rfl b84 (by have hc : ((512) : Int32).toInt = 512 := (by decide); omega), List.forall_mem_cons.mpr ⟨hd_p3 b82 rfl (by have hc : ((0) : Int32).toInt = 0 := (by decide); omega), List.forall_mem_cons.mpr ⟨hd_p2 t85 rfl (by have hc : ((512) : Int32).toInt = 512 := (by decide); omega), List.forall_mem_cons.mpr ⟨hd_pb b82 (by first | exact h3 | exact h3), List.forall_mem_cons.mpr ⟨hd_p2 t86 rfl (by have hc : (((-9)) : Int32).toInt = (-9) := (by decide); omega), List.forall_mem_cons.mpr ⟨hd_p1 t86 rfl (by have hc : (((-14)) : Int32).toInt = (-14) := (by decide); omega), List.forall_mem_cons.mpr ⟨hd_p4 rfl b83 (by have hc : ((2) : Int32).toInt = 2 := (by decide); omega), List.forall_mem_cons.mpr ⟨hd_p1 t86 rfl (by have hc : (((-15)) : Int32).toInt = (-15) := (by decide); omega), List.forall_mem_cons.mpr ⟨hd_p1 t86 rfl (by have hc : (((-13)) : Int32).toInt = (-13) := (by decide); omega), List.forall_mem_cons.mpr ⟨hd_pb t90 (by first | exact h9 | exact h9), List.forall_mem_cons.mpr ⟨hd_pb t88 (by first | exact h10 | exact h10), List.forall_mem_cons.mpr ⟨hd_p0 t86 rfl (by have hc : (((-10)) : Int32).toInt = (-10) := (by decide); omega), List.forall_mem_cons.mpr ⟨hd_pb t89 (by first | exact h12 | exact h12), fun _ h => absurd h List.not_mem_nil⟩⟩⟩⟩⟩⟩⟩⟩⟩⟩⟩⟩⟩, ?_⟩
  refine k _ ?_ ?_ ?_ ?_ ?_
  · exact fun j hj hn => (hd_keep hB' (Nat.lt_of_lt_of_le hj (by decide +kernel)) (by simp; omega)).trans (hF j (Nat.lt_of_lt_of_le hj (by decide)))
  · exact hd_ga (a := .inr (.inl 94)) (by decide +kernel) t94
  · exact hd_gi (x := .inr (.inl 87)) (by decide +kernel) t87
  · exact hd_gi (x := .inr (.inl 88)) (by decide +kernel) t88
  · exact hd_gi (x := .inr (.inl 95)) (by decide +kernel) t95
theorem j2wo_8_p6 {Ls : Nat} {xs : Nat → Int32} {d : Nat} {Q : Option Value → jm_h → Prop} (hd : 2 ≤ d) (F : Nat → sy_d) (X1 X2 : List jm_c) (hB : iv_in F iv_B0)
    (h0 : (sy_i F 84).toInt < 512)
    (h1 : 0 ≤ (sy_i F 82).toInt)
    (h2 : ((sy_i F 82) + ((1 : Int32))).toInt < 512)
    (h3 : 0 ≤ (sy_i F 82).toInt ∧ (sy_i F 82).toInt < 512)
    (h4 : ((sy_ai F 32).getD (sy_i F 82).toNatClampNeg 0).toInt < (-9))
    (h5 : ((sy_ai F 32).getD (sy_i F 82).toNatClampNeg 0).toInt ≠ (-14))
    (h6 : 2 ≤ (sy_i F 83).toInt)
    (h7 : ((sy_ai F 32).getD (sy_i F 82).toNatClampNeg 0).toInt ≠ (-15))
    (h8 : ((sy_ai F 32).getD (sy_i F 82).toNatClampNeg 0).toInt = (-13))
    (h9 : 0 ≤ ((sy_i F 83) - ((1 : Int32))).toInt ∧ ((sy_i F 83) - ((1 : Int32))).toInt < 32)
    (h10 : ((sy_ai F 46).getD ((sy_i F 83) - ((1 : Int32))).toNatClampNeg 0).toInt ≠ 0)
    (h11 : 0 ≤ (((sy_i F 83) + (((-1) : Int32))) - ((1 : Int32))).toInt ∧ (((sy_i F 83) + (((-1) : Int32))) - ((1 : Int32))).toInt < 32)
    (h12 : 0 ≤ ((sy_i F 83) + (((-1) : Int32))).toInt ∧ ((sy_i F 83) + (((-1) : Int32))).toInt < 32)
    (h13 : ((sy_ai F 32).getD (sy_i F 82).toNatClampNeg 0).toInt < (-12))
    (h14 : ((sy_ai F 46).getD ((sy_i F 83) + (((-1) : Int32))).toNatClampNeg 0).toInt ≠ 0)
    (h15 : ((sy_ai F 46).getD ((sy_i F 83) + (((-1) : Int32))).toNatClampNeg 0).toInt ≠ 0)
    (h16 : 0 ≤ (((sy_i F 83) + (((-1) : Int32))) - ((1 : Int32))).toInt ∧ (((sy_i F 83) + (((-1) : Int32))) - ((1 : Int32))).toInt < 32)
    (k : ∀ F1 : Nat → sy_d, (∀ j, j < 82 → j ≠ 46 → F1 j = F j) → F1 46 = .inr (.inl (jm_upd (sy_ai F 46) (((sy_i F 83) + (((-1) : Int32))) - ((1 : Int32))).toNatClampNeg (((sy_ai F 46).getD (((sy_i F 83) + (((-1) : Int32))) - ((1 : Int32))).toNatClampNeg 0) / ((sy_ai F 46).getD ((sy_i F 83) + (((-1) : Int32))).toNatClampNeg 0)))) → F1 82 = .inl (.int ((sy_i F 82) + ((1 : Int32)))) → F1 83 = .inl (.int ((sy_i F 83) + (((-1) : Int32)))) → F1 84 = .inl (.int ((sy_i F 84) + ((1 : Int32)))) → hd_W Ls xs d jm_M22 Q (8, sy_dL F1 [some (.inl (.ref 38)), some (.inl (.ref 20)), none, some (.inr (.inl 82)), some (.inr (.inl 83)), some (.inr (.inl 84)), none], sy_dS F1 [], sy_dh F1 X1 X2 (iv_H 2), 0, 0)) :
    hd_W Ls xs d jm_M22 Q (8, sy_dL F [some (.inl (.ref 38)), some (.inl (.ref 20)), none, some (.inr (.inl 82)), some (.inr (.inl 83)), some (.inr (.inl 84)), none], sy_dS F [], sy_dh F X1 X2 (iv_H 2), 0, 0) := by
  refine hd_run (s := 2) (nv := 85) (pc := 8) (L := [some (.inl (.ref 38)), some (.inl (.ref 20)), none, some (.inr (.inl 82)), some (.inr (.inl 83)), some (.inr (.inl 84)), none]) (S := []) (uh := hd_ov (iv_id 0 iv_B0) [(46, .inr (.inr (.inl 96)))]) (ul := [.inl (.inr (.inl 87)), .inl (.inr (.inl 90)), .inl (.inr (.inl 97))]) (f := true) (sp := [8]) (d0 := 1) (O := [false, false, true, true, true, true, true, false, true, true, true, true]) (T := [(0, [.inr (.inl 82), .inl (.int 1)], []), (30, [.inr (.inl 82)], [.inr (.inl 32)]), (0, [.inr (.inl 82), .inl (.int 1)], []), (1, [.inr (.inl 83), .inl (.int 1)], []), (30, [.inr (.inl 88)], [.inr (.inl 46)]), (0, [.inr (.inl 83), .inl (.int (-1))], []), (1, [.inr (.inl 90), .inl (.int 1)], []), (1, [.inr (.inl 90), .inl (.int 1)], []), (30, [.inr (.inl 92)], [.inr (.inl 46)]), (30, [.inr (.inl 90)], [.inr (.inl 46)]), (9, [.inr (.inl 93), .inr (.inl 94)], []), (40, [.inr (.inl 91), .inr (.inl 95)], [.inr (.inl 46)]), (0, [.inr (.inl 84), .inl (.int 1)], [])]) (P := [(5, .inl (.int 512), .inr (.inl 84)), (3, .inr (.inl 82), .inl (.int 0)), (2, .inr (.inl 85), .inl (.int 512)), (6, .inr (.inl 82), .inl (.ref 512)), (2, .inr (.inl 86), .inl (.int (-9))), (1, .inr (.inl 86), .inl (.int (-14))), (4, .inl (.int 2), .inr (.inl 83)), (1, .inr (.inl 86), .inl (.int (-15))), (0, .inr (.inl 86), .inl (.int (-13))), (6, .inr (.inl 88), .inl (.ref 32)), (1, .inr (.inl 89), .inl (.int 0)), (6, .inr (.inl 92), .inl (.ref 32)), (6, .inr (.inl 90), .inl (.ref 32)), (2, .inr (.inl 86), .inl (.int (-12))), (1, .inr (.inl 94), .inl (.int 0)), (1, .inr (.inl 94), .inl (.int 0)), (6, .inr (.inl 91), .inl (.ref 32))]) jm_ok22 (by decide +kernel) (by decide +kernel) hd F X1 X2 (fun F' hF hs => ?_)
  have b84 := hd_b (F := F) (F' := F') (k := 84) (hF 84 (by decide))
  have b82 := hd_b (F := F) (F' := F') (k := 82) (hF 82 (by decide))
  have t85 : sy_dv F' (.inr (.inl 85)) = .int ((sy_i F 82) + ((1 : Int32))) := hd_o (hs 0 _ rfl) b82 rfl rfl
  have a32 := hd_ba (F := F) (F' := F') (k := 32) (hF 32 (by decide))
  have t86 : sy_dv F' (.inr (.inl 86)) = .int ((sy_ai F 32).getD (sy_i F 82).toNatClampNeg 0) := hd_rd (hs 1 _ rfl) b82 a32
  have b83 := hd_b (F := F) (F' := F') (k := 83) (hF 83 (by decide))
  have t88 : sy_dv F' (.inr (.inl 88)) = .int ((sy_i F 83) - ((1 : Int32))) := hd_o (hs 3 _ rfl) b83 rfl rfl
  have a46 := hd_ba (F := F) (F' := F') (k := 46) (hF 46 (by decide))
  have t89 : sy_dv F' (.inr (.inl 89)) = .int ((sy_ai F 46).getD ((sy_i F 83) - ((1 : Int32))).toNatClampNeg 0) := hd_rd (hs 4 _ rfl) t88 a46
  have t90 : sy_dv F' (.inr (.inl 90)) = .int ((sy_i F 83) + (((-1) : Int32))) := hd_o (hs 5 _ rfl) b83 rfl rfl
  have t92 : sy_dv F' (.inr (.inl 92)) = .int (((sy_i F 83) + (((-1) : Int32))) - ((1 : Int32))) := hd_o (hs 7 _ rfl) t90 rfl rfl
  have t94 : sy_dv F' (.inr (.inl 94)) = .int ((sy_ai F 46).getD ((sy_i F 83) + (((-1) : Int32))).toNatClampNeg 0) := hd_rd (hs 9 _ rfl) t90 a46
  have t91 : sy_dv F' (.inr (.inl 91)) = .int (((sy_i F 83) + (((-1) : Int32))) - ((1 : Int32))) := hd_o (hs 6 _ rfl) t90 rfl rfl
  have t93 : sy_dv F' (.inr (.inl 93)) = .int ((sy_ai F 46).getD (((sy_i F 83) + (((-1) : Int32))) - ((1 : Int32))).toNatClampNeg 0) := hd_rd (hs 8 _ rfl) t92 a46
  have t95 : sy_dv F' (.inr (.inl 95)) = .int (((sy_ai F 46).getD (((sy_i F 83) + (((-1) : Int32))) - ((1 : Int32))).toNatClampNeg 0) / ((sy_ai F 46).getD ((sy_i F 83) + (((-1) : Int32))).toNatClampNeg 0)) := hd_o (hs 10 _ rfl) t93 t94 rfl
  have t96 : sy_da F' (.inr (.inl 96)) = .inl (jm_upd (sy_ai F 46) (((sy_i F 83) + (((-1) : Int32))) - ((1 : Int32))).toNatClampNeg (((sy_ai F 46).getD (((sy_i F 83) + (((-1) : Int32))) - ((1 : Int32))).toNatClampNeg 0) / ((sy_ai F 46).getD ((sy_i F 83) + (((-1) : Int32))).toNatClampNeg 0))) := hd_up (hs 11 _ rfl) t91 t95 a46
  have t87 : sy_dv F' (.inr (.inl 87)) = .int ((sy_i F 82) + ((1 : Int32))) := hd_o (hs 2 _ rfl) b82 rfl rfl
  have t97 : sy_dv F' (.inr (.inl 97)) = .int ((sy_i F 84) + ((1 : Int32))) := hd_o (hs 12 _ rfl) b84 rfl rfl
  have hB' : iv_in F' iv_B0 := iv_in_eq hB (fun j hj => hF j (Nat.lt_of_lt_of_le hj (by decide +kernel)))
  refine ⟨List.forall_mem_cons.mpr ⟨hd_p5 rfl b84 (by have hc : ((512) : Int32).toInt = 512 := (by decide); omega), List.forall_mem_cons.mpr ⟨hd_p3 b82 rfl (by have hc : ((0) : Int32).toInt = 0 := (by decide); omega), List.forall_mem_cons.mpr ⟨hd_p2 t85 rfl (by have hc : ((512) : Int32).toInt = 512 := (by decide); omega), List.forall_mem_cons.mpr ⟨hd_pb b82 (by first | exact h3 | exact h3), List.forall_mem_cons.mpr ⟨hd_p2 t86 rfl (by have hc : (((-9)) : Int32).toInt = (-9) := (by decide); omega), List.forall_mem_cons.mpr ⟨hd_p1 t86 rfl (by have hc : (((-14)) : Int32).toInt = (-14) := (by decide); omega), List.forall_mem_cons.mpr ⟨hd_p4 rfl b83 (by have hc : ((2) : Int32).toInt = 2 := (by decide); omega), List.forall_mem_cons.mpr ⟨hd_p1 t86 rfl (by have hc : (((-15)) : Int32).toInt = (-15) := (by decide); omega), List.forall_mem_cons.mpr ⟨hd_p0 t86 rfl (by have hc : (((-13)) : Int32).toInt = (-13) := (by decide); omega), List.forall_mem_cons.mpr ⟨hd_pb t88 (by first | exact h9 | exact h9), List.forall_mem_cons.mpr ⟨hd_p1 t89 rfl (by have hc : ((0) : Int32).toInt = 0 := (by decide); omega), List.forall_mem_cons.mpr ⟨hd_pb t92 (by first | exact h11 | exact h11), List.forall_mem_cons.mpr ⟨hd_pb t90 (by first | exact h12 | exact h12), List.forall_mem_cons.mpr ⟨hd_p2 t86 rfl (by have hc : (((-12)) : Int32).toInt = (-12) := (by decide); omega), List.forall_mem_cons.mpr ⟨hd_p1 t94 rfl (by have hc : ((0) : Int32).toInt = 0 := (by decide); omega), List.forall_mem_cons.mpr ⟨hd_p1 t94 rfl (by have hc : ((0) : Int32).toInt = 0 := (by decide); omega), List.forall_mem_cons.mpr ⟨hd_pb t91 (by first | exact h16 | exact h16), fun _ h => absurd h List.not_mem_nil⟩⟩⟩⟩⟩⟩⟩⟩⟩⟩⟩⟩⟩⟩⟩⟩⟩, ?_⟩
  refine k _ ?_ ?_ ?_ ?_ ?_
  · exact fun j hj hn => (hd_keep hB' (Nat.lt_of_lt_of_le hj (by decide +kernel)) (by simp; omega)).trans (hF j (Nat.lt_of_lt_of_le hj (by decide)))
  · exact hd_ga (a := .inr (.inl 96)) (by decide +kernel) t96
  · exact hd_gi (x := .inr (.inl 87)) (by decide +kernel) t87
  · exact hd_gi (x := .inr (.inl 90)) (by decide +kernel) t90
  · exact hd_gi (x := .inr (.inl 97)) (by decide +kernel) t97
theorem j2wo_8_p7 {Ls : Nat} {xs : Nat → Int32} {d : Nat} {Q : Option Value → jm_h → Prop} (hd : 2 ≤ d) (F : Nat → sy_d) (X1 X2 : List jm_c) (hB : iv_in F iv_B0)
    (h0 : (sy_i F 84).toInt < 512)
    (h1 : 0 ≤ (sy_i F 82).toInt)
    (h2 : ((sy_i F 82) + ((1 : Int32))).toInt < 512)
    (h3 : 0 ≤ (sy_i F 82).toInt ∧ (sy_i F 82).toInt < 512)
    (h4 : ((sy_ai F 32).getD (sy_i F 82).toNatClampNeg 0).toInt < (-9))
    (h5 : ((sy_ai F 32).getD (sy_i F 82).toNatClampNeg 0).toInt ≠ (-14))
    (h6 : 2 ≤ (sy_i F 83).toInt)
    (h7 : ((sy_ai F 32).getD (sy_i F 82).toNatClampNeg 0).toInt ≠ (-15))
    (h8 : ((sy_ai F 32).getD (sy_i F 82).toNatClampNeg 0).toInt = (-13))
    (h9 : 0 ≤ ((sy_i F 83) - ((1 : Int32))).toInt ∧ ((sy_i F 83) - ((1 : Int32))).toInt < 32)
    (h10 : ((sy_ai F 46).getD ((sy_i F 83) - ((1 : Int32))).toNatClampNeg 0).toInt ≠ 0)
    (h11 : 0 ≤ (((sy_i F 83) + (((-1) : Int32))) - ((1 : Int32))).toInt ∧ (((sy_i F 83) + (((-1) : Int32))) - ((1 : Int32))).toInt < 32)
    (h12 : 0 ≤ ((sy_i F 83) + (((-1) : Int32))).toInt ∧ ((sy_i F 83) + (((-1) : Int32))).toInt < 32)
    (h13 : ((sy_ai F 32).getD (sy_i F 82).toNatClampNeg 0).toInt < (-12))
    (h14 : ((sy_ai F 46).getD ((sy_i F 83) + (((-1) : Int32))).toNatClampNeg 0).toInt = 0)
    (h15 : 0 ≤ (((sy_i F 83) + (((-1) : Int32))) - ((1 : Int32))).toInt ∧ (((sy_i F 83) + (((-1) : Int32))) - ((1 : Int32))).toInt < 32)
    (k : ∀ F1 : Nat → sy_d, (∀ j, j < 82 → j ≠ 46 → F1 j = F j) → F1 46 = .inr (.inl (jm_upd (sy_ai F 46) (((sy_i F 83) + (((-1) : Int32))) - ((1 : Int32))).toNatClampNeg ((0 : Int32)))) → F1 82 = .inl (.int ((sy_i F 82) + ((1 : Int32)))) → F1 83 = .inl (.int ((sy_i F 83) + (((-1) : Int32)))) → F1 84 = .inl (.int ((sy_i F 84) + ((1 : Int32)))) → hd_W Ls xs d jm_M22 Q (8, sy_dL F1 [some (.inl (.ref 38)), some (.inl (.ref 20)), none, some (.inr (.inl 82)), some (.inr (.inl 83)), some (.inr (.inl 84)), none], sy_dS F1 [], sy_dh F1 X1 X2 (iv_H 2), 0, 0)) :
    hd_W Ls xs d jm_M22 Q (8, sy_dL F [some (.inl (.ref 38)), some (.inl (.ref 20)), none, some (.inr (.inl 82)), some (.inr (.inl 83)), some (.inr (.inl 84)), none], sy_dS F [], sy_dh F X1 X2 (iv_H 2), 0, 0) := by
  refine hd_run (s := 2) (nv := 85) (pc := 8) (L := [some (.inl (.ref 38)), some (.inl (.ref 20)), none, some (.inr (.inl 82)), some (.inr (.inl 83)), some (.inr (.inl 84)), none]) (S := []) (uh := hd_ov (iv_id 0 iv_B0) [(46, .inr (.inr (.inl 95)))]) (ul := [.inl (.inr (.inl 87)), .inl (.inr (.inl 90)), .inl (.inr (.inl 96))]) (f := true) (sp := [8]) (d0 := 1) (O := [false, false, true, true, true, true, true, false, true, true, true, false]) (T := [(0, [.inr (.inl 82), .inl (.int 1)], []), (30, [.inr (.inl 82)], [.inr (.inl 32)]), (0, [.inr (.inl 82), .inl (.int 1)], []), (1, [.inr (.inl 83), .inl (.int 1)], []), (30, [.inr (.inl 88)], [.inr (.inl 46)]), (0, [.inr (.inl 83), .inl (.int (-1))], []), (1, [.inr (.inl 90), .inl (.int 1)], []), (1, [.inr (.inl 90), .inl (.int 1)], []), (30, [.inr (.inl 92)], [.inr (.inl 46)]), (30, [.inr (.inl 90)], [.inr (.inl 46)]), (40, [.inr (.inl 91), .inl (.int 0)], [.inr (.inl 46)]), (0, [.inr (.inl 84), .inl (.int 1)], [])]) (P := [(5, .inl (.int 512), .inr (.inl 84)), (3, .inr (.inl 82), .inl (.int 0)), (2, .inr (.inl 85), .inl (.int 512)), (6, .inr (.inl 82), .inl (.ref 512)), (2, .inr (.inl 86), .inl (.int (-9))), (1, .inr (.inl 86), .inl (.int (-14))), (4, .inl (.int 2), .inr (.inl 83)), (1, .inr (.inl 86), .inl (.int (-15))), (0, .inr (.inl 86), .inl (.int (-13))), (6, .inr (.inl 88), .inl (.ref 32)), (1, .inr (.inl 89), .inl (.int 0)), (6, .inr (.inl 92), .inl (.ref 32)), (6, .inr (.inl 90), .inl (.ref 32)), (2, .inr (.inl 86), .inl (.int (-12))), (0, .inr (.inl 94), .inl (.int 0)), (6, .inr (.inl 91), .inl (.ref 32))]) jm_ok22 (by decide +kernel) (by decide +kernel) hd F X1 X2 (fun F' hF hs => ?_)
  have b84 := hd_b (F := F) (F' := F') (k := 84) (hF 84 (by decide))
  have b82 := hd_b (F := F) (F' := F') (k := 82) (hF 82 (by decide))
  have t85 : sy_dv F' (.inr (.inl 85)) = .int ((sy_i F 82) + ((1 : Int32))) := hd_o (hs 0 _ rfl) b82 rfl rfl
  have a32 := hd_ba (F := F) (F' := F') (k := 32) (hF 32 (by decide))
  have t86 : sy_dv F' (.inr (.inl 86)) = .int ((sy_ai F 32).getD (sy_i F 82).toNatClampNeg 0) := hd_rd (hs 1 _ rfl) b82 a32
  have b83 := hd_b (F := F) (F' := F') (k := 83) (hF 83 (by decide))
  have t88 : sy_dv F' (.inr (.inl 88)) = .int ((sy_i F 83) - ((1 : Int32))) := hd_o (hs 3 _ rfl) b83 rfl rfl
  have a46 := hd_ba (F := F) (F' := F') (k := 46) (hF 46 (by decide))
  have t89 : sy_dv F' (.inr (.inl 89)) = .int ((sy_ai F 46).getD ((sy_i F 83) - ((1 : Int32))).toNatClampNeg 0) := hd_rd (hs 4 _ rfl) t88 a46
  have t90 : sy_dv F' (.inr (.inl 90)) = .int ((sy_i F 83) + (((-1) : Int32))) := hd_o (hs 5 _ rfl) b83 rfl rfl
  have t92 : sy_dv F' (.inr (.inl 92)) = .int (((sy_i F 83) + (((-1) : Int32))) - ((1 : Int32))) := hd_o (hs 7 _ rfl) t90 rfl rfl
  have t94 : sy_dv F' (.inr (.inl 94)) = .int ((sy_ai F 46).getD ((sy_i F 83) + (((-1) : Int32))).toNatClampNeg 0) := hd_rd (hs 9 _ rfl) t90 a46
  have t91 : sy_dv F' (.inr (.inl 91)) = .int (((sy_i F 83) + (((-1) : Int32))) - ((1 : Int32))) := hd_o (hs 6 _ rfl) t90 rfl rfl
  have t95 : sy_da F' (.inr (.inl 95)) = .inl (jm_upd (sy_ai F 46) (((sy_i F 83) + (((-1) : Int32))) - ((1 : Int32))).toNatClampNeg ((0 : Int32))) := hd_up (hs 10 _ rfl) t91 rfl a46
  have t87 : sy_dv F' (.inr (.inl 87)) = .int ((sy_i F 82) + ((1 : Int32))) := hd_o (hs 2 _ rfl) b82 rfl rfl
  have t96 : sy_dv F' (.inr (.inl 96)) = .int ((sy_i F 84) + ((1 : Int32))) := hd_o (hs 11 _ rfl) b84 rfl rfl
  have hB' : iv_in F' iv_B0 := iv_in_eq hB (fun j hj => hF j (Nat.lt_of_lt_of_le hj (by decide +kernel)))
  refine ⟨List.forall_mem_cons.mpr ⟨hd_p5 rfl b84 (by have hc : ((512) : Int32).toInt = 512 := (by decide); omega), List.forall_mem_cons.mpr ⟨hd_p3 b82 rfl (by have hc : ((0) : Int32).toInt = 0 := (by decide); omega), List.forall_mem_cons.mpr ⟨hd_p2 t85 rfl (by have hc : ((512) : Int32).toInt = 512 := (by decide); omega), List.forall_mem_cons.mpr ⟨hd_pb b82 (by first | exact h3 | exact h3), List.forall_mem_cons.mpr ⟨hd_p2 t86 rfl (by have hc : (((-9)) : Int32).toInt = (-9) := (by decide); omega), List.forall_mem_cons.mpr ⟨hd_p1 t86 rfl (by have hc : (((-14)) : Int32).toInt = (-14) := (by decide); omega), List.forall_mem_cons.mpr ⟨hd_p4 rfl b83 (by have hc : ((2) : Int32).toInt = 2 := (by decide); omega), List.forall_mem_cons.mpr ⟨hd_p1 t86 rfl (by have hc : (((-15)) : Int32).toInt = (-15) := (by decide); omega), List.forall_mem_cons.mpr ⟨hd_p0 t86 rfl (by have hc : (((-13)) : Int32).toInt = (-13) := (by decide); omega), List.forall_mem_cons.mpr ⟨hd_pb t88 (by first | exact h9 | exact h9), List.forall_mem_cons.mpr ⟨hd_p1 t89 rfl (by have hc : ((0) : Int32).toInt = 0 := (by decide); omega), List.forall_mem_cons.mpr ⟨hd_pb t92 (by first | exact h11 | exact h11), List.forall_mem_cons.mpr ⟨hd_pb t90 (by first | exact h12 | exact h12), List.forall_mem_cons.mpr ⟨hd_p2 t86 rfl (by have hc : (((-12)) : Int32).toInt = (-12) := (by decide); omega), List.forall_mem_cons.mpr ⟨hd_p0 t94 rfl (by have hc : ((0) : Int32).toInt = 0 := (by decide); omega), List.forall_mem_cons.mpr ⟨hd_pb t91 (by first | exact h15 | exact h15), fun _ h => absurd h List.not_mem_nil⟩⟩⟩⟩⟩⟩⟩⟩⟩⟩⟩⟩⟩⟩⟩⟩, ?_⟩
  refine k _ ?_ ?_ ?_ ?_ ?_
  · exact fun j hj hn => (hd_keep hB' (Nat.lt_of_lt_of_le hj (by decide +kernel)) (by simp; omega)).trans (hF j (Nat.lt_of_lt_of_le hj (by decide)))
  · exact hd_ga (a := .inr (.inl 95)) (by decide +kernel) t95
  · exact hd_gi (x := .inr (.inl 87)) (by decide +kernel) t87
  · exact hd_gi (x := .inr (.inl 90)) (by decide +kernel) t90
  · exact hd_gi (x := .inr (.inl 96)) (by decide +kernel) t96
theorem j2wo_8_p8 {Ls : Nat} {xs : Nat → Int32} {d : Nat} {Q : Option Value → jm_h → Prop} (hd : 2 ≤ d) (F : Nat → sy_d) (X1 X2 : List jm_c) (hB : iv_in F iv_B0)
    (h0 : (sy_i F 84).toInt < 512)
    (h1 : 0 ≤ (sy_i F 82).toInt)
    (h2 : ((sy_i F 82) + ((1 : Int32))).toInt < 512)
    (h3 : 0 ≤ (sy_i F 82).toInt ∧ (sy_i F 82).toInt < 512)
    (h4 : ((sy_ai F 32).getD (sy_i F 82).toNatClampNeg 0).toInt < (-9))
    (h5 : ((sy_ai F 32).getD (sy_i F 82).toNatClampNeg 0).toInt ≠ (-14))
    (h6 : 2 ≤ (sy_i F 83).toInt)
    (h7 : ((sy_ai F 32).getD (sy_i F 82).toNatClampNeg 0).toInt ≠ (-15))
    (h8 : ((sy_ai F 32).getD (sy_i F 82).toNatClampNeg 0).toInt = (-13))
    (h9 : 0 ≤ ((sy_i F 83) - ((1 : Int32))).toInt ∧ ((sy_i F 83) - ((1 : Int32))).toInt < 32)
    (h10 : ((sy_ai F 46).getD ((sy_i F 83) - ((1 : Int32))).toNatClampNeg 0).toInt = 0)
    (k : ∀ F1 : Nat → sy_d, (∀ j, j < 82 → True → F1 j = F j) → Q (some (.int ((0 : Int32)))) (sy_dh F1 X1 X2 (iv_H 2))) :
    hd_W Ls xs d jm_M22 Q (8, sy_dL F [some (.inl (.ref 38)), some (.inl (.ref 20)), none, some (.inr (.inl 82)), some (.inr (.inl 83)), some (.inr (.inl 84)), none], sy_dS F [], sy_dh F X1 X2 (iv_H 2), 0, 0) := by
  refine hd_ret (s := 2) (nv := 85) (v := some (.inl (.int 0))) (uh := hd_ov (iv_id 0 iv_B0) []) (f := true) (sp := [8]) (d0 := 1) (O := [false, false, true, true, true, true, true, false, false]) (T := [(0, [.inr (.inl 82), .inl (.int 1)], []), (30, [.inr (.inl 82)], [.inr (.inl 32)]), (0, [.inr (.inl 82), .inl (.int 1)], []), (1, [.inr (.inl 83), .inl (.int 1)], []), (30, [.inr (.inl 88)], [.inr (.inl 46)])]) (P := [(5, .inl (.int 512), .inr (.inl 84)), (3, .inr (.inl 82), .inl (.int 0)), (2, .inr (.inl 85), .inl (.int 512)), (6, .inr (.inl 82), .inl (.ref 512)), (2, .inr (.inl 86), .inl (.int (-9))), (1, .inr (.inl 86), .inl (.int (-14))), (4, .inl (.int 2), .inr (.inl 83)), (1, .inr (.inl 86), .inl (.int (-15))), (0, .inr (.inl 86), .inl (.int (-13))), (6, .inr (.inl 88), .inl (.ref 32)), (0, .inr (.inl 89), .inl (.int 0))]) jm_ok22 (by decide +kernel) (by decide +kernel) hd F X1 X2 (fun F' hF hs => ?_)
  have b84 := hd_b (F := F) (F' := F') (k := 84) (hF 84 (by decide))
  have b82 := hd_b (F := F) (F' := F') (k := 82) (hF 82 (by decide))
  have t85 : sy_dv F' (.inr (.inl 85)) = .int ((sy_i F 82) + ((1 : Int32))) := hd_o (hs 0 _ rfl) b82 rfl rfl
  have a32 := hd_ba (F := F) (F' := F') (k := 32) (hF 32 (by decide))
  have t86 : sy_dv F' (.inr (.inl 86)) = .int ((sy_ai F 32).getD (sy_i F 82).toNatClampNeg 0) := hd_rd (hs 1 _ rfl) b82 a32
  have b83 := hd_b (F := F) (F' := F') (k := 83) (hF 83 (by decide))
  have t88 : sy_dv F' (.inr (.inl 88)) = .int ((sy_i F 83) - ((1 : Int32))) := hd_o (hs 3 _ rfl) b83 rfl rfl
  have a46 := hd_ba (F := F) (F' := F') (k := 46) (hF 46 (by decide))
  have t89 : sy_dv F' (.inr (.inl 89)) = .int ((sy_ai F 46).getD ((sy_i F 83) - ((1 : Int32))).toNatClampNeg 0) := hd_rd (hs 4 _ rfl) t88 a46
  have hB' : iv_in F' iv_B0 := iv_in_eq hB (fun j hj => hF j (Nat.lt_of_lt_of_le hj (by decide +kernel)))
  refine ⟨List.forall_mem_cons.mpr ⟨hd_p5 rfl b84 (by have hc : ((512) : Int32).toInt = 512 := (by decide); omega), List.forall_mem_cons.mpr ⟨hd_p3 b82 rfl (by have hc : ((0) : Int32).toInt = 0 := (by decide); omega), List.forall_mem_cons.mpr ⟨hd_p2 t85 rfl (by have hc : ((512) : Int32).toInt = 512 := (by decide); omega), List.forall_mem_cons.mpr ⟨hd_pb b82 (by first | exact h3 | exact h3), List.forall_mem_cons.mpr ⟨hd_p2 t86 rfl (by have hc : (((-9)) : Int32).toInt = (-9) := (by decide); omega), List.forall_mem_cons.mpr ⟨hd_p1 t86 rfl (by have hc : (((-14)) : Int32).toInt = (-14) := (by decide); omega), List.forall_mem_cons.mpr ⟨hd_p4 rfl b83 (by have hc : ((2) : Int32).toInt = 2 := (by decide); omega), List.forall_mem_cons.mpr ⟨hd_p1 t86 rfl (by have hc : (((-15)) : Int32).toInt = (-15) := (by decide); omega), List.forall_mem_cons.mpr ⟨hd_p0 t86 rfl (by have hc : (((-13)) : Int32).toInt = (-13) := (by decide); omega), List.forall_mem_cons.mpr ⟨hd_pb t88 (by first | exact h9 | exact h9), List.forall_mem_cons.mpr ⟨hd_p0 t89 rfl (by have hc : ((0) : Int32).toInt = 0 := (by decide); omega), fun _ h => absurd h List.not_mem_nil⟩⟩⟩⟩⟩⟩⟩⟩⟩⟩⟩, ?_⟩
  refine k _ ?_
  · exact fun j hj _ => (hd_keep hB' (Nat.lt_of_lt_of_le hj (by decide +kernel)) (by simp)).trans (hF j (Nat.lt_of_lt_of_le hj (by decide)))
theorem j2wo_8_p9 {Ls : Nat} {xs : Nat → Int32} {d : Nat} {Q : Option Value → jm_h → Prop} (hd : 2 ≤ d) (F : Nat → sy_d) (X1 X2 : List jm_c) (hB : iv_in F iv_B0)
    (h0 : (sy_i F 84).toInt < 512)
    (h1 : 0 ≤ (sy_i F 82).toInt)
    (h2 : ((sy_i F 82) + ((1 : Int32))).toInt < 512)
    (h3 : 0 ≤ (sy_i F 82).toInt ∧ (sy_i F 82).toInt < 512)
    (h4 : ((sy_ai F 32).getD (sy_i F 82).toNatClampNeg 0).toInt < (-9))
    (h5 : ((sy_ai F 32).getD (sy_i F 82).toNatClampNeg 0).toInt ≠ (-14))
    (h6 : 2 ≤ (sy_i F 83).toInt)
    (h7 : ((sy_ai F 32).getD (sy_i F 82).toNatClampNeg 0).toInt = (-15))
    (h8 : 0 ≤ ((sy_i F 83) + (((-2) : Int32))).toInt ∧ ((sy_i F 83) + (((-2) : Int32))).toInt < 32)
    (h9 : 0 ≤ (((sy_i F 83) + (((-2) : Int32))) + ((1 : Int32))).toInt ∧ (((sy_i F 83) + (((-2) : Int32))) + ((1 : Int32))).toInt < 32)
    (h10 : ((sy_ai F 46).getD (((sy_i F 83) + (((-2) : Int32))) + ((1 : Int32))).toNatClampNeg 0).toInt ≤ ((sy_ai F 46).getD ((sy_i F 83) + (((-2) : Int32))).toNatClampNeg 0).toInt)
    (h11 : 0 ≤ ((sy_i F 82) + ((1 : Int32))).toInt ∧ ((sy_i F 82) + ((1 : Int32))).toInt < 512)
    (k : ∀ F1 : Nat → sy_d, (∀ j, j < 82 → True → F1 j = F j) → F1 82 = .inl (.int ((sy_ai F 32).getD ((sy_i F 82) + ((1 : Int32))).toNatClampNeg 0)) → F1 83 = .inl (.int ((sy_i F 83) + (((-2) : Int32)))) → F1 84 = .inl (.int ((sy_i F 84) + ((1 : Int32)))) → hd_W Ls xs d jm_M22 Q (8, sy_dL F1 [some (.inl (.ref 38)), some (.inl (.ref 20)), none, some (.inr (.inl 82)), some (.inr (.inl 83)), some (.inr (.inl 84)), none], sy_dS F1 [], sy_dh F1 X1 X2 (iv_H 2), 0, 0)) :
    hd_W Ls xs d jm_M22 Q (8, sy_dL F [some (.inl (.ref 38)), some (.inl (.ref 20)), none, some (.inr (.inl 82)), some (.inr (.inl 83)), some (.inr (.inl 84)), none], sy_dS F [], sy_dh F X1 X2 (iv_H 2), 0, 0) := by
  refine hd_run (s := 2) (nv := 85) (pc := 8) (L := [some (.inl (.ref 38)), some (.inl (.ref 20)), none, some (.inr (.inl 82)), some (.inr (.inl 83)), some (.inr (.inl 84)), none]) (S := []) (uh := hd_ov (iv_id 0 iv_B0) []) (ul := [.inl (.inr (.inl 92)), .inl (.inr (.inl 88)), .inl (.inr (.inl 93))]) (f := true) (sp := [8]) (d0 := 1) (O := [false, false, true, true, true, true, false, true]) (T := [(0, [.inr (.inl 82), .inl (.int 1)], []), (30, [.inr (.inl 82)], [.inr (.inl 32)]), (0, [.inr (.inl 82), .inl (.int 1)], []), (0, [.inr (.inl 83), .inl (.int (-2))], []), (30, [.inr (.inl 88)], [.inr (.inl 46)]), (0, [.inr (.inl 88), .inl (.int 1)], []), (30, [.inr (.inl 90)], [.inr (.inl 46)]), (30, [.inr (.inl 87)], [.inr (.inl 32)]), (0, [.inr (.inl 84), .inl (.int 1)], [])]) (P := [(5, .inl (.int 512), .inr (.inl 84)), (3, .inr (.inl 82), .inl (.int 0)), (2, .inr (.inl 85), .inl (.int 512)), (6, .inr (.inl 82), .inl (.ref 512)), (2, .inr (.inl 86), .inl (.int (-9))), (1, .inr (.inl 86), .inl (.int (-14))), (4, .inl (.int 2), .inr (.inl 83)), (0, .inr (.inl 86), .inl (.int (-15))), (6, .inr (.inl 88), .inl (.ref 32)), (6, .inr (.inl 90), .inl (.ref 32)), (4, .inr (.inl 91), .inr (.inl 89)), (6, .inr (.inl 87), .inl (.ref 512))]) jm_ok22 (by decide +kernel) (by decide +kernel) hd F X1 X2 (fun F' hF hs => ?_)
  have b84 := hd_b (F := F) (F' := F') (k := 84) (hF 84 (by decide))
  have b82 := hd_b (F := F) (F' := F') (k := 82) (hF 82 (by decide))
  have t85 : sy_dv F' (.inr (.inl 85)) = .int ((sy_i F 82) + ((1 : Int32))) := hd_o (hs 0 _ rfl) b82 rfl rfl
  have a32 := hd_ba (F := F) (F' := F') (k := 32) (hF 32 (by decide))
  have t86 : sy_dv F' (.inr (.inl 86)) = .int ((sy_ai F 32).getD (sy_i F 82).toNatClampNeg 0) := hd_rd (hs 1 _ rfl) b82 a32
  have b83 := hd_b (F := F) (F' := F') (k := 83) (hF 83 (by decide))
  have t88 : sy_dv F' (.inr (.inl 88)) = .int ((sy_i F 83) + (((-2) : Int32))) := hd_o (hs 3 _ rfl) b83 rfl rfl
  have t90 : sy_dv F' (.inr (.inl 90)) = .int (((sy_i F 83) + (((-2) : Int32))) + ((1 : Int32))) := hd_o (hs 5 _ rfl) t88 rfl rfl
  have a46 := hd_ba (F := F) (F' := F') (k := 46) (hF 46 (by decide))
  have t91 : sy_dv F' (.inr (.inl 91)) = .int ((sy_ai F 46).getD (((sy_i F 83) + (((-2) : Int32))) + ((1 : Int32))).toNatClampNeg 0) := hd_rd (hs 6 _ rfl) t90 a46
  have t89 : sy_dv F' (.inr (.inl 89)) = .int ((sy_ai F 46).getD ((sy_i F 83) + (((-2) : Int32))).toNatClampNeg 0) := hd_rd (hs 4 _ rfl) t88 a46
  have t87 : sy_dv F' (.inr (.inl 87)) = .int ((sy_i F 82) + ((1 : Int32))) := hd_o (hs 2 _ rfl) b82 rfl rfl
  have t92 : sy_dv F' (.inr (.inl 92)) = .int ((sy_ai F 32).getD ((sy_i F 82) + ((1 : Int32))).toNatClampNeg 0) := hd_rd (hs 7 _ rfl) t87 a32
  have t93 : sy_dv F' (.inr (.inl 93)) = .int ((sy_i F 84) + ((1 : Int32))) := hd_o (hs 8 _ rfl) b84 rfl rfl
  have hB' : iv_in F' iv_B0 := iv_in_eq hB (fun j hj => hF j (Nat.lt_of_lt_of_le hj (by decide +kernel)))
  refine ⟨List.forall_mem_cons.mpr ⟨hd_p5 rfl b84 (by have hc : ((512) : Int32).toInt = 512 := (by decide); omega), List.forall_mem_cons.mpr ⟨hd_p3 b82 rfl (by have hc : ((0) : Int32).toInt = 0 := (by decide); omega), List.forall_mem_cons.mpr ⟨hd_p2 t85 rfl (by have hc : ((512) : Int32).toInt = 512 := (by decide); omega), List.forall_mem_cons.mpr ⟨hd_pb b82 (by first | exact h3 | exact h3), List.forall_mem_cons.mpr ⟨hd_p2 t86 rfl (by have hc : (((-9)) : Int32).toInt = (-9) := (by decide); omega), List.forall_mem_cons.mpr ⟨hd_p1 t86 rfl (by have hc : (((-14)) : Int32).toInt = (-14) := (by decide); omega), List.forall_mem_cons.mpr ⟨hd_p4 rfl b83 (by have hc : ((2) : Int32).toInt = 2 := (by decide); omega), List.forall_mem_cons.mpr ⟨hd_p0 t86 rfl (by have hc : (((-15)) : Int32).toInt = (-15) := (by decide); omega), List.forall_mem_cons.mpr ⟨hd_pb t88 (by first | exact h8 | exact h8), List.forall_mem_cons.mpr ⟨hd_pb t90 (by first | exact h9 | exact h9), List.forall_mem_cons.mpr ⟨hd_p4 t91 t89 h10, List.forall_mem_cons.mpr ⟨hd_pb t87 (by first | exact h11 | exact h11), fun _ h => absurd h List.not_mem_nil⟩⟩⟩⟩⟩⟩⟩⟩⟩⟩⟩⟩, ?_⟩
  refine k _ ?_ ?_ ?_ ?_
  · exact fun j hj _ => (hd_keep hB' (Nat.lt_of_lt_of_le hj (by decide +kernel)) (by simp)).trans (hF j (Nat.lt_of_lt_of_le hj (by decide)))
  · exact hd_gi (x := .inr (.inl 92)) (by decide +kernel) t92
  · exact hd_gi (x := .inr (.inl 88)) (by decide +kernel) t88
  · exact hd_gi (x := .inr (.inl 93)) (by decide +kernel) t93
theorem j2wo_8_p10 {Ls : Nat} {xs : Nat → Int32} {d : Nat} {Q : Option Value → jm_h → Prop} (hd : 2 ≤ d) (F : Nat → sy_d) (X1 X2 : List jm_c) (hB : iv_in F iv_B0)
    (h0 : (sy_i F 84).toInt < 512)
    (h1 : 0 ≤ (sy_i F 82).toInt)
    (h2 : ((sy_i F 82) + ((1 : Int32))).toInt < 512)
    (h3 : 0 ≤ (sy_i F 82).toInt ∧ (sy_i F 82).toInt < 512)
    (h4 : ((sy_ai F 32).getD (sy_i F 82).toNatClampNeg 0).toInt < (-9))
    (h5 : ((sy_ai F 32).getD (sy_i F 82).toNatClampNeg 0).toInt ≠ (-14))
    (h6 : 2 ≤ (sy_i F 83).toInt)
    (h7 : ((sy_ai F 32).getD (sy_i F 82).toNatClampNeg 0).toInt = (-15))
    (h8 : 0 ≤ ((sy_i F 83) + (((-2) : Int32))).toInt ∧ ((sy_i F 83) + (((-2) : Int32))).toInt < 32)
    (h9 : 0 ≤ (((sy_i F 83) + (((-2) : Int32))) + ((1 : Int32))).toInt ∧ (((sy_i F 83) + (((-2) : Int32))) + ((1 : Int32))).toInt < 32)
    (h10 : ((sy_ai F 46).getD ((sy_i F 83) + (((-2) : Int32))).toNatClampNeg 0).toInt < ((sy_ai F 46).getD (((sy_i F 83) + (((-2) : Int32))) + ((1 : Int32))).toNatClampNeg 0).toInt)
    (k : ∀ F1 : Nat → sy_d, (∀ j, j < 82 → True → F1 j = F j) → F1 82 = .inl (.int (((sy_i F 82) + ((1 : Int32))) + ((1 : Int32)))) → F1 83 = .inl (.int ((sy_i F 83) + (((-2) : Int32)))) → F1 84 = .inl (.int ((sy_i F 84) + ((1 : Int32)))) → hd_W Ls xs d jm_M22 Q (8, sy_dL F1 [some (.inl (.ref 38)), some (.inl (.ref 20)), none, some (.inr (.inl 82)), some (.inr (.inl 83)), some (.inr (.inl 84)), none], sy_dS F1 [], sy_dh F1 X1 X2 (iv_H 2), 0, 0)) :
    hd_W Ls xs d jm_M22 Q (8, sy_dL F [some (.inl (.ref 38)), some (.inl (.ref 20)), none, some (.inr (.inl 82)), some (.inr (.inl 83)), some (.inr (.inl 84)), none], sy_dS F [], sy_dh F X1 X2 (iv_H 2), 0, 0) := by
  refine hd_run (s := 2) (nv := 85) (pc := 8) (L := [some (.inl (.ref 38)), some (.inl (.ref 20)), none, some (.inr (.inl 82)), some (.inr (.inl 83)), some (.inr (.inl 84)), none]) (S := []) (uh := hd_ov (iv_id 0 iv_B0) []) (ul := [.inl (.inr (.inl 92)), .inl (.inr (.inl 88)), .inl (.inr (.inl 93))]) (f := true) (sp := [8]) (d0 := 1) (O := [false, false, true, true, true, true, false, false]) (T := [(0, [.inr (.inl 82), .inl (.int 1)], []), (30, [.inr (.inl 82)], [.inr (.inl 32)]), (0, [.inr (.inl 82), .inl (.int 1)], []), (0, [.inr (.inl 83), .inl (.int (-2))], []), (30, [.inr (.inl 88)], [.inr (.inl 46)]), (0, [.inr (.inl 88), .inl (.int 1)], []), (30, [.inr (.inl 90)], [.inr (.inl 46)]), (0, [.inr (.inl 87), .inl (.int 1)], []), (0, [.inr (.inl 84), .inl (.int 1)], [])]) (P := [(5, .inl (.int 512), .inr (.inl 84)), (3, .inr (.inl 82), .inl (.int 0)), (2, .inr (.inl 85), .inl (.int 512)), (6, .inr (.inl 82), .inl (.ref 512)), (2, .inr (.inl 86), .inl (.int (-9))), (1, .inr (.inl 86), .inl (.int (-14))), (4, .inl (.int 2), .inr (.inl 83)), (0, .inr (.inl 86), .inl (.int (-15))), (6, .inr (.inl 88), .inl (.ref 32)), (6, .inr (.inl 90), .inl (.ref 32)), (5, .inr (.inl 91), .inr (.inl 89))]) jm_ok22 (by decide +kernel) (by decide +kernel) hd F X1 X2 (fun F' hF hs => ?_)
  have b84 := hd_b (F := F) (F' := F') (k := 84) (hF 84 (by decide))
  have b82 := hd_b (F := F) (F' := F') (k := 82) (hF 82 (by decide))
  have t85 : sy_dv F' (.inr (.inl 85)) = .int ((sy_i F 82) + ((1 : Int32))) := hd_o (hs 0 _ rfl) b82 rfl rfl
  have a32 := hd_ba (F := F) (F' := F') (k := 32) (hF 32 (by decide))
  have t86 : sy_dv F' (.inr (.inl 86)) = .int ((sy_ai F 32).getD (sy_i F 82).toNatClampNeg 0) := hd_rd (hs 1 _ rfl) b82 a32
  have b83 := hd_b (F := F) (F' := F') (k := 83) (hF 83 (by decide))
  have t88 : sy_dv F' (.inr (.inl 88)) = .int ((sy_i F 83) + (((-2) : Int32))) := hd_o (hs 3 _ rfl) b83 rfl rfl
  have t90 : sy_dv F' (.inr (.inl 90)) = .int (((sy_i F 83) + (((-2) : Int32))) + ((1 : Int32))) := hd_o (hs 5 _ rfl) t88 rfl rfl
  have a46 := hd_ba (F := F) (F' := F') (k := 46) (hF 46 (by decide))
  have t91 : sy_dv F' (.inr (.inl 91)) = .int ((sy_ai F 46).getD (((sy_i F 83) + (((-2) : Int32))) + ((1 : Int32))).toNatClampNeg 0) := hd_rd (hs 6 _ rfl) t90 a46
  have t89 : sy_dv F' (.inr (.inl 89)) = .int ((sy_ai F 46).getD ((sy_i F 83) + (((-2) : Int32))).toNatClampNeg 0) := hd_rd (hs 4 _ rfl) t88 a46
  have t87 : sy_dv F' (.inr (.inl 87)) = .int ((sy_i F 82) + ((1 : Int32))) := hd_o (hs 2 _ rfl) b82 rfl rfl
  have t92 : sy_dv F' (.inr (.inl 92)) = .int (((sy_i F 82) + ((1 : Int32))) + ((1 : Int32))) := hd_o (hs 7 _ rfl) t87 rfl rfl
  have t93 : sy_dv F' (.inr (.inl 93)) = .int ((sy_i F 84) + ((1 : Int32))) := hd_o (hs 8 _ rfl) b84 rfl rfl
  have hB' : iv_in F' iv_B0 := iv_in_eq hB (fun j hj => hF j (Nat.lt_of_lt_of_le hj (by decide +kernel)))
  refine ⟨List.forall_mem_cons.mpr ⟨hd_p5 rfl b84 (by have hc : ((512) : Int32).toInt = 512 := (by decide); omega), List.forall_mem_cons.mpr ⟨hd_p3 b82 rfl (by have hc : ((0) : Int32).toInt = 0 := (by decide); omega), List.forall_mem_cons.mpr ⟨hd_p2 t85 rfl (by have hc : ((512) : Int32).toInt = 512 := (by decide); omega), List.forall_mem_cons.mpr ⟨hd_pb b82 (by first | exact h3 | exact h3), List.forall_mem_cons.mpr ⟨hd_p2 t86 rfl (by have hc : (((-9)) : Int32).toInt = (-9) := (by decide); omega), List.forall_mem_cons.mpr ⟨hd_p1 t86 rfl (by have hc : (((-14)) : Int32).toInt = (-14) := (by decide); omega), List.forall_mem_cons.mpr ⟨hd_p4 rfl b83 (by have hc : ((2) : Int32).toInt = 2 := (by decide); omega), List.forall_mem_cons.mpr ⟨hd_p0 t86 rfl (by have hc : (((-15)) : Int32).toInt = (-15) := (by decide); omega), List.forall_mem_cons.mpr ⟨hd_pb t88 (by first | exact h8 | exact h8), List.forall_mem_cons.mpr ⟨hd_pb t90 (by first | exact h9 | exact h9), List.forall_mem_cons.mpr ⟨hd_p5 t91 t89 h10, fun _ h => absurd h List.not_mem_nil⟩⟩⟩⟩⟩⟩⟩⟩⟩⟩⟩, ?_⟩
  refine k _ ?_ ?_ ?_ ?_
  · exact fun j hj _ => (hd_keep hB' (Nat.lt_of_lt_of_le hj (by decide +kernel)) (by simp)).trans (hF j (Nat.lt_of_lt_of_le hj (by decide)))
  · exact hd_gi (x := .inr (.inl 92)) (by decide +kernel) t92
  · exact hd_gi (x := .inr (.inl 88)) (by decide +kernel) t88
  · exact hd_gi (x := .inr (.inl 93)) (by decide +kernel) t93
theorem j2wo_8_p11 {Ls : Nat} {xs : Nat → Int32} {d : Nat} {Q : Option Value → jm_h → Prop} (hd : 2 ≤ d) (F : Nat → sy_d) (X1 X2 : List jm_c) (hB : iv_in F iv_B0)
    (h0 : (sy_i F 84).toInt < 512)
    (h1 : 0 ≤ (sy_i F 82).toInt)
    (h2 : ((sy_i F 82) + ((1 : Int32))).toInt < 512)
    (h3 : 0 ≤ (sy_i F 82).toInt ∧ (sy_i F 82).toInt < 512)
    (h4 : ((sy_ai F 32).getD (sy_i F 82).toNatClampNeg 0).toInt < (-9))
    (h5 : ((sy_ai F 32).getD (sy_i F 82).toNatClampNeg 0).toInt ≠ (-14))
    (h6 : (sy_i F 83).toInt < 2)
    (k : ∀ F1 : Nat → sy_d, (∀ j, j < 82 → True → F1 j = F j) → Q (some (.int ((0 : Int32)))) (sy_dh F1 X1 X2 (iv_H 2))) :
    hd_W Ls xs d jm_M22 Q (8, sy_dL F [some (.inl (.ref 38)), some (.inl (.ref 20)), none, some (.inr (.inl 82)), some (.inr (.inl 83)), some (.inr (.inl 84)), none], sy_dS F [], sy_dh F X1 X2 (iv_H 2), 0, 0) := by
  refine hd_ret (s := 2) (nv := 85) (v := some (.inl (.int 0))) (uh := hd_ov (iv_id 0 iv_B0) []) (f := true) (sp := [8]) (d0 := 1) (O := [false, false, true, true, true, false]) (T := [(0, [.inr (.inl 82), .inl (.int 1)], []), (30, [.inr (.inl 82)], [.inr (.inl 32)]), (0, [.inr (.inl 82), .inl (.int 1)], [])]) (P := [(5, .inl (.int 512), .inr (.inl 84)), (3, .inr (.inl 82), .inl (.int 0)), (2, .inr (.inl 85), .inl (.int 512)), (6, .inr (.inl 82), .inl (.ref 512)), (2, .inr (.inl 86), .inl (.int (-9))), (1, .inr (.inl 86), .inl (.int (-14))), (5, .inl (.int 2), .inr (.inl 83))]) jm_ok22 (by decide +kernel) (by decide +kernel) hd F X1 X2 (fun F' hF hs => ?_)
  have b84 := hd_b (F := F) (F' := F') (k := 84) (hF 84 (by decide))
  have b82 := hd_b (F := F) (F' := F') (k := 82) (hF 82 (by decide))
  have t85 : sy_dv F' (.inr (.inl 85)) = .int ((sy_i F 82) + ((1 : Int32))) := hd_o (hs 0 _ rfl) b82 rfl rfl
  have a32 := hd_ba (F := F) (F' := F') (k := 32) (hF 32 (by decide))
  have t86 : sy_dv F' (.inr (.inl 86)) = .int ((sy_ai F 32).getD (sy_i F 82).toNatClampNeg 0) := hd_rd (hs 1 _ rfl) b82 a32
  have b83 := hd_b (F := F) (F' := F') (k := 83) (hF 83 (by decide))
  have hB' : iv_in F' iv_B0 := iv_in_eq hB (fun j hj => hF j (Nat.lt_of_lt_of_le hj (by decide +kernel)))
  refine ⟨List.forall_mem_cons.mpr ⟨hd_p5 rfl b84 (by have hc : ((512) : Int32).toInt = 512 := (by decide); omega), List.forall_mem_cons.mpr ⟨hd_p3 b82 rfl (by have hc : ((0) : Int32).toInt = 0 := (by decide); omega), List.forall_mem_cons.mpr ⟨hd_p2 t85 rfl (by have hc : ((512) : Int32).toInt = 512 := (by decide); omega), List.forall_mem_cons.mpr ⟨hd_pb b82 (by first | exact h3 | exact h3), List.forall_mem_cons.mpr ⟨hd_p2 t86 rfl (by have hc : (((-9)) : Int32).toInt = (-9) := (by decide); omega), List.forall_mem_cons.mpr ⟨hd_p1 t86 rfl (by have hc : (((-14)) : Int32).toInt = (-14) := (by decide); omega), List.forall_mem_cons.mpr ⟨hd_p5 rfl b83 (by have hc : ((2) : Int32).toInt = 2 := (by decide); omega), fun _ h => absurd h List.not_mem_nil⟩⟩⟩⟩⟩⟩⟩, ?_⟩
  refine k _ ?_
  · exact fun j hj _ => (hd_keep hB' (Nat.lt_of_lt_of_le hj (by decide +kernel)) (by simp)).trans (hF j (Nat.lt_of_lt_of_le hj (by decide)))
theorem j2wo_8_p12 {Ls : Nat} {xs : Nat → Int32} {d : Nat} {Q : Option Value → jm_h → Prop} (hd : 2 ≤ d) (F : Nat → sy_d) (X1 X2 : List jm_c) (hB : iv_in F iv_B0)
    (h0 : (sy_i F 84).toInt < 512)
    (h1 : 0 ≤ (sy_i F 82).toInt)
    (h2 : ((sy_i F 82) + ((1 : Int32))).toInt < 512)
    (h3 : 0 ≤ (sy_i F 82).toInt ∧ (sy_i F 82).toInt < 512)
    (h4 : ((sy_ai F 32).getD (sy_i F 82).toNatClampNeg 0).toInt < (-9))
    (h5 : ((sy_ai F 32).getD (sy_i F 82).toNatClampNeg 0).toInt = (-14))
    (h6 : (sy_i F 83).toInt < 1)
    (k : ∀ F1 : Nat → sy_d, (∀ j, j < 82 → True → F1 j = F j) → Q (some (.int ((0 : Int32)))) (sy_dh F1 X1 X2 (iv_H 2))) :
    hd_W Ls xs d jm_M22 Q (8, sy_dL F [some (.inl (.ref 38)), some (.inl (.ref 20)), none, some (.inr (.inl 82)), some (.inr (.inl 83)), some (.inr (.inl 84)), none], sy_dS F [], sy_dh F X1 X2 (iv_H 2), 0, 0) := by
  refine hd_ret (s := 2) (nv := 85) (v := some (.inl (.int 0))) (uh := hd_ov (iv_id 0 iv_B0) []) (f := true) (sp := [8]) (d0 := 1) (O := [false, false, true, true, false, true]) (T := [(0, [.inr (.inl 82), .inl (.int 1)], []), (30, [.inr (.inl 82)], [.inr (.inl 32)]), (0, [.inr (.inl 82), .inl (.int 1)], [])]) (P := [(5, .inl (.int 512), .inr (.inl 84)), (3, .inr (.inl 82), .inl (.int 0)), (2, .inr (.inl 85), .inl (.int 512)), (6, .inr (.inl 82), .inl (.ref 512)), (2, .inr (.inl 86), .inl (.int (-9))), (0, .inr (.inl 86), .inl (.int (-14))), (2, .inr (.inl 83), .inl (.int 1))]) jm_ok22 (by decide +kernel) (by decide +kernel) hd F X1 X2 (fun F' hF hs => ?_)
  have b84 := hd_b (F := F) (F' := F') (k := 84) (hF 84 (by decide))
  have b82 := hd_b (F := F) (F' := F') (k := 82) (hF 82 (by decide))
  have t85 : sy_dv F' (.inr (.inl 85)) = .int ((sy_i F 82) + ((1 : Int32))) := hd_o (hs 0 _ rfl) b82 rfl rfl
  have a32 := hd_ba (F := F) (F' := F') (k := 32) (hF 32 (by decide))
  have t86 : sy_dv F' (.inr (.inl 86)) = .int ((sy_ai F 32).getD (sy_i F 82).toNatClampNeg 0) := hd_rd (hs 1 _ rfl) b82 a32
  have b83 := hd_b (F := F) (F' := F') (k := 83) (hF 83 (by decide))
  have hB' : iv_in F' iv_B0 := iv_in_eq hB (fun j hj => hF j (Nat.lt_of_lt_of_le hj (by decide +kernel)))
  refine ⟨List.forall_mem_cons.mpr ⟨hd_p5 rfl b84 (by have hc : ((512) : Int32).toInt = 512 := (by decide); omega), List.forall_mem_cons.mpr ⟨hd_p3 b82 rfl (by have hc : ((0) : Int32).toInt = 0 := (by decide); omega), List.forall_mem_cons.mpr ⟨hd_p2 t85 rfl (by have hc : ((512) : Int32).toInt = 512 := (by decide); omega), List.forall_mem_cons.mpr ⟨hd_pb b82 (by first | exact h3 | exact h3), List.forall_mem_cons.mpr ⟨hd_p2 t86 rfl (by have hc : (((-9)) : Int32).toInt = (-9) := (by decide); omega), List.forall_mem_cons.mpr ⟨hd_p0 t86 rfl (by have hc : (((-14)) : Int32).toInt = (-14) := (by decide); omega), List.forall_mem_cons.mpr ⟨hd_p2 b83 rfl (by have hc : ((1) : Int32).toInt = 1 := (by decide); omega), fun _ h => absurd h List.not_mem_nil⟩⟩⟩⟩⟩⟩⟩, ?_⟩
  refine k _ ?_
  · exact fun j hj _ => (hd_keep hB' (Nat.lt_of_lt_of_le hj (by decide +kernel)) (by simp)).trans (hF j (Nat.lt_of_lt_of_le hj (by decide)))
theorem j2wo_8_p13 {Ls : Nat} {xs : Nat → Int32} {d : Nat} {Q : Option Value → jm_h → Prop} (hd : 2 ≤ d) (F : Nat → sy_d) (X1 X2 : List jm_c) (hB : iv_in F iv_B0)
    (h0 : (sy_i F 84).toInt < 512)
    (h1 : 0 ≤ (sy_i F 82).toInt)
    (h2 : ((sy_i F 82) + ((1 : Int32))).toInt < 512)
    (h3 : 0 ≤ (sy_i F 82).toInt ∧ (sy_i F 82).toInt < 512)
    (h4 : ((sy_ai F 32).getD (sy_i F 82).toNatClampNeg 0).toInt < (-9))
    (h5 : ((sy_ai F 32).getD (sy_i F 82).toNatClampNeg 0).toInt = (-14))
    (h6 : 1 ≤ (sy_i F 83).toInt)
    (h7 : 0 ≤ ((sy_i F 83) - ((1 : Int32))).toInt ∧ ((sy_i F 83) - ((1 : Int32))).toInt < 32)
    (k : ∀ F1 : Nat → sy_d, (∀ j, j < 82 → True → F1 j = F j) → Q (some (.int ((sy_ai F 46).getD ((sy_i F 83) - ((1 : Int32))).toNatClampNeg 0))) (sy_dh F1 X1 X2 (iv_H 2))) :
    hd_W Ls xs d jm_M22 Q (8, sy_dL F [some (.inl (.ref 38)), some (.inl (.ref 20)), none, some (.inr (.inl 82)), some (.inr (.inl 83)), some (.inr (.inl 84)), none], sy_dS F [], sy_dh F X1 X2 (iv_H 2), 0, 0) := by
  refine hd_ret (s := 2) (nv := 85) (v := some (.inr (.inl 89))) (uh := hd_ov (iv_id 0 iv_B0) []) (f := true) (sp := [8]) (d0 := 1) (O := [false, false, true, true, false, false]) (T := [(0, [.inr (.inl 82), .inl (.int 1)], []), (30, [.inr (.inl 82)], [.inr (.inl 32)]), (0, [.inr (.inl 82), .inl (.int 1)], []), (1, [.inr (.inl 83), .inl (.int 1)], []), (30, [.inr (.inl 88)], [.inr (.inl 46)])]) (P := [(5, .inl (.int 512), .inr (.inl 84)), (3, .inr (.inl 82), .inl (.int 0)), (2, .inr (.inl 85), .inl (.int 512)), (6, .inr (.inl 82), .inl (.ref 512)), (2, .inr (.inl 86), .inl (.int (-9))), (0, .inr (.inl 86), .inl (.int (-14))), (3, .inr (.inl 83), .inl (.int 1)), (6, .inr (.inl 88), .inl (.ref 32))]) jm_ok22 (by decide +kernel) (by decide +kernel) hd F X1 X2 (fun F' hF hs => ?_)
  have b84 := hd_b (F := F) (F' := F') (k := 84) (hF 84 (by decide))
  have b82 := hd_b (F := F) (F' := F') (k := 82) (hF 82 (by decide))
  have t85 : sy_dv F' (.inr (.inl 85)) = .int ((sy_i F 82) + ((1 : Int32))) := hd_o (hs 0 _ rfl) b82 rfl rfl
  have a32 := hd_ba (F := F) (F' := F') (k := 32) (hF 32 (by decide))
  have t86 : sy_dv F' (.inr (.inl 86)) = .int ((sy_ai F 32).getD (sy_i F 82).toNatClampNeg 0) := hd_rd (hs 1 _ rfl) b82 a32
  have b83 := hd_b (F := F) (F' := F') (k := 83) (hF 83 (by decide))
  have t88 : sy_dv F' (.inr (.inl 88)) = .int ((sy_i F 83) - ((1 : Int32))) := hd_o (hs 3 _ rfl) b83 rfl rfl
  have a46 := hd_ba (F := F) (F' := F') (k := 46) (hF 46 (by decide))
  have t89 : sy_dv F' (.inr (.inl 89)) = .int ((sy_ai F 46).getD ((sy_i F 83) - ((1 : Int32))).toNatClampNeg 0) := hd_rd (hs 4 _ rfl) t88 a46
  have hB' : iv_in F' iv_B0 := iv_in_eq hB (fun j hj => hF j (Nat.lt_of_lt_of_le hj (by decide +kernel)))
  have hk := k (sy_cm F' (hd_ov (iv_id 0 iv_B0) [] ++ [])) (fun j hj _ => (hd_keep hB' (Nat.lt_of_lt_of_le hj (by decide +kernel)) (by simp)).trans (hF j (Nat.lt_of_lt_of_le hj (by decide))))
  refine ⟨List.forall_mem_cons.mpr ⟨hd_p5 rfl b84 (by have hc : ((512) : Int32).toInt = 512 := (by decide); omega), List.forall_mem_cons.mpr ⟨hd_p3 b82 rfl (by have hc : ((0) : Int32).toInt = 0 := (by decide); omega), List.forall_mem_cons.mpr ⟨hd_p2 t85 rfl (by have hc : ((512) : Int32).toInt = 512 := (by decide); omega), List.forall_mem_cons.mpr ⟨hd_pb b82 (by first | exact h3 | exact h3), List.forall_mem_cons.mpr ⟨hd_p2 t86 rfl (by have hc : (((-9)) : Int32).toInt = (-9) := (by decide); omega), List.forall_mem_cons.mpr ⟨hd_p0 t86 rfl (by have hc : (((-14)) : Int32).toInt = (-14) := (by decide); omega), List.forall_mem_cons.mpr ⟨hd_p3 b83 rfl (by have hc : ((1) : Int32).toInt = 1 := (by decide); omega), List.forall_mem_cons.mpr ⟨hd_pb t88 (by first | exact h7 | exact h7), fun _ h => absurd h List.not_mem_nil⟩⟩⟩⟩⟩⟩⟩⟩, ?_⟩
  show Q (some (sy_dv F' (.inr (.inl 89)))) _
  rw [t89]
  exact hk
theorem j2wo_8_p14 {Ls : Nat} {xs : Nat → Int32} {d : Nat} {Q : Option Value → jm_h → Prop} (hd : 2 ≤ d) (F : Nat → sy_d) (X1 X2 : List jm_c) (hB : iv_in F iv_B0)
    (h0 : (sy_i F 84).toInt < 512)
    (h1 : 0 ≤ (sy_i F 82).toInt)
    (h2 : ((sy_i F 82) + ((1 : Int32))).toInt < 512)
    (h3 : 0 ≤ (sy_i F 82).toInt ∧ (sy_i F 82).toInt < 512)
    (h4 : (-9) ≤ ((sy_ai F 32).getD (sy_i F 82).toNatClampNeg 0).toInt)
    (h5 : (sy_i F 83).toInt < 32)
    (h6 : ((sy_ai F 32).getD (sy_i F 82).toNatClampNeg 0).toInt < 0)
    (h7 : 0 ≤ ((((-1) : Int32)) - ((sy_ai F 32).getD (sy_i F 82).toNatClampNeg 0)).toInt ∧ ((((-1) : Int32)) - ((sy_ai F 32).getD (sy_i F 82).toNatClampNeg 0)).toInt < 9)
    (h8 : 0 ≤ (sy_i F 83).toInt ∧ (sy_i F 83).toInt < 32)
    (k : ∀ F1 : Nat → sy_d, (∀ j, j < 82 → j ≠ 46 → F1 j = F j) → F1 46 = .inr (.inl (jm_upd (sy_ai F 46) (sy_i F 83).toNatClampNeg ((sy_ai F 45).getD ((((-1) : Int32)) - ((sy_ai F 32).getD (sy_i F 82).toNatClampNeg 0)).toNatClampNeg 0))) → F1 82 = .inl (.int ((sy_i F 82) + ((1 : Int32)))) → F1 83 = .inl (.int ((sy_i F 83) + ((1 : Int32)))) → F1 84 = .inl (.int ((sy_i F 84) + ((1 : Int32)))) → hd_W Ls xs d jm_M22 Q (8, sy_dL F1 [some (.inl (.ref 38)), some (.inl (.ref 20)), none, some (.inr (.inl 82)), some (.inr (.inl 83)), some (.inr (.inl 84)), none], sy_dS F1 [], sy_dh F1 X1 X2 (iv_H 2), 0, 0)) :
    hd_W Ls xs d jm_M22 Q (8, sy_dL F [some (.inl (.ref 38)), some (.inl (.ref 20)), none, some (.inr (.inl 82)), some (.inr (.inl 83)), some (.inr (.inl 84)), none], sy_dS F [], sy_dh F X1 X2 (iv_H 2), 0, 0) := by
  refine hd_run (s := 2) (nv := 85) (pc := 8) (L := [some (.inl (.ref 38)), some (.inl (.ref 20)), none, some (.inr (.inl 82)), some (.inr (.inl 83)), some (.inr (.inl 84)), none]) (S := []) (uh := hd_ov (iv_id 0 iv_B0) [(46, .inr (.inr (.inl 90)))]) (ul := [.inl (.inr (.inl 87)), .inl (.inr (.inl 91)), .inl (.inr (.inl 92))]) (f := true) (sp := [8]) (d0 := 1) (O := [false, false, true, false, true, true]) (T := [(0, [.inr (.inl 82), .inl (.int 1)], []), (30, [.inr (.inl 82)], [.inr (.inl 32)]), (0, [.inr (.inl 82), .inl (.int 1)], []), (1, [.inl (.int (-1)), .inr (.inl 86)], []), (30, [.inr (.inl 88)], [.inr (.inl 45)]), (40, [.inr (.inl 83), .inr (.inl 89)], [.inr (.inl 46)]), (0, [.inr (.inl 83), .inl (.int 1)], []), (0, [.inr (.inl 84), .inl (.int 1)], [])]) (P := [(5, .inl (.int 512), .inr (.inl 84)), (3, .inr (.inl 82), .inl (.int 0)), (2, .inr (.inl 85), .inl (.int 512)), (6, .inr (.inl 82), .inl (.ref 512)), (3, .inr (.inl 86), .inl (.int (-9))), (2, .inr (.inl 83), .inl (.int 32)), (2, .inr (.inl 86), .inl (.int 0)), (6, .inr (.inl 88), .inl (.ref 9)), (6, .inr (.inl 83), .inl (.ref 32))]) jm_ok22 (by decide +kernel) (by decide +kernel) hd F X1 X2 (fun F' hF hs => ?_)
  have b84 := hd_b (F := F) (F' := F') (k := 84) (hF 84 (by decide))
  have b82 := hd_b (F := F) (F' := F') (k := 82) (hF 82 (by decide))
  have t85 : sy_dv F' (.inr (.inl 85)) = .int ((sy_i F 82) + ((1 : Int32))) := hd_o (hs 0 _ rfl) b82 rfl rfl
  have a32 := hd_ba (F := F) (F' := F') (k := 32) (hF 32 (by decide))
  have t86 : sy_dv F' (.inr (.inl 86)) = .int ((sy_ai F 32).getD (sy_i F 82).toNatClampNeg 0) := hd_rd (hs 1 _ rfl) b82 a32
  have b83 := hd_b (F := F) (F' := F') (k := 83) (hF 83 (by decide))
  have t88 : sy_dv F' (.inr (.inl 88)) = .int ((((-1) : Int32)) - ((sy_ai F 32).getD (sy_i F 82).toNatClampNeg 0)) := hd_o (hs 3 _ rfl) rfl t86 rfl
  have a45 := hd_ba (F := F) (F' := F') (k := 45) (hF 45 (by decide))
  have t89 : sy_dv F' (.inr (.inl 89)) = .int ((sy_ai F 45).getD ((((-1) : Int32)) - ((sy_ai F 32).getD (sy_i F 82).toNatClampNeg 0)).toNatClampNeg 0) := hd_rd (hs 4 _ rfl) t88 a45
  have a46 := hd_ba (F := F) (F' := F') (k := 46) (hF 46 (by decide))
  have t90 : sy_da F' (.inr (.inl 90)) = .inl (jm_upd (sy_ai F 46) (sy_i F 83).toNatClampNeg ((sy_ai F 45).getD ((((-1) : Int32)) - ((sy_ai F 32).getD (sy_i F 82).toNatClampNeg 0)).toNatClampNeg 0)) := hd_up (hs 5 _ rfl) b83 t89 a46
  have t87 : sy_dv F' (.inr (.inl 87)) = .int ((sy_i F 82) + ((1 : Int32))) := hd_o (hs 2 _ rfl) b82 rfl rfl
  have t91 : sy_dv F' (.inr (.inl 91)) = .int ((sy_i F 83) + ((1 : Int32))) := hd_o (hs 6 _ rfl) b83 rfl rfl
  have t92 : sy_dv F' (.inr (.inl 92)) = .int ((sy_i F 84) + ((1 : Int32))) := hd_o (hs 7 _ rfl) b84 rfl rfl
  have hB' : iv_in F' iv_B0 := iv_in_eq hB (fun j hj => hF j (Nat.lt_of_lt_of_le hj (by decide +kernel)))
  refine ⟨List.forall_mem_cons.mpr ⟨hd_p5 rfl b84 (by have hc : ((512) : Int32).toInt = 512 := (by decide); omega), List.forall_mem_cons.mpr ⟨hd_p3 b82 rfl (by have hc : ((0) : Int32).toInt = 0 := (by decide); omega), List.forall_mem_cons.mpr ⟨hd_p2 t85 rfl (by have hc : ((512) : Int32).toInt = 512 := (by decide); omega), List.forall_mem_cons.mpr ⟨hd_pb b82 (by first | exact h3 | exact h3), List.forall_mem_cons.mpr ⟨hd_p3 t86 rfl (by have hc : (((-9)) : Int32).toInt = (-9) := (by decide); omega), List.forall_mem_cons.mpr ⟨hd_p2 b83 rfl (by have hc : ((32) : Int32).toInt = 32 := (by decide); omega), List.forall_mem_cons.mpr ⟨hd_p2 t86 rfl (by have hc : ((0) : Int32).toInt = 0 := (by decide); omega), List.forall_mem_cons.mpr ⟨hd_pb t88 (by first | exact h7 | exact h7), List.forall_mem_cons.mpr ⟨hd_pb b83 (by first | exact h8 | exact h8), fun _ h => absurd h List.not_mem_nil⟩⟩⟩⟩⟩⟩⟩⟩⟩, ?_⟩
  refine k _ ?_ ?_ ?_ ?_ ?_
  · exact fun j hj hn => (hd_keep hB' (Nat.lt_of_lt_of_le hj (by decide +kernel)) (by simp; omega)).trans (hF j (Nat.lt_of_lt_of_le hj (by decide)))
  · exact hd_ga (a := .inr (.inl 90)) (by decide +kernel) t90
  · exact hd_gi (x := .inr (.inl 87)) (by decide +kernel) t87
  · exact hd_gi (x := .inr (.inl 91)) (by decide +kernel) t91
  · exact hd_gi (x := .inr (.inl 92)) (by decide +kernel) t92
theorem j2wo_8_p15 {Ls : Nat} {xs : Nat → Int32} {d : Nat} {Q : Option Value → jm_h → Prop} (hd : 2 ≤ d) (F : Nat → sy_d) (X1 X2 : List jm_c) (hB : iv_in F iv_B0)
    (h0 : (sy_i F 84).toInt < 512)
    (h1 : 0 ≤ (sy_i F 82).toInt)
    (h2 : ((sy_i F 82) + ((1 : Int32))).toInt < 512)
    (h3 : 0 ≤ (sy_i F 82).toInt ∧ (sy_i F 82).toInt < 512)
    (h4 : (-9) ≤ ((sy_ai F 32).getD (sy_i F 82).toNatClampNeg 0).toInt)
    (h5 : (sy_i F 83).toInt < 32)
    (h6 : 0 ≤ ((sy_ai F 32).getD (sy_i F 82).toNatClampNeg 0).toInt)
    (h7 : 0 ≤ (sy_i F 83).toInt ∧ (sy_i F 83).toInt < 32)
    (k : ∀ F1 : Nat → sy_d, (∀ j, j < 82 → j ≠ 46 → F1 j = F j) → F1 46 = .inr (.inl (jm_upd (sy_ai F 46) (sy_i F 83).toNatClampNeg ((sy_ai F 32).getD (sy_i F 82).toNatClampNeg 0))) → F1 82 = .inl (.int ((sy_i F 82) + ((1 : Int32)))) → F1 83 = .inl (.int ((sy_i F 83) + ((1 : Int32)))) → F1 84 = .inl (.int ((sy_i F 84) + ((1 : Int32)))) → hd_W Ls xs d jm_M22 Q (8, sy_dL F1 [some (.inl (.ref 38)), some (.inl (.ref 20)), none, some (.inr (.inl 82)), some (.inr (.inl 83)), some (.inr (.inl 84)), none], sy_dS F1 [], sy_dh F1 X1 X2 (iv_H 2), 0, 0)) :
    hd_W Ls xs d jm_M22 Q (8, sy_dL F [some (.inl (.ref 38)), some (.inl (.ref 20)), none, some (.inr (.inl 82)), some (.inr (.inl 83)), some (.inr (.inl 84)), none], sy_dS F [], sy_dh F X1 X2 (iv_H 2), 0, 0) := by
  refine hd_run (s := 2) (nv := 85) (pc := 8) (L := [some (.inl (.ref 38)), some (.inl (.ref 20)), none, some (.inr (.inl 82)), some (.inr (.inl 83)), some (.inr (.inl 84)), none]) (S := []) (uh := hd_ov (iv_id 0 iv_B0) [(46, .inr (.inr (.inl 88)))]) (ul := [.inl (.inr (.inl 87)), .inl (.inr (.inl 89)), .inl (.inr (.inl 90))]) (f := true) (sp := [8]) (d0 := 1) (O := [false, false, true, false, true, false]) (T := [(0, [.inr (.inl 82), .inl (.int 1)], []), (30, [.inr (.inl 82)], [.inr (.inl 32)]), (0, [.inr (.inl 82), .inl (.int 1)], []), (40, [.inr (.inl 83), .inr (.inl 86)], [.inr (.inl 46)]), (0, [.inr (.inl 83), .inl (.int 1)], []), (0, [.inr (.inl 84), .inl (.int 1)], [])]) (P := [(5, .inl (.int 512), .inr (.inl 84)), (3, .inr (.inl 82), .inl (.int 0)), (2, .inr (.inl 85), .inl (.int 512)), (6, .inr (.inl 82), .inl (.ref 512)), (3, .inr (.inl 86), .inl (.int (-9))), (2, .inr (.inl 83), .inl (.int 32)), (3, .inr (.inl 86), .inl (.int 0)), (6, .inr (.inl 83), .inl (.ref 32))]) jm_ok22 (by decide +kernel) (by decide +kernel) hd F X1 X2 (fun F' hF hs => ?_)
  have b84 := hd_b (F := F) (F' := F') (k := 84) (hF 84 (by decide))
  have b82 := hd_b (F := F) (F' := F') (k := 82) (hF 82 (by decide))
  have t85 : sy_dv F' (.inr (.inl 85)) = .int ((sy_i F 82) + ((1 : Int32))) := hd_o (hs 0 _ rfl) b82 rfl rfl
  have a32 := hd_ba (F := F) (F' := F') (k := 32) (hF 32 (by decide))
  have t86 : sy_dv F' (.inr (.inl 86)) = .int ((sy_ai F 32).getD (sy_i F 82).toNatClampNeg 0) := hd_rd (hs 1 _ rfl) b82 a32
  have b83 := hd_b (F := F) (F' := F') (k := 83) (hF 83 (by decide))
  have a46 := hd_ba (F := F) (F' := F') (k := 46) (hF 46 (by decide))
  have t88 : sy_da F' (.inr (.inl 88)) = .inl (jm_upd (sy_ai F 46) (sy_i F 83).toNatClampNeg ((sy_ai F 32).getD (sy_i F 82).toNatClampNeg 0)) := hd_up (hs 3 _ rfl) b83 t86 a46
  have t87 : sy_dv F' (.inr (.inl 87)) = .int ((sy_i F 82) + ((1 : Int32))) := hd_o (hs 2 _ rfl) b82 rfl rfl
  have t89 : sy_dv F' (.inr (.inl 89)) = .int ((sy_i F 83) + ((1 : Int32))) := hd_o (hs 4 _ rfl) b83 rfl rfl
  have t90 : sy_dv F' (.inr (.inl 90)) = .int ((sy_i F 84) + ((1 : Int32))) := hd_o (hs 5 _ rfl) b84 rfl rfl
  have hB' : iv_in F' iv_B0 := iv_in_eq hB (fun j hj => hF j (Nat.lt_of_lt_of_le hj (by decide +kernel)))
  refine ⟨List.forall_mem_cons.mpr ⟨hd_p5 rfl b84 (by have hc : ((512) : Int32).toInt = 512 := (by decide); omega), List.forall_mem_cons.mpr ⟨hd_p3 b82 rfl (by have hc : ((0) : Int32).toInt = 0 := (by decide); omega), List.forall_mem_cons.mpr ⟨hd_p2 t85 rfl (by have hc : ((512) : Int32).toInt = 512 := (by decide); omega), List.forall_mem_cons.mpr ⟨hd_pb b82 (by first | exact h3 | exact h3), List.forall_mem_cons.mpr ⟨hd_p3 t86 rfl (by have hc : (((-9)) : Int32).toInt = (-9) := (by decide); omega), List.forall_mem_cons.mpr ⟨hd_p2 b83 rfl (by have hc : ((32) : Int32).toInt = 32 := (by decide); omega), List.forall_mem_cons.mpr ⟨hd_p3 t86 rfl (by have hc : ((0) : Int32).toInt = 0 := (by decide); omega), List.forall_mem_cons.mpr ⟨hd_pb b83 (by first | exact h7 | exact h7), fun _ h => absurd h List.not_mem_nil⟩⟩⟩⟩⟩⟩⟩⟩, ?_⟩
  refine k _ ?_ ?_ ?_ ?_ ?_
  · exact fun j hj hn => (hd_keep hB' (Nat.lt_of_lt_of_le hj (by decide +kernel)) (by simp; omega)).trans (hF j (Nat.lt_of_lt_of_le hj (by decide)))
  · exact hd_ga (a := .inr (.inl 88)) (by decide +kernel) t88
  · exact hd_gi (x := .inr (.inl 87)) (by decide +kernel) t87
  · exact hd_gi (x := .inr (.inl 89)) (by decide +kernel) t89
  · exact hd_gi (x := .inr (.inl 90)) (by decide +kernel) t90
theorem j2wo_8_p16 {Ls : Nat} {xs : Nat → Int32} {d : Nat} {Q : Option Value → jm_h → Prop} (hd : 2 ≤ d) (F : Nat → sy_d) (X1 X2 : List jm_c) (hB : iv_in F iv_B0)
    (h0 : (sy_i F 84).toInt < 512)
    (h1 : 0 ≤ (sy_i F 82).toInt)
    (h2 : ((sy_i F 82) + ((1 : Int32))).toInt < 512)
    (h3 : 0 ≤ (sy_i F 82).toInt ∧ (sy_i F 82).toInt < 512)
    (h4 : (-9) ≤ ((sy_ai F 32).getD (sy_i F 82).toNatClampNeg 0).toInt)
    (h5 : 32 ≤ (sy_i F 83).toInt)
    (k : ∀ F1 : Nat → sy_d, (∀ j, j < 82 → True → F1 j = F j) → Q (some (.int ((0 : Int32)))) (sy_dh F1 X1 X2 (iv_H 2))) :
    hd_W Ls xs d jm_M22 Q (8, sy_dL F [some (.inl (.ref 38)), some (.inl (.ref 20)), none, some (.inr (.inl 82)), some (.inr (.inl 83)), some (.inr (.inl 84)), none], sy_dS F [], sy_dh F X1 X2 (iv_H 2), 0, 0) := by
  refine hd_ret (s := 2) (nv := 85) (v := some (.inl (.int 0))) (uh := hd_ov (iv_id 0 iv_B0) []) (f := true) (sp := [8]) (d0 := 1) (O := [false, false, true, false, false]) (T := [(0, [.inr (.inl 82), .inl (.int 1)], []), (30, [.inr (.inl 82)], [.inr (.inl 32)]), (0, [.inr (.inl 82), .inl (.int 1)], [])]) (P := [(5, .inl (.int 512), .inr (.inl 84)), (3, .inr (.inl 82), .inl (.int 0)), (2, .inr (.inl 85), .inl (.int 512)), (6, .inr (.inl 82), .inl (.ref 512)), (3, .inr (.inl 86), .inl (.int (-9))), (3, .inr (.inl 83), .inl (.int 32))]) jm_ok22 (by decide +kernel) (by decide +kernel) hd F X1 X2 (fun F' hF hs => ?_)
  have b84 := hd_b (F := F) (F' := F') (k := 84) (hF 84 (by decide))
  have b82 := hd_b (F := F) (F' := F') (k := 82) (hF 82 (by decide))
  have t85 : sy_dv F' (.inr (.inl 85)) = .int ((sy_i F 82) + ((1 : Int32))) := hd_o (hs 0 _ rfl) b82 rfl rfl
  have a32 := hd_ba (F := F) (F' := F') (k := 32) (hF 32 (by decide))
  have t86 : sy_dv F' (.inr (.inl 86)) = .int ((sy_ai F 32).getD (sy_i F 82).toNatClampNeg 0) := hd_rd (hs 1 _ rfl) b82 a32
  have b83 := hd_b (F := F) (F' := F') (k := 83) (hF 83 (by decide))
  have hB' : iv_in F' iv_B0 := iv_in_eq hB (fun j hj => hF j (Nat.lt_of_lt_of_le hj (by decide +kernel)))
  refine ⟨List.forall_mem_cons.mpr ⟨hd_p5 rfl b84 (by have hc : ((512) : Int32).toInt = 512 := (by decide); omega), List.forall_mem_cons.mpr ⟨hd_p3 b82 rfl (by have hc : ((0) : Int32).toInt = 0 := (by decide); omega), List.forall_mem_cons.mpr ⟨hd_p2 t85 rfl (by have hc : ((512) : Int32).toInt = 512 := (by decide); omega), List.forall_mem_cons.mpr ⟨hd_pb b82 (by first | exact h3 | exact h3), List.forall_mem_cons.mpr ⟨hd_p3 t86 rfl (by have hc : (((-9)) : Int32).toInt = (-9) := (by decide); omega), List.forall_mem_cons.mpr ⟨hd_p3 b83 rfl (by have hc : ((32) : Int32).toInt = 32 := (by decide); omega), fun _ h => absurd h List.not_mem_nil⟩⟩⟩⟩⟩⟩, ?_⟩
  refine k _ ?_
  · exact fun j hj _ => (hd_keep hB' (Nat.lt_of_lt_of_le hj (by decide +kernel)) (by simp)).trans (hF j (Nat.lt_of_lt_of_le hj (by decide)))
theorem j2wo_8_p17 {Ls : Nat} {xs : Nat → Int32} {d : Nat} {Q : Option Value → jm_h → Prop} (hd : 2 ≤ d) (F : Nat → sy_d) (X1 X2 : List jm_c) (hB : iv_in F iv_B0)
    (h0 : (sy_i F 84).toInt < 512)
    (h1 : 0 ≤ (sy_i F 82).toInt)
    (h2 : 512 ≤ ((sy_i F 82) + ((1 : Int32))).toInt)
    (k : ∀ F1 : Nat → sy_d, (∀ j, j < 82 → True → F1 j = F j) → Q (some (.int ((0 : Int32)))) (sy_dh F1 X1 X2 (iv_H 2))) :
    hd_W Ls xs d jm_M22 Q (8, sy_dL F [some (.inl (.ref 38)), some (.inl (.ref 20)), none, some (.inr (.inl 82)), some (.inr (.inl 83)), some (.inr (.inl 84)), none], sy_dS F [], sy_dh F X1 X2 (iv_H 2), 0, 0) := by
  refine hd_ret (s := 2) (nv := 85) (v := some (.inl (.int 0))) (uh := hd_ov (iv_id 0 iv_B0) []) (f := true) (sp := [8]) (d0 := 1) (O := [false, false, false]) (T := [(0, [.inr (.inl 82), .inl (.int 1)], [])]) (P := [(5, .inl (.int 512), .inr (.inl 84)), (3, .inr (.inl 82), .inl (.int 0)), (3, .inr (.inl 85), .inl (.int 512))]) jm_ok22 (by decide +kernel) (by decide +kernel) hd F X1 X2 (fun F' hF hs => ?_)
  have b84 := hd_b (F := F) (F' := F') (k := 84) (hF 84 (by decide))
  have b82 := hd_b (F := F) (F' := F') (k := 82) (hF 82 (by decide))
  have t85 : sy_dv F' (.inr (.inl 85)) = .int ((sy_i F 82) + ((1 : Int32))) := hd_o (hs 0 _ rfl) b82 rfl rfl
  have hB' : iv_in F' iv_B0 := iv_in_eq hB (fun j hj => hF j (Nat.lt_of_lt_of_le hj (by decide +kernel)))
  refine ⟨List.forall_mem_cons.mpr ⟨hd_p5 rfl b84 (by have hc : ((512) : Int32).toInt = 512 := (by decide); omega), List.forall_mem_cons.mpr ⟨hd_p3 b82 rfl (by have hc : ((0) : Int32).toInt = 0 := (by decide); omega), List.forall_mem_cons.mpr ⟨hd_p3 t85 rfl (by have hc : ((512) : Int32).toInt = 512 := (by decide); omega), fun _ h => absurd h List.not_mem_nil⟩⟩⟩, ?_⟩
  refine k _ ?_
  · exact fun j hj _ => (hd_keep hB' (Nat.lt_of_lt_of_le hj (by decide +kernel)) (by simp)).trans (hF j (Nat.lt_of_lt_of_le hj (by decide)))
theorem j2wo_8 {Ls : Nat} {xs : Nat → Int32} {d : Nat} {Q : Option Value → jm_h → Prop} (hd : 2 ≤ d) (F : Nat → sy_d) (X1 X2 : List jm_c) (hB : iv_in F iv_B0)
    (a82 : 0 ≤ (sy_i F 82).toInt ∧ (sy_i F 82).toInt ≤ 512)
    (a83 : 0 ≤ (sy_i F 83).toInt ∧ (sy_i F 83).toInt ≤ 32)
    (a84 : 0 ≤ (sy_i F 84).toInt ∧ (sy_i F 84).toInt ≤ 512)
    (k0 : 512 ≤ (sy_i F 84).toInt → ∀ F1 : Nat → sy_d, iv_in F1 iv_B0 → (∀ j, j < 82 → j ∉ ([] : List Nat) → F1 j = F j) → Q (some (.int ((0 : Int32)))) (sy_dh F1 X1 X2 (iv_H 2)))
    (k1 : (sy_i F 84).toInt < 512 → 0 ≤ (sy_i F 82).toInt → ((sy_i F 82).toInt + 1) < 512 → ((sy_ai F 32).getD ((sy_i F 82).toInt).toNat 0).toInt < (-9 : Int) → ((sy_ai F 32).getD ((sy_i F 82).toInt).toNat 0).toInt ≠ (-14 : Int) → 2 ≤ (sy_i F 83).toInt → ((sy_ai F 32).getD ((sy_i F 82).toInt).toNat 0).toInt ≠ (-15 : Int) → ((sy_ai F 32).getD ((sy_i F 82).toInt).toNat 0).toInt ≠ (-13 : Int) → ((sy_ai F 32).getD ((sy_i F 82).toInt).toNat 0).toInt < (-12 : Int) → ((sy_ai F 46).getD (((sy_i F 83).toInt + (-1 : Int))).toNat 0).toInt ≠ 0 → ∀ F1 : Nat → sy_d, iv_in F1 iv_B0 → (∀ j, j < 82 → j ∉ ([46] : List Nat) → F1 j = F j) → sy_ai F1 46 = jm_upd (sy_ai F 46) ((((sy_i F 83).toInt + (-1 : Int)) - 1)).toNat (((sy_ai F 46).getD ((((sy_i F 83).toInt + (-1 : Int)) - 1)).toNat 0) / ((sy_ai F 46).getD (((sy_i F 83).toInt + (-1 : Int))).toNat 0)) → (sy_i F1 82).toInt = ((sy_i F 82).toInt + 1) → sy_i F1 82 = (sy_i F 82) + ((1 : Int32)) → (sy_i F1 83).toInt = ((sy_i F 83).toInt + (-1 : Int)) → sy_i F1 83 = (sy_i F 83) + (((-1) : Int32)) → (sy_i F1 84).toInt = ((sy_i F 84).toInt + 1) → sy_i F1 84 = (sy_i F 84) + ((1 : Int32)) → hd_W Ls xs d jm_M22 Q (8, sy_dL F1 [some (.inl (.ref 38)), some (.inl (.ref 20)), none, some (.inr (.inl 82)), some (.inr (.inl 83)), some (.inr (.inl 84)), none], sy_dS F1 [], sy_dh F1 X1 X2 (iv_H 2), 0, 0))
    (k2 : (sy_i F 84).toInt < 512 → 0 ≤ (sy_i F 82).toInt → ((sy_i F 82).toInt + 1) < 512 → ((sy_ai F 32).getD ((sy_i F 82).toInt).toNat 0).toInt < (-9 : Int) → ((sy_ai F 32).getD ((sy_i F 82).toInt).toNat 0).toInt ≠ (-14 : Int) → 2 ≤ (sy_i F 83).toInt → ((sy_ai F 32).getD ((sy_i F 82).toInt).toNat 0).toInt ≠ (-15 : Int) → ((sy_ai F 32).getD ((sy_i F 82).toInt).toNat 0).toInt ≠ (-13 : Int) → ((sy_ai F 32).getD ((sy_i F 82).toInt).toNat 0).toInt < (-12 : Int) → ((sy_ai F 46).getD (((sy_i F 83).toInt + (-1 : Int))).toNat 0).toInt = 0 → ∀ F1 : Nat → sy_d, iv_in F1 iv_B0 → (∀ j, j < 82 → j ∉ ([46] : List Nat) → F1 j = F j) → sy_ai F1 46 = jm_upd (sy_ai F 46) ((((sy_i F 83).toInt + (-1 : Int)) - 1)).toNat ((0 : Int32)) → (sy_i F1 82).toInt = ((sy_i F 82).toInt + 1) → sy_i F1 82 = (sy_i F 82) + ((1 : Int32)) → (sy_i F1 83).toInt = ((sy_i F 83).toInt + (-1 : Int)) → sy_i F1 83 = (sy_i F 83) + (((-1) : Int32)) → (sy_i F1 84).toInt = ((sy_i F 84).toInt + 1) → sy_i F1 84 = (sy_i F 84) + ((1 : Int32)) → hd_W Ls xs d jm_M22 Q (8, sy_dL F1 [some (.inl (.ref 38)), some (.inl (.ref 20)), none, some (.inr (.inl 82)), some (.inr (.inl 83)), some (.inr (.inl 84)), none], sy_dS F1 [], sy_dh F1 X1 X2 (iv_H 2), 0, 0))
    (k3 : (sy_i F 84).toInt < 512 → 0 ≤ (sy_i F 82).toInt → ((sy_i F 82).toInt + 1) < 512 → ((sy_ai F 32).getD ((sy_i F 82).toInt).toNat 0).toInt < (-9 : Int) → ((sy_ai F 32).getD ((sy_i F 82).toInt).toNat 0).toInt ≠ (-14 : Int) → 2 ≤ (sy_i F 83).toInt → ((sy_ai F 32).getD ((sy_i F 82).toInt).toNat 0).toInt ≠ (-15 : Int) → ((sy_ai F 32).getD ((sy_i F 82).toInt).toNat 0).toInt ≠ (-13 : Int) → ((sy_ai F 32).getD ((sy_i F 82).toInt).toNat 0).toInt = (-12 : Int) → ∀ F1 : Nat → sy_d, iv_in F1 iv_B0 → (∀ j, j < 82 → j ∉ ([46] : List Nat) → F1 j = F j) → sy_ai F1 46 = jm_upd (sy_ai F 46) ((((sy_i F 83).toInt + (-1 : Int)) - 1)).toNat (((sy_ai F 46).getD ((((sy_i F 83).toInt + (-1 : Int)) - 1)).toNat 0) * ((sy_ai F 46).getD (((sy_i F 83).toInt + (-1 : Int))).toNat 0)) → (sy_i F1 82).toInt = ((sy_i F 82).toInt + 1) → sy_i F1 82 = (sy_i F 82) + ((1 : Int32)) → (sy_i F1 83).toInt = ((sy_i F 83).toInt + (-1 : Int)) → sy_i F1 83 = (sy_i F 83) + (((-1) : Int32)) → (sy_i F1 84).toInt = ((sy_i F 84).toInt + 1) → sy_i F1 84 = (sy_i F 84) + ((1 : Int32)) → hd_W Ls xs d jm_M22 Q (8, sy_dL F1 [some (.inl (.ref 38)), some (.inl (.ref 20)), none, some (.inr (.inl 82)), some (.inr (.inl 83)), some (.inr (.inl 84)), none], sy_dS F1 [], sy_dh F1 X1 X2 (iv_H 2), 0, 0))
    (k4 : (sy_i F 84).toInt < 512 → 0 ≤ (sy_i F 82).toInt → ((sy_i F 82).toInt + 1) < 512 → ((sy_ai F 32).getD ((sy_i F 82).toInt).toNat 0).toInt < (-9 : Int) → ((sy_ai F 32).getD ((sy_i F 82).toInt).toNat 0).toInt ≠ (-14 : Int) → 2 ≤ (sy_i F 83).toInt → ((sy_ai F 32).getD ((sy_i F 82).toInt).toNat 0).toInt ≠ (-15 : Int) → ((sy_ai F 32).getD ((sy_i F 82).toInt).toNat 0).toInt ≠ (-13 : Int) → ((sy_ai F 32).getD ((sy_i F 82).toInt).toNat 0).toInt = (-11 : Int) → ∀ F1 : Nat → sy_d, iv_in F1 iv_B0 → (∀ j, j < 82 → j ∉ ([46] : List Nat) → F1 j = F j) → sy_ai F1 46 = jm_upd (sy_ai F 46) ((((sy_i F 83).toInt + (-1 : Int)) - 1)).toNat (((sy_ai F 46).getD ((((sy_i F 83).toInt + (-1 : Int)) - 1)).toNat 0) - ((sy_ai F 46).getD (((sy_i F 83).toInt + (-1 : Int))).toNat 0)) → (sy_i F1 82).toInt = ((sy_i F 82).toInt + 1) → sy_i F1 82 = (sy_i F 82) + ((1 : Int32)) → (sy_i F1 83).toInt = ((sy_i F 83).toInt + (-1 : Int)) → sy_i F1 83 = (sy_i F 83) + (((-1) : Int32)) → (sy_i F1 84).toInt = ((sy_i F 84).toInt + 1) → sy_i F1 84 = (sy_i F 84) + ((1 : Int32)) → hd_W Ls xs d jm_M22 Q (8, sy_dL F1 [some (.inl (.ref 38)), some (.inl (.ref 20)), none, some (.inr (.inl 82)), some (.inr (.inl 83)), some (.inr (.inl 84)), none], sy_dS F1 [], sy_dh F1 X1 X2 (iv_H 2), 0, 0))
    (k5 : (sy_i F 84).toInt < 512 → 0 ≤ (sy_i F 82).toInt → ((sy_i F 82).toInt + 1) < 512 → ((sy_ai F 32).getD ((sy_i F 82).toInt).toNat 0).toInt < (-9 : Int) → ((sy_ai F 32).getD ((sy_i F 82).toInt).toNat 0).toInt ≠ (-14 : Int) → 2 ≤ (sy_i F 83).toInt → ((sy_ai F 32).getD ((sy_i F 82).toInt).toNat 0).toInt ≠ (-15 : Int) → ((sy_ai F 32).getD ((sy_i F 82).toInt).toNat 0).toInt ≠ (-13 : Int) → ((sy_ai F 32).getD ((sy_i F 82).toInt).toNat 0).toInt = (-10 : Int) → ∀ F1 : Nat → sy_d, iv_in F1 iv_B0 → (∀ j, j < 82 → j ∉ ([46] : List Nat) → F1 j = F j) → sy_ai F1 46 = jm_upd (sy_ai F 46) ((((sy_i F 83).toInt + (-1 : Int)) - 1)).toNat (((sy_ai F 46).getD ((((sy_i F 83).toInt + (-1 : Int)) - 1)).toNat 0) + ((sy_ai F 46).getD (((sy_i F 83).toInt + (-1 : Int))).toNat 0)) → (sy_i F1 82).toInt = ((sy_i F 82).toInt + 1) → sy_i F1 82 = (sy_i F 82) + ((1 : Int32)) → (sy_i F1 83).toInt = ((sy_i F 83).toInt + (-1 : Int)) → sy_i F1 83 = (sy_i F 83) + (((-1) : Int32)) → (sy_i F1 84).toInt = ((sy_i F 84).toInt + 1) → sy_i F1 84 = (sy_i F 84) + ((1 : Int32)) → hd_W Ls xs d jm_M22 Q (8, sy_dL F1 [some (.inl (.ref 38)), some (.inl (.ref 20)), none, some (.inr (.inl 82)), some (.inr (.inl 83)), some (.inr (.inl 84)), none], sy_dS F1 [], sy_dh F1 X1 X2 (iv_H 2), 0, 0))
    (k6 : (sy_i F 84).toInt < 512 → 0 ≤ (sy_i F 82).toInt → ((sy_i F 82).toInt + 1) < 512 → ((sy_ai F 32).getD ((sy_i F 82).toInt).toNat 0).toInt < (-9 : Int) → ((sy_ai F 32).getD ((sy_i F 82).toInt).toNat 0).toInt ≠ (-14 : Int) → 2 ≤ (sy_i F 83).toInt → ((sy_ai F 32).getD ((sy_i F 82).toInt).toNat 0).toInt ≠ (-15 : Int) → ((sy_ai F 32).getD ((sy_i F 82).toInt).toNat 0).toInt = (-13 : Int) → ((sy_ai F 46).getD (((sy_i F 83).toInt - 1)).toNat 0).toInt ≠ 0 → ((sy_ai F 32).getD ((sy_i F 82).toInt).toNat 0).toInt < (-12 : Int) → ((sy_ai F 46).getD (((sy_i F 83).toInt + (-1 : Int))).toNat 0).toInt ≠ 0 → ∀ F1 : Nat → sy_d, iv_in F1 iv_B0 → (∀ j, j < 82 → j ∉ ([46] : List Nat) → F1 j = F j) → sy_ai F1 46 = jm_upd (sy_ai F 46) ((((sy_i F 83).toInt + (-1 : Int)) - 1)).toNat (((sy_ai F 46).getD ((((sy_i F 83).toInt + (-1 : Int)) - 1)).toNat 0) / ((sy_ai F 46).getD (((sy_i F 83).toInt + (-1 : Int))).toNat 0)) → (sy_i F1 82).toInt = ((sy_i F 82).toInt + 1) → sy_i F1 82 = (sy_i F 82) + ((1 : Int32)) → (sy_i F1 83).toInt = ((sy_i F 83).toInt + (-1 : Int)) → sy_i F1 83 = (sy_i F 83) + (((-1) : Int32)) → (sy_i F1 84).toInt = ((sy_i F 84).toInt + 1) → sy_i F1 84 = (sy_i F 84) + ((1 : Int32)) → hd_W Ls xs d jm_M22 Q (8, sy_dL F1 [some (.inl (.ref 38)), some (.inl (.ref 20)), none, some (.inr (.inl 82)), some (.inr (.inl 83)), some (.inr (.inl 84)), none], sy_dS F1 [], sy_dh F1 X1 X2 (iv_H 2), 0, 0))
    (k7 : (sy_i F 84).toInt < 512 → 0 ≤ (sy_i F 82).toInt → ((sy_i F 82).toInt + 1) < 512 → ((sy_ai F 32).getD ((sy_i F 82).toInt).toNat 0).toInt < (-9 : Int) → ((sy_ai F 32).getD ((sy_i F 82).toInt).toNat 0).toInt ≠ (-14 : Int) → 2 ≤ (sy_i F 83).toInt → ((sy_ai F 32).getD ((sy_i F 82).toInt).toNat 0).toInt ≠ (-15 : Int) → ((sy_ai F 32).getD ((sy_i F 82).toInt).toNat 0).toInt = (-13 : Int) → ((sy_ai F 46).getD (((sy_i F 83).toInt - 1)).toNat 0).toInt ≠ 0 → ((sy_ai F 32).getD ((sy_i F 82).toInt).toNat 0).toInt < (-12 : Int) → ((sy_ai F 46).getD (((sy_i F 83).toInt + (-1 : Int))).toNat 0).toInt = 0 → ∀ F1 : Nat → sy_d, iv_in F1 iv_B0 → (∀ j, j < 82 → j ∉ ([46] : List Nat) → F1 j = F j) → sy_ai F1 46 = jm_upd (sy_ai F 46) ((((sy_i F 83).toInt + (-1 : Int)) - 1)).toNat ((0 : Int32)) → (sy_i F1 82).toInt = ((sy_i F 82).toInt + 1) → sy_i F1 82 = (sy_i F 82) + ((1 : Int32)) → (sy_i F1 83).toInt = ((sy_i F 83).toInt + (-1 : Int)) → sy_i F1 83 = (sy_i F 83) + (((-1) : Int32)) → (sy_i F1 84).toInt = ((sy_i F 84).toInt + 1) → sy_i F1 84 = (sy_i F 84) + ((1 : Int32)) → hd_W Ls xs d jm_M22 Q (8, sy_dL F1 [some (.inl (.ref 38)), some (.inl (.ref 20)), none, some (.inr (.inl 82)), some (.inr (.inl 83)), some (.inr (.inl 84)), none], sy_dS F1 [], sy_dh F1 X1 X2 (iv_H 2), 0, 0))
    (k8 : (sy_i F 84).toInt < 512 → 0 ≤ (sy_i F 82).toInt → ((sy_i F 82).toInt + 1) < 512 → ((sy_ai F 32).getD ((sy_i F 82).toInt).toNat 0).toInt < (-9 : Int) → ((sy_ai F 32).getD ((sy_i F 82).toInt).toNat 0).toInt ≠ (-14 : Int) → 2 ≤ (sy_i F 83).toInt → ((sy_ai F 32).getD ((sy_i F 82).toInt).toNat 0).toInt ≠ (-15 : Int) → ((sy_ai F 32).getD ((sy_i F 82).toInt).toNat 0).toInt = (-13 : Int) → ((sy_ai F 46).getD (((sy_i F 83).toInt - 1)).toNat 0).toInt = 0 → ∀ F1 : Nat → sy_d, iv_in F1 iv_B0 → (∀ j, j < 82 → j ∉ ([] : List Nat) → F1 j = F j) → Q (some (.int ((0 : Int32)))) (sy_dh F1 X1 X2 (iv_H 2)))
    (k9 : (sy_i F 84).toInt < 512 → 0 ≤ (sy_i F 82).toInt → ((sy_i F 82).toInt + 1) < 512 → ((sy_ai F 32).getD ((sy_i F 82).toInt).toNat 0).toInt < (-9 : Int) → ((sy_ai F 32).getD ((sy_i F 82).toInt).toNat 0).toInt ≠ (-14 : Int) → 2 ≤ (sy_i F 83).toInt → ((sy_ai F 32).getD ((sy_i F 82).toInt).toNat 0).toInt = (-15 : Int) → ((sy_ai F 46).getD ((((sy_i F 83).toInt + (-2 : Int)) + 1)).toNat 0).toInt ≤ ((sy_ai F 46).getD (((sy_i F 83).toInt + (-2 : Int))).toNat 0).toInt → ∀ F1 : Nat → sy_d, iv_in F1 iv_B0 → (∀ j, j < 82 → j ∉ ([] : List Nat) → F1 j = F j) → (sy_i F1 82).toInt = ((sy_ai F 32).getD (((sy_i F 82).toInt + 1)).toNat 0).toInt → sy_i F1 82 = (sy_ai F 32).getD (((sy_i F 82).toInt + 1)).toNat 0 → (sy_i F1 83).toInt = ((sy_i F 83).toInt + (-2 : Int)) → sy_i F1 83 = (sy_i F 83) + (((-2) : Int32)) → (sy_i F1 84).toInt = ((sy_i F 84).toInt + 1) → sy_i F1 84 = (sy_i F 84) + ((1 : Int32)) → hd_W Ls xs d jm_M22 Q (8, sy_dL F1 [some (.inl (.ref 38)), some (.inl (.ref 20)), none, some (.inr (.inl 82)), some (.inr (.inl 83)), some (.inr (.inl 84)), none], sy_dS F1 [], sy_dh F1 X1 X2 (iv_H 2), 0, 0))
    (k10 : (sy_i F 84).toInt < 512 → 0 ≤ (sy_i F 82).toInt → ((sy_i F 82).toInt + 1) < 512 → ((sy_ai F 32).getD ((sy_i F 82).toInt).toNat 0).toInt < (-9 : Int) → ((sy_ai F 32).getD ((sy_i F 82).toInt).toNat 0).toInt ≠ (-14 : Int) → 2 ≤ (sy_i F 83).toInt → ((sy_ai F 32).getD ((sy_i F 82).toInt).toNat 0).toInt = (-15 : Int) → ((sy_ai F 46).getD (((sy_i F 83).toInt + (-2 : Int))).toNat 0).toInt < ((sy_ai F 46).getD ((((sy_i F 83).toInt + (-2 : Int)) + 1)).toNat 0).toInt → ∀ F1 : Nat → sy_d, iv_in F1 iv_B0 → (∀ j, j < 82 → j ∉ ([] : List Nat) → F1 j = F j) → (sy_i F1 82).toInt = (((sy_i F 82).toInt + 1) + 1) → sy_i F1 82 = ((sy_i F 82) + ((1 : Int32))) + ((1 : Int32)) → (sy_i F1 83).toInt = ((sy_i F 83).toInt + (-2 : Int)) → sy_i F1 83 = (sy_i F 83) + (((-2) : Int32)) → (sy_i F1 84).toInt = ((sy_i F 84).toInt + 1) → sy_i F1 84 = (sy_i F 84) + ((1 : Int32)) → hd_W Ls xs d jm_M22 Q (8, sy_dL F1 [some (.inl (.ref 38)), some (.inl (.ref 20)), none, some (.inr (.inl 82)), some (.inr (.inl 83)), some (.inr (.inl 84)), none], sy_dS F1 [], sy_dh F1 X1 X2 (iv_H 2), 0, 0))
    (k11 : (sy_i F 84).toInt < 512 → 0 ≤ (sy_i F 82).toInt → ((sy_i F 82).toInt + 1) < 512 → ((sy_ai F 32).getD ((sy_i F 82).toInt).toNat 0).toInt < (-9 : Int) → ((sy_ai F 32).getD ((sy_i F 82).toInt).toNat 0).toInt ≠ (-14 : Int) → (sy_i F 83).toInt < 2 → ∀ F1 : Nat → sy_d, iv_in F1 iv_B0 → (∀ j, j < 82 → j ∉ ([] : List Nat) → F1 j = F j) → Q (some (.int ((0 : Int32)))) (sy_dh F1 X1 X2 (iv_H 2)))
    (k12 : (sy_i F 84).toInt < 512 → 0 ≤ (sy_i F 82).toInt → ((sy_i F 82).toInt + 1) < 512 → ((sy_ai F 32).getD ((sy_i F 82).toInt).toNat 0).toInt < (-9 : Int) → ((sy_ai F 32).getD ((sy_i F 82).toInt).toNat 0).toInt = (-14 : Int) → (sy_i F 83).toInt < 1 → ∀ F1 : Nat → sy_d, iv_in F1 iv_B0 → (∀ j, j < 82 → j ∉ ([] : List Nat) → F1 j = F j) → Q (some (.int ((0 : Int32)))) (sy_dh F1 X1 X2 (iv_H 2)))
    (k13 : (sy_i F 84).toInt < 512 → 0 ≤ (sy_i F 82).toInt → ((sy_i F 82).toInt + 1) < 512 → ((sy_ai F 32).getD ((sy_i F 82).toInt).toNat 0).toInt < (-9 : Int) → ((sy_ai F 32).getD ((sy_i F 82).toInt).toNat 0).toInt = (-14 : Int) → 1 ≤ (sy_i F 83).toInt → ∀ F1 : Nat → sy_d, iv_in F1 iv_B0 → (∀ j, j < 82 → j ∉ ([] : List Nat) → F1 j = F j) → Q (some (.int ((sy_ai F 46).getD (((sy_i F 83).toInt - 1)).toNat 0))) (sy_dh F1 X1 X2 (iv_H 2)))
    (k14 : (sy_i F 84).toInt < 512 → 0 ≤ (sy_i F 82).toInt → ((sy_i F 82).toInt + 1) < 512 → (-9 : Int) ≤ ((sy_ai F 32).getD ((sy_i F 82).toInt).toNat 0).toInt → (sy_i F 83).toInt < 32 → ((sy_ai F 32).getD ((sy_i F 82).toInt).toNat 0).toInt < 0 → ∀ F1 : Nat → sy_d, iv_in F1 iv_B0 → (∀ j, j < 82 → j ∉ ([46] : List Nat) → F1 j = F j) → sy_ai F1 46 = jm_upd (sy_ai F 46) ((sy_i F 83).toInt).toNat ((sy_ai F 45).getD (((-1 : Int) - ((sy_ai F 32).getD ((sy_i F 82).toInt).toNat 0).toInt)).toNat 0) → (sy_i F1 82).toInt = ((sy_i F 82).toInt + 1) → sy_i F1 82 = (sy_i F 82) + ((1 : Int32)) → (sy_i F1 83).toInt = ((sy_i F 83).toInt + 1) → sy_i F1 83 = (sy_i F 83) + ((1 : Int32)) → (sy_i F1 84).toInt = ((sy_i F 84).toInt + 1) → sy_i F1 84 = (sy_i F 84) + ((1 : Int32)) → hd_W Ls xs d jm_M22 Q (8, sy_dL F1 [some (.inl (.ref 38)), some (.inl (.ref 20)), none, some (.inr (.inl 82)), some (.inr (.inl 83)), some (.inr (.inl 84)), none], sy_dS F1 [], sy_dh F1 X1 X2 (iv_H 2), 0, 0))
    (k15 : (sy_i F 84).toInt < 512 → 0 ≤ (sy_i F 82).toInt → ((sy_i F 82).toInt + 1) < 512 → (-9 : Int) ≤ ((sy_ai F 32).getD ((sy_i F 82).toInt).toNat 0).toInt → (sy_i F 83).toInt < 32 → 0 ≤ ((sy_ai F 32).getD ((sy_i F 82).toInt).toNat 0).toInt → ∀ F1 : Nat → sy_d, iv_in F1 iv_B0 → (∀ j, j < 82 → j ∉ ([46] : List Nat) → F1 j = F j) → sy_ai F1 46 = jm_upd (sy_ai F 46) ((sy_i F 83).toInt).toNat ((sy_ai F 32).getD ((sy_i F 82).toInt).toNat 0) → (sy_i F1 82).toInt = ((sy_i F 82).toInt + 1) → sy_i F1 82 = (sy_i F 82) + ((1 : Int32)) → (sy_i F1 83).toInt = ((sy_i F 83).toInt + 1) → sy_i F1 83 = (sy_i F 83) + ((1 : Int32)) → (sy_i F1 84).toInt = ((sy_i F 84).toInt + 1) → sy_i F1 84 = (sy_i F 84) + ((1 : Int32)) → hd_W Ls xs d jm_M22 Q (8, sy_dL F1 [some (.inl (.ref 38)), some (.inl (.ref 20)), none, some (.inr (.inl 82)), some (.inr (.inl 83)), some (.inr (.inl 84)), none], sy_dS F1 [], sy_dh F1 X1 X2 (iv_H 2), 0, 0))
    (k16 : (sy_i F 84).toInt < 512 → 0 ≤ (sy_i F 82).toInt → ((sy_i F 82).toInt + 1) < 512 → (-9 : Int) ≤ ((sy_ai F 32).getD ((sy_i F 82).toInt).toNat 0).toInt → 32 ≤ (sy_i F 83).toInt → ∀ F1 : Nat → sy_d, iv_in F1 iv_B0 → (∀ j, j < 82 → j ∉ ([] : List Nat) → F1 j = F j) → Q (some (.int ((0 : Int32)))) (sy_dh F1 X1 X2 (iv_H 2)))
    (k17 : (sy_i F 84).toInt < 512 → 0 ≤ (sy_i F 82).toInt → 512 ≤ ((sy_i F 82).toInt + 1) → ∀ F1 : Nat → sy_d, iv_in F1 iv_B0 → (∀ j, j < 82 → j ∉ ([] : List Nat) → F1 j = F j) → Q (some (.int ((0 : Int32)))) (sy_dh F1 X1 X2 (iv_H 2))) :
    hd_W Ls xs d jm_M22 Q (8, sy_dL F [some (.inl (.ref 38)), some (.inl (.ref 20)), none, some (.inr (.inl 82)), some (.inr (.inl 83)), some (.inr (.inl 84)), none], sy_dS F [], sy_dh F X1 X2 (iv_H 2), 0, 0) := by
  by_cases g0 : 512 ≤ (sy_i F 84).toInt
  · exact j2wo_8_p0 hd F X1 X2 hB (by first | exact g0 | (simp only [nz_c]; exact g0)) (fun F1 g  => k0 g0 F1 (nz_in0 hB [] (fun j hj hn => g j hj (by simp only [List.mem_cons, List.not_mem_nil, or_false, not_or] at hn; exact trivial)) (List.forall_mem_nil _)) (fun j hj hn => g j hj (by simp only [List.mem_cons, List.not_mem_nil, or_false, not_or] at hn; exact trivial)) )
  replace g0 : (sy_i F 84).toInt < 512 := by omega
  by_cases g1 : (sy_i F 82).toInt < 0
  · exfalso
    omega
  replace g1 : 0 ≤ (sy_i F 82).toInt := by omega
  by_cases g2 : ((sy_i F 82).toInt + 1) < 512
  · by_cases g3 : ((sy_ai F 32).getD ((sy_i F 82).toInt).toNat 0).toInt < (-9 : Int)
    · by_cases g4 : ((sy_ai F 32).getD ((sy_i F 82).toInt).toNat 0).toInt ≠ (-14 : Int)
      · by_cases g5 : 2 ≤ (sy_i F 83).toInt
        · by_cases g6 : ((sy_ai F 32).getD ((sy_i F 82).toInt).toNat 0).toInt ≠ (-15 : Int)
          · by_cases g7 : ((sy_ai F 32).getD ((sy_i F 82).toInt).toNat 0).toInt ≠ (-13 : Int)
            · by_cases g8 : ((sy_ai F 32).getD ((sy_i F 82).toInt).toNat 0).toInt < (-12 : Int)
              · by_cases g9 : ((sy_ai F 46).getD (((sy_i F 83).toInt + (-1 : Int))).toNat 0).toInt ≠ 0
                · have n85 : nzI ((sy_i F 82) + ((1 : Int32))) (((sy_i F 82).toInt + 1)) := nz_add (rfl : (sy_i F 82).toInt = (sy_i F 82).toInt) (by decide : ((1 : Int32)).toInt = 1) (by omega) (by omega)
                  have q86 : (sy_ai F 32).getD (sy_i F 82).toNatClampNeg 0 = (sy_ai F 32).getD ((sy_i F 82).toInt).toNat 0 := by simp only [nz_c]
                  have n86 : nzI ((sy_ai F 32).getD (sy_i F 82).toNatClampNeg 0) (((sy_ai F 32).getD ((sy_i F 82).toInt).toNat 0).toInt) := congrArg Int32.toInt q86
                  have r86 := nz_ba hB (k := 32) (lo := (-2147483648)) (hi := 2147483646) rfl ((sy_i F 82).toInt).toNat
                  have n88 : nzI ((sy_i F 83) + (((-1) : Int32))) (((sy_i F 83).toInt + (-1 : Int))) := nz_add (rfl : (sy_i F 83).toInt = (sy_i F 83).toInt) (by decide : (((-1) : Int32)).toInt = (-1 : Int)) (by omega) (by omega)
                  have n90 : nzI (((sy_i F 83) + (((-1) : Int32))) - ((1 : Int32))) ((((sy_i F 83).toInt + (-1 : Int)) - 1)) := nz_sub (nzE n88) (by decide : ((1 : Int32)).toInt = 1) (by omega) (by omega)
                  have q92 : (sy_ai F 46).getD ((sy_i F 83) + (((-1) : Int32))).toNatClampNeg 0 = (sy_ai F 46).getD (((sy_i F 83).toInt + (-1 : Int))).toNat 0 := by simp only [nz_c, (nzE n88), (by decide : (((-1) : Int32)).toInt = (-1 : Int))]
                  have n92 : nzI ((sy_ai F 46).getD ((sy_i F 83) + (((-1) : Int32))).toNatClampNeg 0) (((sy_ai F 46).getD (((sy_i F 83).toInt + (-1 : Int))).toNat 0).toInt) := congrArg Int32.toInt q92
                  have n89 : nzI (((sy_i F 83) + (((-1) : Int32))) - ((1 : Int32))) ((((sy_i F 83).toInt + (-1 : Int)) - 1)) := nz_sub (nzE n88) (by decide : ((1 : Int32)).toInt = 1) (by omega) (by omega)
                  have w94 : jm_upd (sy_ai F 46) (((sy_i F 83) + (((-1) : Int32))) - ((1 : Int32))).toNatClampNeg (((sy_ai F 46).getD (((sy_i F 83) + (((-1) : Int32))) - ((1 : Int32))).toNatClampNeg 0) / ((sy_ai F 46).getD ((sy_i F 83) + (((-1) : Int32))).toNatClampNeg 0)) = jm_upd (sy_ai F 46) ((((sy_i F 83).toInt + (-1 : Int)) - 1)).toNat (((sy_ai F 46).getD ((((sy_i F 83).toInt + (-1 : Int)) - 1)).toNat 0) / ((sy_ai F 46).getD (((sy_i F 83).toInt + (-1 : Int))).toNat 0)) := by simp only [nz_c, (nzE n88), (nzE n89), (nzE n90), (by decide : (((-1) : Int32)).toInt = (-1 : Int)), (by decide : ((1 : Int32)).toInt = 1)]
                  have n87 : nzI ((sy_i F 82) + ((1 : Int32))) (((sy_i F 82).toInt + 1)) := nz_add (rfl : (sy_i F 82).toInt = (sy_i F 82).toInt) (by decide : ((1 : Int32)).toInt = 1) (by omega) (by omega)
                  have n95 : nzI ((sy_i F 84) + ((1 : Int32))) (((sy_i F 84).toInt + 1)) := nz_add (rfl : (sy_i F 84).toInt = (sy_i F 84).toInt) (by decide : ((1 : Int32)).toInt = 1) (by omega) (by omega)
                  exact j2wo_8_p1 hd F X1 X2 hB (by first | exact g0 | (simp only [nz_c]; exact g0)) (by first | exact g1 | (simp only [nz_c]; exact g1)) (by first | (simp only [nz_c, (nzE n85)]; exact g2) | exact g2 | (rw [(nzE n85)]; exact g2)) (by first | exact ⟨by omega, by omega⟩ | (simp only [nz_c]; exact ⟨by omega, by omega⟩)) (by first | exact g3 | (simp only [nz_c]; exact g3) | (rw [(nzE n86)]; exact g3)) (by first | exact g4 | (simp only [nz_c]; exact g4) | (rw [(nzE n86)]; exact g4)) (by first | exact g5 | (simp only [nz_c]; exact g5)) (by first | exact g6 | (simp only [nz_c]; exact g6) | (rw [(nzE n86)]; exact g6)) (by first | exact g7 | (simp only [nz_c]; exact g7) | (rw [(nzE n86)]; exact g7)) (by first | (simp only [nz_c, (nzE n88), (nzE n90)]; exact ⟨by omega, by omega⟩) | exact ⟨by omega, by omega⟩ | (rw [(nzE n90)]; exact ⟨by omega, by omega⟩)) (by first | (simp only [nz_c, (nzE n88)]; exact ⟨by omega, by omega⟩) | exact ⟨by omega, by omega⟩ | (rw [(nzE n88)]; exact ⟨by omega, by omega⟩)) (by first | exact g8 | (simp only [nz_c]; exact g8) | (rw [(nzE n86)]; exact g8)) (by first | (simp only [nz_c, (nzE n88)]; exact g9) | exact g9 | (rw [(nzE n92)]; exact g9)) (by first | (simp only [nz_c, (nzE n88)]; exact g9) | exact g9 | (rw [(nzE n92)]; exact g9)) (by first | (simp only [nz_c, (nzE n88), (nzE n89)]; exact ⟨by omega, by omega⟩) | exact ⟨by omega, by omega⟩ | (rw [(nzE n89)]; exact ⟨by omega, by omega⟩)) (fun F1 g e46 e82 e83 e84 => k1 g0 g1 g2 g3 g4 g5 g6 g7 g8 g9 F1 (nz_in0 hB [46] (fun j hj hn => g j hj (by simp only [List.mem_cons, List.not_mem_nil, or_false, not_or] at hn; omega)) (List.forall_mem_cons.mpr ⟨fun t ht => (Option.some.inj ht) ▸ (nz_hz2 e46), List.forall_mem_nil _⟩)) (fun j hj hn => g j hj (by simp only [List.mem_cons, List.not_mem_nil, or_false, not_or] at hn; omega)) ((zz_ai e46).trans w94) ((congrArg Int32.toInt (zz_i e82)).trans (nzE n87)) ((zz_i e82).trans (rfl : (sy_i F 82) + ((1 : Int32)) = (sy_i F 82) + ((1 : Int32)))) ((congrArg Int32.toInt (zz_i e83)).trans (nzE n88)) ((zz_i e83).trans (rfl : (sy_i F 83) + (((-1) : Int32)) = (sy_i F 83) + (((-1) : Int32)))) ((congrArg Int32.toInt (zz_i e84)).trans (nzE n95)) ((zz_i e84).trans (rfl : (sy_i F 84) + ((1 : Int32)) = (sy_i F 84) + ((1 : Int32)))))
                replace g9 : ((sy_ai F 46).getD (((sy_i F 83).toInt + (-1 : Int))).toNat 0).toInt = 0 := by omega
                have n85 : nzI ((sy_i F 82) + ((1 : Int32))) (((sy_i F 82).toInt + 1)) := nz_add (rfl : (sy_i F 82).toInt = (sy_i F 82).toInt) (by decide : ((1 : Int32)).toInt = 1) (by omega) (by omega)
                have q86 : (sy_ai F 32).getD (sy_i F 82).toNatClampNeg 0 = (sy_ai F 32).getD ((sy_i F 82).toInt).toNat 0 := by simp only [nz_c]
                have n86 : nzI ((sy_ai F 32).getD (sy_i F 82).toNatClampNeg 0) (((sy_ai F 32).getD ((sy_i F 82).toInt).toNat 0).toInt) := congrArg Int32.toInt q86
                have r86 := nz_ba hB (k := 32) (lo := (-2147483648)) (hi := 2147483646) rfl ((sy_i F 82).toInt).toNat
                have n88 : nzI ((sy_i F 83) + (((-1) : Int32))) (((sy_i F 83).toInt + (-1 : Int))) := nz_add (rfl : (sy_i F 83).toInt = (sy_i F 83).toInt) (by decide : (((-1) : Int32)).toInt = (-1 : Int)) (by omega) (by omega)
                have n90 : nzI (((sy_i F 83) + (((-1) : Int32))) - ((1 : Int32))) ((((sy_i F 83).toInt + (-1 : Int)) - 1)) := nz_sub (nzE n88) (by decide : ((1 : Int32)).toInt = 1) (by omega) (by omega)
                have q92 : (sy_ai F 46).getD ((sy_i F 83) + (((-1) : Int32))).toNatClampNeg 0 = (sy_ai F 46).getD (((sy_i F 83).toInt + (-1 : Int))).toNat 0 := by simp only [nz_c, (nzE n88), (by decide : (((-1) : Int32)).toInt = (-1 : Int))]
                have n92 : nzI ((sy_ai F 46).getD ((sy_i F 83) + (((-1) : Int32))).toNatClampNeg 0) (((sy_ai F 46).getD (((sy_i F 83).toInt + (-1 : Int))).toNat 0).toInt) := congrArg Int32.toInt q92
                have n89 : nzI (((sy_i F 83) + (((-1) : Int32))) - ((1 : Int32))) ((((sy_i F 83).toInt + (-1 : Int)) - 1)) := nz_sub (nzE n88) (by decide : ((1 : Int32)).toInt = 1) (by omega) (by omega)
                have w93 : jm_upd (sy_ai F 46) (((sy_i F 83) + (((-1) : Int32))) - ((1 : Int32))).toNatClampNeg ((0 : Int32)) = jm_upd (sy_ai F 46) ((((sy_i F 83).toInt + (-1 : Int)) - 1)).toNat ((0 : Int32)) := by simp only [nz_c, (nzE n88), (nzE n89), (by decide : (((-1) : Int32)).toInt = (-1 : Int)), (by decide : ((0 : Int32)).toInt = 0), (by decide : ((1 : Int32)).toInt = 1)]
                have n87 : nzI ((sy_i F 82) + ((1 : Int32))) (((sy_i F 82).toInt + 1)) := nz_add (rfl : (sy_i F 82).toInt = (sy_i F 82).toInt) (by decide : ((1 : Int32)).toInt = 1) (by omega) (by omega)
                have n94 : nzI ((sy_i F 84) + ((1 : Int32))) (((sy_i F 84).toInt + 1)) := nz_add (rfl : (sy_i F 84).toInt = (sy_i F 84).toInt) (by decide : ((1 : Int32)).toInt = 1) (by omega) (by omega)
                exact j2wo_8_p2 hd F X1 X2 hB (by first | exact g0 | (simp only [nz_c]; exact g0)) (by first | exact g1 | (simp only [nz_c]; exact g1)) (by first | (simp only [nz_c, (nzE n85)]; exact g2) | exact g2 | (rw [(nzE n85)]; exact g2)) (by first | exact ⟨by omega, by omega⟩ | (simp only [nz_c]; exact ⟨by omega, by omega⟩)) (by first | exact g3 | (simp only [nz_c]; exact g3) | (rw [(nzE n86)]; exact g3)) (by first | exact g4 | (simp only [nz_c]; exact g4) | (rw [(nzE n86)]; exact g4)) (by first | exact g5 | (simp only [nz_c]; exact g5)) (by first | exact g6 | (simp only [nz_c]; exact g6) | (rw [(nzE n86)]; exact g6)) (by first | exact g7 | (simp only [nz_c]; exact g7) | (rw [(nzE n86)]; exact g7)) (by first | (simp only [nz_c, (nzE n88), (nzE n90)]; exact ⟨by omega, by omega⟩) | exact ⟨by omega, by omega⟩ | (rw [(nzE n90)]; exact ⟨by omega, by omega⟩)) (by first | (simp only [nz_c, (nzE n88)]; exact ⟨by omega, by omega⟩) | exact ⟨by omega, by omega⟩ | (rw [(nzE n88)]; exact ⟨by omega, by omega⟩)) (by first | exact g8 | (simp only [nz_c]; exact g8) | (rw [(nzE n86)]; exact g8)) (by first | (simp only [nz_c, (nzE n88)]; exact g9) | exact g9 | (rw [(nzE n92)]; exact g9)) (by first | (simp only [nz_c, (nzE n88), (nzE n89)]; exact ⟨by omega, by omega⟩) | exact ⟨by omega, by omega⟩ | (rw [(nzE n89)]; exact ⟨by omega, by omega⟩)) (fun F1 g e46 e82 e83 e84 => k2 g0 g1 g2 g3 g4 g5 g6 g7 g8 g9 F1 (nz_in0 hB [46] (fun j hj hn => g j hj (by simp only [List.mem_cons, List.not_mem_nil, or_false, not_or] at hn; omega)) (List.forall_mem_cons.mpr ⟨fun t ht => (Option.some.inj ht) ▸ (nz_hz2 e46), List.forall_mem_nil _⟩)) (fun j hj hn => g j hj (by simp only [List.mem_cons, List.not_mem_nil, or_false, not_or] at hn; omega)) ((zz_ai e46).trans w93) ((congrArg Int32.toInt (zz_i e82)).trans (nzE n87)) ((zz_i e82).trans (rfl : (sy_i F 82) + ((1 : Int32)) = (sy_i F 82) + ((1 : Int32)))) ((congrArg Int32.toInt (zz_i e83)).trans (nzE n88)) ((zz_i e83).trans (rfl : (sy_i F 83) + (((-1) : Int32)) = (sy_i F 83) + (((-1) : Int32)))) ((congrArg Int32.toInt (zz_i e84)).trans (nzE n94)) ((zz_i e84).trans (rfl : (sy_i F 84) + ((1 : Int32)) = (sy_i F 84) + ((1 : Int32)))))
              have y8_0 := g8
              clear g8
              by_cases g8 : (-10 : Int) < ((sy_ai F 32).getD ((sy_i F 82).toInt).toNat 0).toInt
              · have n85 : nzI ((sy_i F 82) + ((1 : Int32))) (((sy_i F 82).toInt + 1)) := nz_add (rfl : (sy_i F 82).toInt = (sy_i F 82).toInt) (by decide : ((1 : Int32)).toInt = 1) (by omega) (by omega)
                have q86 : (sy_ai F 32).getD (sy_i F 82).toNatClampNeg 0 = (sy_ai F 32).getD ((sy_i F 82).toInt).toNat 0 := by simp only [nz_c]
                have n86 : nzI ((sy_ai F 32).getD (sy_i F 82).toNatClampNeg 0) (((sy_ai F 32).getD ((sy_i F 82).toInt).toNat 0).toInt) := congrArg Int32.toInt q86
                have r86 := nz_ba hB (k := 32) (lo := (-2147483648)) (hi := 2147483646) rfl ((sy_i F 82).toInt).toNat
                have n88 : nzI ((sy_i F 83) + (((-1) : Int32))) (((sy_i F 83).toInt + (-1 : Int))) := nz_add (rfl : (sy_i F 83).toInt = (sy_i F 83).toInt) (by decide : (((-1) : Int32)).toInt = (-1 : Int)) (by omega) (by omega)
                have n90 : nzI (((sy_i F 83) + (((-1) : Int32))) - ((1 : Int32))) ((((sy_i F 83).toInt + (-1 : Int)) - 1)) := nz_sub (nzE n88) (by decide : ((1 : Int32)).toInt = 1) (by omega) (by omega)
                exfalso
                omega
              have y8_1 := g8
              clear g8
              by_cases g8 : ((sy_ai F 32).getD ((sy_i F 82).toInt).toNat 0).toInt = (-12 : Int)
              · have n85 : nzI ((sy_i F 82) + ((1 : Int32))) (((sy_i F 82).toInt + 1)) := nz_add (rfl : (sy_i F 82).toInt = (sy_i F 82).toInt) (by decide : ((1 : Int32)).toInt = 1) (by omega) (by omega)
                have q86 : (sy_ai F 32).getD (sy_i F 82).toNatClampNeg 0 = (sy_ai F 32).getD ((sy_i F 82).toInt).toNat 0 := by simp only [nz_c]
                have n86 : nzI ((sy_ai F 32).getD (sy_i F 82).toNatClampNeg 0) (((sy_ai F 32).getD ((sy_i F 82).toInt).toNat 0).toInt) := congrArg Int32.toInt q86
                have r86 := nz_ba hB (k := 32) (lo := (-2147483648)) (hi := 2147483646) rfl ((sy_i F 82).toInt).toNat
                have n88 : nzI ((sy_i F 83) + (((-1) : Int32))) (((sy_i F 83).toInt + (-1 : Int))) := nz_add (rfl : (sy_i F 83).toInt = (sy_i F 83).toInt) (by decide : (((-1) : Int32)).toInt = (-1 : Int)) (by omega) (by omega)
                have n90 : nzI (((sy_i F 83) + (((-1) : Int32))) - ((1 : Int32))) ((((sy_i F 83).toInt + (-1 : Int)) - 1)) := nz_sub (nzE n88) (by decide : ((1 : Int32)).toInt = 1) (by omega) (by omega)
                have n89 : nzI (((sy_i F 83) + (((-1) : Int32))) - ((1 : Int32))) ((((sy_i F 83).toInt + (-1 : Int)) - 1)) := nz_sub (nzE n88) (by decide : ((1 : Int32)).toInt = 1) (by omega) (by omega)
                have w94 : jm_upd (sy_ai F 46) (((sy_i F 83) + (((-1) : Int32))) - ((1 : Int32))).toNatClampNeg (((sy_ai F 46).getD (((sy_i F 83) + (((-1) : Int32))) - ((1 : Int32))).toNatClampNeg 0) * ((sy_ai F 46).getD ((sy_i F 83) + (((-1) : Int32))).toNatClampNeg 0)) = jm_upd (sy_ai F 46) ((((sy_i F 83).toInt + (-1 : Int)) - 1)).toNat (((sy_ai F 46).getD ((((sy_i F 83).toInt + (-1 : Int)) - 1)).toNat 0) * ((sy_ai F 46).getD (((sy_i F 83).toInt + (-1 : Int))).toNat 0)) := by simp only [nz_c, (nzE n88), (nzE n89), (nzE n90), (by decide : (((-1) : Int32)).toInt = (-1 : Int)), (by decide : ((1 : Int32)).toInt = 1)]
                have n87 : nzI ((sy_i F 82) + ((1 : Int32))) (((sy_i F 82).toInt + 1)) := nz_add (rfl : (sy_i F 82).toInt = (sy_i F 82).toInt) (by decide : ((1 : Int32)).toInt = 1) (by omega) (by omega)
                have n95 : nzI ((sy_i F 84) + ((1 : Int32))) (((sy_i F 84).toInt + 1)) := nz_add (rfl : (sy_i F 84).toInt = (sy_i F 84).toInt) (by decide : ((1 : Int32)).toInt = 1) (by omega) (by omega)
                exact j2wo_8_p3 hd F X1 X2 hB (by first | exact g0 | (simp only [nz_c]; exact g0)) (by first | exact g1 | (simp only [nz_c]; exact g1)) (by first | (simp only [nz_c, (nzE n85)]; exact g2) | exact g2 | (rw [(nzE n85)]; exact g2)) (by first | exact ⟨by omega, by omega⟩ | (simp only [nz_c]; exact ⟨by omega, by omega⟩)) (by first | exact g3 | (simp only [nz_c]; exact g3) | (rw [(nzE n86)]; exact g3)) (by first | exact g4 | (simp only [nz_c]; exact g4) | (rw [(nzE n86)]; exact g4)) (by first | exact g5 | (simp only [nz_c]; exact g5)) (by first | exact g6 | (simp only [nz_c]; exact g6) | (rw [(nzE n86)]; exact g6)) (by first | exact g7 | (simp only [nz_c]; exact g7) | (rw [(nzE n86)]; exact g7)) (by first | (simp only [nz_c, (nzE n88), (nzE n90)]; exact ⟨by omega, by omega⟩) | exact ⟨by omega, by omega⟩ | (rw [(nzE n90)]; exact ⟨by omega, by omega⟩)) (by first | (simp only [nz_c, (nzE n88)]; exact ⟨by omega, by omega⟩) | exact ⟨by omega, by omega⟩ | (rw [(nzE n88)]; exact ⟨by omega, by omega⟩)) (by first | exact g8 | (simp only [nz_c]; exact g8) | (rw [(nzE n86)]; exact g8)) (by first | (simp only [nz_c, (nzE n88), (nzE n89)]; exact ⟨by omega, by omega⟩) | exact ⟨by omega, by omega⟩ | (rw [(nzE n89)]; exact ⟨by omega, by omega⟩)) (fun F1 g e46 e82 e83 e84 => k3 g0 g1 g2 g3 g4 g5 g6 g7 g8 F1 (nz_in0 hB [46] (fun j hj hn => g j hj (by simp only [List.mem_cons, List.not_mem_nil, or_false, not_or] at hn; omega)) (List.forall_mem_cons.mpr ⟨fun t ht => (Option.some.inj ht) ▸ (nz_hz2 e46), List.forall_mem_nil _⟩)) (fun j hj hn => g j hj (by simp only [List.mem_cons, List.not_mem_nil, or_false, not_or] at hn; omega)) ((zz_ai e46).trans w94) ((congrArg Int32.toInt (zz_i e82)).trans (nzE n87)) ((zz_i e82).trans (rfl : (sy_i F 82) + ((1 : Int32)) = (sy_i F 82) + ((1 : Int32)))) ((congrArg Int32.toInt (zz_i e83)).trans (nzE n88)) ((zz_i e83).trans (rfl : (sy_i F 83) + (((-1) : Int32)) = (sy_i F 83) + (((-1) : Int32)))) ((congrArg Int32.toInt (zz_i e84)).trans (nzE n95)) ((zz_i e84).trans (rfl : (sy_i F 84) + ((1 : Int32)) = (sy_i F 84) + ((1 : Int32)))))
              have y8_2 := g8
              clear g8
              by_cases g8 : ((sy_ai F 32).getD ((sy_i F 82).toInt).toNat 0).toInt = (-11 : Int)
              · have n85 : nzI ((sy_i F 82) + ((1 : Int32))) (((sy_i F 82).toInt + 1)) := nz_add (rfl : (sy_i F 82).toInt = (sy_i F 82).toInt) (by decide : ((1 : Int32)).toInt = 1) (by omega) (by omega)
                have q86 : (sy_ai F 32).getD (sy_i F 82).toNatClampNeg 0 = (sy_ai F 32).getD ((sy_i F 82).toInt).toNat 0 := by simp only [nz_c]
                have n86 : nzI ((sy_ai F 32).getD (sy_i F 82).toNatClampNeg 0) (((sy_ai F 32).getD ((sy_i F 82).toInt).toNat 0).toInt) := congrArg Int32.toInt q86
                have r86 := nz_ba hB (k := 32) (lo := (-2147483648)) (hi := 2147483646) rfl ((sy_i F 82).toInt).toNat
                have n88 : nzI ((sy_i F 83) + (((-1) : Int32))) (((sy_i F 83).toInt + (-1 : Int))) := nz_add (rfl : (sy_i F 83).toInt = (sy_i F 83).toInt) (by decide : (((-1) : Int32)).toInt = (-1 : Int)) (by omega) (by omega)
                have n90 : nzI (((sy_i F 83) + (((-1) : Int32))) - ((1 : Int32))) ((((sy_i F 83).toInt + (-1 : Int)) - 1)) := nz_sub (nzE n88) (by decide : ((1 : Int32)).toInt = 1) (by omega) (by omega)
                have n89 : nzI (((sy_i F 83) + (((-1) : Int32))) - ((1 : Int32))) ((((sy_i F 83).toInt + (-1 : Int)) - 1)) := nz_sub (nzE n88) (by decide : ((1 : Int32)).toInt = 1) (by omega) (by omega)
                have w94 : jm_upd (sy_ai F 46) (((sy_i F 83) + (((-1) : Int32))) - ((1 : Int32))).toNatClampNeg (((sy_ai F 46).getD (((sy_i F 83) + (((-1) : Int32))) - ((1 : Int32))).toNatClampNeg 0) - ((sy_ai F 46).getD ((sy_i F 83) + (((-1) : Int32))).toNatClampNeg 0)) = jm_upd (sy_ai F 46) ((((sy_i F 83).toInt + (-1 : Int)) - 1)).toNat (((sy_ai F 46).getD ((((sy_i F 83).toInt + (-1 : Int)) - 1)).toNat 0) - ((sy_ai F 46).getD (((sy_i F 83).toInt + (-1 : Int))).toNat 0)) := by simp only [nz_c, (nzE n88), (nzE n89), (nzE n90), (by decide : (((-1) : Int32)).toInt = (-1 : Int)), (by decide : ((1 : Int32)).toInt = 1)]
                have n87 : nzI ((sy_i F 82) + ((1 : Int32))) (((sy_i F 82).toInt + 1)) := nz_add (rfl : (sy_i F 82).toInt = (sy_i F 82).toInt) (by decide : ((1 : Int32)).toInt = 1) (by omega) (by omega)
                have n95 : nzI ((sy_i F 84) + ((1 : Int32))) (((sy_i F 84).toInt + 1)) := nz_add (rfl : (sy_i F 84).toInt = (sy_i F 84).toInt) (by decide : ((1 : Int32)).toInt = 1) (by omega) (by omega)
                exact j2wo_8_p4 hd F X1 X2 hB (by first | exact g0 | (simp only [nz_c]; exact g0)) (by first | exact g1 | (simp only [nz_c]; exact g1)) (by first | (simp only [nz_c, (nzE n85)]; exact g2) | exact g2 | (rw [(nzE n85)]; exact g2)) (by first | exact ⟨by omega, by omega⟩ | (simp only [nz_c]; exact ⟨by omega, by omega⟩)) (by first | exact g3 | (simp only [nz_c]; exact g3) | (rw [(nzE n86)]; exact g3)) (by first | exact g4 | (simp only [nz_c]; exact g4) | (rw [(nzE n86)]; exact g4)) (by first | exact g5 | (simp only [nz_c]; exact g5)) (by first | exact g6 | (simp only [nz_c]; exact g6) | (rw [(nzE n86)]; exact g6)) (by first | exact g7 | (simp only [nz_c]; exact g7) | (rw [(nzE n86)]; exact g7)) (by first | (simp only [nz_c, (nzE n88), (nzE n90)]; exact ⟨by omega, by omega⟩) | exact ⟨by omega, by omega⟩ | (rw [(nzE n90)]; exact ⟨by omega, by omega⟩)) (by first | (simp only [nz_c, (nzE n88)]; exact ⟨by omega, by omega⟩) | exact ⟨by omega, by omega⟩ | (rw [(nzE n88)]; exact ⟨by omega, by omega⟩)) (by first | exact g8 | (simp only [nz_c]; exact g8) | (rw [(nzE n86)]; exact g8)) (by first | (simp only [nz_c, (nzE n88), (nzE n89)]; exact ⟨by omega, by omega⟩) | exact ⟨by omega, by omega⟩ | (rw [(nzE n89)]; exact ⟨by omega, by omega⟩)) (fun F1 g e46 e82 e83 e84 => k4 g0 g1 g2 g3 g4 g5 g6 g7 g8 F1 (nz_in0 hB [46] (fun j hj hn => g j hj (by simp only [List.mem_cons, List.not_mem_nil, or_false, not_or] at hn; omega)) (List.forall_mem_cons.mpr ⟨fun t ht => (Option.some.inj ht) ▸ (nz_hz2 e46), List.forall_mem_nil _⟩)) (fun j hj hn => g j hj (by simp only [List.mem_cons, List.not_mem_nil, or_false, not_or] at hn; omega)) ((zz_ai e46).trans w94) ((congrArg Int32.toInt (zz_i e82)).trans (nzE n87)) ((zz_i e82).trans (rfl : (sy_i F 82) + ((1 : Int32)) = (sy_i F 82) + ((1 : Int32)))) ((congrArg Int32.toInt (zz_i e83)).trans (nzE n88)) ((zz_i e83).trans (rfl : (sy_i F 83) + (((-1) : Int32)) = (sy_i F 83) + (((-1) : Int32)))) ((congrArg Int32.toInt (zz_i e84)).trans (nzE n95)) ((zz_i e84).trans (rfl : (sy_i F 84) + ((1 : Int32)) = (sy_i F 84) + ((1 : Int32)))))
              have y8_3 := g8
              clear g8
              by_cases g8 : ((sy_ai F 32).getD ((sy_i F 82).toInt).toNat 0).toInt = (-10 : Int)
              · have n85 : nzI ((sy_i F 82) + ((1 : Int32))) (((sy_i F 82).toInt + 1)) := nz_add (rfl : (sy_i F 82).toInt = (sy_i F 82).toInt) (by decide : ((1 : Int32)).toInt = 1) (by omega) (by omega)
                have q86 : (sy_ai F 32).getD (sy_i F 82).toNatClampNeg 0 = (sy_ai F 32).getD ((sy_i F 82).toInt).toNat 0 := by simp only [nz_c]
                have n86 : nzI ((sy_ai F 32).getD (sy_i F 82).toNatClampNeg 0) (((sy_ai F 32).getD ((sy_i F 82).toInt).toNat 0).toInt) := congrArg Int32.toInt q86
                have r86 := nz_ba hB (k := 32) (lo := (-2147483648)) (hi := 2147483646) rfl ((sy_i F 82).toInt).toNat
                have n88 : nzI ((sy_i F 83) + (((-1) : Int32))) (((sy_i F 83).toInt + (-1 : Int))) := nz_add (rfl : (sy_i F 83).toInt = (sy_i F 83).toInt) (by decide : (((-1) : Int32)).toInt = (-1 : Int)) (by omega) (by omega)
                have n90 : nzI (((sy_i F 83) + (((-1) : Int32))) - ((1 : Int32))) ((((sy_i F 83).toInt + (-1 : Int)) - 1)) := nz_sub (nzE n88) (by decide : ((1 : Int32)).toInt = 1) (by omega) (by omega)
                have n89 : nzI (((sy_i F 83) + (((-1) : Int32))) - ((1 : Int32))) ((((sy_i F 83).toInt + (-1 : Int)) - 1)) := nz_sub (nzE n88) (by decide : ((1 : Int32)).toInt = 1) (by omega) (by omega)
                have w94 : jm_upd (sy_ai F 46) (((sy_i F 83) + (((-1) : Int32))) - ((1 : Int32))).toNatClampNeg (((sy_ai F 46).getD (((sy_i F 83) + (((-1) : Int32))) - ((1 : Int32))).toNatClampNeg 0) + ((sy_ai F 46).getD ((sy_i F 83) + (((-1) : Int32))).toNatClampNeg 0)) = jm_upd (sy_ai F 46) ((((sy_i F 83).toInt + (-1 : Int)) - 1)).toNat (((sy_ai F 46).getD ((((sy_i F 83).toInt + (-1 : Int)) - 1)).toNat 0) + ((sy_ai F 46).getD (((sy_i F 83).toInt + (-1 : Int))).toNat 0)) := by simp only [nz_c, (nzE n88), (nzE n89), (nzE n90), (by decide : (((-1) : Int32)).toInt = (-1 : Int)), (by decide : ((1 : Int32)).toInt = 1)]
                have n87 : nzI ((sy_i F 82) + ((1 : Int32))) (((sy_i F 82).toInt + 1)) := nz_add (rfl : (sy_i F 82).toInt = (sy_i F 82).toInt) (by decide : ((1 : Int32)).toInt = 1) (by omega) (by omega)
                have n95 : nzI ((sy_i F 84) + ((1 : Int32))) (((sy_i F 84).toInt + 1)) := nz_add (rfl : (sy_i F 84).toInt = (sy_i F 84).toInt) (by decide : ((1 : Int32)).toInt = 1) (by omega) (by omega)
                exact j2wo_8_p5 hd F X1 X2 hB (by first | exact g0 | (simp only [nz_c]; exact g0)) (by first | exact g1 | (simp only [nz_c]; exact g1)) (by first | (simp only [nz_c, (nzE n85)]; exact g2) | exact g2 | (rw [(nzE n85)]; exact g2)) (by first | exact ⟨by omega, by omega⟩ | (simp only [nz_c]; exact ⟨by omega, by omega⟩)) (by first | exact g3 | (simp only [nz_c]; exact g3) | (rw [(nzE n86)]; exact g3)) (by first | exact g4 | (simp only [nz_c]; exact g4) | (rw [(nzE n86)]; exact g4)) (by first | exact g5 | (simp only [nz_c]; exact g5)) (by first | exact g6 | (simp only [nz_c]; exact g6) | (rw [(nzE n86)]; exact g6)) (by first | exact g7 | (simp only [nz_c]; exact g7) | (rw [(nzE n86)]; exact g7)) (by first | (simp only [nz_c, (nzE n88), (nzE n90)]; exact ⟨by omega, by omega⟩) | exact ⟨by omega, by omega⟩ | (rw [(nzE n90)]; exact ⟨by omega, by omega⟩)) (by first | (simp only [nz_c, (nzE n88)]; exact ⟨by omega, by omega⟩) | exact ⟨by omega, by omega⟩ | (rw [(nzE n88)]; exact ⟨by omega, by omega⟩)) (by first | exact g8 | (simp only [nz_c]; exact g8) | (rw [(nzE n86)]; exact g8)) (by first | (simp only [nz_c, (nzE n88), (nzE n89)]; exact ⟨by omega, by omega⟩) | exact ⟨by omega, by omega⟩ | (rw [(nzE n89)]; exact ⟨by omega, by omega⟩)) (fun F1 g e46 e82 e83 e84 => k5 g0 g1 g2 g3 g4 g5 g6 g7 g8 F1 (nz_in0 hB [46] (fun j hj hn => g j hj (by simp only [List.mem_cons, List.not_mem_nil, or_false, not_or] at hn; omega)) (List.forall_mem_cons.mpr ⟨fun t ht => (Option.some.inj ht) ▸ (nz_hz2 e46), List.forall_mem_nil _⟩)) (fun j hj hn => g j hj (by simp only [List.mem_cons, List.not_mem_nil, or_false, not_or] at hn; omega)) ((zz_ai e46).trans w94) ((congrArg Int32.toInt (zz_i e82)).trans (nzE n87)) ((zz_i e82).trans (rfl : (sy_i F 82) + ((1 : Int32)) = (sy_i F 82) + ((1 : Int32)))) ((congrArg Int32.toInt (zz_i e83)).trans (nzE n88)) ((zz_i e83).trans (rfl : (sy_i F 83) + (((-1) : Int32)) = (sy_i F 83) + (((-1) : Int32)))) ((congrArg Int32.toInt (zz_i e84)).trans (nzE n95)) ((zz_i e84).trans (rfl : (sy_i F 84) + ((1 : Int32)) = (sy_i F 84) + ((1 : Int32)))))
              have q86 : (sy_ai F 32).getD (sy_i F 82).toNatClampNeg 0 = (sy_ai F 32).getD ((sy_i F 82).toInt).toNat 0 := by simp only [nz_c]
              have n86 : nzI ((sy_ai F 32).getD (sy_i F 82).toNatClampNeg 0) (((sy_ai F 32).getD ((sy_i F 82).toInt).toNat 0).toInt) := congrArg Int32.toInt q86
              have r86 := nz_ba hB (k := 32) (lo := (-2147483648)) (hi := 2147483646) rfl ((sy_i F 82).toInt).toNat
              exfalso
              omega
            replace g7 : ((sy_ai F 32).getD ((sy_i F 82).toInt).toNat 0).toInt = (-13 : Int) := by omega
            by_cases g8 : ((sy_ai F 46).getD (((sy_i F 83).toInt - 1)).toNat 0).toInt ≠ 0
            · by_cases g9 : ((sy_ai F 32).getD ((sy_i F 82).toInt).toNat 0).toInt < (-12 : Int)
              · by_cases g10 : ((sy_ai F 46).getD (((sy_i F 83).toInt + (-1 : Int))).toNat 0).toInt ≠ 0
                · have n85 : nzI ((sy_i F 82) + ((1 : Int32))) (((sy_i F 82).toInt + 1)) := nz_add (rfl : (sy_i F 82).toInt = (sy_i F 82).toInt) (by decide : ((1 : Int32)).toInt = 1) (by omega) (by omega)
                  have q86 : (sy_ai F 32).getD (sy_i F 82).toNatClampNeg 0 = (sy_ai F 32).getD ((sy_i F 82).toInt).toNat 0 := by simp only [nz_c]
                  have n86 : nzI ((sy_ai F 32).getD (sy_i F 82).toNatClampNeg 0) (((sy_ai F 32).getD ((sy_i F 82).toInt).toNat 0).toInt) := congrArg Int32.toInt q86
                  have r86 := nz_ba hB (k := 32) (lo := (-2147483648)) (hi := 2147483646) rfl ((sy_i F 82).toInt).toNat
                  have n88 : nzI ((sy_i F 83) - ((1 : Int32))) (((sy_i F 83).toInt - 1)) := nz_sub (rfl : (sy_i F 83).toInt = (sy_i F 83).toInt) (by decide : ((1 : Int32)).toInt = 1) (by omega) (by omega)
                  have q89 : (sy_ai F 46).getD ((sy_i F 83) - ((1 : Int32))).toNatClampNeg 0 = (sy_ai F 46).getD (((sy_i F 83).toInt - 1)).toNat 0 := by simp only [nz_c, (nzE n88), (by decide : ((1 : Int32)).toInt = 1)]
                  have n89 : nzI ((sy_ai F 46).getD ((sy_i F 83) - ((1 : Int32))).toNatClampNeg 0) (((sy_ai F 46).getD (((sy_i F 83).toInt - 1)).toNat 0).toInt) := congrArg Int32.toInt q89
                  have n90 : nzI ((sy_i F 83) + (((-1) : Int32))) (((sy_i F 83).toInt + (-1 : Int))) := nz_add (rfl : (sy_i F 83).toInt = (sy_i F 83).toInt) (by decide : (((-1) : Int32)).toInt = (-1 : Int)) (by omega) (by omega)
                  have n92 : nzI (((sy_i F 83) + (((-1) : Int32))) - ((1 : Int32))) ((((sy_i F 83).toInt + (-1 : Int)) - 1)) := nz_sub (nzE n90) (by decide : ((1 : Int32)).toInt = 1) (by omega) (by omega)
                  have q94 : (sy_ai F 46).getD ((sy_i F 83) + (((-1) : Int32))).toNatClampNeg 0 = (sy_ai F 46).getD (((sy_i F 83).toInt + (-1 : Int))).toNat 0 := by simp only [nz_c, (nzE n90), (by decide : (((-1) : Int32)).toInt = (-1 : Int))]
                  have n94 : nzI ((sy_ai F 46).getD ((sy_i F 83) + (((-1) : Int32))).toNatClampNeg 0) (((sy_ai F 46).getD (((sy_i F 83).toInt + (-1 : Int))).toNat 0).toInt) := congrArg Int32.toInt q94
                  have n91 : nzI (((sy_i F 83) + (((-1) : Int32))) - ((1 : Int32))) ((((sy_i F 83).toInt + (-1 : Int)) - 1)) := nz_sub (nzE n90) (by decide : ((1 : Int32)).toInt = 1) (by omega) (by omega)
                  have w96 : jm_upd (sy_ai F 46) (((sy_i F 83) + (((-1) : Int32))) - ((1 : Int32))).toNatClampNeg (((sy_ai F 46).getD (((sy_i F 83) + (((-1) : Int32))) - ((1 : Int32))).toNatClampNeg 0) / ((sy_ai F 46).getD ((sy_i F 83) + (((-1) : Int32))).toNatClampNeg 0)) = jm_upd (sy_ai F 46) ((((sy_i F 83).toInt + (-1 : Int)) - 1)).toNat (((sy_ai F 46).getD ((((sy_i F 83).toInt + (-1 : Int)) - 1)).toNat 0) / ((sy_ai F 46).getD (((sy_i F 83).toInt + (-1 : Int))).toNat 0)) := by simp only [nz_c, (nzE n90), (nzE n91), (nzE n92), (by decide : (((-1) : Int32)).toInt = (-1 : Int)), (by decide : ((1 : Int32)).toInt = 1)]
                  have n87 : nzI ((sy_i F 82) + ((1 : Int32))) (((sy_i F 82).toInt + 1)) := nz_add (rfl : (sy_i F 82).toInt = (sy_i F 82).toInt) (by decide : ((1 : Int32)).toInt = 1) (by omega) (by omega)
                  have n97 : nzI ((sy_i F 84) + ((1 : Int32))) (((sy_i F 84).toInt + 1)) := nz_add (rfl : (sy_i F 84).toInt = (sy_i F 84).toInt) (by decide : ((1 : Int32)).toInt = 1) (by omega) (by omega)
                  exact j2wo_8_p6 hd F X1 X2 hB (by first | exact g0 | (simp only [nz_c]; exact g0)) (by first | exact g1 | (simp only [nz_c]; exact g1)) (by first | (simp only [nz_c, (nzE n85)]; exact g2) | exact g2 | (rw [(nzE n85)]; exact g2)) (by first | exact ⟨by omega, by omega⟩ | (simp only [nz_c]; exact ⟨by omega, by omega⟩)) (by first | exact g3 | (simp only [nz_c]; exact g3) | (rw [(nzE n86)]; exact g3)) (by first | exact g4 | (simp only [nz_c]; exact g4) | (rw [(nzE n86)]; exact g4)) (by first | exact g5 | (simp only [nz_c]; exact g5)) (by first | exact g6 | (simp only [nz_c]; exact g6) | (rw [(nzE n86)]; exact g6)) (by first | exact g7 | (simp only [nz_c]; exact g7) | (rw [(nzE n86)]; exact g7)) (by first | (simp only [nz_c, (nzE n88)]; exact ⟨by omega, by omega⟩) | exact ⟨by omega, by omega⟩ | (rw [(nzE n88)]; exact ⟨by omega, by omega⟩)) (by first | (simp only [nz_c, (nzE n88)]; exact g8) | exact g8 | (rw [(nzE n89)]; exact g8)) (by first | (simp only [nz_c, (nzE n90), (nzE n92)]; exact ⟨by omega, by omega⟩) | exact ⟨by omega, by omega⟩ | (rw [(nzE n92)]; exact ⟨by omega, by omega⟩)) (by first | (simp only [nz_c, (nzE n90)]; exact ⟨by omega, by omega⟩) | exact ⟨by omega, by omega⟩ | (rw [(nzE n90)]; exact ⟨by omega, by omega⟩)) (by first | exact g9 | (simp only [nz_c]; exact g9) | (rw [(nzE n86)]; exact g9)) (by first | (simp only [nz_c, (nzE n90)]; exact g10) | exact g10 | (rw [(nzE n94)]; exact g10)) (by first | (simp only [nz_c, (nzE n90)]; exact g10) | exact g10 | (rw [(nzE n94)]; exact g10)) (by first | (simp only [nz_c, (nzE n90), (nzE n91)]; exact ⟨by omega, by omega⟩) | exact ⟨by omega, by omega⟩ | (rw [(nzE n91)]; exact ⟨by omega, by omega⟩)) (fun F1 g e46 e82 e83 e84 => k6 g0 g1 g2 g3 g4 g5 g6 g7 g8 g9 g10 F1 (nz_in0 hB [46] (fun j hj hn => g j hj (by simp only [List.mem_cons, List.not_mem_nil, or_false, not_or] at hn; omega)) (List.forall_mem_cons.mpr ⟨fun t ht => (Option.some.inj ht) ▸ (nz_hz2 e46), List.forall_mem_nil _⟩)) (fun j hj hn => g j hj (by simp only [List.mem_cons, List.not_mem_nil, or_false, not_or] at hn; omega)) ((zz_ai e46).trans w96) ((congrArg Int32.toInt (zz_i e82)).trans (nzE n87)) ((zz_i e82).trans (rfl : (sy_i F 82) + ((1 : Int32)) = (sy_i F 82) + ((1 : Int32)))) ((congrArg Int32.toInt (zz_i e83)).trans (nzE n90)) ((zz_i e83).trans (rfl : (sy_i F 83) + (((-1) : Int32)) = (sy_i F 83) + (((-1) : Int32)))) ((congrArg Int32.toInt (zz_i e84)).trans (nzE n97)) ((zz_i e84).trans (rfl : (sy_i F 84) + ((1 : Int32)) = (sy_i F 84) + ((1 : Int32)))))
                replace g10 : ((sy_ai F 46).getD (((sy_i F 83).toInt + (-1 : Int))).toNat 0).toInt = 0 := by omega
                have n85 : nzI ((sy_i F 82) + ((1 : Int32))) (((sy_i F 82).toInt + 1)) := nz_add (rfl : (sy_i F 82).toInt = (sy_i F 82).toInt) (by decide : ((1 : Int32)).toInt = 1) (by omega) (by omega)
                have q86 : (sy_ai F 32).getD (sy_i F 82).toNatClampNeg 0 = (sy_ai F 32).getD ((sy_i F 82).toInt).toNat 0 := by simp only [nz_c]
                have n86 : nzI ((sy_ai F 32).getD (sy_i F 82).toNatClampNeg 0) (((sy_ai F 32).getD ((sy_i F 82).toInt).toNat 0).toInt) := congrArg Int32.toInt q86
                have r86 := nz_ba hB (k := 32) (lo := (-2147483648)) (hi := 2147483646) rfl ((sy_i F 82).toInt).toNat
                have n88 : nzI ((sy_i F 83) - ((1 : Int32))) (((sy_i F 83).toInt - 1)) := nz_sub (rfl : (sy_i F 83).toInt = (sy_i F 83).toInt) (by decide : ((1 : Int32)).toInt = 1) (by omega) (by omega)
                have q89 : (sy_ai F 46).getD ((sy_i F 83) - ((1 : Int32))).toNatClampNeg 0 = (sy_ai F 46).getD (((sy_i F 83).toInt - 1)).toNat 0 := by simp only [nz_c, (nzE n88), (by decide : ((1 : Int32)).toInt = 1)]
                have n89 : nzI ((sy_ai F 46).getD ((sy_i F 83) - ((1 : Int32))).toNatClampNeg 0) (((sy_ai F 46).getD (((sy_i F 83).toInt - 1)).toNat 0).toInt) := congrArg Int32.toInt q89
                have n90 : nzI ((sy_i F 83) + (((-1) : Int32))) (((sy_i F 83).toInt + (-1 : Int))) := nz_add (rfl : (sy_i F 83).toInt = (sy_i F 83).toInt) (by decide : (((-1) : Int32)).toInt = (-1 : Int)) (by omega) (by omega)
                have n92 : nzI (((sy_i F 83) + (((-1) : Int32))) - ((1 : Int32))) ((((sy_i F 83).toInt + (-1 : Int)) - 1)) := nz_sub (nzE n90) (by decide : ((1 : Int32)).toInt = 1) (by omega) (by omega)
                have q94 : (sy_ai F 46).getD ((sy_i F 83) + (((-1) : Int32))).toNatClampNeg 0 = (sy_ai F 46).getD (((sy_i F 83).toInt + (-1 : Int))).toNat 0 := by simp only [nz_c, (nzE n90), (by decide : (((-1) : Int32)).toInt = (-1 : Int))]
                have n94 : nzI ((sy_ai F 46).getD ((sy_i F 83) + (((-1) : Int32))).toNatClampNeg 0) (((sy_ai F 46).getD (((sy_i F 83).toInt + (-1 : Int))).toNat 0).toInt) := congrArg Int32.toInt q94
                have n91 : nzI (((sy_i F 83) + (((-1) : Int32))) - ((1 : Int32))) ((((sy_i F 83).toInt + (-1 : Int)) - 1)) := nz_sub (nzE n90) (by decide : ((1 : Int32)).toInt = 1) (by omega) (by omega)
                have w95 : jm_upd (sy_ai F 46) (((sy_i F 83) + (((-1) : Int32))) - ((1 : Int32))).toNatClampNeg ((0 : Int32)) = jm_upd (sy_ai F 46) ((((sy_i F 83).toInt + (-1 : Int)) - 1)).toNat ((0 : Int32)) := by simp only [nz_c, (nzE n90), (nzE n91), (by decide : (((-1) : Int32)).toInt = (-1 : Int)), (by decide : ((0 : Int32)).toInt = 0), (by decide : ((1 : Int32)).toInt = 1)]
                have n87 : nzI ((sy_i F 82) + ((1 : Int32))) (((sy_i F 82).toInt + 1)) := nz_add (rfl : (sy_i F 82).toInt = (sy_i F 82).toInt) (by decide : ((1 : Int32)).toInt = 1) (by omega) (by omega)
                have n96 : nzI ((sy_i F 84) + ((1 : Int32))) (((sy_i F 84).toInt + 1)) := nz_add (rfl : (sy_i F 84).toInt = (sy_i F 84).toInt) (by decide : ((1 : Int32)).toInt = 1) (by omega) (by omega)
                exact j2wo_8_p7 hd F X1 X2 hB (by first | exact g0 | (simp only [nz_c]; exact g0)) (by first | exact g1 | (simp only [nz_c]; exact g1)) (by first | (simp only [nz_c, (nzE n85)]; exact g2) | exact g2 | (rw [(nzE n85)]; exact g2)) (by first | exact ⟨by omega, by omega⟩ | (simp only [nz_c]; exact ⟨by omega, by omega⟩)) (by first | exact g3 | (simp only [nz_c]; exact g3) | (rw [(nzE n86)]; exact g3)) (by first | exact g4 | (simp only [nz_c]; exact g4) | (rw [(nzE n86)]; exact g4)) (by first | exact g5 | (simp only [nz_c]; exact g5)) (by first | exact g6 | (simp only [nz_c]; exact g6) | (rw [(nzE n86)]; exact g6)) (by first | exact g7 | (simp only [nz_c]; exact g7) | (rw [(nzE n86)]; exact g7)) (by first | (simp only [nz_c, (nzE n88)]; exact ⟨by omega, by omega⟩) | exact ⟨by omega, by omega⟩ | (rw [(nzE n88)]; exact ⟨by omega, by omega⟩)) (by first | (simp only [nz_c, (nzE n88)]; exact g8) | exact g8 | (rw [(nzE n89)]; exact g8)) (by first | (simp only [nz_c, (nzE n90), (nzE n92)]; exact ⟨by omega, by omega⟩) | exact ⟨by omega, by omega⟩ | (rw [(nzE n92)]; exact ⟨by omega, by omega⟩)) (by first | (simp only [nz_c, (nzE n90)]; exact ⟨by omega, by omega⟩) | exact ⟨by omega, by omega⟩ | (rw [(nzE n90)]; exact ⟨by omega, by omega⟩)) (by first | exact g9 | (simp only [nz_c]; exact g9) | (rw [(nzE n86)]; exact g9)) (by first | (simp only [nz_c, (nzE n90)]; exact g10) | exact g10 | (rw [(nzE n94)]; exact g10)) (by first | (simp only [nz_c, (nzE n90), (nzE n91)]; exact ⟨by omega, by omega⟩) | exact ⟨by omega, by omega⟩ | (rw [(nzE n91)]; exact ⟨by omega, by omega⟩)) (fun F1 g e46 e82 e83 e84 => k7 g0 g1 g2 g3 g4 g5 g6 g7 g8 g9 g10 F1 (nz_in0 hB [46] (fun j hj hn => g j hj (by simp only [List.mem_cons, List.not_mem_nil, or_false, not_or] at hn; omega)) (List.forall_mem_cons.mpr ⟨fun t ht => (Option.some.inj ht) ▸ (nz_hz2 e46), List.forall_mem_nil _⟩)) (fun j hj hn => g j hj (by simp only [List.mem_cons, List.not_mem_nil, or_false, not_or] at hn; omega)) ((zz_ai e46).trans w95) ((congrArg Int32.toInt (zz_i e82)).trans (nzE n87)) ((zz_i e82).trans (rfl : (sy_i F 82) + ((1 : Int32)) = (sy_i F 82) + ((1 : Int32)))) ((congrArg Int32.toInt (zz_i e83)).trans (nzE n90)) ((zz_i e83).trans (rfl : (sy_i F 83) + (((-1) : Int32)) = (sy_i F 83) + (((-1) : Int32)))) ((congrArg Int32.toInt (zz_i e84)).trans (nzE n96)) ((zz_i e84).trans (rfl : (sy_i F 84) + ((1 : Int32)) = (sy_i F 84) + ((1 : Int32)))))
              have y9_0 := g9
              clear g9
              by_cases g9 : (-10 : Int) < ((sy_ai F 32).getD ((sy_i F 82).toInt).toNat 0).toInt
              · have n85 : nzI ((sy_i F 82) + ((1 : Int32))) (((sy_i F 82).toInt + 1)) := nz_add (rfl : (sy_i F 82).toInt = (sy_i F 82).toInt) (by decide : ((1 : Int32)).toInt = 1) (by omega) (by omega)
                have q86 : (sy_ai F 32).getD (sy_i F 82).toNatClampNeg 0 = (sy_ai F 32).getD ((sy_i F 82).toInt).toNat 0 := by simp only [nz_c]
                have n86 : nzI ((sy_ai F 32).getD (sy_i F 82).toNatClampNeg 0) (((sy_ai F 32).getD ((sy_i F 82).toInt).toNat 0).toInt) := congrArg Int32.toInt q86
                have r86 := nz_ba hB (k := 32) (lo := (-2147483648)) (hi := 2147483646) rfl ((sy_i F 82).toInt).toNat
                have n88 : nzI ((sy_i F 83) - ((1 : Int32))) (((sy_i F 83).toInt - 1)) := nz_sub (rfl : (sy_i F 83).toInt = (sy_i F 83).toInt) (by decide : ((1 : Int32)).toInt = 1) (by omega) (by omega)
                have q89 : (sy_ai F 46).getD ((sy_i F 83) - ((1 : Int32))).toNatClampNeg 0 = (sy_ai F 46).getD (((sy_i F 83).toInt - 1)).toNat 0 := by simp only [nz_c, (nzE n88), (by decide : ((1 : Int32)).toInt = 1)]
                have n89 : nzI ((sy_ai F 46).getD ((sy_i F 83) - ((1 : Int32))).toNatClampNeg 0) (((sy_ai F 46).getD (((sy_i F 83).toInt - 1)).toNat 0).toInt) := congrArg Int32.toInt q89
                have n90 : nzI ((sy_i F 83) + (((-1) : Int32))) (((sy_i F 83).toInt + (-1 : Int))) := nz_add (rfl : (sy_i F 83).toInt = (sy_i F 83).toInt) (by decide : (((-1) : Int32)).toInt = (-1 : Int)) (by omega) (by omega)
                have n92 : nzI (((sy_i F 83) + (((-1) : Int32))) - ((1 : Int32))) ((((sy_i F 83).toInt + (-1 : Int)) - 1)) := nz_sub (nzE n90) (by decide : ((1 : Int32)).toInt = 1) (by omega) (by omega)
                exfalso
                omega
              have y9_1 := g9
              clear g9
              by_cases g9 : ((sy_ai F 32).getD ((sy_i F 82).toInt).toNat 0).toInt = (-12 : Int)
              · have n85 : nzI ((sy_i F 82) + ((1 : Int32))) (((sy_i F 82).toInt + 1)) := nz_add (rfl : (sy_i F 82).toInt = (sy_i F 82).toInt) (by decide : ((1 : Int32)).toInt = 1) (by omega) (by omega)
                have q86 : (sy_ai F 32).getD (sy_i F 82).toNatClampNeg 0 = (sy_ai F 32).getD ((sy_i F 82).toInt).toNat 0 := by simp only [nz_c]
                have n86 : nzI ((sy_ai F 32).getD (sy_i F 82).toNatClampNeg 0) (((sy_ai F 32).getD ((sy_i F 82).toInt).toNat 0).toInt) := congrArg Int32.toInt q86
                have r86 := nz_ba hB (k := 32) (lo := (-2147483648)) (hi := 2147483646) rfl ((sy_i F 82).toInt).toNat
                have n88 : nzI ((sy_i F 83) - ((1 : Int32))) (((sy_i F 83).toInt - 1)) := nz_sub (rfl : (sy_i F 83).toInt = (sy_i F 83).toInt) (by decide : ((1 : Int32)).toInt = 1) (by omega) (by omega)
                have q89 : (sy_ai F 46).getD ((sy_i F 83) - ((1 : Int32))).toNatClampNeg 0 = (sy_ai F 46).getD (((sy_i F 83).toInt - 1)).toNat 0 := by simp only [nz_c, (nzE n88), (by decide : ((1 : Int32)).toInt = 1)]
                have n89 : nzI ((sy_ai F 46).getD ((sy_i F 83) - ((1 : Int32))).toNatClampNeg 0) (((sy_ai F 46).getD (((sy_i F 83).toInt - 1)).toNat 0).toInt) := congrArg Int32.toInt q89
                have n90 : nzI ((sy_i F 83) + (((-1) : Int32))) (((sy_i F 83).toInt + (-1 : Int))) := nz_add (rfl : (sy_i F 83).toInt = (sy_i F 83).toInt) (by decide : (((-1) : Int32)).toInt = (-1 : Int)) (by omega) (by omega)
                have n92 : nzI (((sy_i F 83) + (((-1) : Int32))) - ((1 : Int32))) ((((sy_i F 83).toInt + (-1 : Int)) - 1)) := nz_sub (nzE n90) (by decide : ((1 : Int32)).toInt = 1) (by omega) (by omega)
                exfalso
                omega
              have y9_2 := g9
              clear g9
              by_cases g9 : ((sy_ai F 32).getD ((sy_i F 82).toInt).toNat 0).toInt = (-11 : Int)
              · have n85 : nzI ((sy_i F 82) + ((1 : Int32))) (((sy_i F 82).toInt + 1)) := nz_add (rfl : (sy_i F 82).toInt = (sy_i F 82).toInt) (by decide : ((1 : Int32)).toInt = 1) (by omega) (by omega)
                have q86 : (sy_ai F 32).getD (sy_i F 82).toNatClampNeg 0 = (sy_ai F 32).getD ((sy_i F 82).toInt).toNat 0 := by simp only [nz_c]
                have n86 : nzI ((sy_ai F 32).getD (sy_i F 82).toNatClampNeg 0) (((sy_ai F 32).getD ((sy_i F 82).toInt).toNat 0).toInt) := congrArg Int32.toInt q86
                have r86 := nz_ba hB (k := 32) (lo := (-2147483648)) (hi := 2147483646) rfl ((sy_i F 82).toInt).toNat
                have n88 : nzI ((sy_i F 83) - ((1 : Int32))) (((sy_i F 83).toInt - 1)) := nz_sub (rfl : (sy_i F 83).toInt = (sy_i F 83).toInt) (by decide : ((1 : Int32)).toInt = 1) (by omega) (by omega)
                have q89 : (sy_ai F 46).getD ((sy_i F 83) - ((1 : Int32))).toNatClampNeg 0 = (sy_ai F 46).getD (((sy_i F 83).toInt - 1)).toNat 0 := by simp only [nz_c, (nzE n88), (by decide : ((1 : Int32)).toInt = 1)]
                have n89 : nzI ((sy_ai F 46).getD ((sy_i F 83) - ((1 : Int32))).toNatClampNeg 0) (((sy_ai F 46).getD (((sy_i F 83).toInt - 1)).toNat 0).toInt) := congrArg Int32.toInt q89
                have n90 : nzI ((sy_i F 83) + (((-1) : Int32))) (((sy_i F 83).toInt + (-1 : Int))) := nz_add (rfl : (sy_i F 83).toInt = (sy_i F 83).toInt) (by decide : (((-1) : Int32)).toInt = (-1 : Int)) (by omega) (by omega)
                have n92 : nzI (((sy_i F 83) + (((-1) : Int32))) - ((1 : Int32))) ((((sy_i F 83).toInt + (-1 : Int)) - 1)) := nz_sub (nzE n90) (by decide : ((1 : Int32)).toInt = 1) (by omega) (by omega)
                exfalso
                omega
              have y9_3 := g9
              clear g9
              by_cases g9 : ((sy_ai F 32).getD ((sy_i F 82).toInt).toNat 0).toInt = (-10 : Int)
              · have n85 : nzI ((sy_i F 82) + ((1 : Int32))) (((sy_i F 82).toInt + 1)) := nz_add (rfl : (sy_i F 82).toInt = (sy_i F 82).toInt) (by decide : ((1 : Int32)).toInt = 1) (by omega) (by omega)
                have q86 : (sy_ai F 32).getD (sy_i F 82).toNatClampNeg 0 = (sy_ai F 32).getD ((sy_i F 82).toInt).toNat 0 := by simp only [nz_c]
                have n86 : nzI ((sy_ai F 32).getD (sy_i F 82).toNatClampNeg 0) (((sy_ai F 32).getD ((sy_i F 82).toInt).toNat 0).toInt) := congrArg Int32.toInt q86
                have r86 := nz_ba hB (k := 32) (lo := (-2147483648)) (hi := 2147483646) rfl ((sy_i F 82).toInt).toNat
                have n88 : nzI ((sy_i F 83) - ((1 : Int32))) (((sy_i F 83).toInt - 1)) := nz_sub (rfl : (sy_i F 83).toInt = (sy_i F 83).toInt) (by decide : ((1 : Int32)).toInt = 1) (by omega) (by omega)
                have q89 : (sy_ai F 46).getD ((sy_i F 83) - ((1 : Int32))).toNatClampNeg 0 = (sy_ai F 46).getD (((sy_i F 83).toInt - 1)).toNat 0 := by simp only [nz_c, (nzE n88), (by decide : ((1 : Int32)).toInt = 1)]
                have n89 : nzI ((sy_ai F 46).getD ((sy_i F 83) - ((1 : Int32))).toNatClampNeg 0) (((sy_ai F 46).getD (((sy_i F 83).toInt - 1)).toNat 0).toInt) := congrArg Int32.toInt q89
                have n90 : nzI ((sy_i F 83) + (((-1) : Int32))) (((sy_i F 83).toInt + (-1 : Int))) := nz_add (rfl : (sy_i F 83).toInt = (sy_i F 83).toInt) (by decide : (((-1) : Int32)).toInt = (-1 : Int)) (by omega) (by omega)
                have n92 : nzI (((sy_i F 83) + (((-1) : Int32))) - ((1 : Int32))) ((((sy_i F 83).toInt + (-1 : Int)) - 1)) := nz_sub (nzE n90) (by decide : ((1 : Int32)).toInt = 1) (by omega) (by omega)
                exfalso
                omega
              have q86 : (sy_ai F 32).getD (sy_i F 82).toNatClampNeg 0 = (sy_ai F 32).getD ((sy_i F 82).toInt).toNat 0 := by simp only [nz_c]
              have n86 : nzI ((sy_ai F 32).getD (sy_i F 82).toNatClampNeg 0) (((sy_ai F 32).getD ((sy_i F 82).toInt).toNat 0).toInt) := congrArg Int32.toInt q86
              have r86 := nz_ba hB (k := 32) (lo := (-2147483648)) (hi := 2147483646) rfl ((sy_i F 82).toInt).toNat
              exfalso
              omega
            replace g8 : ((sy_ai F 46).getD (((sy_i F 83).toInt - 1)).toNat 0).toInt = 0 := by omega
            have n85 : nzI ((sy_i F 82) + ((1 : Int32))) (((sy_i F 82).toInt + 1)) := nz_add (rfl : (sy_i F 82).toInt = (sy_i F 82).toInt) (by decide : ((1 : Int32)).toInt = 1) (by omega) (by omega)
            have q86 : (sy_ai F 32).getD (sy_i F 82).toNatClampNeg 0 = (sy_ai F 32).getD ((sy_i F 82).toInt).toNat 0 := by simp only [nz_c]
            have n86 : nzI ((sy_ai F 32).getD (sy_i F 82).toNatClampNeg 0) (((sy_ai F 32).getD ((sy_i F 82).toInt).toNat 0).toInt) := congrArg Int32.toInt q86
            have r86 := nz_ba hB (k := 32) (lo := (-2147483648)) (hi := 2147483646) rfl ((sy_i F 82).toInt).toNat
            have n88 : nzI ((sy_i F 83) - ((1 : Int32))) (((sy_i F 83).toInt - 1)) := nz_sub (rfl : (sy_i F 83).toInt = (sy_i F 83).toInt) (by decide : ((1 : Int32)).toInt = 1) (by omega) (by omega)
            have q89 : (sy_ai F 46).getD ((sy_i F 83) - ((1 : Int32))).toNatClampNeg 0 = (sy_ai F 46).getD (((sy_i F 83).toInt - 1)).toNat 0 := by simp only [nz_c, (nzE n88), (by decide : ((1 : Int32)).toInt = 1)]
            have n89 : nzI ((sy_ai F 46).getD ((sy_i F 83) - ((1 : Int32))).toNatClampNeg 0) (((sy_ai F 46).getD (((sy_i F 83).toInt - 1)).toNat 0).toInt) := congrArg Int32.toInt q89
            exact j2wo_8_p8 hd F X1 X2 hB (by first | exact g0 | (simp only [nz_c]; exact g0)) (by first | exact g1 | (simp only [nz_c]; exact g1)) (by first | (simp only [nz_c, (nzE n85)]; exact g2) | exact g2 | (rw [(nzE n85)]; exact g2)) (by first | exact ⟨by omega, by omega⟩ | (simp only [nz_c]; exact ⟨by omega, by omega⟩)) (by first | exact g3 | (simp only [nz_c]; exact g3) | (rw [(nzE n86)]; exact g3)) (by first | exact g4 | (simp only [nz_c]; exact g4) | (rw [(nzE n86)]; exact g4)) (by first | exact g5 | (simp only [nz_c]; exact g5)) (by first | exact g6 | (simp only [nz_c]; exact g6) | (rw [(nzE n86)]; exact g6)) (by first | exact g7 | (simp only [nz_c]; exact g7) | (rw [(nzE n86)]; exact g7)) (by first | (simp only [nz_c, (nzE n88)]; exact ⟨by omega, by omega⟩) | exact ⟨by omega, by omega⟩ | (rw [(nzE n88)]; exact ⟨by omega, by omega⟩)) (by first | (simp only [nz_c, (nzE n88)]; exact g8) | exact g8 | (rw [(nzE n89)]; exact g8)) (fun F1 g  => k8 g0 g1 g2 g3 g4 g5 g6 g7 g8 F1 (nz_in0 hB [] (fun j hj hn => g j hj (by simp only [List.mem_cons, List.not_mem_nil, or_false, not_or] at hn; exact trivial)) (List.forall_mem_nil _)) (fun j hj hn => g j hj (by simp only [List.mem_cons, List.not_mem_nil, or_false, not_or] at hn; exact trivial)) )
          replace g6 : ((sy_ai F 32).getD ((sy_i F 82).toInt).toNat 0).toInt = (-15 : Int) := by omega
          by_cases g7 : ((sy_ai F 46).getD ((((sy_i F 83).toInt + (-2 : Int)) + 1)).toNat 0).toInt ≤ ((sy_ai F 46).getD (((sy_i F 83).toInt + (-2 : Int))).toNat 0).toInt
          · have n85 : nzI ((sy_i F 82) + ((1 : Int32))) (((sy_i F 82).toInt + 1)) := nz_add (rfl : (sy_i F 82).toInt = (sy_i F 82).toInt) (by decide : ((1 : Int32)).toInt = 1) (by omega) (by omega)
            have q86 : (sy_ai F 32).getD (sy_i F 82).toNatClampNeg 0 = (sy_ai F 32).getD ((sy_i F 82).toInt).toNat 0 := by simp only [nz_c]
            have n86 : nzI ((sy_ai F 32).getD (sy_i F 82).toNatClampNeg 0) (((sy_ai F 32).getD ((sy_i F 82).toInt).toNat 0).toInt) := congrArg Int32.toInt q86
            have r86 := nz_ba hB (k := 32) (lo := (-2147483648)) (hi := 2147483646) rfl ((sy_i F 82).toInt).toNat
            have n88 : nzI ((sy_i F 83) + (((-2) : Int32))) (((sy_i F 83).toInt + (-2 : Int))) := nz_add (rfl : (sy_i F 83).toInt = (sy_i F 83).toInt) (by decide : (((-2) : Int32)).toInt = (-2 : Int)) (by omega) (by omega)
            have n90 : nzI (((sy_i F 83) + (((-2) : Int32))) + ((1 : Int32))) ((((sy_i F 83).toInt + (-2 : Int)) + 1)) := nz_add (nzE n88) (by decide : ((1 : Int32)).toInt = 1) (by omega) (by omega)
            have q91 : (sy_ai F 46).getD (((sy_i F 83) + (((-2) : Int32))) + ((1 : Int32))).toNatClampNeg 0 = (sy_ai F 46).getD ((((sy_i F 83).toInt + (-2 : Int)) + 1)).toNat 0 := by simp only [nz_c, (nzE n88), (nzE n90), (by decide : (((-2) : Int32)).toInt = (-2 : Int)), (by decide : ((1 : Int32)).toInt = 1)]
            have n91 : nzI ((sy_ai F 46).getD (((sy_i F 83) + (((-2) : Int32))) + ((1 : Int32))).toNatClampNeg 0) (((sy_ai F 46).getD ((((sy_i F 83).toInt + (-2 : Int)) + 1)).toNat 0).toInt) := congrArg Int32.toInt q91
            have q89 : (sy_ai F 46).getD ((sy_i F 83) + (((-2) : Int32))).toNatClampNeg 0 = (sy_ai F 46).getD (((sy_i F 83).toInt + (-2 : Int))).toNat 0 := by simp only [nz_c, (nzE n88), (by decide : (((-2) : Int32)).toInt = (-2 : Int))]
            have n89 : nzI ((sy_ai F 46).getD ((sy_i F 83) + (((-2) : Int32))).toNatClampNeg 0) (((sy_ai F 46).getD (((sy_i F 83).toInt + (-2 : Int))).toNat 0).toInt) := congrArg Int32.toInt q89
            have n87 : nzI ((sy_i F 82) + ((1 : Int32))) (((sy_i F 82).toInt + 1)) := nz_add (rfl : (sy_i F 82).toInt = (sy_i F 82).toInt) (by decide : ((1 : Int32)).toInt = 1) (by omega) (by omega)
            have q92 : (sy_ai F 32).getD ((sy_i F 82) + ((1 : Int32))).toNatClampNeg 0 = (sy_ai F 32).getD (((sy_i F 82).toInt + 1)).toNat 0 := by simp only [nz_c, (nzE n87), (by decide : ((1 : Int32)).toInt = 1)]
            have n92 : nzI ((sy_ai F 32).getD ((sy_i F 82) + ((1 : Int32))).toNatClampNeg 0) (((sy_ai F 32).getD (((sy_i F 82).toInt + 1)).toNat 0).toInt) := congrArg Int32.toInt q92
            have r92 := nz_ba hB (k := 32) (lo := (-2147483648)) (hi := 2147483646) rfl (((sy_i F 82).toInt + 1)).toNat
            have n93 : nzI ((sy_i F 84) + ((1 : Int32))) (((sy_i F 84).toInt + 1)) := nz_add (rfl : (sy_i F 84).toInt = (sy_i F 84).toInt) (by decide : ((1 : Int32)).toInt = 1) (by omega) (by omega)
            exact j2wo_8_p9 hd F X1 X2 hB (by first | exact g0 | (simp only [nz_c]; exact g0)) (by first | exact g1 | (simp only [nz_c]; exact g1)) (by first | (simp only [nz_c, (nzE n85)]; exact g2) | exact g2 | (rw [(nzE n85)]; exact g2)) (by first | exact ⟨by omega, by omega⟩ | (simp only [nz_c]; exact ⟨by omega, by omega⟩)) (by first | exact g3 | (simp only [nz_c]; exact g3) | (rw [(nzE n86)]; exact g3)) (by first | exact g4 | (simp only [nz_c]; exact g4) | (rw [(nzE n86)]; exact g4)) (by first | exact g5 | (simp only [nz_c]; exact g5)) (by first | exact g6 | (simp only [nz_c]; exact g6) | (rw [(nzE n86)]; exact g6)) (by first | (simp only [nz_c, (nzE n88)]; exact ⟨by omega, by omega⟩) | exact ⟨by omega, by omega⟩ | (rw [(nzE n88)]; exact ⟨by omega, by omega⟩)) (by first | (simp only [nz_c, (nzE n88), (nzE n90)]; exact ⟨by omega, by omega⟩) | exact ⟨by omega, by omega⟩ | (rw [(nzE n90)]; exact ⟨by omega, by omega⟩)) (by first | (simp only [nz_c, (nzE n88), (nzE n90)]; exact g7) | exact g7 | (rw [(nzE n91)]; exact g7) | (rw [(nzE n89)]; exact g7) | (rw [(nzE n91), (nzE n89)]; exact g7)) (by first | (simp only [nz_c, (nzE n87)]; exact ⟨by omega, by omega⟩) | exact ⟨by omega, by omega⟩ | (rw [(nzE n87)]; exact ⟨by omega, by omega⟩)) (fun F1 g e82 e83 e84 => k9 g0 g1 g2 g3 g4 g5 g6 g7 F1 (nz_in0 hB [] (fun j hj hn => g j hj (by simp only [List.mem_cons, List.not_mem_nil, or_false, not_or] at hn; exact trivial)) (List.forall_mem_nil _)) (fun j hj hn => g j hj (by simp only [List.mem_cons, List.not_mem_nil, or_false, not_or] at hn; exact trivial)) ((congrArg Int32.toInt (zz_i e82)).trans (nzE n92)) ((zz_i e82).trans q92) ((congrArg Int32.toInt (zz_i e83)).trans (nzE n88)) ((zz_i e83).trans (rfl : (sy_i F 83) + (((-2) : Int32)) = (sy_i F 83) + (((-2) : Int32)))) ((congrArg Int32.toInt (zz_i e84)).trans (nzE n93)) ((zz_i e84).trans (rfl : (sy_i F 84) + ((1 : Int32)) = (sy_i F 84) + ((1 : Int32)))))
          replace g7 : ((sy_ai F 46).getD (((sy_i F 83).toInt + (-2 : Int))).toNat 0).toInt < ((sy_ai F 46).getD ((((sy_i F 83).toInt + (-2 : Int)) + 1)).toNat 0).toInt := by omega
          have n85 : nzI ((sy_i F 82) + ((1 : Int32))) (((sy_i F 82).toInt + 1)) := nz_add (rfl : (sy_i F 82).toInt = (sy_i F 82).toInt) (by decide : ((1 : Int32)).toInt = 1) (by omega) (by omega)
          have q86 : (sy_ai F 32).getD (sy_i F 82).toNatClampNeg 0 = (sy_ai F 32).getD ((sy_i F 82).toInt).toNat 0 := by simp only [nz_c]
          have n86 : nzI ((sy_ai F 32).getD (sy_i F 82).toNatClampNeg 0) (((sy_ai F 32).getD ((sy_i F 82).toInt).toNat 0).toInt) := congrArg Int32.toInt q86
          have r86 := nz_ba hB (k := 32) (lo := (-2147483648)) (hi := 2147483646) rfl ((sy_i F 82).toInt).toNat
          have n88 : nzI ((sy_i F 83) + (((-2) : Int32))) (((sy_i F 83).toInt + (-2 : Int))) := nz_add (rfl : (sy_i F 83).toInt = (sy_i F 83).toInt) (by decide : (((-2) : Int32)).toInt = (-2 : Int)) (by omega) (by omega)
          have n90 : nzI (((sy_i F 83) + (((-2) : Int32))) + ((1 : Int32))) ((((sy_i F 83).toInt + (-2 : Int)) + 1)) := nz_add (nzE n88) (by decide : ((1 : Int32)).toInt = 1) (by omega) (by omega)
          have q91 : (sy_ai F 46).getD (((sy_i F 83) + (((-2) : Int32))) + ((1 : Int32))).toNatClampNeg 0 = (sy_ai F 46).getD ((((sy_i F 83).toInt + (-2 : Int)) + 1)).toNat 0 := by simp only [nz_c, (nzE n88), (nzE n90), (by decide : (((-2) : Int32)).toInt = (-2 : Int)), (by decide : ((1 : Int32)).toInt = 1)]
          have n91 : nzI ((sy_ai F 46).getD (((sy_i F 83) + (((-2) : Int32))) + ((1 : Int32))).toNatClampNeg 0) (((sy_ai F 46).getD ((((sy_i F 83).toInt + (-2 : Int)) + 1)).toNat 0).toInt) := congrArg Int32.toInt q91
          have q89 : (sy_ai F 46).getD ((sy_i F 83) + (((-2) : Int32))).toNatClampNeg 0 = (sy_ai F 46).getD (((sy_i F 83).toInt + (-2 : Int))).toNat 0 := by simp only [nz_c, (nzE n88), (by decide : (((-2) : Int32)).toInt = (-2 : Int))]
          have n89 : nzI ((sy_ai F 46).getD ((sy_i F 83) + (((-2) : Int32))).toNatClampNeg 0) (((sy_ai F 46).getD (((sy_i F 83).toInt + (-2 : Int))).toNat 0).toInt) := congrArg Int32.toInt q89
          have n87 : nzI ((sy_i F 82) + ((1 : Int32))) (((sy_i F 82).toInt + 1)) := nz_add (rfl : (sy_i F 82).toInt = (sy_i F 82).toInt) (by decide : ((1 : Int32)).toInt = 1) (by omega) (by omega)
          have n92 : nzI (((sy_i F 82) + ((1 : Int32))) + ((1 : Int32))) ((((sy_i F 82).toInt + 1) + 1)) := nz_add (nzE n87) (by decide : ((1 : Int32)).toInt = 1) (by omega) (by omega)
          have n93 : nzI ((sy_i F 84) + ((1 : Int32))) (((sy_i F 84).toInt + 1)) := nz_add (rfl : (sy_i F 84).toInt = (sy_i F 84).toInt) (by decide : ((1 : Int32)).toInt = 1) (by omega) (by omega)
          exact j2wo_8_p10 hd F X1 X2 hB (by first | exact g0 | (simp only [nz_c]; exact g0)) (by first | exact g1 | (simp only [nz_c]; exact g1)) (by first | (simp only [nz_c, (nzE n85)]; exact g2) | exact g2 | (rw [(nzE n85)]; exact g2)) (by first | exact ⟨by omega, by omega⟩ | (simp only [nz_c]; exact ⟨by omega, by omega⟩)) (by first | exact g3 | (simp only [nz_c]; exact g3) | (rw [(nzE n86)]; exact g3)) (by first | exact g4 | (simp only [nz_c]; exact g4) | (rw [(nzE n86)]; exact g4)) (by first | exact g5 | (simp only [nz_c]; exact g5)) (by first | exact g6 | (simp only [nz_c]; exact g6) | (rw [(nzE n86)]; exact g6)) (by first | (simp only [nz_c, (nzE n88)]; exact ⟨by omega, by omega⟩) | exact ⟨by omega, by omega⟩ | (rw [(nzE n88)]; exact ⟨by omega, by omega⟩)) (by first | (simp only [nz_c, (nzE n88), (nzE n90)]; exact ⟨by omega, by omega⟩) | exact ⟨by omega, by omega⟩ | (rw [(nzE n90)]; exact ⟨by omega, by omega⟩)) (by first | (simp only [nz_c, (nzE n88), (nzE n90)]; exact g7) | exact g7 | (rw [(nzE n91)]; exact g7) | (rw [(nzE n89)]; exact g7) | (rw [(nzE n91), (nzE n89)]; exact g7)) (fun F1 g e82 e83 e84 => k10 g0 g1 g2 g3 g4 g5 g6 g7 F1 (nz_in0 hB [] (fun j hj hn => g j hj (by simp only [List.mem_cons, List.not_mem_nil, or_false, not_or] at hn; exact trivial)) (List.forall_mem_nil _)) (fun j hj hn => g j hj (by simp only [List.mem_cons, List.not_mem_nil, or_false, not_or] at hn; exact trivial)) ((congrArg Int32.toInt (zz_i e82)).trans (nzE n92)) ((zz_i e82).trans (rfl : ((sy_i F 82) + ((1 : Int32))) + ((1 : Int32)) = ((sy_i F 82) + ((1 : Int32))) + ((1 : Int32)))) ((congrArg Int32.toInt (zz_i e83)).trans (nzE n88)) ((zz_i e83).trans (rfl : (sy_i F 83) + (((-2) : Int32)) = (sy_i F 83) + (((-2) : Int32)))) ((congrArg Int32.toInt (zz_i e84)).trans (nzE n93)) ((zz_i e84).trans (rfl : (sy_i F 84) + ((1 : Int32)) = (sy_i F 84) + ((1 : Int32)))))
        replace g5 : (sy_i F 83).toInt < 2 := by omega
        have n85 : nzI ((sy_i F 82) + ((1 : Int32))) (((sy_i F 82).toInt + 1)) := nz_add (rfl : (sy_i F 82).toInt = (sy_i F 82).toInt) (by decide : ((1 : Int32)).toInt = 1) (by omega) (by omega)
        have q86 : (sy_ai F 32).getD (sy_i F 82).toNatClampNeg 0 = (sy_ai F 32).getD ((sy_i F 82).toInt).toNat 0 := by simp only [nz_c]
        have n86 : nzI ((sy_ai F 32).getD (sy_i F 82).toNatClampNeg 0) (((sy_ai F 32).getD ((sy_i F 82).toInt).toNat 0).toInt) := congrArg Int32.toInt q86
        have r86 := nz_ba hB (k := 32) (lo := (-2147483648)) (hi := 2147483646) rfl ((sy_i F 82).toInt).toNat
        exact j2wo_8_p11 hd F X1 X2 hB (by first | exact g0 | (simp only [nz_c]; exact g0)) (by first | exact g1 | (simp only [nz_c]; exact g1)) (by first | (simp only [nz_c, (nzE n85)]; exact g2) | exact g2 | (rw [(nzE n85)]; exact g2)) (by first | exact ⟨by omega, by omega⟩ | (simp only [nz_c]; exact ⟨by omega, by omega⟩)) (by first | exact g3 | (simp only [nz_c]; exact g3) | (rw [(nzE n86)]; exact g3)) (by first | exact g4 | (simp only [nz_c]; exact g4) | (rw [(nzE n86)]; exact g4)) (by first | exact g5 | (simp only [nz_c]; exact g5)) (fun F1 g  => k11 g0 g1 g2 g3 g4 g5 F1 (nz_in0 hB [] (fun j hj hn => g j hj (by simp only [List.mem_cons, List.not_mem_nil, or_false, not_or] at hn; exact trivial)) (List.forall_mem_nil _)) (fun j hj hn => g j hj (by simp only [List.mem_cons, List.not_mem_nil, or_false, not_or] at hn; exact trivial)) )
      replace g4 : ((sy_ai F 32).getD ((sy_i F 82).toInt).toNat 0).toInt = (-14 : Int) := by omega
      by_cases g5 : (sy_i F 83).toInt < 1
      · have n85 : nzI ((sy_i F 82) + ((1 : Int32))) (((sy_i F 82).toInt + 1)) := nz_add (rfl : (sy_i F 82).toInt = (sy_i F 82).toInt) (by decide : ((1 : Int32)).toInt = 1) (by omega) (by omega)
        have q86 : (sy_ai F 32).getD (sy_i F 82).toNatClampNeg 0 = (sy_ai F 32).getD ((sy_i F 82).toInt).toNat 0 := by simp only [nz_c]
        have n86 : nzI ((sy_ai F 32).getD (sy_i F 82).toNatClampNeg 0) (((sy_ai F 32).getD ((sy_i F 82).toInt).toNat 0).toInt) := congrArg Int32.toInt q86
        have r86 := nz_ba hB (k := 32) (lo := (-2147483648)) (hi := 2147483646) rfl ((sy_i F 82).toInt).toNat
        exact j2wo_8_p12 hd F X1 X2 hB (by first | exact g0 | (simp only [nz_c]; exact g0)) (by first | exact g1 | (simp only [nz_c]; exact g1)) (by first | (simp only [nz_c, (nzE n85)]; exact g2) | exact g2 | (rw [(nzE n85)]; exact g2)) (by first | exact ⟨by omega, by omega⟩ | (simp only [nz_c]; exact ⟨by omega, by omega⟩)) (by first | exact g3 | (simp only [nz_c]; exact g3) | (rw [(nzE n86)]; exact g3)) (by first | exact g4 | (simp only [nz_c]; exact g4) | (rw [(nzE n86)]; exact g4)) (by first | exact g5 | (simp only [nz_c]; exact g5)) (fun F1 g  => k12 g0 g1 g2 g3 g4 g5 F1 (nz_in0 hB [] (fun j hj hn => g j hj (by simp only [List.mem_cons, List.not_mem_nil, or_false, not_or] at hn; exact trivial)) (List.forall_mem_nil _)) (fun j hj hn => g j hj (by simp only [List.mem_cons, List.not_mem_nil, or_false, not_or] at hn; exact trivial)) )
      replace g5 : 1 ≤ (sy_i F 83).toInt := by omega
      have n85 : nzI ((sy_i F 82) + ((1 : Int32))) (((sy_i F 82).toInt + 1)) := nz_add (rfl : (sy_i F 82).toInt = (sy_i F 82).toInt) (by decide : ((1 : Int32)).toInt = 1) (by omega) (by omega)
      have q86 : (sy_ai F 32).getD (sy_i F 82).toNatClampNeg 0 = (sy_ai F 32).getD ((sy_i F 82).toInt).toNat 0 := by simp only [nz_c]
      have n86 : nzI ((sy_ai F 32).getD (sy_i F 82).toNatClampNeg 0) (((sy_ai F 32).getD ((sy_i F 82).toInt).toNat 0).toInt) := congrArg Int32.toInt q86
      have r86 := nz_ba hB (k := 32) (lo := (-2147483648)) (hi := 2147483646) rfl ((sy_i F 82).toInt).toNat
      have n88 : nzI ((sy_i F 83) - ((1 : Int32))) (((sy_i F 83).toInt - 1)) := nz_sub (rfl : (sy_i F 83).toInt = (sy_i F 83).toInt) (by decide : ((1 : Int32)).toInt = 1) (by omega) (by omega)
      have q89 : (sy_ai F 46).getD ((sy_i F 83) - ((1 : Int32))).toNatClampNeg 0 = (sy_ai F 46).getD (((sy_i F 83).toInt - 1)).toNat 0 := by simp only [nz_c, (nzE n88), (by decide : ((1 : Int32)).toInt = 1)]
      exact j2wo_8_p13 hd F X1 X2 hB (by first | exact g0 | (simp only [nz_c]; exact g0)) (by first | exact g1 | (simp only [nz_c]; exact g1)) (by first | (simp only [nz_c, (nzE n85)]; exact g2) | exact g2 | (rw [(nzE n85)]; exact g2)) (by first | exact ⟨by omega, by omega⟩ | (simp only [nz_c]; exact ⟨by omega, by omega⟩)) (by first | exact g3 | (simp only [nz_c]; exact g3) | (rw [(nzE n86)]; exact g3)) (by first | exact g4 | (simp only [nz_c]; exact g4) | (rw [(nzE n86)]; exact g4)) (by first | exact g5 | (simp only [nz_c]; exact g5)) (by first | (simp only [nz_c, (nzE n88)]; exact ⟨by omega, by omega⟩) | exact ⟨by omega, by omega⟩ | (rw [(nzE n88)]; exact ⟨by omega, by omega⟩)) (fun F1 g  => by rw [q89]; exact k13 g0 g1 g2 g3 g4 g5 F1 (nz_in0 hB [] (fun j hj hn => g j hj (by simp only [List.mem_cons, List.not_mem_nil, or_false, not_or] at hn; exact trivial)) (List.forall_mem_nil _)) (fun j hj hn => g j hj (by simp only [List.mem_cons, List.not_mem_nil, or_false, not_or] at hn; exact trivial)) )
    replace g3 : (-9 : Int) ≤ ((sy_ai F 32).getD ((sy_i F 82).toInt).toNat 0).toInt := by omega
    by_cases g4 : (sy_i F 83).toInt < 32
    · by_cases g5 : ((sy_ai F 32).getD ((sy_i F 82).toInt).toNat 0).toInt < 0
      · have n85 : nzI ((sy_i F 82) + ((1 : Int32))) (((sy_i F 82).toInt + 1)) := nz_add (rfl : (sy_i F 82).toInt = (sy_i F 82).toInt) (by decide : ((1 : Int32)).toInt = 1) (by omega) (by omega)
        have q86 : (sy_ai F 32).getD (sy_i F 82).toNatClampNeg 0 = (sy_ai F 32).getD ((sy_i F 82).toInt).toNat 0 := by simp only [nz_c]
        have n86 : nzI ((sy_ai F 32).getD (sy_i F 82).toNatClampNeg 0) (((sy_ai F 32).getD ((sy_i F 82).toInt).toNat 0).toInt) := congrArg Int32.toInt q86
        have r86 := nz_ba hB (k := 32) (lo := (-2147483648)) (hi := 2147483646) rfl ((sy_i F 82).toInt).toNat
        have n88 : nzI ((((-1) : Int32)) - ((sy_ai F 32).getD (sy_i F 82).toNatClampNeg 0)) (((-1 : Int) - ((sy_ai F 32).getD ((sy_i F 82).toInt).toNat 0).toInt)) := nz_sub (by decide : (((-1) : Int32)).toInt = (-1 : Int)) (nzE n86) (by omega) (by omega)
        have q88 : (((-1) : Int32)) - ((sy_ai F 32).getD (sy_i F 82).toNatClampNeg 0) = (((-1) : Int32)) - ((sy_ai F 32).getD ((sy_i F 82).toInt).toNat 0) := by simp only [nz_c, (nzE n88), (by decide : (((-1) : Int32)).toInt = (-1 : Int))]
        have m88 : nzI ((((-1) : Int32)) - ((sy_ai F 32).getD ((sy_i F 82).toInt).toNat 0)) (((-1 : Int) - ((sy_ai F 32).getD ((sy_i F 82).toInt).toNat 0).toInt)) := (congrArg Int32.toInt q88.symm).trans (nzE n88)
        have w90 : jm_upd (sy_ai F 46) (sy_i F 83).toNatClampNeg ((sy_ai F 45).getD ((((-1) : Int32)) - ((sy_ai F 32).getD (sy_i F 82).toNatClampNeg 0)).toNatClampNeg 0) = jm_upd (sy_ai F 46) ((sy_i F 83).toInt).toNat ((sy_ai F 45).getD (((-1 : Int) - ((sy_ai F 32).getD ((sy_i F 82).toInt).toNat 0).toInt)).toNat 0) := by simp only [nz_c, (nzE n88), (nzE m88), (by decide : (((-1) : Int32)).toInt = (-1 : Int))]
        have n87 : nzI ((sy_i F 82) + ((1 : Int32))) (((sy_i F 82).toInt + 1)) := nz_add (rfl : (sy_i F 82).toInt = (sy_i F 82).toInt) (by decide : ((1 : Int32)).toInt = 1) (by omega) (by omega)
        have n91 : nzI ((sy_i F 83) + ((1 : Int32))) (((sy_i F 83).toInt + 1)) := nz_add (rfl : (sy_i F 83).toInt = (sy_i F 83).toInt) (by decide : ((1 : Int32)).toInt = 1) (by omega) (by omega)
        have n92 : nzI ((sy_i F 84) + ((1 : Int32))) (((sy_i F 84).toInt + 1)) := nz_add (rfl : (sy_i F 84).toInt = (sy_i F 84).toInt) (by decide : ((1 : Int32)).toInt = 1) (by omega) (by omega)
        exact j2wo_8_p14 hd F X1 X2 hB (by first | exact g0 | (simp only [nz_c]; exact g0)) (by first | exact g1 | (simp only [nz_c]; exact g1)) (by first | (simp only [nz_c, (nzE n85)]; exact g2) | exact g2 | (rw [(nzE n85)]; exact g2)) (by first | exact ⟨by omega, by omega⟩ | (simp only [nz_c]; exact ⟨by omega, by omega⟩)) (by first | exact g3 | (simp only [nz_c]; exact g3) | (rw [(nzE n86)]; exact g3)) (by first | exact g4 | (simp only [nz_c]; exact g4)) (by first | exact g5 | (simp only [nz_c]; exact g5) | (rw [(nzE n86)]; exact g5)) (by first | (simp only [nz_c, (nzE n88), (nzE m88)]; exact ⟨by omega, by omega⟩) | exact ⟨by omega, by omega⟩ | (rw [(nzE n88)]; exact ⟨by omega, by omega⟩)) (by first | exact ⟨by omega, by omega⟩ | (simp only [nz_c]; exact ⟨by omega, by omega⟩)) (fun F1 g e46 e82 e83 e84 => k14 g0 g1 g2 g3 g4 g5 F1 (nz_in0 hB [46] (fun j hj hn => g j hj (by simp only [List.mem_cons, List.not_mem_nil, or_false, not_or] at hn; omega)) (List.forall_mem_cons.mpr ⟨fun t ht => (Option.some.inj ht) ▸ (nz_hz2 e46), List.forall_mem_nil _⟩)) (fun j hj hn => g j hj (by simp only [List.mem_cons, List.not_mem_nil, or_false, not_or] at hn; omega)) ((zz_ai e46).trans w90) ((congrArg Int32.toInt (zz_i e82)).trans (nzE n87)) ((zz_i e82).trans (rfl : (sy_i F 82) + ((1 : Int32)) = (sy_i F 82) + ((1 : Int32)))) ((congrArg Int32.toInt (zz_i e83)).trans (nzE n91)) ((zz_i e83).trans (rfl : (sy_i F 83) + ((1 : Int32)) = (sy_i F 83) + ((1 : Int32)))) ((congrArg Int32.toInt (zz_i e84)).trans (nzE n92)) ((zz_i e84).trans (rfl : (sy_i F 84) + ((1 : Int32)) = (sy_i F 84) + ((1 : Int32)))))
      replace g5 : 0 ≤ ((sy_ai F 32).getD ((sy_i F 82).toInt).toNat 0).toInt := by omega
      have n85 : nzI ((sy_i F 82) + ((1 : Int32))) (((sy_i F 82).toInt + 1)) := nz_add (rfl : (sy_i F 82).toInt = (sy_i F 82).toInt) (by decide : ((1 : Int32)).toInt = 1) (by omega) (by omega)
      have q86 : (sy_ai F 32).getD (sy_i F 82).toNatClampNeg 0 = (sy_ai F 32).getD ((sy_i F 82).toInt).toNat 0 := by simp only [nz_c]
      have n86 : nzI ((sy_ai F 32).getD (sy_i F 82).toNatClampNeg 0) (((sy_ai F 32).getD ((sy_i F 82).toInt).toNat 0).toInt) := congrArg Int32.toInt q86
      have r86 := nz_ba hB (k := 32) (lo := (-2147483648)) (hi := 2147483646) rfl ((sy_i F 82).toInt).toNat
      have w88 : jm_upd (sy_ai F 46) (sy_i F 83).toNatClampNeg ((sy_ai F 32).getD (sy_i F 82).toNatClampNeg 0) = jm_upd (sy_ai F 46) ((sy_i F 83).toInt).toNat ((sy_ai F 32).getD ((sy_i F 82).toInt).toNat 0) := by simp only [nz_c]
      have n87 : nzI ((sy_i F 82) + ((1 : Int32))) (((sy_i F 82).toInt + 1)) := nz_add (rfl : (sy_i F 82).toInt = (sy_i F 82).toInt) (by decide : ((1 : Int32)).toInt = 1) (by omega) (by omega)
      have n89 : nzI ((sy_i F 83) + ((1 : Int32))) (((sy_i F 83).toInt + 1)) := nz_add (rfl : (sy_i F 83).toInt = (sy_i F 83).toInt) (by decide : ((1 : Int32)).toInt = 1) (by omega) (by omega)
      have n90 : nzI ((sy_i F 84) + ((1 : Int32))) (((sy_i F 84).toInt + 1)) := nz_add (rfl : (sy_i F 84).toInt = (sy_i F 84).toInt) (by decide : ((1 : Int32)).toInt = 1) (by omega) (by omega)
      exact j2wo_8_p15 hd F X1 X2 hB (by first | exact g0 | (simp only [nz_c]; exact g0)) (by first | exact g1 | (simp only [nz_c]; exact g1)) (by first | (simp only [nz_c, (nzE n85)]; exact g2) | exact g2 | (rw [(nzE n85)]; exact g2)) (by first | exact ⟨by omega, by omega⟩ | (simp only [nz_c]; exact ⟨by omega, by omega⟩)) (by first | exact g3 | (simp only [nz_c]; exact g3) | (rw [(nzE n86)]; exact g3)) (by first | exact g4 | (simp only [nz_c]; exact g4)) (by first | exact g5 | (simp only [nz_c]; exact g5) | (rw [(nzE n86)]; exact g5)) (by first | exact ⟨by omega, by omega⟩ | (simp only [nz_c]; exact ⟨by omega, by omega⟩)) (fun F1 g e46 e82 e83 e84 => k15 g0 g1 g2 g3 g4 g5 F1 (nz_in0 hB [46] (fun j hj hn => g j hj (by simp only [List.mem_cons, List.not_mem_nil, or_false, not_or] at hn; omega)) (List.forall_mem_cons.mpr ⟨fun t ht => (Option.some.inj ht) ▸ (nz_hz2 e46), List.forall_mem_nil _⟩)) (fun j hj hn => g j hj (by simp only [List.mem_cons, List.not_mem_nil, or_false, not_or] at hn; omega)) ((zz_ai e46).trans w88) ((congrArg Int32.toInt (zz_i e82)).trans (nzE n87)) ((zz_i e82).trans (rfl : (sy_i F 82) + ((1 : Int32)) = (sy_i F 82) + ((1 : Int32)))) ((congrArg Int32.toInt (zz_i e83)).trans (nzE n89)) ((zz_i e83).trans (rfl : (sy_i F 83) + ((1 : Int32)) = (sy_i F 83) + ((1 : Int32)))) ((congrArg Int32.toInt (zz_i e84)).trans (nzE n90)) ((zz_i e84).trans (rfl : (sy_i F 84) + ((1 : Int32)) = (sy_i F 84) + ((1 : Int32)))))
    replace g4 : 32 ≤ (sy_i F 83).toInt := by omega
    have n85 : nzI ((sy_i F 82) + ((1 : Int32))) (((sy_i F 82).toInt + 1)) := nz_add (rfl : (sy_i F 82).toInt = (sy_i F 82).toInt) (by decide : ((1 : Int32)).toInt = 1) (by omega) (by omega)
    have q86 : (sy_ai F 32).getD (sy_i F 82).toNatClampNeg 0 = (sy_ai F 32).getD ((sy_i F 82).toInt).toNat 0 := by simp only [nz_c]
    have n86 : nzI ((sy_ai F 32).getD (sy_i F 82).toNatClampNeg 0) (((sy_ai F 32).getD ((sy_i F 82).toInt).toNat 0).toInt) := congrArg Int32.toInt q86
    have r86 := nz_ba hB (k := 32) (lo := (-2147483648)) (hi := 2147483646) rfl ((sy_i F 82).toInt).toNat
    exact j2wo_8_p16 hd F X1 X2 hB (by first | exact g0 | (simp only [nz_c]; exact g0)) (by first | exact g1 | (simp only [nz_c]; exact g1)) (by first | (simp only [nz_c, (nzE n85)]; exact g2) | exact g2 | (rw [(nzE n85)]; exact g2)) (by first | exact ⟨by omega, by omega⟩ | (simp only [nz_c]; exact ⟨by omega, by omega⟩)) (by first | exact g3 | (simp only [nz_c]; exact g3) | (rw [(nzE n86)]; exact g3)) (by first | exact g4 | (simp only [nz_c]; exact g4)) (fun F1 g  => k16 g0 g1 g2 g3 g4 F1 (nz_in0 hB [] (fun j hj hn => g j hj (by simp only [List.mem_cons, List.not_mem_nil, or_false, not_or] at hn; exact trivial)) (List.forall_mem_nil _)) (fun j hj hn => g j hj (by simp only [List.mem_cons, List.not_mem_nil, or_false, not_or] at hn; exact trivial)) )
  replace g2 : 512 ≤ ((sy_i F 82).toInt + 1) := by omega
  have n85 : nzI ((sy_i F 82) + ((1 : Int32))) (((sy_i F 82).toInt + 1)) := nz_add (rfl : (sy_i F 82).toInt = (sy_i F 82).toInt) (by decide : ((1 : Int32)).toInt = 1) (by omega) (by omega)
  exact j2wo_8_p17 hd F X1 X2 hB (by first | exact g0 | (simp only [nz_c]; exact g0)) (by first | exact g1 | (simp only [nz_c]; exact g1)) (by first | (simp only [nz_c, (nzE n85)]; exact g2) | exact g2 | (rw [(nzE n85)]; exact g2)) (fun F1 g  => k17 g0 g1 g2 F1 (nz_in0 hB [] (fun j hj hn => g j hj (by simp only [List.mem_cons, List.not_mem_nil, or_false, not_or] at hn; exact trivial)) (List.forall_mem_nil _)) (fun j hj hn => g j hj (by simp only [List.mem_cons, List.not_mem_nil, or_false, not_or] at hn; exact trivial)) )
theorem j2to_0_p0 {Ls : Nat} {xs : Nat → Int32} {d : Nat} {Q : Option Value → jm_h → Prop} (hd : 1 ≤ d) (F : Nat → sy_d) (X1 X2 : List jm_c) (hB : iv_in F iv_B0)
    (h0 : 0 ≤ (sy_i F 82).toInt ∧ (sy_i F 82).toInt < 6)
    (k : ∀ F1 : Nat → sy_d, (∀ j, j < 82 → True → F1 j = F j) → F1 82 = .inl (.int (sy_i F 82)) → F1 83 = .inl (.int ((sy_ai F 31).getD (sy_i F 82).toNatClampNeg 0)) → hd_W Ls xs d jm_M21 Q (8, sy_dL F1 [none, none, some (.inr (.inl 82))], sy_dS F1 [.inr (.inl 83), .inl (.ref 20), .inl (.ref 38)], sy_dh F1 X1 X2 (iv_H 2), 0, 0)) :
    hd_W Ls xs d jm_M21 Q (0, sy_dL F [some (.inl (.ref 38)), some (.inl (.ref 20)), some (.inr (.inl 82))], sy_dS F [], sy_dh F X1 X2 (iv_H 2), 0, 0) := by
  refine hd_run (s := 2) (nv := 83) (pc := 8) (L := [none, none, some (.inr (.inl 82))]) (S := [.inr (.inl 83), .inl (.ref 20), .inl (.ref 38)]) (uh := hd_ov (iv_id 0 iv_B0) []) (ul := [.inl (.inr (.inl 82)), .inl (.inr (.inl 83))]) (f := true) (sp := [8]) (d0 := 0) (O := []) (T := [(30, [.inr (.inl 82)], [.inr (.inl 31)])]) (P := [(6, .inr (.inl 82), .inl (.ref 6))]) jm_ok21 (by decide +kernel) (by decide +kernel) hd F X1 X2 (fun F' hF hs => ?_)
  have b82 := hd_b (F := F) (F' := F') (k := 82) (hF 82 (by decide))
  have a31 := hd_ba (F := F) (F' := F') (k := 31) (hF 31 (by decide))
  have t83 : sy_dv F' (.inr (.inl 83)) = .int ((sy_ai F 31).getD (sy_i F 82).toNatClampNeg 0) := hd_rd (hs 0 _ rfl) b82 a31
  have hB' : iv_in F' iv_B0 := iv_in_eq hB (fun j hj => hF j (Nat.lt_of_lt_of_le hj (by decide +kernel)))
  refine ⟨List.forall_mem_cons.mpr ⟨hd_pb b82 (by first | exact h0 | exact h0), fun _ h => absurd h List.not_mem_nil⟩, ?_⟩
  refine k _ ?_ ?_ ?_
  · exact fun j hj _ => (hd_keep hB' (Nat.lt_of_lt_of_le hj (by decide +kernel)) (by simp)).trans (hF j (Nat.lt_of_lt_of_le hj (by decide)))
  · exact hd_gi (x := .inr (.inl 82)) (by decide +kernel) b82
  · exact hd_gi (x := .inr (.inl 83)) (by decide +kernel) t83
theorem j2to_0 {Ls : Nat} {xs : Nat → Int32} {d : Nat} {Q : Option Value → jm_h → Prop} (hd : 1 ≤ d) (F : Nat → sy_d) (X1 X2 : List jm_c) (hB : iv_in F iv_B0)
    (a82 : 0 ≤ (sy_i F 82).toInt ∧ (sy_i F 82).toInt ≤ 5)
    (k0 : ∀ F1 : Nat → sy_d, iv_in F1 iv_B0 → (∀ j, j < 82 → j ∉ ([] : List Nat) → F1 j = F j) → (sy_i F1 82).toInt = (sy_i F 82).toInt → sy_i F1 82 = sy_i F 82 → (sy_i F1 83).toInt = ((sy_ai F 31).getD ((sy_i F 82).toInt).toNat 0).toInt → sy_i F1 83 = (sy_ai F 31).getD ((sy_i F 82).toInt).toNat 0 → hd_W Ls xs d jm_M21 Q (8, sy_dL F1 [none, none, some (.inr (.inl 82))], sy_dS F1 [.inr (.inl 83), .inl (.ref 20), .inl (.ref 38)], sy_dh F1 X1 X2 (iv_H 2), 0, 0)) :
    hd_W Ls xs d jm_M21 Q (0, sy_dL F [some (.inl (.ref 38)), some (.inl (.ref 20)), some (.inr (.inl 82))], sy_dS F [], sy_dh F X1 X2 (iv_H 2), 0, 0) := by
  have q83 : (sy_ai F 31).getD (sy_i F 82).toNatClampNeg 0 = (sy_ai F 31).getD ((sy_i F 82).toInt).toNat 0 := by simp only [nz_c]
  have n83 : nzI ((sy_ai F 31).getD (sy_i F 82).toNatClampNeg 0) (((sy_ai F 31).getD ((sy_i F 82).toInt).toNat 0).toInt) := congrArg Int32.toInt q83
  have r83 := nz_ba hB (k := 31) (lo := 0) (hi := 512) rfl ((sy_i F 82).toInt).toNat
  exact j2to_0_p0 hd F X1 X2 hB (by first | exact ⟨by omega, by omega⟩ | (simp only [nz_c]; exact ⟨by omega, by omega⟩)) (fun F1 g e82 e83 => k0 F1 (nz_in0 hB [] (fun j hj hn => g j hj (by simp only [List.mem_cons, List.not_mem_nil, or_false, not_or] at hn; exact trivial)) (List.forall_mem_nil _)) (fun j hj hn => g j hj (by simp only [List.mem_cons, List.not_mem_nil, or_false, not_or] at hn; exact trivial)) ((congrArg Int32.toInt (zz_i e82)).trans (rfl : (sy_i F 82).toInt = (sy_i F 82).toInt)) ((zz_i e82).trans (rfl : sy_i F 82 = sy_i F 82)) ((congrArg Int32.toInt (zz_i e83)).trans (nzE n83)) ((zz_i e83).trans q83))
theorem j2to_11_p0 {Ls : Nat} {xs : Nat → Int32} {d : Nat} {Q : Option Value → jm_h → Prop} (hd : 3 ≤ d) (F : Nat → sy_d) (X1 X2 : List jm_c) (hB : iv_in F iv_B0)
    (h0 : 0 ≤ (sy_i F 82).toInt ∧ (sy_i F 82).toInt < 6)
    (h1 : 0 ≤ (sy_i F 82).toInt ∧ (sy_i F 82).toInt < 6)
    (h2 : (sy_i F 83).toInt < ((([9, 9, 100, 99, 9, 100] : List Int32)).getD (sy_i F 82).toNatClampNeg 0).toInt)
    (h3 : ((([0, (-9), 0, 0, (-9), 0] : List Int32)).getD (sy_i F 82).toNatClampNeg 0).toInt < (sy_i F 83).toInt)
    (k : ∀ F1 : Nat → sy_d, (∀ j, j < 82 → True → F1 j = F j) → Q (some (.int (sy_i F 83))) (sy_dh F1 X1 X2 (iv_H 2))) :
    hd_W Ls xs d jm_M21 Q (11, sy_dL F [none, none, some (.inr (.inl 82))], sy_dS F [.inr (.inl 83)], sy_dh F X1 X2 (iv_H 2), 0, 0) := by
  refine hd_ret (s := 2) (nv := 84) (v := some (.inr (.inl 83))) (uh := hd_ov (iv_id 0 iv_B0) []) (f := false) (sp := []) (d0 := 2) (O := [true, true]) (T := [(30, [.inr (.inl 82)], [.inl (.inl [0, (-9), 0, 0, (-9), 0])]), (30, [.inr (.inl 82)], [.inl (.inl [9, 9, 100, 99, 9, 100])])]) (P := [(6, .inr (.inl 82), .inl (.ref 6)), (6, .inr (.inl 82), .inl (.ref 6)), (2, .inr (.inl 83), .inr (.inl 85)), (2, .inr (.inl 84), .inr (.inl 83))]) jm_ok21 (by decide +kernel) (by decide +kernel) hd F X1 X2 (fun F' hF hs => ?_)
  have b82 := hd_b (F := F) (F' := F') (k := 82) (hF 82 (by decide))
  have b83 := hd_b (F := F) (F' := F') (k := 83) (hF 83 (by decide))
  have t85 : sy_dv F' (.inr (.inl 85)) = .int ((([9, 9, 100, 99, 9, 100] : List Int32)).getD (sy_i F 82).toNatClampNeg 0) := hd_rd (hs 1 _ rfl) b82 rfl
  have t84 : sy_dv F' (.inr (.inl 84)) = .int ((([0, (-9), 0, 0, (-9), 0] : List Int32)).getD (sy_i F 82).toNatClampNeg 0) := hd_rd (hs 0 _ rfl) b82 rfl
  have hB' : iv_in F' iv_B0 := iv_in_eq hB (fun j hj => hF j (Nat.lt_of_lt_of_le hj (by decide +kernel)))
  have hk := k (sy_cm F' (hd_ov (iv_id 0 iv_B0) [] ++ [])) (fun j hj _ => (hd_keep hB' (Nat.lt_of_lt_of_le hj (by decide +kernel)) (by simp)).trans (hF j (Nat.lt_of_lt_of_le hj (by decide))))
  refine ⟨List.forall_mem_cons.mpr ⟨hd_pb b82 (by first | exact h0 | exact h0), List.forall_mem_cons.mpr ⟨hd_pb b82 (by first | exact h1 | exact h1), List.forall_mem_cons.mpr ⟨hd_p2 b83 t85 h2, List.forall_mem_cons.mpr ⟨hd_p2 t84 b83 h3, fun _ h => absurd h List.not_mem_nil⟩⟩⟩⟩, ?_⟩
  show Q (some (sy_dv F' (.inr (.inl 83)))) _
  rw [b83]
  exact hk
theorem j2to_11_p1 {Ls : Nat} {xs : Nat → Int32} {d : Nat} {Q : Option Value → jm_h → Prop} (hd : 3 ≤ d) (F : Nat → sy_d) (X1 X2 : List jm_c) (hB : iv_in F iv_B0)
    (h0 : 0 ≤ (sy_i F 82).toInt ∧ (sy_i F 82).toInt < 6)
    (h1 : 0 ≤ (sy_i F 82).toInt ∧ (sy_i F 82).toInt < 6)
    (h2 : (sy_i F 83).toInt < ((([9, 9, 100, 99, 9, 100] : List Int32)).getD (sy_i F 82).toNatClampNeg 0).toInt)
    (h3 : (sy_i F 83).toInt ≤ ((([0, (-9), 0, 0, (-9), 0] : List Int32)).getD (sy_i F 82).toNatClampNeg 0).toInt)
    (k : ∀ F1 : Nat → sy_d, (∀ j, j < 82 → True → F1 j = F j) → Q (some (.int ((([0, (-9), 0, 0, (-9), 0] : List Int32)).getD (sy_i F 82).toNatClampNeg 0))) (sy_dh F1 X1 X2 (iv_H 2))) :
    hd_W Ls xs d jm_M21 Q (11, sy_dL F [none, none, some (.inr (.inl 82))], sy_dS F [.inr (.inl 83)], sy_dh F X1 X2 (iv_H 2), 0, 0) := by
  refine hd_ret (s := 2) (nv := 84) (v := some (.inr (.inl 84))) (uh := hd_ov (iv_id 0 iv_B0) []) (f := false) (sp := []) (d0 := 2) (O := [true, false]) (T := [(30, [.inr (.inl 82)], [.inl (.inl [0, (-9), 0, 0, (-9), 0])]), (30, [.inr (.inl 82)], [.inl (.inl [9, 9, 100, 99, 9, 100])])]) (P := [(6, .inr (.inl 82), .inl (.ref 6)), (6, .inr (.inl 82), .inl (.ref 6)), (2, .inr (.inl 83), .inr (.inl 85)), (3, .inr (.inl 84), .inr (.inl 83))]) jm_ok21 (by decide +kernel) (by decide +kernel) hd F X1 X2 (fun F' hF hs => ?_)
  have b82 := hd_b (F := F) (F' := F') (k := 82) (hF 82 (by decide))
  have b83 := hd_b (F := F) (F' := F') (k := 83) (hF 83 (by decide))
  have t85 : sy_dv F' (.inr (.inl 85)) = .int ((([9, 9, 100, 99, 9, 100] : List Int32)).getD (sy_i F 82).toNatClampNeg 0) := hd_rd (hs 1 _ rfl) b82 rfl
  have t84 : sy_dv F' (.inr (.inl 84)) = .int ((([0, (-9), 0, 0, (-9), 0] : List Int32)).getD (sy_i F 82).toNatClampNeg 0) := hd_rd (hs 0 _ rfl) b82 rfl
  have hB' : iv_in F' iv_B0 := iv_in_eq hB (fun j hj => hF j (Nat.lt_of_lt_of_le hj (by decide +kernel)))
  have hk := k (sy_cm F' (hd_ov (iv_id 0 iv_B0) [] ++ [])) (fun j hj _ => (hd_keep hB' (Nat.lt_of_lt_of_le hj (by decide +kernel)) (by simp)).trans (hF j (Nat.lt_of_lt_of_le hj (by decide))))
  refine ⟨List.forall_mem_cons.mpr ⟨hd_pb b82 (by first | exact h0 | exact h0), List.forall_mem_cons.mpr ⟨hd_pb b82 (by first | exact h1 | exact h1), List.forall_mem_cons.mpr ⟨hd_p2 b83 t85 h2, List.forall_mem_cons.mpr ⟨hd_p3 t84 b83 h3, fun _ h => absurd h List.not_mem_nil⟩⟩⟩⟩, ?_⟩
  show Q (some (sy_dv F' (.inr (.inl 84)))) _
  rw [t84]
  exact hk
theorem j2to_11_p2 {Ls : Nat} {xs : Nat → Int32} {d : Nat} {Q : Option Value → jm_h → Prop} (hd : 3 ≤ d) (F : Nat → sy_d) (X1 X2 : List jm_c) (hB : iv_in F iv_B0)
    (h0 : 0 ≤ (sy_i F 82).toInt ∧ (sy_i F 82).toInt < 6)
    (h1 : 0 ≤ (sy_i F 82).toInt ∧ (sy_i F 82).toInt < 6)
    (h2 : ((([9, 9, 100, 99, 9, 100] : List Int32)).getD (sy_i F 82).toNatClampNeg 0).toInt ≤ (sy_i F 83).toInt)
    (h3 : ((([0, (-9), 0, 0, (-9), 0] : List Int32)).getD (sy_i F 82).toNatClampNeg 0).toInt < ((([9, 9, 100, 99, 9, 100] : List Int32)).getD (sy_i F 82).toNatClampNeg 0).toInt)
    (k : ∀ F1 : Nat → sy_d, (∀ j, j < 82 → True → F1 j = F j) → Q (some (.int ((([9, 9, 100, 99, 9, 100] : List Int32)).getD (sy_i F 82).toNatClampNeg 0))) (sy_dh F1 X1 X2 (iv_H 2))) :
    hd_W Ls xs d jm_M21 Q (11, sy_dL F [none, none, some (.inr (.inl 82))], sy_dS F [.inr (.inl 83)], sy_dh F X1 X2 (iv_H 2), 0, 0) := by
  refine hd_ret (s := 2) (nv := 84) (v := some (.inr (.inl 85))) (uh := hd_ov (iv_id 0 iv_B0) []) (f := false) (sp := []) (d0 := 2) (O := [false, true]) (T := [(30, [.inr (.inl 82)], [.inl (.inl [0, (-9), 0, 0, (-9), 0])]), (30, [.inr (.inl 82)], [.inl (.inl [9, 9, 100, 99, 9, 100])])]) (P := [(6, .inr (.inl 82), .inl (.ref 6)), (6, .inr (.inl 82), .inl (.ref 6)), (3, .inr (.inl 83), .inr (.inl 85)), (2, .inr (.inl 84), .inr (.inl 85))]) jm_ok21 (by decide +kernel) (by decide +kernel) hd F X1 X2 (fun F' hF hs => ?_)
  have b82 := hd_b (F := F) (F' := F') (k := 82) (hF 82 (by decide))
  have b83 := hd_b (F := F) (F' := F') (k := 83) (hF 83 (by decide))
  have t85 : sy_dv F' (.inr (.inl 85)) = .int ((([9, 9, 100, 99, 9, 100] : List Int32)).getD (sy_i F 82).toNatClampNeg 0) := hd_rd (hs 1 _ rfl) b82 rfl
  have t84 : sy_dv F' (.inr (.inl 84)) = .int ((([0, (-9), 0, 0, (-9), 0] : List Int32)).getD (sy_i F 82).toNatClampNeg 0) := hd_rd (hs 0 _ rfl) b82 rfl
  have hB' : iv_in F' iv_B0 := iv_in_eq hB (fun j hj => hF j (Nat.lt_of_lt_of_le hj (by decide +kernel)))
  have hk := k (sy_cm F' (hd_ov (iv_id 0 iv_B0) [] ++ [])) (fun j hj _ => (hd_keep hB' (Nat.lt_of_lt_of_le hj (by decide +kernel)) (by simp)).trans (hF j (Nat.lt_of_lt_of_le hj (by decide))))
  refine ⟨List.forall_mem_cons.mpr ⟨hd_pb b82 (by first | exact h0 | exact h0), List.forall_mem_cons.mpr ⟨hd_pb b82 (by first | exact h1 | exact h1), List.forall_mem_cons.mpr ⟨hd_p3 b83 t85 h2, List.forall_mem_cons.mpr ⟨hd_p2 t84 t85 h3, fun _ h => absurd h List.not_mem_nil⟩⟩⟩⟩, ?_⟩
  show Q (some (sy_dv F' (.inr (.inl 85)))) _
  rw [t85]
  exact hk
theorem j2to_11_p3 {Ls : Nat} {xs : Nat → Int32} {d : Nat} {Q : Option Value → jm_h → Prop} (hd : 3 ≤ d) (F : Nat → sy_d) (X1 X2 : List jm_c) (hB : iv_in F iv_B0)
    (h0 : 0 ≤ (sy_i F 82).toInt ∧ (sy_i F 82).toInt < 6)
    (h1 : 0 ≤ (sy_i F 82).toInt ∧ (sy_i F 82).toInt < 6)
    (h2 : ((([9, 9, 100, 99, 9, 100] : List Int32)).getD (sy_i F 82).toNatClampNeg 0).toInt ≤ (sy_i F 83).toInt)
    (h3 : ((([9, 9, 100, 99, 9, 100] : List Int32)).getD (sy_i F 82).toNatClampNeg 0).toInt ≤ ((([0, (-9), 0, 0, (-9), 0] : List Int32)).getD (sy_i F 82).toNatClampNeg 0).toInt)
    (k : ∀ F1 : Nat → sy_d, (∀ j, j < 82 → True → F1 j = F j) → Q (some (.int ((([0, (-9), 0, 0, (-9), 0] : List Int32)).getD (sy_i F 82).toNatClampNeg 0))) (sy_dh F1 X1 X2 (iv_H 2))) :
    hd_W Ls xs d jm_M21 Q (11, sy_dL F [none, none, some (.inr (.inl 82))], sy_dS F [.inr (.inl 83)], sy_dh F X1 X2 (iv_H 2), 0, 0) := by
  refine hd_ret (s := 2) (nv := 84) (v := some (.inr (.inl 84))) (uh := hd_ov (iv_id 0 iv_B0) []) (f := false) (sp := []) (d0 := 2) (O := [false, false]) (T := [(30, [.inr (.inl 82)], [.inl (.inl [0, (-9), 0, 0, (-9), 0])]), (30, [.inr (.inl 82)], [.inl (.inl [9, 9, 100, 99, 9, 100])])]) (P := [(6, .inr (.inl 82), .inl (.ref 6)), (6, .inr (.inl 82), .inl (.ref 6)), (3, .inr (.inl 83), .inr (.inl 85)), (3, .inr (.inl 84), .inr (.inl 85))]) jm_ok21 (by decide +kernel) (by decide +kernel) hd F X1 X2 (fun F' hF hs => ?_)
  have b82 := hd_b (F := F) (F' := F') (k := 82) (hF 82 (by decide))
  have b83 := hd_b (F := F) (F' := F') (k := 83) (hF 83 (by decide))
  have t85 : sy_dv F' (.inr (.inl 85)) = .int ((([9, 9, 100, 99, 9, 100] : List Int32)).getD (sy_i F 82).toNatClampNeg 0) := hd_rd (hs 1 _ rfl) b82 rfl
  have t84 : sy_dv F' (.inr (.inl 84)) = .int ((([0, (-9), 0, 0, (-9), 0] : List Int32)).getD (sy_i F 82).toNatClampNeg 0) := hd_rd (hs 0 _ rfl) b82 rfl
  have hB' : iv_in F' iv_B0 := iv_in_eq hB (fun j hj => hF j (Nat.lt_of_lt_of_le hj (by decide +kernel)))
  have hk := k (sy_cm F' (hd_ov (iv_id 0 iv_B0) [] ++ [])) (fun j hj _ => (hd_keep hB' (Nat.lt_of_lt_of_le hj (by decide +kernel)) (by simp)).trans (hF j (Nat.lt_of_lt_of_le hj (by decide))))
  refine ⟨List.forall_mem_cons.mpr ⟨hd_pb b82 (by first | exact h0 | exact h0), List.forall_mem_cons.mpr ⟨hd_pb b82 (by first | exact h1 | exact h1), List.forall_mem_cons.mpr ⟨hd_p3 b83 t85 h2, List.forall_mem_cons.mpr ⟨hd_p3 t84 t85 h3, fun _ h => absurd h List.not_mem_nil⟩⟩⟩⟩, ?_⟩
  show Q (some (sy_dv F' (.inr (.inl 84)))) _
  rw [t84]
  exact hk
theorem j2to_11 {Ls : Nat} {xs : Nat → Int32} {d : Nat} {Q : Option Value → jm_h → Prop} (hd : 3 ≤ d) (F : Nat → sy_d) (X1 X2 : List jm_c) (hB : iv_in F iv_B0)
    (a82 : 0 ≤ (sy_i F 82).toInt ∧ (sy_i F 82).toInt ≤ 5)
    (k0 : (sy_i F 83).toInt < ((([9, 9, 100, 99, 9, 100] : List Int32)).getD ((sy_i F 82).toInt).toNat 0).toInt → ((([0, (-9), 0, 0, (-9), 0] : List Int32)).getD ((sy_i F 82).toInt).toNat 0).toInt < (sy_i F 83).toInt → ∀ F1 : Nat → sy_d, iv_in F1 iv_B0 → (∀ j, j < 82 → j ∉ ([] : List Nat) → F1 j = F j) → Q (some (.int (sy_i F 83))) (sy_dh F1 X1 X2 (iv_H 2)))
    (k1 : (sy_i F 83).toInt < ((([9, 9, 100, 99, 9, 100] : List Int32)).getD ((sy_i F 82).toInt).toNat 0).toInt → (sy_i F 83).toInt ≤ ((([0, (-9), 0, 0, (-9), 0] : List Int32)).getD ((sy_i F 82).toInt).toNat 0).toInt → ∀ F1 : Nat → sy_d, iv_in F1 iv_B0 → (∀ j, j < 82 → j ∉ ([] : List Nat) → F1 j = F j) → Q (some (.int ((([0, (-9), 0, 0, (-9), 0] : List Int32)).getD ((sy_i F 82).toInt).toNat 0))) (sy_dh F1 X1 X2 (iv_H 2)))
    (k2 : ((([9, 9, 100, 99, 9, 100] : List Int32)).getD ((sy_i F 82).toInt).toNat 0).toInt ≤ (sy_i F 83).toInt → ((([0, (-9), 0, 0, (-9), 0] : List Int32)).getD ((sy_i F 82).toInt).toNat 0).toInt < ((([9, 9, 100, 99, 9, 100] : List Int32)).getD ((sy_i F 82).toInt).toNat 0).toInt → ∀ F1 : Nat → sy_d, iv_in F1 iv_B0 → (∀ j, j < 82 → j ∉ ([] : List Nat) → F1 j = F j) → Q (some (.int ((([9, 9, 100, 99, 9, 100] : List Int32)).getD ((sy_i F 82).toInt).toNat 0))) (sy_dh F1 X1 X2 (iv_H 2)))
    (k3 : ((([9, 9, 100, 99, 9, 100] : List Int32)).getD ((sy_i F 82).toInt).toNat 0).toInt ≤ (sy_i F 83).toInt → ((([9, 9, 100, 99, 9, 100] : List Int32)).getD ((sy_i F 82).toInt).toNat 0).toInt ≤ ((([0, (-9), 0, 0, (-9), 0] : List Int32)).getD ((sy_i F 82).toInt).toNat 0).toInt → ∀ F1 : Nat → sy_d, iv_in F1 iv_B0 → (∀ j, j < 82 → j ∉ ([] : List Nat) → F1 j = F j) → Q (some (.int ((([0, (-9), 0, 0, (-9), 0] : List Int32)).getD ((sy_i F 82).toInt).toNat 0))) (sy_dh F1 X1 X2 (iv_H 2))) :
    hd_W Ls xs d jm_M21 Q (11, sy_dL F [none, none, some (.inr (.inl 82))], sy_dS F [.inr (.inl 83)], sy_dh F X1 X2 (iv_H 2), 0, 0) := by
  by_cases g0 : (sy_i F 83).toInt < ((([9, 9, 100, 99, 9, 100] : List Int32)).getD ((sy_i F 82).toInt).toNat 0).toInt
  · by_cases g1 : ((([0, (-9), 0, 0, (-9), 0] : List Int32)).getD ((sy_i F 82).toInt).toNat 0).toInt < (sy_i F 83).toInt
    · have q85 : (([9, 9, 100, 99, 9, 100] : List Int32)).getD (sy_i F 82).toNatClampNeg 0 = (([9, 9, 100, 99, 9, 100] : List Int32)).getD ((sy_i F 82).toInt).toNat 0 := by simp only [nz_c]
      have n85 : nzI ((([9, 9, 100, 99, 9, 100] : List Int32)).getD (sy_i F 82).toNatClampNeg 0) (((([9, 9, 100, 99, 9, 100] : List Int32)).getD ((sy_i F 82).toInt).toNat 0).toInt) := congrArg Int32.toInt q85
      have q84 : (([0, (-9), 0, 0, (-9), 0] : List Int32)).getD (sy_i F 82).toNatClampNeg 0 = (([0, (-9), 0, 0, (-9), 0] : List Int32)).getD ((sy_i F 82).toInt).toNat 0 := by simp only [nz_c]
      have n84 : nzI ((([0, (-9), 0, 0, (-9), 0] : List Int32)).getD (sy_i F 82).toNatClampNeg 0) (((([0, (-9), 0, 0, (-9), 0] : List Int32)).getD ((sy_i F 82).toInt).toNat 0).toInt) := congrArg Int32.toInt q84
      exact j2to_11_p0 hd F X1 X2 hB (by first | exact ⟨by omega, by omega⟩ | (simp only [nz_c]; exact ⟨by omega, by omega⟩)) (by first | exact ⟨by omega, by omega⟩ | (simp only [nz_c]; exact ⟨by omega, by omega⟩)) (by first | exact g0 | (simp only [nz_c]; exact g0) | (rw [(nzE n85)]; exact g0)) (by first | exact g1 | (simp only [nz_c]; exact g1) | (rw [(nzE n84)]; exact g1)) (fun F1 g  => by rw [(rfl : sy_i F 83 = sy_i F 83)]; exact k0 g0 g1 F1 (nz_in0 hB [] (fun j hj hn => g j hj (by simp only [List.mem_cons, List.not_mem_nil, or_false, not_or] at hn; exact trivial)) (List.forall_mem_nil _)) (fun j hj hn => g j hj (by simp only [List.mem_cons, List.not_mem_nil, or_false, not_or] at hn; exact trivial)) )
    replace g1 : (sy_i F 83).toInt ≤ ((([0, (-9), 0, 0, (-9), 0] : List Int32)).getD ((sy_i F 82).toInt).toNat 0).toInt := by omega
    have q85 : (([9, 9, 100, 99, 9, 100] : List Int32)).getD (sy_i F 82).toNatClampNeg 0 = (([9, 9, 100, 99, 9, 100] : List Int32)).getD ((sy_i F 82).toInt).toNat 0 := by simp only [nz_c]
    have n85 : nzI ((([9, 9, 100, 99, 9, 100] : List Int32)).getD (sy_i F 82).toNatClampNeg 0) (((([9, 9, 100, 99, 9, 100] : List Int32)).getD ((sy_i F 82).toInt).toNat 0).toInt) := congrArg Int32.toInt q85
    have q84 : (([0, (-9), 0, 0, (-9), 0] : List Int32)).getD (sy_i F 82).toNatClampNeg 0 = (([0, (-9), 0, 0, (-9), 0] : List Int32)).getD ((sy_i F 82).toInt).toNat 0 := by simp only [nz_c]
    have n84 : nzI ((([0, (-9), 0, 0, (-9), 0] : List Int32)).getD (sy_i F 82).toNatClampNeg 0) (((([0, (-9), 0, 0, (-9), 0] : List Int32)).getD ((sy_i F 82).toInt).toNat 0).toInt) := congrArg Int32.toInt q84
    exact j2to_11_p1 hd F X1 X2 hB (by first | exact ⟨by omega, by omega⟩ | (simp only [nz_c]; exact ⟨by omega, by omega⟩)) (by first | exact ⟨by omega, by omega⟩ | (simp only [nz_c]; exact ⟨by omega, by omega⟩)) (by first | exact g0 | (simp only [nz_c]; exact g0) | (rw [(nzE n85)]; exact g0)) (by first | exact g1 | (simp only [nz_c]; exact g1) | (rw [(nzE n84)]; exact g1)) (fun F1 g  => by rw [q84]; exact k1 g0 g1 F1 (nz_in0 hB [] (fun j hj hn => g j hj (by simp only [List.mem_cons, List.not_mem_nil, or_false, not_or] at hn; exact trivial)) (List.forall_mem_nil _)) (fun j hj hn => g j hj (by simp only [List.mem_cons, List.not_mem_nil, or_false, not_or] at hn; exact trivial)) )
  replace g0 : ((([9, 9, 100, 99, 9, 100] : List Int32)).getD ((sy_i F 82).toInt).toNat 0).toInt ≤ (sy_i F 83).toInt := by omega
  by_cases g1 : ((([0, (-9), 0, 0, (-9), 0] : List Int32)).getD ((sy_i F 82).toInt).toNat 0).toInt < ((([9, 9, 100, 99, 9, 100] : List Int32)).getD ((sy_i F 82).toInt).toNat 0).toInt
  · have q85 : (([9, 9, 100, 99, 9, 100] : List Int32)).getD (sy_i F 82).toNatClampNeg 0 = (([9, 9, 100, 99, 9, 100] : List Int32)).getD ((sy_i F 82).toInt).toNat 0 := by simp only [nz_c]
    have n85 : nzI ((([9, 9, 100, 99, 9, 100] : List Int32)).getD (sy_i F 82).toNatClampNeg 0) (((([9, 9, 100, 99, 9, 100] : List Int32)).getD ((sy_i F 82).toInt).toNat 0).toInt) := congrArg Int32.toInt q85
    have q84 : (([0, (-9), 0, 0, (-9), 0] : List Int32)).getD (sy_i F 82).toNatClampNeg 0 = (([0, (-9), 0, 0, (-9), 0] : List Int32)).getD ((sy_i F 82).toInt).toNat 0 := by simp only [nz_c]
    have n84 : nzI ((([0, (-9), 0, 0, (-9), 0] : List Int32)).getD (sy_i F 82).toNatClampNeg 0) (((([0, (-9), 0, 0, (-9), 0] : List Int32)).getD ((sy_i F 82).toInt).toNat 0).toInt) := congrArg Int32.toInt q84
    exact j2to_11_p2 hd F X1 X2 hB (by first | exact ⟨by omega, by omega⟩ | (simp only [nz_c]; exact ⟨by omega, by omega⟩)) (by first | exact ⟨by omega, by omega⟩ | (simp only [nz_c]; exact ⟨by omega, by omega⟩)) (by first | exact g0 | (simp only [nz_c]; exact g0) | (rw [(nzE n85)]; exact g0)) (by first | exact g1 | (simp only [nz_c]; exact g1) | (rw [(nzE n84)]; exact g1) | (rw [(nzE n85)]; exact g1) | (rw [(nzE n84), (nzE n85)]; exact g1)) (fun F1 g  => by rw [q85]; exact k2 g0 g1 F1 (nz_in0 hB [] (fun j hj hn => g j hj (by simp only [List.mem_cons, List.not_mem_nil, or_false, not_or] at hn; exact trivial)) (List.forall_mem_nil _)) (fun j hj hn => g j hj (by simp only [List.mem_cons, List.not_mem_nil, or_false, not_or] at hn; exact trivial)) )
  replace g1 : ((([9, 9, 100, 99, 9, 100] : List Int32)).getD ((sy_i F 82).toInt).toNat 0).toInt ≤ ((([0, (-9), 0, 0, (-9), 0] : List Int32)).getD ((sy_i F 82).toInt).toNat 0).toInt := by omega
  have q85 : (([9, 9, 100, 99, 9, 100] : List Int32)).getD (sy_i F 82).toNatClampNeg 0 = (([9, 9, 100, 99, 9, 100] : List Int32)).getD ((sy_i F 82).toInt).toNat 0 := by simp only [nz_c]
  have n85 : nzI ((([9, 9, 100, 99, 9, 100] : List Int32)).getD (sy_i F 82).toNatClampNeg 0) (((([9, 9, 100, 99, 9, 100] : List Int32)).getD ((sy_i F 82).toInt).toNat 0).toInt) := congrArg Int32.toInt q85
  have q84 : (([0, (-9), 0, 0, (-9), 0] : List Int32)).getD (sy_i F 82).toNatClampNeg 0 = (([0, (-9), 0, 0, (-9), 0] : List Int32)).getD ((sy_i F 82).toInt).toNat 0 := by simp only [nz_c]
  have n84 : nzI ((([0, (-9), 0, 0, (-9), 0] : List Int32)).getD (sy_i F 82).toNatClampNeg 0) (((([0, (-9), 0, 0, (-9), 0] : List Int32)).getD ((sy_i F 82).toInt).toNat 0).toInt) := congrArg Int32.toInt q84
  exact j2to_11_p3 hd F X1 X2 hB (by first | exact ⟨by omega, by omega⟩ | (simp only [nz_c]; exact ⟨by omega, by omega⟩)) (by first | exact ⟨by omega, by omega⟩ | (simp only [nz_c]; exact ⟨by omega, by omega⟩)) (by first | exact g0 | (simp only [nz_c]; exact g0) | (rw [(nzE n85)]; exact g0)) (by first | exact g1 | (simp only [nz_c]; exact g1) | (rw [(nzE n84)]; exact g1) | (rw [(nzE n85)]; exact g1) | (rw [(nzE n84), (nzE n85)]; exact g1)) (fun F1 g  => by rw [q84]; exact k3 g0 g1 F1 (nz_in0 hB [] (fun j hj hn => g j hj (by simp only [List.mem_cons, List.not_mem_nil, or_false, not_or] at hn; exact trivial)) (List.forall_mem_nil _)) (fun j hj hn => g j hj (by simp only [List.mem_cons, List.not_mem_nil, or_false, not_or] at hn; exact trivial)) )
end
section
/-! ===== the class: a law worked out, and told (shape 2) ===== -/
section W2
variable {Ls : Nat} {xs : Nat → Int32} (F : Nat → sy_d) (X1 X2 : List jm_c)
theorem j2wo_E {Q : Option Value → jm_h → Prop} (k : Nat) {s : Int} (hs : 0 ≤ s) : ∀ (r : List rO) (d e : Nat) (S : List Int32) (c : Int) (F1 : Nat → sy_d), woI F s c S F1 → s ≤ c → c + r.length < 512 → clc (sy_ai F 32) c.toNat r.length = r.map (cell k) → wfR r d e → d ≤ S.length → S.length ≤ d + 1 → d ≤ 15 →
    (evR (mkv k (v45 F)) r S = none → ∀ F2 : Nat → sy_d, qC [46] F F2 → Q (some (.int 0)) (sy_dh F2 X1 X2 (iv_H 2))) →
    (∀ (S' : List Int32) (F2 : Nat → sy_d), evR (mkv k (v45 F)) r S = some S' → woI F s (c + r.length) S' F2 → hd_W Ls xs 2 jm_M22 Q (8, sy_dL F2 [some (.inl (.ref 38)), some (.inl (.ref 20)), none, some (.inr (.inl 82)), some (.inr (.inl 83)), some (.inr (.inl 84)), none], sy_dS F2 [], sy_dh F2 X1 X2 (iv_H 2), 0, 0)) →
    hd_W Ls xs 2 jm_M22 Q (8, sy_dL F1 [some (.inl (.ref 38)), some (.inl (.ref 20)), none, some (.inr (.inl 82)), some (.inr (.inl 83)), some (.inr (.inl 84)), none], sy_dS F1 [], sy_dh F1 X1 X2 (iv_H 2), 0, 0)
  | [], d, e, S, c, F1, hI, _, _, _, _, _, _, _, _, hk => hk S F1 rfl (by rw [show c + ((([] : List rO).length : Nat) : Int) = c by simp]; exact hI)
  | o :: r, d, e, S, c, F1, hI, hsc, hc, hcl, hw, hd1, hd2, hd3, hn, hk => by
    obtain ⟨hq, e82, e83, e84, hst⟩ := hI
    have hl : (o :: r).length = r.length + 1 := rfl
    rw [hl] at hc hcl hk
    rw [clc_cons] at hcl
    have hx : ((sy_ai F1 32).getD (sy_i F1 82).toInt.toNat 0).toInt = cell k o := by
      rw [qq_a hq (by decide) (by decide), e82]
      exact (List.cons.inj hcl).1
    have hr : clc (sy_ai F 32) (c + 1).toNat r.length = r.map (cell k) := by
      rw [show (c + 1).toNat = c.toNat + 1 by omega]
      exact (List.cons.inj hcl).2
    have hk' : ∀ (S' : List Int32) (F2 : Nat → sy_d), evR (mkv k (v45 F)) (o :: r) S = some S' → woI F s (c + 1 + r.length) S' F2 → hd_W Ls xs 2 jm_M22 Q (8, sy_dL F2 [some (.inl (.ref 38)), some (.inl (.ref 20)), none, some (.inr (.inl 82)), some (.inr (.inl 83)), some (.inr (.inl 84)), none], sy_dS F2 [], sy_dh F2 X1 X2 (iv_H 2), 0, 0) := fun S' F2 h1 h2 => hk S' F2 h1 (by rw [show c + ((r.length + 1 : Nat) : Int) = c + 1 + r.length by omega]; exact h2)
    obtain ⟨⟨w0, w1, w2⟩, w3, w4⟩ := hw
    by_cases z0 : o.1 < 2
    · obtain ⟨w5, w6⟩ := w3 z0
      -- a number, a var
      have hcell : -9 ≤ cell k o := by
        unfold cell
        by_cases q0 : o.1 = 0
        · rw [if_pos q0]
          have := w1 q0
          omega
        · rw [if_neg q0, if_pos (by omega)]
          have := w2 (by omega)
          split <;> omega
      have push : ∀ (x : Int32) (F2 : Nat → sy_d), iv_in F2 iv_B0 → (∀ j, j < 82 → j ∉ ([46] : List Nat) → F2 j = F1 j) → sy_ai F2 46 = jm_upd (sy_ai F1 46) (sy_i F1 83).toInt.toNat x → (sy_i F2 82).toInt = (sy_i F1 82).toInt + 1 → (sy_i F2 83).toInt = (sy_i F1 83).toInt + 1 → (sy_i F2 84).toInt = (sy_i F1 84).toInt + 1 → evR (mkv k (v45 F)) (o :: r) S = evR (mkv k (v45 F)) r (x :: S) → hd_W Ls xs 2 jm_M22 Q (8, sy_dL F2 [some (.inl (.ref 38)), some (.inl (.ref 20)), none, some (.inr (.inl 82)), some (.inr (.inl 83)), some (.inr (.inl 84)), none], sy_dS F2 [], sy_dh F2 X1 X2 (iv_H 2), 0, 0) := fun x F2 hb g a46 f82 f83 f84 hev => by
        refine j2wo_E k hs r (d + 1) e (x :: S) (c + 1) F2 ⟨qq_on hq hb g (by decide), by omega, by simp only [List.length_cons]; omega, by omega, by rw [a46]; exact stq_put (by omega) hst⟩ (by omega) (by omega) hr w6 (by simp only [List.length_cons]; omega) (by simp only [List.length_cons]; omega) (by omega) ?_ ?_
        · rw [← hev]
          exact hn
        · rw [← hev]
          exact hk'
      refine j2wo_8 (by decide) F1 X1 X2 hq.1 (by omega) (by omega) (by omega) ?_ ?_ ?_ ?_ ?_ ?_ ?_ ?_ ?_ ?_ ?_ ?_ ?_ ?_ ?_ ?_ ?_ ?_
      · intros; omega
      iterate 13
        intros
        exfalso
        omega
      · intro c0 c1 c2 c3 c4 c5 F2 hb g a46 f82 i82 f83 i83 f84 i84
        -- a var that is told
        have k1 : o.1 = 1 := by
          by_cases q0 : o.1 = 0
          · have := w1 q0
            have : cell k o = o.2 := by unfold cell; rw [if_pos q0]
            omega
          · omega
        have h2 := w2 k1
        have hc2 : cell k o = if tvs k o.2 = true then -1 - o.2 else 0 := by
          unfold cell
          rw [if_neg (by omega), if_pos k1]
        have ht : tvs k o.2 = true := by
          by_cases q : tvs k o.2 = true
          · exact q
          · rw [if_neg q] at hc2
            omega
        rw [if_pos ht] at hc2
        refine push _ F2 hb g a46 f82 f83 f84 ?_
        rw [evR_1 k1]
        congr 2
        have eo : ((o.2.toNat : Nat) : Int) = o.2 := by omega
        have en : ((-1 : Int) - ((sy_ai F1 32).getD (sy_i F1 82).toInt.toNat 0).toInt).toNat = o.2.toNat := by omega
        rw [en, mkv_t (by rw [eo]; exact ht), qq_a hq (by decide) (by decide)]
        rfl
      · intro c0 c1 c2 c3 c4 c5 F2 hb g a46 f82 i82 f83 i83 f84 i84
        refine push _ F2 hb g a46 f82 f83 f84 ?_
        by_cases q0 : o.1 = 0
        · rw [evR_0 q0]
          congr 2
          have : cell k o = o.2 := by unfold cell; rw [if_pos q0]
          exact ofi (by omega)
        · have k1 : o.1 = 1 := by omega
          have h2 := w2 k1
          have hc2 : cell k o = if tvs k o.2 = true then -1 - o.2 else 0 := by
            unfold cell
            rw [if_neg (by omega), if_pos k1]
          have ht : ¬ tvs k o.2 = true := fun q => by
            rw [if_pos q] at hc2
            omega
          rw [if_neg ht] at hc2
          rw [evR_1 k1]
          congr 2
          have eo : ((o.2.toNat : Nat) : Int) = o.2 := by omega
          rw [mkv_f (by rw [eo]; cases hh : tvs k o.2 with | true => exact absurd hh ht | false => rfl)]
          exact (i0z.mpr (by omega)).symm
      · intros
        exfalso
        omega
      · intros
        exfalso
        omega
    · obtain ⟨w5, w6⟩ := w4 (by omega)
      have hcell : cell k o = -8 - o.1 := by
        unfold cell
        rw [if_neg (by omega), if_neg (by omega)]
      obtain ⟨y, x, S, rfl⟩ := two2 (show 2 ≤ S.length by omega)
      simp only [List.length_cons] at e83 hd1 hd2
      have n1 : ((sy_i F1 83).toInt + (-1 : Int) - 1).toNat = S.length := by omega
      have n2 : ((sy_i F1 83).toInt + (-1 : Int)).toNat = S.length + 1 := by omega
      have n3 : ((sy_i F1 83).toInt - 1).toNat = S.length + 1 := by omega
      have hy : (sy_ai F1 46).getD (S.length + 1) 0 = y := hst.1
      have hxx : (sy_ai F1 46).getD S.length 0 = x := hst.2.1
      have ev := evR_2 (v := mkv k (v45 F)) (r := r) (a := x) (b := y) (S := S) (o := o) (by omega)
      have step : ∀ (z : Int32) (F2 : Nat → sy_d), iv_in F2 iv_B0 → (∀ j, j < 82 → j ∉ ([46] : List Nat) → F2 j = F1 j) → sy_ai F2 46 = jm_upd (sy_ai F1 46) S.length z → (sy_i F2 82).toInt = (sy_i F1 82).toInt + 1 → (sy_i F2 83).toInt = (sy_i F1 83).toInt + -1 → (sy_i F2 84).toInt = (sy_i F1 84).toInt + 1 → evR (mkv k (v45 F)) (o :: r) (y :: x :: S) = evR (mkv k (v45 F)) r (z :: S) → hd_W Ls xs 2 jm_M22 Q (8, sy_dL F2 [some (.inl (.ref 38)), some (.inl (.ref 20)), none, some (.inr (.inl 82)), some (.inr (.inl 83)), some (.inr (.inl 84)), none], sy_dS F2 [], sy_dh F2 X1 X2 (iv_H 2), 0, 0) := fun z F2 hb g a46 f82 f83 f84 hev => by
        refine j2wo_E k hs r (d - 1) e (z :: S) (c + 1) F2 ⟨qq_on hq hb g (by decide), by omega, by simp only [List.length_cons]; omega, by omega, by rw [a46]; exact stq_put rfl hst.2.2⟩ (by omega) (by omega) hr w6 (by simp only [List.length_cons]; omega) (by simp only [List.length_cons]; omega) (by omega) ?_ ?_
        · rw [← hev]
          exact hn
        · rw [← hev]
          exact hk'
      refine j2wo_8 (by decide) F1 X1 X2 hq.1 (by omega) (by omega) (by omega) ?_ ?_ ?_ ?_ ?_ ?_ ?_ ?_ ?_ ?_ ?_ ?_ ?_ ?_ ?_ ?_ ?_ ?_
      · intros; omega
      · intros
        exfalso
        omega
      · intros
        exfalso
        omega
      · intro c0 c1 c2 c3 c4 c5 c6 c7 c8 F2 hb g a46 f82 i82 f83 i83 f84 i84
        rw [n1, n2, hy, hxx] at a46
        rw [if_neg (by omega)] at ev
        have eo : opv o.1 x y = x * y := by
          unfold opv
          rw [if_neg (by omega), if_neg (by omega), if_pos (by omega)]
        rw [eo] at ev
        exact step _ F2 hb g a46 f82 f83 f84 ev
      · intro c0 c1 c2 c3 c4 c5 c6 c7 c8 F2 hb g a46 f82 i82 f83 i83 f84 i84
        rw [n1, n2, hy, hxx] at a46
        rw [if_neg (by omega)] at ev
        have eo : opv o.1 x y = x - y := by
          unfold opv
          rw [if_neg (by omega), if_pos (by omega)]
        rw [eo] at ev
        exact step _ F2 hb g a46 f82 f83 f84 ev
      · intro c0 c1 c2 c3 c4 c5 c6 c7 c8 F2 hb g a46 f82 i82 f83 i83 f84 i84
        rw [n1, n2, hy, hxx] at a46
        rw [if_neg (by omega)] at ev
        have eo : opv o.1 x y = x + y := by
          unfold opv
          rw [if_pos (by omega)]
        rw [eo] at ev
        exact step _ F2 hb g a46 f82 f83 f84 ev
      · intro c0 c1 c2 c3 c4 c5 c6 c7 c8 c9 c10 F2 hb g a46 f82 i82 f83 i83 f84 i84
        rw [n3, hy] at c8
        rw [n1, n2, hy, hxx] at a46
        rw [if_neg (fun z => c8 (i0z.mp z.2))] at ev
        have eo : opv o.1 x y = x / y := by
          unfold opv
          rw [if_neg (by omega), if_neg (by omega), if_neg (by omega)]
        rw [eo] at ev
        exact step _ F2 hb g a46 f82 f83 f84 ev
      · intro c0 c1 c2 c3 c4 c5 c6 c7 c8 c9 c10
        rw [n3, hy] at c8
        rw [n2, hy] at c10
        exact absurd c10 c8
      · intro c0 c1 c2 c3 c4 c5 c6 c7 c8 F2 hb g
        rw [n3, hy] at c8
        rw [if_pos ⟨by omega, i0z.mpr c8⟩] at ev
        exact hn ev F2 (qq_on hq hb g (by decide))
      iterate 9
        intros
        exfalso
        omega
theorem j2wo_L (k : Nat) {s : Int} (hs : 0 ≤ s) : ∀ (l : List bRT) (c : Nat) (F1 : Nat → sy_d), woI F s c [] F1 → s ≤ c → c + (lcs k c l).length < 512 → clc (sy_ai F 32) c (lcs k c l).length = lcs k c l → hasN l → (∀ b ∈ l, wfB b) →
    hd_W Ls xs 2 jm_M22 (pI 2 X1 X2 (fun x F' => qC [46] F F' ∧ x = lwV (mkv k (v45 F)) l)) (8, sy_dL F1 [some (.inl (.ref 38)), some (.inl (.ref 20)), none, some (.inr (.inl 82)), some (.inr (.inl 83)), some (.inr (.inl 84)), none], sy_dS F1 [], sy_dh F1 X1 X2 (iv_H 2), 0, 0)
  | [], c, F1, _, _, _, _, hN, _ => absurd hN (by intro z; exact z)
  | (none, w) :: r, c, F1, hI, hsc, h5, hcl, _, hw => by
    have w1 := (hw _ List.mem_cons_self).1
    rw [lcs_n] at h5 hcl
    simp only [List.length_append, List.length_map, List.length_cons, List.length_nil] at h5
    obtain ⟨g1, g2⟩ := clc_split hcl
    obtain ⟨g3, -⟩ := clc_split g2
    rw [List.length_map] at g1 g3
    have hx : ((sy_ai F 32).getD (c + w.length) 0).toInt = -14 := by
      have g3 : [((sy_ai F 32).getD (c + w.length + 0) 0).toInt] = [-14] := g3
      exact (List.cons.inj g3).1
    rcases exV_b (v := mkv k (v45 F)) w1 [] with ⟨v1, v2⟩ | ⟨x, v1, v2⟩
    · refine j2wo_E F X1 X2 k hs w 0 1 [] c F1 hI hsc (by omega) (by rw [show ((c : Int)).toNat = c by omega]; exact g1) w1 (by decide) (by decide) (by decide) (fun _ F2 hq => ⟨_, F2, rfl, rfl, hq, by rw [lwV_n, v2]; rfl⟩) (fun S' F2 h _ => (by rw [v1] at h; cases h))
    · refine j2wo_E F X1 X2 k hs w 0 1 [] c F1 hI hsc (by omega) (by rw [show ((c : Int)).toNat = c by omega]; exact g1) w1 (by decide) (by decide) (by decide) (fun h => (by rw [v1] at h; cases h)) (fun S' F2 h hI2 => ?_)
      have h := (Option.some.inj (v1.symm.trans h)).symm
      subst h
      obtain ⟨hq, e82, e83, e84, hst⟩ := hI2
      have e83 : (sy_i F2 83).toInt = 1 := e83
      have hc' : ((sy_ai F2 32).getD (sy_i F2 82).toInt.toNat 0).toInt = -14 := by
        rw [qq_a hq (by decide) (by decide), e82, show ((c : Int) + (w.length : Int)).toNat = c + w.length by omega]
        exact hx
      refine j2wo_8 (by decide) F2 X1 X2 hq.1 (by omega) (by omega) (by omega) ?_ ?_ ?_ ?_ ?_ ?_ ?_ ?_ ?_ ?_ ?_ ?_ ?_ ?_ ?_ ?_ ?_ ?_
      · intros; omega
      iterate 12
        intros
        exfalso
        omega
      · intro c0 c1 c2 c3 c4 c5 F3 hb g
        refine ⟨_, F3, rfl, rfl, qq_on hq hb g (by decide), ?_⟩
        rw [lwV_n, v2, show ((sy_i F2 83).toInt - 1).toNat = 0 by omega]
        exact hst.1
      iterate 4
        intros
        exfalso
        omega
  | (some (u, q), w) :: r, c, F1, hI, hsc, h5, hcl, hN, hw => by
    obtain ⟨w1, wt⟩ := hw _ List.mem_cons_self
    obtain ⟨wu, wq⟩ := wt u q rfl
    have hwr : ∀ b ∈ r, wfB b := fun b hb => hw b (List.mem_cons_of_mem _ hb)
    have hN : hasN r := hN
    rw [lcs_s] at h5 hcl
    simp only [List.length_append, List.length_map, List.length_cons, List.length_nil] at h5
    obtain ⟨g1, g2⟩ := clc_split hcl
    obtain ⟨g3, g4⟩ := clc_split g2
    obtain ⟨g5, g6⟩ := clc_split g4
    obtain ⟨g7, g8⟩ := clc_split g6
    obtain ⟨g9, g10⟩ := clc_split g8
    simp only [List.length_map, List.length_cons, List.length_nil] at g1 g3 g5 g7 g9 g10
    have hx : ((sy_ai F 32).getD (c + u.length + q.length) 0).toInt = -15 ∧ ((sy_ai F 32).getD (c + u.length + q.length + 1) 0).toInt = ((c + u.length + q.length + w.length + 3 : Nat) : Int) := by
      have g5 : [((sy_ai F 32).getD (c + u.length + q.length + 0) 0).toInt] ++ [((sy_ai F 32).getD (c + u.length + q.length + 1) 0).toInt] = [-15, ((c + u.length + q.length + w.length + 3 : Nat) : Int)] := g5
      exact ⟨(List.cons.inj g5).1, (List.cons.inj (List.cons.inj g5).2).1⟩
    have hx4 : ((sy_ai F 32).getD (c + u.length + q.length + 2 + w.length) 0).toInt = -14 := by
      have g9 : [((sy_ai F 32).getD (c + u.length + q.length + 2 + w.length + 0) 0).toInt] = [-14] := g9
      exact (List.cons.inj g9).1
    rcases exV_b (v := mkv k (v45 F)) wu [] with ⟨v1, v2⟩ | ⟨x, v1, v2⟩
    · exact j2wo_E F X1 X2 k hs u 0 1 [] c F1 hI hsc (by omega) (by rw [show ((c : Int)).toNat = c by omega]; exact g1) wu (by decide) (by decide) (by decide) (fun _ F2 hq => ⟨_, F2, rfl, rfl, hq, (lwV_0 (Or.inl v2)).symm⟩) (fun S' F2 h _ => (by rw [v1] at h; cases h))
    · refine j2wo_E F X1 X2 k hs u 0 1 [] c F1 hI hsc (by omega) (by rw [show ((c : Int)).toNat = c by omega]; exact g1) wu (by decide) (by decide) (by decide) (fun h => (by rw [v1] at h; cases h)) (fun S' F2 h hI2 => ?_)
      have h := (Option.some.inj (v1.symm.trans h)).symm
      subst h
      rcases exV_b (v := mkv k (v45 F)) wq [x] with ⟨y1, y2⟩ | ⟨y, y1, y2⟩
      · exact j2wo_E F X1 X2 k hs q 0 1 [x] (c + u.length) F2 hI2 (by omega) (by omega) (by rw [show ((c : Int) + (u.length : Int)).toNat = c + u.length by omega]; exact g3) wq (Nat.zero_le _) (Nat.le_refl _) (by decide) (fun _ F3 hq => ⟨_, F3, rfl, rfl, hq, (lwV_0 (Or.inr y2)).symm⟩) (fun S' F3 h _ => (by rw [y1] at h; cases h))
      · refine j2wo_E F X1 X2 k hs q 0 1 [x] (c + u.length) F2 hI2 (by omega) (by omega) (by rw [show ((c : Int) + (u.length : Int)).toNat = c + u.length by omega]; exact g3) wq (Nat.zero_le _) (Nat.le_refl _) (by decide) (fun h => (by rw [y1] at h; cases h)) (fun S' F3 h hI3 => ?_)
        have h := (Option.some.inj (y1.symm.trans h)).symm
        subst h
        obtain ⟨hq, e82, e83, e84, hst⟩ := hI3
        have e83 : (sy_i F3 83).toInt = 2 := e83
        have hy : (sy_ai F3 46).getD 1 0 = y := hst.1
        have hxx : (sy_ai F3 46).getD 0 0 = x := hst.2.1
        have hc' : ((sy_ai F3 32).getD (sy_i F3 82).toInt.toNat 0).toInt = -15 := by
          rw [qq_a hq (by decide) (by decide), e82, show ((c : Int) + (u.length : Int) + (q.length : Int)).toNat = c + u.length + q.length by omega]
          exact hx.1
        have hc2 : ((sy_ai F3 32).getD ((sy_i F3 82).toInt + 1).toNat 0).toInt = ((c + u.length + q.length + w.length + 3 : Nat) : Int) := by
          rw [qq_a hq (by decide) (by decide), e82, show ((c : Int) + (u.length : Int) + (q.length : Int) + 1).toNat = c + u.length + q.length + 1 by omega]
          exact hx.2
        have m1 : ((sy_i F3 83).toInt + (-2 : Int)).toNat = 0 := by omega
        have m2 : ((sy_i F3 83).toInt + (-2 : Int) + 1).toNat = 1 := by omega
        refine j2wo_8 (by decide) F3 X1 X2 hq.1 (by omega) (by omega) (by omega) ?_ ?_ ?_ ?_ ?_ ?_ ?_ ?_ ?_ ?_ ?_ ?_ ?_ ?_ ?_ ?_ ?_ ?_
        · intros; omega
        iterate 8
          intros
          exfalso
          omega
        · intro c0 c1 c2 c3 c4 c5 c6 c7 F4 hb g f82 i82 f83 i83 f84 i84
          rw [m1, m2, hy, hxx] at c7
          rw [hc2] at f82
          refine hd_W_mono (j2wo_L k hs r (c + u.length + q.length + w.length + 3) F4 ⟨qq_on hq hb g (by decide), f82, by show _ = ((0 : Nat) : Int); omega, by omega, trivial⟩ (by omega) (by omega) ?_ hN hwr) ?_
          · rw [show c + u.length + q.length + w.length + 3 = c + u.length + q.length + 2 + w.length + 1 by omega] at g10 ⊢
            exact g10
          · rintro v G ⟨z, F', rfl, rfl, h1, h2⟩
            refine ⟨z, F', rfl, rfl, h1, ?_⟩
            rw [h2, lwV_s v2 y2, if_neg (by omega)]
        · intro c0 c1 c2 c3 c4 c5 c6 c7 F4 hb g f82 i82 f83 i83 f84 i84
          rw [m1, m2, hy, hxx] at c7
          have hI4 : woI F s (c + u.length + q.length + 2 : Nat) [] F4 := ⟨qq_on hq hb g (by decide), by omega, by show _ = ((0 : Nat) : Int); omega, by omega, trivial⟩
          have gw : clc (sy_ai F 32) (((c + u.length + q.length + 2 : Nat) : Int)).toNat w.length = w.map (cell k) := by rw [Int.toNat_natCast]; exact g7
          rcases exV_b (v := mkv k (v45 F)) w1 [] with ⟨x1, x2⟩ | ⟨z, x1, x2⟩
          · exact j2wo_E F X1 X2 k hs w 0 1 [] _ F4 hI4 (by omega) (by omega) gw w1 (by decide) (by decide) (by decide) (fun _ F5 hq => ⟨_, F5, rfl, rfl, hq, by rw [lwV_s v2 y2, if_pos c7, x2]; rfl⟩) (fun S' F5 h _ => (by rw [x1] at h; cases h))
          · refine j2wo_E F X1 X2 k hs w 0 1 [] _ F4 hI4 (by omega) (by omega) gw w1 (by decide) (by decide) (by decide) (fun h => (by rw [x1] at h; cases h)) (fun S' F5 h hI5 => ?_)
            have h := (Option.some.inj (x1.symm.trans h)).symm
            subst h
            obtain ⟨hq5, e82', e83', e84', hst'⟩ := hI5
            have e83' : (sy_i F5 83).toInt = 1 := e83'
            have hc5 : ((sy_ai F5 32).getD (sy_i F5 82).toInt.toNat 0).toInt = -14 := by
              rw [qq_a hq5 (by decide) (by decide), e82', show (((c + u.length + q.length + 2 : Nat) : Int) + (w.length : Int)).toNat = c + u.length + q.length + 2 + w.length by omega]
              exact hx4
            refine j2wo_8 (by decide) F5 X1 X2 hq5.1 (by omega) (by omega) (by omega) ?_ ?_ ?_ ?_ ?_ ?_ ?_ ?_ ?_ ?_ ?_ ?_ ?_ ?_ ?_ ?_ ?_ ?_
            · intros; omega
            iterate 12
              intros
              exfalso
              omega
            · intro d0 d1 d2 d3 d4 d5 F6 hb6 g6
              refine ⟨_, F6, rfl, rfl, qq_on hq5 hb6 g6 (by decide), ?_⟩
              rw [lwV_s v2 y2, if_pos c7, x2, show ((sy_i F5 83).toInt - 1).toNat = 0 by omega]
              exact hst'.1
            iterate 4
              intros
              exfalso
              omega
        iterate 7
          intros
          exfalso
          omega
theorem j2wo_V (k : Nat) {a : Int32} {l : List bRT} (hB : iv_in F iv_B0) (h0 : 0 ≤ a.toInt) (h5 : a.toInt + (lcs k a.toInt.toNat l).length < 512) (hcl : clc (sy_ai F 32) a.toInt.toNat (lcs k a.toInt.toNat l).length = lcs k a.toInt.toNat l) (hl : wfL l) : jm_T Ls xs 2 jm_M22 [.ref 38, .ref 20, .int a] (sy_dh F X1 X2 (iv_H 2)) 0 0 (pI 2 X1 X2 (fun x F' => qC [46] F F' ∧ x = lwV (mkv k (v45 F)) l)) := by
  refine C_T (by decide) [a] [.inl (.ref 38), .inl (.ref 20), .inr (.inl 82)] jm_ok22 (by decide) rfl (fun F0 k0 ki => ?_)
  have i82 : sy_i F0 82 = a := ki 0
  refine j2wo_0 (by decide) F0 X1 X2 (hd_iveq0 hB k0) ?_
  intro F1 hb g e82 j82 e83 j83 e84 j84
  rw [i82] at e82
  refine j2wo_L F X1 X2 k h0 l a.toInt.toNat F1 ⟨qq_src (qq_mk hb g (by decide)) k0, by omega, e83, by omega, trivial⟩ (by omega) (by omega) hcl hl.1 hl.2
/-- a law is told -/
theorem j2to_V {T : tX} (hB : iv_in F iv_B0) (hX : rXc 18 T F) (hT : wT T) (hcs : (sy_i F 23).toInt ≤ 412) {a : Int32} {k : Nat} (hk : k < 6) (ha : a.toInt = k) : jm_T Ls xs 4 jm_M21 [.ref 38, .ref 20, .int a] (sy_dh F X1 X2 (iv_H 2)) 0 0 (pI 2 X1 X2 (fun x F' => qC [46] F F' ∧ x.toInt = lwT T k (v45 F))) := by
  refine C_T (by decide) [a] [.inl (.ref 38), .inl (.ref 20), .inr (.inl 82)] jm_ok21 (by decide) rfl (fun F0 k0 ki => ?_)
  have i82 : sy_i F0 82 = a := ki 0
  refine j2to_0 (by decide) F0 X1 X2 (hd_iveq0 hB k0) (by rw [i82]; omega) ?_
  intro F1 hb g e82 j82 e83 j83
  rw [i82] at e82 j82
  have q1 : qC [] F F1 := qq_src (qq_mk hb g (by decide)) k0
  obtain ⟨h1, h2, h3⟩ := hX.2.2.2.2.2 k hk
  have h1 : 0 ≤ ix F 31 k := h1
  have h2 : ix F 31 k + (lcs k (ix F 31 k).toNat ((T.2.2.2.2.2 k).getD (pb k))).length ≤ (sy_i F 23).toInt := h2
  have h3 : clc (sy_ai F 32) (ix F 31 k).toNat (lcs k (ix F 31 k).toNat ((T.2.2.2.2.2 k).getD (pb k))).length = lcs k (ix F 31 k).toNat ((T.2.2.2.2.2 k).getD (pb k)) := h3
  have e83 : (sy_i F1 83).toInt = ix F 31 k := by rw [e83, i82, ha, Int.toNat_natCast, nz_fa (k0 31 (by decide))]; rfl
  refine hd_calI (R := fun x F' => qC [46] F1 F' ∧ x = lwV (mkv k (v45 F1)) ((T.2.2.2.2.2 k).getD (pb k))) (nh := 82) (nv := 83) (s := 2) (s1 := 2) (d1 := 2) (M1 := jm_M22) (As := [.inl (.ref 38), .inl (.ref 20), .inr (.inl 83)]) (rest := []) jm_ok21 rfl rfl (by decide) (by decide +kernel) (j2wo_V F1 X1 X2 k hb (by omega) (by rw [e83]; omega) (by rw [e83, qq_a q1 (by decide) (by decide)]; exact h3) (wfL_T hT k)) (fun F3 F' x hR p1 p2 p3 => ?_)
  have ev : v45 F1 = v45 F := by unfold v45; rw [qq_a q1 (by decide) (by decide)]
  obtain ⟨r1, r2⟩ := hR
  have q3 : qC [46] F F3 := qq_trans (qq_up q1 (by decide)) (qC_dst r1 p1)
  have m82 : (sy_i F3 82).toInt = k := by rw [nz_fi (p2 82 (by decide) (by decide)), e82]; exact ha
  have m83 : sy_i F3 83 = x := zz_i p3
  have hx : lwT T k (v45 F) = hdz (lLo k) (lHi k) x.toInt := by
    unfold lwT lwR
    rw [r2, ev]
  have hi : (([9, 9, 100, 99, 9, 100] : List Int32).getD (sy_i F3 82).toInt.toNat 0).toInt = lHi k := by
    rw [m82, Int.toNat_natCast]
    exact lHi_t k hk
  have lo : (([0, (-9), 0, 0, (-9), 0] : List Int32).getD (sy_i F3 82).toInt.toNat 0).toInt = lLo k := by
    rw [m82, Int.toNat_natCast]
    exact lLo_t k hk
  have hlh := lLH k
  refine j2to_11 (by decide) F3 X1 X2 q3.1 (by omega) ?_ ?_ ?_ ?_
  · intro c0 c1 F4 hb4 g4
    refine ⟨_, F4, rfl, rfl, qq_on q3 hb4 g4 (by decide), ?_⟩
    rw [hi, m83] at c0
    rw [lo, m83] at c1
    rw [hx, m83]
    unfold hdz
    rw [if_neg (by omega), if_neg (by omega)]
  · intro c0 c1 F4 hb4 g4
    refine ⟨_, F4, rfl, rfl, qq_on q3 hb4 g4 (by decide), ?_⟩
    rw [hi, m83] at c0
    rw [lo, m83] at c1
    rw [hx, lo]
    unfold hdz
    by_cases z : x.toInt < lLo k
    · rw [if_pos z]
    · rw [if_neg z, if_neg (by omega)]
      omega
  · intro c0 c1 F4 hb4 g4
    refine ⟨_, F4, rfl, rfl, qq_on q3 hb4 g4 (by decide), ?_⟩
    rw [hi, m83] at c0
    rw [lo, hi] at c1
    rw [hx, hi]
    unfold hdz
    rw [if_neg (by omega)]
    by_cases z : lHi k < x.toInt
    · rw [if_pos z]
    · rw [if_neg z]
      omega
  · intro c0 c1
    rw [hi, lo] at c1
    exfalso
    omega
end W2
end
section
/-! ===== the class: what is so on a ground, who catches, who buys, way by way (shape 2, n) ===== -/
theorem j2nbi_0_p0 {Ls : Nat} {xs : Nat → Int32} {d : Nat} {Q : Option Value → jm_h → Prop} (hd : 1 ≤ d) (F : Nat → sy_d) (X1 X2 : List jm_c) (hB : iv_in F iv_B0)
    (k : ∀ F1 : Nat → sy_d, (∀ j, j < 82 → True → F1 j = F j) → F1 82 = .inl (.int (sy_i F 82)) → F1 83 = .inl (.int (sy_i F 83)) → F1 84 = .inl (.int ((0 : Int32))) → F1 85 = .inl (.int ((0 : Int32))) → hd_W Ls xs d jm_M11 Q (5, sy_dL F1 [some (.inl (.ref 46)), some (.inr (.inl 82)), some (.inr (.inl 83)), some (.inr (.inl 84)), some (.inr (.inl 85))], sy_dS F1 [], sy_dh F1 X1 X2 (iv_H 2), 0, 0)) :
    hd_W Ls xs d jm_M11 Q (0, sy_dL F [some (.inl (.ref 46)), some (.inr (.inl 82)), some (.inr (.inl 83)), none, none], sy_dS F [], sy_dh F X1 X2 (iv_H 2), 0, 0) := by
  refine hd_run (s := 2) (nv := 84) (pc := 5) (L := [some (.inl (.ref 46)), some (.inr (.inl 82)), some (.inr (.inl 83)), some (.inr (.inl 84)), some (.inr (.inl 85))]) (S := []) (uh := hd_ov (iv_id 0 iv_B0) []) (ul := [.inl (.inr (.inl 82)), .inl (.inr (.inl 83)), .inl (.inl (.int 0)), .inl (.inl (.int 0))]) (f := true) (sp := [5]) (d0 := 0) (O := []) (T := []) (P := []) jm_ok11 (by decide +kernel) (by decide +kernel) hd F X1 X2 (fun F' hF hs => ?_)
  have b82 := hd_b (F := F) (F' := F') (k := 82) (hF 82 (by decide))
  have b83 := hd_b (F := F) (F' := F') (k := 83) (hF 83 (by decide))
  have hB' : iv_in F' iv_B0 := iv_in_eq hB (fun j hj => hF j (Nat.lt_of_lt_of_le hj (by decide +kernel)))
  refine ⟨fun _ h => absurd h List.not_mem_nil, ?_⟩
  refine k _ ?_ ?_ ?_ ?_ ?_
  · exact fun j hj _ => (hd_keep hB' (Nat.lt_of_lt_of_le hj (by decide +kernel)) (by simp)).trans (hF j (Nat.lt_of_lt_of_le hj (by decide)))
  · exact hd_gi (x := .inr (.inl 82)) (by decide +kernel) b82
  · exact hd_gi (x := .inr (.inl 83)) (by decide +kernel) b83
  · exact hd_gi (x := .inl (.int 0)) (by decide +kernel) rfl
  · exact hd_gi (x := .inl (.int 0)) (by decide +kernel) rfl
theorem j2nbi_0 {Ls : Nat} {xs : Nat → Int32} {d : Nat} {Q : Option Value → jm_h → Prop} (hd : 1 ≤ d) (F : Nat → sy_d) (X1 X2 : List jm_c) (hB : iv_in F iv_B0)
    (k0 : ∀ F1 : Nat → sy_d, iv_in F1 iv_B0 → (∀ j, j < 82 → j ∉ ([] : List Nat) → F1 j = F j) → (sy_i F1 82).toInt = (sy_i F 82).toInt → sy_i F1 82 = sy_i F 82 → (sy_i F1 83).toInt = (sy_i F 83).toInt → sy_i F1 83 = sy_i F 83 → (sy_i F1 84).toInt = 0 → sy_i F1 84 = (0 : Int32) → (sy_i F1 85).toInt = 0 → sy_i F1 85 = (0 : Int32) → hd_W Ls xs d jm_M11 Q (5, sy_dL F1 [some (.inl (.ref 46)), some (.inr (.inl 82)), some (.inr (.inl 83)), some (.inr (.inl 84)), some (.inr (.inl 85))], sy_dS F1 [], sy_dh F1 X1 X2 (iv_H 2), 0, 0)) :
    hd_W Ls xs d jm_M11 Q (0, sy_dL F [some (.inl (.ref 46)), some (.inr (.inl 82)), some (.inr (.inl 83)), none, none], sy_dS F [], sy_dh F X1 X2 (iv_H 2), 0, 0) := by
  exact j2nbi_0_p0 hd F X1 X2 hB  (fun F1 g e82 e83 e84 e85 => k0 F1 (nz_in0 hB [] (fun j hj hn => g j hj (by simp only [List.mem_cons, List.not_mem_nil, or_false, not_or] at hn; exact trivial)) (List.forall_mem_nil _)) (fun j hj hn => g j hj (by simp only [List.mem_cons, List.not_mem_nil, or_false, not_or] at hn; exact trivial)) ((congrArg Int32.toInt (zz_i e82)).trans (rfl : (sy_i F 82).toInt = (sy_i F 82).toInt)) ((zz_i e82).trans (rfl : sy_i F 82 = sy_i F 82)) ((congrArg Int32.toInt (zz_i e83)).trans (rfl : (sy_i F 83).toInt = (sy_i F 83).toInt)) ((zz_i e83).trans (rfl : sy_i F 83 = sy_i F 83)) ((congrArg Int32.toInt (zz_i e84)).trans (by decide : ((0 : Int32)).toInt = 0)) ((zz_i e84).trans (rfl : (0 : Int32) = (0 : Int32))) ((congrArg Int32.toInt (zz_i e85)).trans (by decide : ((0 : Int32)).toInt = 0)) ((zz_i e85).trans (rfl : (0 : Int32) = (0 : Int32))))
theorem j2nbi_5_p0 {Ls : Nat} {xs : Nat → Int32} {d : Nat} {Q : Option Value → jm_h → Prop} (hd : 1 ≤ d) (F : Nat → sy_d) (X1 X2 : List jm_c) (hB : iv_in F iv_B0)
    (h0 : (sy_i F 83).toInt ≤ (sy_i F 85).toInt)
    (k : ∀ F1 : Nat → sy_d, (∀ j, j < 82 → True → F1 j = F j) → Q (some (.int (sy_i F 84))) (sy_dh F1 X1 X2 (iv_H 2))) :
    hd_W Ls xs d jm_M11 Q (5, sy_dL F [some (.inl (.ref 46)), some (.inr (.inl 82)), some (.inr (.inl 83)), some (.inr (.inl 84)), some (.inr (.inl 85))], sy_dS F [], sy_dh F X1 X2 (iv_H 2), 0, 0) := by
  refine hd_ret (s := 2) (nv := 86) (v := some (.inr (.inl 84))) (uh := hd_ov (iv_id 0 iv_B0) []) (f := true) (sp := [5]) (d0 := 0) (O := [true]) (T := []) (P := [(4, .inr (.inl 83), .inr (.inl 85))]) jm_ok11 (by decide +kernel) (by decide +kernel) hd F X1 X2 (fun F' hF hs => ?_)
  have b83 := hd_b (F := F) (F' := F') (k := 83) (hF 83 (by decide))
  have b85 := hd_b (F := F) (F' := F') (k := 85) (hF 85 (by decide))
  have b84 := hd_b (F := F) (F' := F') (k := 84) (hF 84 (by decide))
  have hB' : iv_in F' iv_B0 := iv_in_eq hB (fun j hj => hF j (Nat.lt_of_lt_of_le hj (by decide +kernel)))
  have hk := k (sy_cm F' (hd_ov (iv_id 0 iv_B0) [] ++ [])) (fun j hj _ => (hd_keep hB' (Nat.lt_of_lt_of_le hj (by decide +kernel)) (by simp)).trans (hF j (Nat.lt_of_lt_of_le hj (by decide))))
  refine ⟨List.forall_mem_cons.mpr ⟨hd_p4 b83 b85 h0, fun _ h => absurd h List.not_mem_nil⟩, ?_⟩
  show Q (some (sy_dv F' (.inr (.inl 84)))) _
  rw [b84]
  exact hk
theorem j2nbi_5_p1 {Ls : Nat} {xs : Nat → Int32} {d : Nat} {Q : Option Value → jm_h → Prop} (hd : 1 ≤ d) (F : Nat → sy_d) (X1 X2 : List jm_c) (hB : iv_in F iv_B0)
    (h0 : (sy_i F 85).toInt < (sy_i F 83).toInt)
    (h1 : (sy_i F 85).toInt < 7)
    (h2 : 0 ≤ (sy_i F 85).toInt ∧ (sy_i F 85).toInt < 7)
    (h3 : ((sy_ai F 54).getD (sy_i F 85).toNatClampNeg 0).toInt ≠ (sy_i F 82).toInt)
    (k : ∀ F1 : Nat → sy_d, (∀ j, j < 82 → True → F1 j = F j) → F1 82 = .inl (.int (sy_i F 82)) → F1 83 = .inl (.int (sy_i F 83)) → F1 84 = .inl (.int (sy_i F 84)) → F1 85 = .inl (.int ((sy_i F 85) + ((1 : Int32)))) → hd_W Ls xs d jm_M11 Q (5, sy_dL F1 [some (.inl (.ref 46)), some (.inr (.inl 82)), some (.inr (.inl 83)), some (.inr (.inl 84)), some (.inr (.inl 85))], sy_dS F1 [], sy_dh F1 X1 X2 (iv_H 2), 0, 0)) :
    hd_W Ls xs d jm_M11 Q (5, sy_dL F [some (.inl (.ref 46)), some (.inr (.inl 82)), some (.inr (.inl 83)), some (.inr (.inl 84)), some (.inr (.inl 85))], sy_dS F [], sy_dh F X1 X2 (iv_H 2), 0, 0) := by
  refine hd_run (s := 2) (nv := 86) (pc := 5) (L := [some (.inl (.ref 46)), some (.inr (.inl 82)), some (.inr (.inl 83)), some (.inr (.inl 84)), some (.inr (.inl 85))]) (S := []) (uh := hd_ov (iv_id 0 iv_B0) []) (ul := [.inl (.inr (.inl 82)), .inl (.inr (.inl 83)), .inl (.inr (.inl 84)), .inl (.inr (.inl 87))]) (f := true) (sp := [5]) (d0 := 0) (O := [false, false, true]) (T := [(30, [.inr (.inl 85)], [.inr (.inl 54)]), (0, [.inr (.inl 85), .inl (.int 1)], [])]) (P := [(5, .inr (.inl 83), .inr (.inl 85)), (5, .inl (.int 7), .inr (.inl 85)), (6, .inr (.inl 85), .inl (.ref 7)), (1, .inr (.inl 86), .inr (.inl 82))]) jm_ok11 (by decide +kernel) (by decide +kernel) hd F X1 X2 (fun F' hF hs => ?_)
  have b83 := hd_b (F := F) (F' := F') (k := 83) (hF 83 (by decide))
  have b85 := hd_b (F := F) (F' := F') (k := 85) (hF 85 (by decide))
  have a54 := hd_ba (F := F) (F' := F') (k := 54) (hF 54 (by decide))
  have t86 : sy_dv F' (.inr (.inl 86)) = .int ((sy_ai F 54).getD (sy_i F 85).toNatClampNeg 0) := hd_rd (hs 0 _ rfl) b85 a54
  have b82 := hd_b (F := F) (F' := F') (k := 82) (hF 82 (by decide))
  have b84 := hd_b (F := F) (F' := F') (k := 84) (hF 84 (by decide))
  have t87 : sy_dv F' (.inr (.inl 87)) = .int ((sy_i F 85) + ((1 : Int32))) := hd_o (hs 1 _ rfl) b85 rfl rfl
  have hB' : iv_in F' iv_B0 := iv_in_eq hB (fun j hj => hF j (Nat.lt_of_lt_of_le hj (by decide +kernel)))
  refine ⟨List.forall_mem_cons.mpr ⟨hd_p5 b83 b85 h0, List.forall_mem_cons.mpr ⟨hd_p5 rfl b85 (by have hc : ((7) : Int32).toInt = 7 := (by decide); omega), List.forall_mem_cons.mpr ⟨hd_pb b85 (by first | exact h2 | exact h2), List.forall_mem_cons.mpr ⟨hd_p1 t86 b82 h3, fun _ h => absurd h List.not_mem_nil⟩⟩⟩⟩, ?_⟩
  refine k _ ?_ ?_ ?_ ?_ ?_
  · exact fun j hj _ => (hd_keep hB' (Nat.lt_of_lt_of_le hj (by decide +kernel)) (by simp)).trans (hF j (Nat.lt_of_lt_of_le hj (by decide)))
  · exact hd_gi (x := .inr (.inl 82)) (by decide +kernel) b82
  · exact hd_gi (x := .inr (.inl 83)) (by decide +kernel) b83
  · exact hd_gi (x := .inr (.inl 84)) (by decide +kernel) b84
  · exact hd_gi (x := .inr (.inl 87)) (by decide +kernel) t87
theorem j2nbi_5_p2 {Ls : Nat} {xs : Nat → Int32} {d : Nat} {Q : Option Value → jm_h → Prop} (hd : 1 ≤ d) (F : Nat → sy_d) (X1 X2 : List jm_c) (hB : iv_in F iv_B0)
    (h0 : (sy_i F 85).toInt < (sy_i F 83).toInt)
    (h1 : (sy_i F 85).toInt < 7)
    (h2 : 0 ≤ (sy_i F 85).toInt ∧ (sy_i F 85).toInt < 7)
    (h3 : ((sy_ai F 54).getD (sy_i F 85).toNatClampNeg 0).toInt = (sy_i F 82).toInt)
    (k : ∀ F1 : Nat → sy_d, (∀ j, j < 82 → True → F1 j = F j) → F1 82 = .inl (.int (sy_i F 82)) → F1 83 = .inl (.int (sy_i F 83)) → F1 84 = .inl (.int ((sy_i F 84) ||| (((1 : Int32)) <<< ((sy_i F 85) &&& 31)))) → F1 85 = .inl (.int ((sy_i F 85) + ((1 : Int32)))) → hd_W Ls xs d jm_M11 Q (5, sy_dL F1 [some (.inl (.ref 46)), some (.inr (.inl 82)), some (.inr (.inl 83)), some (.inr (.inl 84)), some (.inr (.inl 85))], sy_dS F1 [], sy_dh F1 X1 X2 (iv_H 2), 0, 0)) :
    hd_W Ls xs d jm_M11 Q (5, sy_dL F [some (.inl (.ref 46)), some (.inr (.inl 82)), some (.inr (.inl 83)), some (.inr (.inl 84)), some (.inr (.inl 85))], sy_dS F [], sy_dh F X1 X2 (iv_H 2), 0, 0) := by
  refine hd_run (s := 2) (nv := 86) (pc := 5) (L := [some (.inl (.ref 46)), some (.inr (.inl 82)), some (.inr (.inl 83)), some (.inr (.inl 84)), some (.inr (.inl 85))]) (S := []) (uh := hd_ov (iv_id 0 iv_B0) []) (ul := [.inl (.inr (.inl 82)), .inl (.inr (.inl 83)), .inl (.inr (.inl 88)), .inl (.inr (.inl 89))]) (f := true) (sp := [5]) (d0 := 0) (O := [false, false, false]) (T := [(30, [.inr (.inl 85)], [.inr (.inl 54)]), (6, [.inl (.int 1), .inr (.inl 85)], []), (4, [.inr (.inl 84), .inr (.inl 87)], []), (0, [.inr (.inl 85), .inl (.int 1)], [])]) (P := [(5, .inr (.inl 83), .inr (.inl 85)), (5, .inl (.int 7), .inr (.inl 85)), (6, .inr (.inl 85), .inl (.ref 7)), (0, .inr (.inl 86), .inr (.inl 82))]) jm_ok11 (by decide +kernel) (by decide +kernel) hd F X1 X2 (fun F' hF hs => ?_)
  have b83 := hd_b (F := F) (F' := F') (k := 83) (hF 83 (by decide))
  have b85 := hd_b (F := F) (F' := F') (k := 85) (hF 85 (by decide))
  have a54 := hd_ba (F := F) (F' := F') (k := 54) (hF 54 (by decide))
  have t86 : sy_dv F' (.inr (.inl 86)) = .int ((sy_ai F 54).getD (sy_i F 85).toNatClampNeg 0) := hd_rd (hs 0 _ rfl) b85 a54
  have b82 := hd_b (F := F) (F' := F') (k := 82) (hF 82 (by decide))
  have b84 := hd_b (F := F) (F' := F') (k := 84) (hF 84 (by decide))
  have t87 : sy_dv F' (.inr (.inl 87)) = .int (((1 : Int32)) <<< ((sy_i F 85) &&& 31)) := hd_o (hs 1 _ rfl) rfl b85 rfl
  have t88 : sy_dv F' (.inr (.inl 88)) = .int ((sy_i F 84) ||| (((1 : Int32)) <<< ((sy_i F 85) &&& 31))) := hd_o (hs 2 _ rfl) b84 t87 rfl
  have t89 : sy_dv F' (.inr (.inl 89)) = .int ((sy_i F 85) + ((1 : Int32))) := hd_o (hs 3 _ rfl) b85 rfl rfl
  have hB' : iv_in F' iv_B0 := iv_in_eq hB (fun j hj => hF j (Nat.lt_of_lt_of_le hj (by decide +kernel)))
  refine ⟨List.forall_mem_cons.mpr ⟨hd_p5 b83 b85 h0, List.forall_mem_cons.mpr ⟨hd_p5 rfl b85 (by have hc : ((7) : Int32).toInt = 7 := (by decide); omega), List.forall_mem_cons.mpr ⟨hd_pb b85 (by first | exact h2 | exact h2), List.forall_mem_cons.mpr ⟨hd_p0 t86 b82 h3, fun _ h => absurd h List.not_mem_nil⟩⟩⟩⟩, ?_⟩
  refine k _ ?_ ?_ ?_ ?_ ?_
  · exact fun j hj _ => (hd_keep hB' (Nat.lt_of_lt_of_le hj (by decide +kernel)) (by simp)).trans (hF j (Nat.lt_of_lt_of_le hj (by decide)))
  · exact hd_gi (x := .inr (.inl 82)) (by decide +kernel) b82
  · exact hd_gi (x := .inr (.inl 83)) (by decide +kernel) b83
  · exact hd_gi (x := .inr (.inl 88)) (by decide +kernel) t88
  · exact hd_gi (x := .inr (.inl 89)) (by decide +kernel) t89
theorem j2nbi_5 {Ls : Nat} {xs : Nat → Int32} {d : Nat} {Q : Option Value → jm_h → Prop} (hd : 1 ≤ d) (F : Nat → sy_d) (X1 X2 : List jm_c) (hB : iv_in F iv_B0)
    (a83 : 0 ≤ (sy_i F 83).toInt ∧ (sy_i F 83).toInt ≤ 7)
    (a85 : 0 ≤ (sy_i F 85).toInt ∧ (sy_i F 85).toInt ≤ 7)
    (k0 : (sy_i F 83).toInt ≤ (sy_i F 85).toInt → ∀ F1 : Nat → sy_d, iv_in F1 iv_B0 → (∀ j, j < 82 → j ∉ ([] : List Nat) → F1 j = F j) → Q (some (.int (sy_i F 84))) (sy_dh F1 X1 X2 (iv_H 2)))
    (k1 : (sy_i F 85).toInt < (sy_i F 83).toInt → (sy_i F 85).toInt < 7 → ((sy_ai F 54).getD ((sy_i F 85).toInt).toNat 0).toInt ≠ (sy_i F 82).toInt → ∀ F1 : Nat → sy_d, iv_in F1 iv_B0 → (∀ j, j < 82 → j ∉ ([] : List Nat) → F1 j = F j) → (sy_i F1 82).toInt = (sy_i F 82).toInt → sy_i F1 82 = sy_i F 82 → (sy_i F1 83).toInt = (sy_i F 83).toInt → sy_i F1 83 = sy_i F 83 → (sy_i F1 84).toInt = (sy_i F 84).toInt → sy_i F1 84 = sy_i F 84 → (sy_i F1 85).toInt = ((sy_i F 85).toInt + 1) → sy_i F1 85 = (sy_i F 85) + ((1 : Int32)) → hd_W Ls xs d jm_M11 Q (5, sy_dL F1 [some (.inl (.ref 46)), some (.inr (.inl 82)), some (.inr (.inl 83)), some (.inr (.inl 84)), some (.inr (.inl 85))], sy_dS F1 [], sy_dh F1 X1 X2 (iv_H 2), 0, 0))
    (k2 : (sy_i F 85).toInt < (sy_i F 83).toInt → (sy_i F 85).toInt < 7 → ((sy_ai F 54).getD ((sy_i F 85).toInt).toNat 0).toInt = (sy_i F 82).toInt → ∀ F1 : Nat → sy_d, iv_in F1 iv_B0 → (∀ j, j < 82 → j ∉ ([] : List Nat) → F1 j = F j) → (sy_i F1 82).toInt = (sy_i F 82).toInt → sy_i F1 82 = sy_i F 82 → (sy_i F1 83).toInt = (sy_i F 83).toInt → sy_i F1 83 = sy_i F 83 → (sy_i F1 84).toInt = ((sy_i F 84) ||| (((1 : Int32)) <<< ((sy_i F 85) &&& 31))).toInt → sy_i F1 84 = (sy_i F 84) ||| (((1 : Int32)) <<< ((sy_i F 85) &&& 31)) → (sy_i F1 85).toInt = ((sy_i F 85).toInt + 1) → sy_i F1 85 = (sy_i F 85) + ((1 : Int32)) → hd_W Ls xs d jm_M11 Q (5, sy_dL F1 [some (.inl (.ref 46)), some (.inr (.inl 82)), some (.inr (.inl 83)), some (.inr (.inl 84)), some (.inr (.inl 85))], sy_dS F1 [], sy_dh F1 X1 X2 (iv_H 2), 0, 0)) :
    hd_W Ls xs d jm_M11 Q (5, sy_dL F [some (.inl (.ref 46)), some (.inr (.inl 82)), some (.inr (.inl 83)), some (.inr (.inl 84)), some (.inr (.inl 85))], sy_dS F [], sy_dh F X1 X2 (iv_H 2), 0, 0) := by
  by_cases g0 : (sy_i F 83).toInt ≤ (sy_i F 85).toInt
  · exact j2nbi_5_p0 hd F X1 X2 hB (by first | exact g0 | (simp only [nz_c]; exact g0)) (fun F1 g  => by rw [(rfl : sy_i F 84 = sy_i F 84)]; exact k0 g0 F1 (nz_in0 hB [] (fun j hj hn => g j hj (by simp only [List.mem_cons, List.not_mem_nil, or_false, not_or] at hn; exact trivial)) (List.forall_mem_nil _)) (fun j hj hn => g j hj (by simp only [List.mem_cons, List.not_mem_nil, or_false, not_or] at hn; exact trivial)) )
  replace g0 : (sy_i F 85).toInt < (sy_i F 83).toInt := by omega
  by_cases g1 : 7 ≤ (sy_i F 85).toInt
  · exfalso
    omega
  replace g1 : (sy_i F 85).toInt < 7 := by omega
  by_cases g2 : ((sy_ai F 54).getD ((sy_i F 85).toInt).toNat 0).toInt ≠ (sy_i F 82).toInt
  · have q86 : (sy_ai F 54).getD (sy_i F 85).toNatClampNeg 0 = (sy_ai F 54).getD ((sy_i F 85).toInt).toNat 0 := by simp only [nz_c]
    have n86 : nzI ((sy_ai F 54).getD (sy_i F 85).toNatClampNeg 0) (((sy_ai F 54).getD ((sy_i F 85).toInt).toNat 0).toInt) := congrArg Int32.toInt q86
    have n87 : nzI ((sy_i F 85) + ((1 : Int32))) (((sy_i F 85).toInt + 1)) := nz_add (rfl : (sy_i F 85).toInt = (sy_i F 85).toInt) (by decide : ((1 : Int32)).toInt = 1) (by omega) (by omega)
    exact j2nbi_5_p1 hd F X1 X2 hB (by first | exact g0 | (simp only [nz_c]; exact g0)) (by first | exact g1 | (simp only [nz_c]; exact g1)) (by first | exact ⟨by omega, by omega⟩ | (simp only [nz_c]; exact ⟨by omega, by omega⟩)) (by first | exact g2 | (simp only [nz_c]; exact g2) | (rw [(nzE n86)]; exact g2)) (fun F1 g e82 e83 e84 e85 => k1 g0 g1 g2 F1 (nz_in0 hB [] (fun j hj hn => g j hj (by simp only [List.mem_cons, List.not_mem_nil, or_false, not_or] at hn; exact trivial)) (List.forall_mem_nil _)) (fun j hj hn => g j hj (by simp only [List.mem_cons, List.not_mem_nil, or_false, not_or] at hn; exact trivial)) ((congrArg Int32.toInt (zz_i e82)).trans (rfl : (sy_i F 82).toInt = (sy_i F 82).toInt)) ((zz_i e82).trans (rfl : sy_i F 82 = sy_i F 82)) ((congrArg Int32.toInt (zz_i e83)).trans (rfl : (sy_i F 83).toInt = (sy_i F 83).toInt)) ((zz_i e83).trans (rfl : sy_i F 83 = sy_i F 83)) ((congrArg Int32.toInt (zz_i e84)).trans (rfl : (sy_i F 84).toInt = (sy_i F 84).toInt)) ((zz_i e84).trans (rfl : sy_i F 84 = sy_i F 84)) ((congrArg Int32.toInt (zz_i e85)).trans (nzE n87)) ((zz_i e85).trans (rfl : (sy_i F 85) + ((1 : Int32)) = (sy_i F 85) + ((1 : Int32)))))
  replace g2 : ((sy_ai F 54).getD ((sy_i F 85).toInt).toNat 0).toInt = (sy_i F 82).toInt := by omega
  have q86 : (sy_ai F 54).getD (sy_i F 85).toNatClampNeg 0 = (sy_ai F 54).getD ((sy_i F 85).toInt).toNat 0 := by simp only [nz_c]
  have n86 : nzI ((sy_ai F 54).getD (sy_i F 85).toNatClampNeg 0) (((sy_ai F 54).getD ((sy_i F 85).toInt).toNat 0).toInt) := congrArg Int32.toInt q86
  have n88 : nzI ((sy_i F 84) ||| (((1 : Int32)) <<< ((sy_i F 85) &&& 31))) (((sy_i F 84) ||| (((1 : Int32)) <<< ((sy_i F 85) &&& 31))).toInt) := congrArg Int32.toInt (rfl : (sy_i F 84) ||| (((1 : Int32)) <<< ((sy_i F 85) &&& 31)) = (sy_i F 84) ||| (((1 : Int32)) <<< ((sy_i F 85) &&& 31)))
  have n89 : nzI ((sy_i F 85) + ((1 : Int32))) (((sy_i F 85).toInt + 1)) := nz_add (rfl : (sy_i F 85).toInt = (sy_i F 85).toInt) (by decide : ((1 : Int32)).toInt = 1) (by omega) (by omega)
  exact j2nbi_5_p2 hd F X1 X2 hB (by first | exact g0 | (simp only [nz_c]; exact g0)) (by first | exact g1 | (simp only [nz_c]; exact g1)) (by first | exact ⟨by omega, by omega⟩ | (simp only [nz_c]; exact ⟨by omega, by omega⟩)) (by first | exact g2 | (simp only [nz_c]; exact g2) | (rw [(nzE n86)]; exact g2)) (fun F1 g e82 e83 e84 e85 => k2 g0 g1 g2 F1 (nz_in0 hB [] (fun j hj hn => g j hj (by simp only [List.mem_cons, List.not_mem_nil, or_false, not_or] at hn; exact trivial)) (List.forall_mem_nil _)) (fun j hj hn => g j hj (by simp only [List.mem_cons, List.not_mem_nil, or_false, not_or] at hn; exact trivial)) ((congrArg Int32.toInt (zz_i e82)).trans (rfl : (sy_i F 82).toInt = (sy_i F 82).toInt)) ((zz_i e82).trans (rfl : sy_i F 82 = sy_i F 82)) ((congrArg Int32.toInt (zz_i e83)).trans (rfl : (sy_i F 83).toInt = (sy_i F 83).toInt)) ((zz_i e83).trans (rfl : sy_i F 83 = sy_i F 83)) ((congrArg Int32.toInt (zz_i e84)).trans (nzE n88)) ((zz_i e84).trans (rfl : (sy_i F 84) ||| (((1 : Int32)) <<< ((sy_i F 85) &&& 31)) = (sy_i F 84) ||| (((1 : Int32)) <<< ((sy_i F 85) &&& 31)))) ((congrArg Int32.toInt (zz_i e85)).trans (nzE n89)) ((zz_i e85).trans (rfl : (sy_i F 85) + ((1 : Int32)) = (sy_i F 85) + ((1 : Int32)))))
theorem j2nhm_0_p0 {Ls : Nat} {xs : Nat → Int32} {d : Nat} {Q : Option Value → jm_h → Prop} (hd : 1 ≤ d) (F : Nat → sy_d) (X1 X2 : List jm_c) (hB : iv_in F iv_B0)
    (k : ∀ F1 : Nat → sy_d, (∀ j, j < 82 → True → F1 j = F j) → F1 82 = .inl (.int (sy_i F 82)) → F1 83 = .inl (.int (sy_i F 83)) → hd_W Ls xs d jm_M12 Q (3, sy_dL F1 [none, none, none], sy_dS F1 [.inr (.inl 83), .inr (.inl 82), .inl (.ref 46)], sy_dh F1 X1 X2 (iv_H 2), 0, 0)) :
    hd_W Ls xs d jm_M12 Q (0, sy_dL F [some (.inl (.ref 46)), some (.inr (.inl 82)), some (.inr (.inl 83))], sy_dS F [], sy_dh F X1 X2 (iv_H 2), 0, 0) := by
  refine hd_run (s := 2) (nv := 84) (pc := 3) (L := [none, none, none]) (S := [.inr (.inl 83), .inr (.inl 82), .inl (.ref 46)]) (uh := hd_ov (iv_id 0 iv_B0) []) (ul := [.inl (.inr (.inl 82)), .inl (.inr (.inl 83))]) (f := true) (sp := [3]) (d0 := 0) (O := []) (T := []) (P := []) jm_ok12 (by decide +kernel) (by decide +kernel) hd F X1 X2 (fun F' hF hs => ?_)
  have b82 := hd_b (F := F) (F' := F') (k := 82) (hF 82 (by decide))
  have b83 := hd_b (F := F) (F' := F') (k := 83) (hF 83 (by decide))
  have hB' : iv_in F' iv_B0 := iv_in_eq hB (fun j hj => hF j (Nat.lt_of_lt_of_le hj (by decide +kernel)))
  refine ⟨fun _ h => absurd h List.not_mem_nil, ?_⟩
  refine k _ ?_ ?_ ?_
  · exact fun j hj _ => (hd_keep hB' (Nat.lt_of_lt_of_le hj (by decide +kernel)) (by simp)).trans (hF j (Nat.lt_of_lt_of_le hj (by decide)))
  · exact hd_gi (x := .inr (.inl 82)) (by decide +kernel) b82
  · exact hd_gi (x := .inr (.inl 83)) (by decide +kernel) b83
theorem j2nhm_0 {Ls : Nat} {xs : Nat → Int32} {d : Nat} {Q : Option Value → jm_h → Prop} (hd : 1 ≤ d) (F : Nat → sy_d) (X1 X2 : List jm_c) (hB : iv_in F iv_B0)
    (k0 : ∀ F1 : Nat → sy_d, iv_in F1 iv_B0 → (∀ j, j < 82 → j ∉ ([] : List Nat) → F1 j = F j) → (sy_i F1 82).toInt = (sy_i F 82).toInt → sy_i F1 82 = sy_i F 82 → (sy_i F1 83).toInt = (sy_i F 83).toInt → sy_i F1 83 = sy_i F 83 → hd_W Ls xs d jm_M12 Q (3, sy_dL F1 [none, none, none], sy_dS F1 [.inr (.inl 83), .inr (.inl 82), .inl (.ref 46)], sy_dh F1 X1 X2 (iv_H 2), 0, 0)) :
    hd_W Ls xs d jm_M12 Q (0, sy_dL F [some (.inl (.ref 46)), some (.inr (.inl 82)), some (.inr (.inl 83))], sy_dS F [], sy_dh F X1 X2 (iv_H 2), 0, 0) := by
  exact j2nhm_0_p0 hd F X1 X2 hB  (fun F1 g e82 e83 => k0 F1 (nz_in0 hB [] (fun j hj hn => g j hj (by simp only [List.mem_cons, List.not_mem_nil, or_false, not_or] at hn; exact trivial)) (List.forall_mem_nil _)) (fun j hj hn => g j hj (by simp only [List.mem_cons, List.not_mem_nil, or_false, not_or] at hn; exact trivial)) ((congrArg Int32.toInt (zz_i e82)).trans (rfl : (sy_i F 82).toInt = (sy_i F 82).toInt)) ((zz_i e82).trans (rfl : sy_i F 82 = sy_i F 82)) ((congrArg Int32.toInt (zz_i e83)).trans (rfl : (sy_i F 83).toInt = (sy_i F 83).toInt)) ((zz_i e83).trans (rfl : sy_i F 83 = sy_i F 83)))
theorem j2nhm_6_p0 {Ls : Nat} {xs : Nat → Int32} {d : Nat} {Q : Option Value → jm_h → Prop} (hd : 2 ≤ d) (F : Nat → sy_d) (X1 X2 : List jm_c) (hB : iv_in F iv_B0)
    (k : ∀ F1 : Nat → sy_d, (∀ j, j < 82 → True → F1 j = F j) → Q (some (.int (((((((((sy_i F 82) - (((((sy_i F 82)).toUInt32 >>> ((((1 : Int32))).toUInt32 &&& Int32.toUInt32 31)).toInt32) &&& ((1431655765 : Int32)))) &&& ((858993459 : Int32))) + ((((((sy_i F 82) - (((((sy_i F 82)).toUInt32 >>> ((((1 : Int32))).toUInt32 &&& Int32.toUInt32 31)).toInt32) &&& ((1431655765 : Int32))))).toUInt32 >>> ((((2 : Int32))).toUInt32 &&& Int32.toUInt32 31)).toInt32) &&& ((858993459 : Int32)))) + (((((((sy_i F 82) - (((((sy_i F 82)).toUInt32 >>> ((((1 : Int32))).toUInt32 &&& Int32.toUInt32 31)).toInt32) &&& ((1431655765 : Int32)))) &&& ((858993459 : Int32))) + ((((((sy_i F 82) - (((((sy_i F 82)).toUInt32 >>> ((((1 : Int32))).toUInt32 &&& Int32.toUInt32 31)).toInt32) &&& ((1431655765 : Int32))))).toUInt32 >>> ((((2 : Int32))).toUInt32 &&& Int32.toUInt32 31)).toInt32) &&& ((858993459 : Int32))))).toUInt32 >>> ((((4 : Int32))).toUInt32 &&& Int32.toUInt32 31)).toInt32)) &&& ((252645135 : Int32))) + (((((((((sy_i F 82) - (((((sy_i F 82)).toUInt32 >>> ((((1 : Int32))).toUInt32 &&& Int32.toUInt32 31)).toInt32) &&& ((1431655765 : Int32)))) &&& ((858993459 : Int32))) + ((((((sy_i F 82) - (((((sy_i F 82)).toUInt32 >>> ((((1 : Int32))).toUInt32 &&& Int32.toUInt32 31)).toInt32) &&& ((1431655765 : Int32))))).toUInt32 >>> ((((2 : Int32))).toUInt32 &&& Int32.toUInt32 31)).toInt32) &&& ((858993459 : Int32)))) + (((((((sy_i F 82) - (((((sy_i F 82)).toUInt32 >>> ((((1 : Int32))).toUInt32 &&& Int32.toUInt32 31)).toInt32) &&& ((1431655765 : Int32)))) &&& ((858993459 : Int32))) + ((((((sy_i F 82) - (((((sy_i F 82)).toUInt32 >>> ((((1 : Int32))).toUInt32 &&& Int32.toUInt32 31)).toInt32) &&& ((1431655765 : Int32))))).toUInt32 >>> ((((2 : Int32))).toUInt32 &&& Int32.toUInt32 31)).toInt32) &&& ((858993459 : Int32))))).toUInt32 >>> ((((4 : Int32))).toUInt32 &&& Int32.toUInt32 31)).toInt32)) &&& ((252645135 : Int32)))).toUInt32 >>> ((((8 : Int32))).toUInt32 &&& Int32.toUInt32 31)).toInt32)) + ((((((((((sy_i F 82) - (((((sy_i F 82)).toUInt32 >>> ((((1 : Int32))).toUInt32 &&& Int32.toUInt32 31)).toInt32) &&& ((1431655765 : Int32)))) &&& ((858993459 : Int32))) + ((((((sy_i F 82) - (((((sy_i F 82)).toUInt32 >>> ((((1 : Int32))).toUInt32 &&& Int32.toUInt32 31)).toInt32) &&& ((1431655765 : Int32))))).toUInt32 >>> ((((2 : Int32))).toUInt32 &&& Int32.toUInt32 31)).toInt32) &&& ((858993459 : Int32)))) + (((((((sy_i F 82) - (((((sy_i F 82)).toUInt32 >>> ((((1 : Int32))).toUInt32 &&& Int32.toUInt32 31)).toInt32) &&& ((1431655765 : Int32)))) &&& ((858993459 : Int32))) + ((((((sy_i F 82) - (((((sy_i F 82)).toUInt32 >>> ((((1 : Int32))).toUInt32 &&& Int32.toUInt32 31)).toInt32) &&& ((1431655765 : Int32))))).toUInt32 >>> ((((2 : Int32))).toUInt32 &&& Int32.toUInt32 31)).toInt32) &&& ((858993459 : Int32))))).toUInt32 >>> ((((4 : Int32))).toUInt32 &&& Int32.toUInt32 31)).toInt32)) &&& ((252645135 : Int32))) + (((((((((sy_i F 82) - (((((sy_i F 82)).toUInt32 >>> ((((1 : Int32))).toUInt32 &&& Int32.toUInt32 31)).toInt32) &&& ((1431655765 : Int32)))) &&& ((858993459 : Int32))) + ((((((sy_i F 82) - (((((sy_i F 82)).toUInt32 >>> ((((1 : Int32))).toUInt32 &&& Int32.toUInt32 31)).toInt32) &&& ((1431655765 : Int32))))).toUInt32 >>> ((((2 : Int32))).toUInt32 &&& Int32.toUInt32 31)).toInt32) &&& ((858993459 : Int32)))) + (((((((sy_i F 82) - (((((sy_i F 82)).toUInt32 >>> ((((1 : Int32))).toUInt32 &&& Int32.toUInt32 31)).toInt32) &&& ((1431655765 : Int32)))) &&& ((858993459 : Int32))) + ((((((sy_i F 82) - (((((sy_i F 82)).toUInt32 >>> ((((1 : Int32))).toUInt32 &&& Int32.toUInt32 31)).toInt32) &&& ((1431655765 : Int32))))).toUInt32 >>> ((((2 : Int32))).toUInt32 &&& Int32.toUInt32 31)).toInt32) &&& ((858993459 : Int32))))).toUInt32 >>> ((((4 : Int32))).toUInt32 &&& Int32.toUInt32 31)).toInt32)) &&& ((252645135 : Int32)))).toUInt32 >>> ((((8 : Int32))).toUInt32 &&& Int32.toUInt32 31)).toInt32))).toUInt32 >>> ((((16 : Int32))).toUInt32 &&& Int32.toUInt32 31)).toInt32)) &&& ((63 : Int32))))) (sy_dh F1 X1 X2 (iv_H 2))) :
    hd_W Ls xs d jm_M12 Q (6, sy_dL F [none, none, none], sy_dS F [.inr (.inl 82)], sy_dh F X1 X2 (iv_H 2), 0, 0) := by
  refine hd_ret (s := 2) (nv := 83) (v := some (.inr (.inl 97))) (uh := hd_ov (iv_id 0 iv_B0) []) (f := false) (sp := []) (d0 := 1) (O := []) (T := [(8, [.inr (.inl 82), .inl (.int 1)], []), (3, [.inr (.inl 83), .inl (.int 1431655765)], []), (1, [.inr (.inl 82), .inr (.inl 84)], []), (3, [.inr (.inl 85), .inl (.int 858993459)], []), (8, [.inr (.inl 85), .inl (.int 2)], []), (3, [.inr (.inl 87), .inl (.int 858993459)], []), (0, [.inr (.inl 86), .inr (.inl 88)], []), (8, [.inr (.inl 89), .inl (.int 4)], []), (0, [.inr (.inl 89), .inr (.inl 90)], []), (3, [.inr (.inl 91), .inl (.int 252645135)], []), (8, [.inr (.inl 92), .inl (.int 8)], []), (0, [.inr (.inl 92), .inr (.inl 93)], []), (8, [.inr (.inl 94), .inl (.int 16)], []), (0, [.inr (.inl 94), .inr (.inl 95)], []), (3, [.inr (.inl 96), .inl (.int 63)], [])]) (P := []) jm_ok12 (by decide +kernel) (by decide +kernel) hd F X1 X2 (fun F' hF hs => ?_)
  have b82 := hd_b (F := F) (F' := F') (k := 82) (hF 82 (by decide))
  have t83 : sy_dv F' (.inr (.inl 83)) = .int ((((sy_i F 82)).toUInt32 >>> ((((1 : Int32))).toUInt32 &&& Int32.toUInt32 31)).toInt32) := hd_o (hs 0 _ rfl) b82 rfl rfl
  have t84 : sy_dv F' (.inr (.inl 84)) = .int (((((sy_i F 82)).toUInt32 >>> ((((1 : Int32))).toUInt32 &&& Int32.toUInt32 31)).toInt32) &&& ((1431655765 : Int32))) := hd_o (hs 1 _ rfl) t83 rfl rfl
  have t85 : sy_dv F' (.inr (.inl 85)) = .int ((sy_i F 82) - (((((sy_i F 82)).toUInt32 >>> ((((1 : Int32))).toUInt32 &&& Int32.toUInt32 31)).toInt32) &&& ((1431655765 : Int32)))) := hd_o (hs 2 _ rfl) b82 t84 rfl
  have t86 : sy_dv F' (.inr (.inl 86)) = .int (((sy_i F 82) - (((((sy_i F 82)).toUInt32 >>> ((((1 : Int32))).toUInt32 &&& Int32.toUInt32 31)).toInt32) &&& ((1431655765 : Int32)))) &&& ((858993459 : Int32))) := hd_o (hs 3 _ rfl) t85 rfl rfl
  have t87 : sy_dv F' (.inr (.inl 87)) = .int (((((sy_i F 82) - (((((sy_i F 82)).toUInt32 >>> ((((1 : Int32))).toUInt32 &&& Int32.toUInt32 31)).toInt32) &&& ((1431655765 : Int32))))).toUInt32 >>> ((((2 : Int32))).toUInt32 &&& Int32.toUInt32 31)).toInt32) := hd_o (hs 4 _ rfl) t85 rfl rfl
  have t88 : sy_dv F' (.inr (.inl 88)) = .int ((((((sy_i F 82) - (((((sy_i F 82)).toUInt32 >>> ((((1 : Int32))).toUInt32 &&& Int32.toUInt32 31)).toInt32) &&& ((1431655765 : Int32))))).toUInt32 >>> ((((2 : Int32))).toUInt32 &&& Int32.toUInt32 31)).toInt32) &&& ((858993459 : Int32))) := hd_o (hs 5 _ rfl) t87 rfl rfl
  have t89 : sy_dv F' (.inr (.inl 89)) = .int ((((sy_i F 82) - (((((sy_i F 82)).toUInt32 >>> ((((1 : Int32))).toUInt32 &&& Int32.toUInt32 31)).toInt32) &&& ((1431655765 : Int32)))) &&& ((858993459 : Int32))) + ((((((sy_i F 82) - (((((sy_i F 82)).toUInt32 >>> ((((1 : Int32))).toUInt32 &&& Int32.toUInt32 31)).toInt32) &&& ((1431655765 : Int32))))).toUInt32 >>> ((((2 : Int32))).toUInt32 &&& Int32.toUInt32 31)).toInt32) &&& ((858993459 : Int32)))) := hd_o (hs 6 _ rfl) t86 t88 rfl
  have t90 : sy_dv F' (.inr (.inl 90)) = .int (((((((sy_i F 82) - (((((sy_i F 82)).toUInt32 >>> ((((1 : Int32))).toUInt32 &&& Int32.toUInt32 31)).toInt32) &&& ((1431655765 : Int32)))) &&& ((858993459 : Int32))) + ((((((sy_i F 82) - (((((sy_i F 82)).toUInt32 >>> ((((1 : Int32))).toUInt32 &&& Int32.toUInt32 31)).toInt32) &&& ((1431655765 : Int32))))).toUInt32 >>> ((((2 : Int32))).toUInt32 &&& Int32.toUInt32 31)).toInt32) &&& ((858993459 : Int32))))).toUInt32 >>> ((((4 : Int32))).toUInt32 &&& Int32.toUInt32 31)).toInt32) := hd_o (hs 7 _ rfl) t89 rfl rfl
  have t91 : sy_dv F' (.inr (.inl 91)) = .int (((((sy_i F 82) - (((((sy_i F 82)).toUInt32 >>> ((((1 : Int32))).toUInt32 &&& Int32.toUInt32 31)).toInt32) &&& ((1431655765 : Int32)))) &&& ((858993459 : Int32))) + ((((((sy_i F 82) - (((((sy_i F 82)).toUInt32 >>> ((((1 : Int32))).toUInt32 &&& Int32.toUInt32 31)).toInt32) &&& ((1431655765 : Int32))))).toUInt32 >>> ((((2 : Int32))).toUInt32 &&& Int32.toUInt32 31)).toInt32) &&& ((858993459 : Int32)))) + (((((((sy_i F 82) - (((((sy_i F 82)).toUInt32 >>> ((((1 : Int32))).toUInt32 &&& Int32.toUInt32 31)).toInt32) &&& ((1431655765 : Int32)))) &&& ((858993459 : Int32))) + ((((((sy_i F 82) - (((((sy_i F 82)).toUInt32 >>> ((((1 : Int32))).toUInt32 &&& Int32.toUInt32 31)).toInt32) &&& ((1431655765 : Int32))))).toUInt32 >>> ((((2 : Int32))).toUInt32 &&& Int32.toUInt32 31)).toInt32) &&& ((858993459 : Int32))))).toUInt32 >>> ((((4 : Int32))).toUInt32 &&& Int32.toUInt32 31)).toInt32)) := hd_o (hs 8 _ rfl) t89 t90 rfl
  have t92 : sy_dv F' (.inr (.inl 92)) = .int ((((((sy_i F 82) - (((((sy_i F 82)).toUInt32 >>> ((((1 : Int32))).toUInt32 &&& Int32.toUInt32 31)).toInt32) &&& ((1431655765 : Int32)))) &&& ((858993459 : Int32))) + ((((((sy_i F 82) - (((((sy_i F 82)).toUInt32 >>> ((((1 : Int32))).toUInt32 &&& Int32.toUInt32 31)).toInt32) &&& ((1431655765 : Int32))))).toUInt32 >>> ((((2 : Int32))).toUInt32 &&& Int32.toUInt32 31)).toInt32) &&& ((858993459 : Int32)))) + (((((((sy_i F 82) - (((((sy_i F 82)).toUInt32 >>> ((((1 : Int32))).toUInt32 &&& Int32.toUInt32 31)).toInt32) &&& ((1431655765 : Int32)))) &&& ((858993459 : Int32))) + ((((((sy_i F 82) - (((((sy_i F 82)).toUInt32 >>> ((((1 : Int32))).toUInt32 &&& Int32.toUInt32 31)).toInt32) &&& ((1431655765 : Int32))))).toUInt32 >>> ((((2 : Int32))).toUInt32 &&& Int32.toUInt32 31)).toInt32) &&& ((858993459 : Int32))))).toUInt32 >>> ((((4 : Int32))).toUInt32 &&& Int32.toUInt32 31)).toInt32)) &&& ((252645135 : Int32))) := hd_o (hs 9 _ rfl) t91 rfl rfl
  have t93 : sy_dv F' (.inr (.inl 93)) = .int (((((((((sy_i F 82) - (((((sy_i F 82)).toUInt32 >>> ((((1 : Int32))).toUInt32 &&& Int32.toUInt32 31)).toInt32) &&& ((1431655765 : Int32)))) &&& ((858993459 : Int32))) + ((((((sy_i F 82) - (((((sy_i F 82)).toUInt32 >>> ((((1 : Int32))).toUInt32 &&& Int32.toUInt32 31)).toInt32) &&& ((1431655765 : Int32))))).toUInt32 >>> ((((2 : Int32))).toUInt32 &&& Int32.toUInt32 31)).toInt32) &&& ((858993459 : Int32)))) + (((((((sy_i F 82) - (((((sy_i F 82)).toUInt32 >>> ((((1 : Int32))).toUInt32 &&& Int32.toUInt32 31)).toInt32) &&& ((1431655765 : Int32)))) &&& ((858993459 : Int32))) + ((((((sy_i F 82) - (((((sy_i F 82)).toUInt32 >>> ((((1 : Int32))).toUInt32 &&& Int32.toUInt32 31)).toInt32) &&& ((1431655765 : Int32))))).toUInt32 >>> ((((2 : Int32))).toUInt32 &&& Int32.toUInt32 31)).toInt32) &&& ((858993459 : Int32))))).toUInt32 >>> ((((4 : Int32))).toUInt32 &&& Int32.toUInt32 31)).toInt32)) &&& ((252645135 : Int32)))).toUInt32 >>> ((((8 : Int32))).toUInt32 &&& Int32.toUInt32 31)).toInt32) := hd_o (hs 10 _ rfl) t92 rfl rfl
  have t94 : sy_dv F' (.inr (.inl 94)) = .int (((((((sy_i F 82) - (((((sy_i F 82)).toUInt32 >>> ((((1 : Int32))).toUInt32 &&& Int32.toUInt32 31)).toInt32) &&& ((1431655765 : Int32)))) &&& ((858993459 : Int32))) + ((((((sy_i F 82) - (((((sy_i F 82)).toUInt32 >>> ((((1 : Int32))).toUInt32 &&& Int32.toUInt32 31)).toInt32) &&& ((1431655765 : Int32))))).toUInt32 >>> ((((2 : Int32))).toUInt32 &&& Int32.toUInt32 31)).toInt32) &&& ((858993459 : Int32)))) + (((((((sy_i F 82) - (((((sy_i F 82)).toUInt32 >>> ((((1 : Int32))).toUInt32 &&& Int32.toUInt32 31)).toInt32) &&& ((1431655765 : Int32)))) &&& ((858993459 : Int32))) + ((((((sy_i F 82) - (((((sy_i F 82)).toUInt32 >>> ((((1 : Int32))).toUInt32 &&& Int32.toUInt32 31)).toInt32) &&& ((1431655765 : Int32))))).toUInt32 >>> ((((2 : Int32))).toUInt32 &&& Int32.toUInt32 31)).toInt32) &&& ((858993459 : Int32))))).toUInt32 >>> ((((4 : Int32))).toUInt32 &&& Int32.toUInt32 31)).toInt32)) &&& ((252645135 : Int32))) + (((((((((sy_i F 82) - (((((sy_i F 82)).toUInt32 >>> ((((1 : Int32))).toUInt32 &&& Int32.toUInt32 31)).toInt32) &&& ((1431655765 : Int32)))) &&& ((858993459 : Int32))) + ((((((sy_i F 82) - (((((sy_i F 82)).toUInt32 >>> ((((1 : Int32))).toUInt32 &&& Int32.toUInt32 31)).toInt32) &&& ((1431655765 : Int32))))).toUInt32 >>> ((((2 : Int32))).toUInt32 &&& Int32.toUInt32 31)).toInt32) &&& ((858993459 : Int32)))) + (((((((sy_i F 82) - (((((sy_i F 82)).toUInt32 >>> ((((1 : Int32))).toUInt32 &&& Int32.toUInt32 31)).toInt32) &&& ((1431655765 : Int32)))) &&& ((858993459 : Int32))) + ((((((sy_i F 82) - (((((sy_i F 82)).toUInt32 >>> ((((1 : Int32))).toUInt32 &&& Int32.toUInt32 31)).toInt32) &&& ((1431655765 : Int32))))).toUInt32 >>> ((((2 : Int32))).toUInt32 &&& Int32.toUInt32 31)).toInt32) &&& ((858993459 : Int32))))).toUInt32 >>> ((((4 : Int32))).toUInt32 &&& Int32.toUInt32 31)).toInt32)) &&& ((252645135 : Int32)))).toUInt32 >>> ((((8 : Int32))).toUInt32 &&& Int32.toUInt32 31)).toInt32)) := hd_o (hs 11 _ rfl) t92 t93 rfl
  have t95 : sy_dv F' (.inr (.inl 95)) = .int ((((((((((sy_i F 82) - (((((sy_i F 82)).toUInt32 >>> ((((1 : Int32))).toUInt32 &&& Int32.toUInt32 31)).toInt32) &&& ((1431655765 : Int32)))) &&& ((858993459 : Int32))) + ((((((sy_i F 82) - (((((sy_i F 82)).toUInt32 >>> ((((1 : Int32))).toUInt32 &&& Int32.toUInt32 31)).toInt32) &&& ((1431655765 : Int32))))).toUInt32 >>> ((((2 : Int32))).toUInt32 &&& Int32.toUInt32 31)).toInt32) &&& ((858993459 : Int32)))) + (((((((sy_i F 82) - (((((sy_i F 82)).toUInt32 >>> ((((1 : Int32))).toUInt32 &&& Int32.toUInt32 31)).toInt32) &&& ((1431655765 : Int32)))) &&& ((858993459 : Int32))) + ((((((sy_i F 82) - (((((sy_i F 82)).toUInt32 >>> ((((1 : Int32))).toUInt32 &&& Int32.toUInt32 31)).toInt32) &&& ((1431655765 : Int32))))).toUInt32 >>> ((((2 : Int32))).toUInt32 &&& Int32.toUInt32 31)).toInt32) &&& ((858993459 : Int32))))).toUInt32 >>> ((((4 : Int32))).toUInt32 &&& Int32.toUInt32 31)).toInt32)) &&& ((252645135 : Int32))) + (((((((((sy_i F 82) - (((((sy_i F 82)).toUInt32 >>> ((((1 : Int32))).toUInt32 &&& Int32.toUInt32 31)).toInt32) &&& ((1431655765 : Int32)))) &&& ((858993459 : Int32))) + ((((((sy_i F 82) - (((((sy_i F 82)).toUInt32 >>> ((((1 : Int32))).toUInt32 &&& Int32.toUInt32 31)).toInt32) &&& ((1431655765 : Int32))))).toUInt32 >>> ((((2 : Int32))).toUInt32 &&& Int32.toUInt32 31)).toInt32) &&& ((858993459 : Int32)))) + (((((((sy_i F 82) - (((((sy_i F 82)).toUInt32 >>> ((((1 : Int32))).toUInt32 &&& Int32.toUInt32 31)).toInt32) &&& ((1431655765 : Int32)))) &&& ((858993459 : Int32))) + ((((((sy_i F 82) - (((((sy_i F 82)).toUInt32 >>> ((((1 : Int32))).toUInt32 &&& Int32.toUInt32 31)).toInt32) &&& ((1431655765 : Int32))))).toUInt32 >>> ((((2 : Int32))).toUInt32 &&& Int32.toUInt32 31)).toInt32) &&& ((858993459 : Int32))))).toUInt32 >>> ((((4 : Int32))).toUInt32 &&& Int32.toUInt32 31)).toInt32)) &&& ((252645135 : Int32)))).toUInt32 >>> ((((8 : Int32))).toUInt32 &&& Int32.toUInt32 31)).toInt32))).toUInt32 >>> ((((16 : Int32))).toUInt32 &&& Int32.toUInt32 31)).toInt32) := hd_o (hs 12 _ rfl) t94 rfl rfl
  have t96 : sy_dv F' (.inr (.inl 96)) = .int ((((((((sy_i F 82) - (((((sy_i F 82)).toUInt32 >>> ((((1 : Int32))).toUInt32 &&& Int32.toUInt32 31)).toInt32) &&& ((1431655765 : Int32)))) &&& ((858993459 : Int32))) + ((((((sy_i F 82) - (((((sy_i F 82)).toUInt32 >>> ((((1 : Int32))).toUInt32 &&& Int32.toUInt32 31)).toInt32) &&& ((1431655765 : Int32))))).toUInt32 >>> ((((2 : Int32))).toUInt32 &&& Int32.toUInt32 31)).toInt32) &&& ((858993459 : Int32)))) + (((((((sy_i F 82) - (((((sy_i F 82)).toUInt32 >>> ((((1 : Int32))).toUInt32 &&& Int32.toUInt32 31)).toInt32) &&& ((1431655765 : Int32)))) &&& ((858993459 : Int32))) + ((((((sy_i F 82) - (((((sy_i F 82)).toUInt32 >>> ((((1 : Int32))).toUInt32 &&& Int32.toUInt32 31)).toInt32) &&& ((1431655765 : Int32))))).toUInt32 >>> ((((2 : Int32))).toUInt32 &&& Int32.toUInt32 31)).toInt32) &&& ((858993459 : Int32))))).toUInt32 >>> ((((4 : Int32))).toUInt32 &&& Int32.toUInt32 31)).toInt32)) &&& ((252645135 : Int32))) + (((((((((sy_i F 82) - (((((sy_i F 82)).toUInt32 >>> ((((1 : Int32))).toUInt32 &&& Int32.toUInt32 31)).toInt32) &&& ((1431655765 : Int32)))) &&& ((858993459 : Int32))) + ((((((sy_i F 82) - (((((sy_i F 82)).toUInt32 >>> ((((1 : Int32))).toUInt32 &&& Int32.toUInt32 31)).toInt32) &&& ((1431655765 : Int32))))).toUInt32 >>> ((((2 : Int32))).toUInt32 &&& Int32.toUInt32 31)).toInt32) &&& ((858993459 : Int32)))) + (((((((sy_i F 82) - (((((sy_i F 82)).toUInt32 >>> ((((1 : Int32))).toUInt32 &&& Int32.toUInt32 31)).toInt32) &&& ((1431655765 : Int32)))) &&& ((858993459 : Int32))) + ((((((sy_i F 82) - (((((sy_i F 82)).toUInt32 >>> ((((1 : Int32))).toUInt32 &&& Int32.toUInt32 31)).toInt32) &&& ((1431655765 : Int32))))).toUInt32 >>> ((((2 : Int32))).toUInt32 &&& Int32.toUInt32 31)).toInt32) &&& ((858993459 : Int32))))).toUInt32 >>> ((((4 : Int32))).toUInt32 &&& Int32.toUInt32 31)).toInt32)) &&& ((252645135 : Int32)))).toUInt32 >>> ((((8 : Int32))).toUInt32 &&& Int32.toUInt32 31)).toInt32)) + ((((((((((sy_i F 82) - (((((sy_i F 82)).toUInt32 >>> ((((1 : Int32))).toUInt32 &&& Int32.toUInt32 31)).toInt32) &&& ((1431655765 : Int32)))) &&& ((858993459 : Int32))) + ((((((sy_i F 82) - (((((sy_i F 82)).toUInt32 >>> ((((1 : Int32))).toUInt32 &&& Int32.toUInt32 31)).toInt32) &&& ((1431655765 : Int32))))).toUInt32 >>> ((((2 : Int32))).toUInt32 &&& Int32.toUInt32 31)).toInt32) &&& ((858993459 : Int32)))) + (((((((sy_i F 82) - (((((sy_i F 82)).toUInt32 >>> ((((1 : Int32))).toUInt32 &&& Int32.toUInt32 31)).toInt32) &&& ((1431655765 : Int32)))) &&& ((858993459 : Int32))) + ((((((sy_i F 82) - (((((sy_i F 82)).toUInt32 >>> ((((1 : Int32))).toUInt32 &&& Int32.toUInt32 31)).toInt32) &&& ((1431655765 : Int32))))).toUInt32 >>> ((((2 : Int32))).toUInt32 &&& Int32.toUInt32 31)).toInt32) &&& ((858993459 : Int32))))).toUInt32 >>> ((((4 : Int32))).toUInt32 &&& Int32.toUInt32 31)).toInt32)) &&& ((252645135 : Int32))) + (((((((((sy_i F 82) - (((((sy_i F 82)).toUInt32 >>> ((((1 : Int32))).toUInt32 &&& Int32.toUInt32 31)).toInt32) &&& ((1431655765 : Int32)))) &&& ((858993459 : Int32))) + ((((((sy_i F 82) - (((((sy_i F 82)).toUInt32 >>> ((((1 : Int32))).toUInt32 &&& Int32.toUInt32 31)).toInt32) &&& ((1431655765 : Int32))))).toUInt32 >>> ((((2 : Int32))).toUInt32 &&& Int32.toUInt32 31)).toInt32) &&& ((858993459 : Int32)))) + (((((((sy_i F 82) - (((((sy_i F 82)).toUInt32 >>> ((((1 : Int32))).toUInt32 &&& Int32.toUInt32 31)).toInt32) &&& ((1431655765 : Int32)))) &&& ((858993459 : Int32))) + ((((((sy_i F 82) - (((((sy_i F 82)).toUInt32 >>> ((((1 : Int32))).toUInt32 &&& Int32.toUInt32 31)).toInt32) &&& ((1431655765 : Int32))))).toUInt32 >>> ((((2 : Int32))).toUInt32 &&& Int32.toUInt32 31)).toInt32) &&& ((858993459 : Int32))))).toUInt32 >>> ((((4 : Int32))).toUInt32 &&& Int32.toUInt32 31)).toInt32)) &&& ((252645135 : Int32)))).toUInt32 >>> ((((8 : Int32))).toUInt32 &&& Int32.toUInt32 31)).toInt32))).toUInt32 >>> ((((16 : Int32))).toUInt32 &&& Int32.toUInt32 31)).toInt32)) := hd_o (hs 13 _ rfl) t94 t95 rfl
  have t97 : sy_dv F' (.inr (.inl 97)) = .int (((((((((sy_i F 82) - (((((sy_i F 82)).toUInt32 >>> ((((1 : Int32))).toUInt32 &&& Int32.toUInt32 31)).toInt32) &&& ((1431655765 : Int32)))) &&& ((858993459 : Int32))) + ((((((sy_i F 82) - (((((sy_i F 82)).toUInt32 >>> ((((1 : Int32))).toUInt32 &&& Int32.toUInt32 31)).toInt32) &&& ((1431655765 : Int32))))).toUInt32 >>> ((((2 : Int32))).toUInt32 &&& Int32.toUInt32 31)).toInt32) &&& ((858993459 : Int32)))) + (((((((sy_i F 82) - (((((sy_i F 82)).toUInt32 >>> ((((1 : Int32))).toUInt32 &&& Int32.toUInt32 31)).toInt32) &&& ((1431655765 : Int32)))) &&& ((858993459 : Int32))) + ((((((sy_i F 82) - (((((sy_i F 82)).toUInt32 >>> ((((1 : Int32))).toUInt32 &&& Int32.toUInt32 31)).toInt32) &&& ((1431655765 : Int32))))).toUInt32 >>> ((((2 : Int32))).toUInt32 &&& Int32.toUInt32 31)).toInt32) &&& ((858993459 : Int32))))).toUInt32 >>> ((((4 : Int32))).toUInt32 &&& Int32.toUInt32 31)).toInt32)) &&& ((252645135 : Int32))) + (((((((((sy_i F 82) - (((((sy_i F 82)).toUInt32 >>> ((((1 : Int32))).toUInt32 &&& Int32.toUInt32 31)).toInt32) &&& ((1431655765 : Int32)))) &&& ((858993459 : Int32))) + ((((((sy_i F 82) - (((((sy_i F 82)).toUInt32 >>> ((((1 : Int32))).toUInt32 &&& Int32.toUInt32 31)).toInt32) &&& ((1431655765 : Int32))))).toUInt32 >>> ((((2 : Int32))).toUInt32 &&& Int32.toUInt32 31)).toInt32) &&& ((858993459 : Int32)))) + (((((((sy_i F 82) - (((((sy_i F 82)).toUInt32 >>> ((((1 : Int32))).toUInt32 &&& Int32.toUInt32 31)).toInt32) &&& ((1431655765 : Int32)))) &&& ((858993459 : Int32))) + ((((((sy_i F 82) - (((((sy_i F 82)).toUInt32 >>> ((((1 : Int32))).toUInt32 &&& Int32.toUInt32 31)).toInt32) &&& ((1431655765 : Int32))))).toUInt32 >>> ((((2 : Int32))).toUInt32 &&& Int32.toUInt32 31)).toInt32) &&& ((858993459 : Int32))))).toUInt32 >>> ((((4 : Int32))).toUInt32 &&& Int32.toUInt32 31)).toInt32)) &&& ((252645135 : Int32)))).toUInt32 >>> ((((8 : Int32))).toUInt32 &&& Int32.toUInt32 31)).toInt32)) + ((((((((((sy_i F 82) - (((((sy_i F 82)).toUInt32 >>> ((((1 : Int32))).toUInt32 &&& Int32.toUInt32 31)).toInt32) &&& ((1431655765 : Int32)))) &&& ((858993459 : Int32))) + ((((((sy_i F 82) - (((((sy_i F 82)).toUInt32 >>> ((((1 : Int32))).toUInt32 &&& Int32.toUInt32 31)).toInt32) &&& ((1431655765 : Int32))))).toUInt32 >>> ((((2 : Int32))).toUInt32 &&& Int32.toUInt32 31)).toInt32) &&& ((858993459 : Int32)))) + (((((((sy_i F 82) - (((((sy_i F 82)).toUInt32 >>> ((((1 : Int32))).toUInt32 &&& Int32.toUInt32 31)).toInt32) &&& ((1431655765 : Int32)))) &&& ((858993459 : Int32))) + ((((((sy_i F 82) - (((((sy_i F 82)).toUInt32 >>> ((((1 : Int32))).toUInt32 &&& Int32.toUInt32 31)).toInt32) &&& ((1431655765 : Int32))))).toUInt32 >>> ((((2 : Int32))).toUInt32 &&& Int32.toUInt32 31)).toInt32) &&& ((858993459 : Int32))))).toUInt32 >>> ((((4 : Int32))).toUInt32 &&& Int32.toUInt32 31)).toInt32)) &&& ((252645135 : Int32))) + (((((((((sy_i F 82) - (((((sy_i F 82)).toUInt32 >>> ((((1 : Int32))).toUInt32 &&& Int32.toUInt32 31)).toInt32) &&& ((1431655765 : Int32)))) &&& ((858993459 : Int32))) + ((((((sy_i F 82) - (((((sy_i F 82)).toUInt32 >>> ((((1 : Int32))).toUInt32 &&& Int32.toUInt32 31)).toInt32) &&& ((1431655765 : Int32))))).toUInt32 >>> ((((2 : Int32))).toUInt32 &&& Int32.toUInt32 31)).toInt32) &&& ((858993459 : Int32)))) + (((((((sy_i F 82) - (((((sy_i F 82)).toUInt32 >>> ((((1 : Int32))).toUInt32 &&& Int32.toUInt32 31)).toInt32) &&& ((1431655765 : Int32)))) &&& ((858993459 : Int32))) + ((((((sy_i F 82) - (((((sy_i F 82)).toUInt32 >>> ((((1 : Int32))).toUInt32 &&& Int32.toUInt32 31)).toInt32) &&& ((1431655765 : Int32))))).toUInt32 >>> ((((2 : Int32))).toUInt32 &&& Int32.toUInt32 31)).toInt32) &&& ((858993459 : Int32))))).toUInt32 >>> ((((4 : Int32))).toUInt32 &&& Int32.toUInt32 31)).toInt32)) &&& ((252645135 : Int32)))).toUInt32 >>> ((((8 : Int32))).toUInt32 &&& Int32.toUInt32 31)).toInt32))).toUInt32 >>> ((((16 : Int32))).toUInt32 &&& Int32.toUInt32 31)).toInt32)) &&& ((63 : Int32))) := hd_o (hs 14 _ rfl) t96 rfl rfl
  have hB' : iv_in F' iv_B0 := iv_in_eq hB (fun j hj => hF j (Nat.lt_of_lt_of_le hj (by decide +kernel)))
  have hk := k (sy_cm F' (hd_ov (iv_id 0 iv_B0) [] ++ [])) (fun j hj _ => (hd_keep hB' (Nat.lt_of_lt_of_le hj (by decide +kernel)) (by simp)).trans (hF j (Nat.lt_of_lt_of_le hj (by decide))))
  refine ⟨fun _ h => absurd h List.not_mem_nil, ?_⟩
  show Q (some (sy_dv F' (.inr (.inl 97)))) _
  rw [t97]
  exact hk
theorem j2nhm_6 {Ls : Nat} {xs : Nat → Int32} {d : Nat} {Q : Option Value → jm_h → Prop} (hd : 2 ≤ d) (F : Nat → sy_d) (X1 X2 : List jm_c) (hB : iv_in F iv_B0)
    (k0 : ∀ F1 : Nat → sy_d, iv_in F1 iv_B0 → (∀ j, j < 82 → j ∉ ([] : List Nat) → F1 j = F j) → Q (some (.int (((((((((sy_i F 82) - (((((sy_i F 82)).toUInt32 >>> ((((1 : Int32))).toUInt32 &&& Int32.toUInt32 31)).toInt32) &&& ((1431655765 : Int32)))) &&& ((858993459 : Int32))) + ((((((sy_i F 82) - (((((sy_i F 82)).toUInt32 >>> ((((1 : Int32))).toUInt32 &&& Int32.toUInt32 31)).toInt32) &&& ((1431655765 : Int32))))).toUInt32 >>> ((((2 : Int32))).toUInt32 &&& Int32.toUInt32 31)).toInt32) &&& ((858993459 : Int32)))) + (((((((sy_i F 82) - (((((sy_i F 82)).toUInt32 >>> ((((1 : Int32))).toUInt32 &&& Int32.toUInt32 31)).toInt32) &&& ((1431655765 : Int32)))) &&& ((858993459 : Int32))) + ((((((sy_i F 82) - (((((sy_i F 82)).toUInt32 >>> ((((1 : Int32))).toUInt32 &&& Int32.toUInt32 31)).toInt32) &&& ((1431655765 : Int32))))).toUInt32 >>> ((((2 : Int32))).toUInt32 &&& Int32.toUInt32 31)).toInt32) &&& ((858993459 : Int32))))).toUInt32 >>> ((((4 : Int32))).toUInt32 &&& Int32.toUInt32 31)).toInt32)) &&& ((252645135 : Int32))) + (((((((((sy_i F 82) - (((((sy_i F 82)).toUInt32 >>> ((((1 : Int32))).toUInt32 &&& Int32.toUInt32 31)).toInt32) &&& ((1431655765 : Int32)))) &&& ((858993459 : Int32))) + ((((((sy_i F 82) - (((((sy_i F 82)).toUInt32 >>> ((((1 : Int32))).toUInt32 &&& Int32.toUInt32 31)).toInt32) &&& ((1431655765 : Int32))))).toUInt32 >>> ((((2 : Int32))).toUInt32 &&& Int32.toUInt32 31)).toInt32) &&& ((858993459 : Int32)))) + (((((((sy_i F 82) - (((((sy_i F 82)).toUInt32 >>> ((((1 : Int32))).toUInt32 &&& Int32.toUInt32 31)).toInt32) &&& ((1431655765 : Int32)))) &&& ((858993459 : Int32))) + ((((((sy_i F 82) - (((((sy_i F 82)).toUInt32 >>> ((((1 : Int32))).toUInt32 &&& Int32.toUInt32 31)).toInt32) &&& ((1431655765 : Int32))))).toUInt32 >>> ((((2 : Int32))).toUInt32 &&& Int32.toUInt32 31)).toInt32) &&& ((858993459 : Int32))))).toUInt32 >>> ((((4 : Int32))).toUInt32 &&& Int32.toUInt32 31)).toInt32)) &&& ((252645135 : Int32)))).toUInt32 >>> ((((8 : Int32))).toUInt32 &&& Int32.toUInt32 31)).toInt32)) + ((((((((((sy_i F 82) - (((((sy_i F 82)).toUInt32 >>> ((((1 : Int32))).toUInt32 &&& Int32.toUInt32 31)).toInt32) &&& ((1431655765 : Int32)))) &&& ((858993459 : Int32))) + ((((((sy_i F 82) - (((((sy_i F 82)).toUInt32 >>> ((((1 : Int32))).toUInt32 &&& Int32.toUInt32 31)).toInt32) &&& ((1431655765 : Int32))))).toUInt32 >>> ((((2 : Int32))).toUInt32 &&& Int32.toUInt32 31)).toInt32) &&& ((858993459 : Int32)))) + (((((((sy_i F 82) - (((((sy_i F 82)).toUInt32 >>> ((((1 : Int32))).toUInt32 &&& Int32.toUInt32 31)).toInt32) &&& ((1431655765 : Int32)))) &&& ((858993459 : Int32))) + ((((((sy_i F 82) - (((((sy_i F 82)).toUInt32 >>> ((((1 : Int32))).toUInt32 &&& Int32.toUInt32 31)).toInt32) &&& ((1431655765 : Int32))))).toUInt32 >>> ((((2 : Int32))).toUInt32 &&& Int32.toUInt32 31)).toInt32) &&& ((858993459 : Int32))))).toUInt32 >>> ((((4 : Int32))).toUInt32 &&& Int32.toUInt32 31)).toInt32)) &&& ((252645135 : Int32))) + (((((((((sy_i F 82) - (((((sy_i F 82)).toUInt32 >>> ((((1 : Int32))).toUInt32 &&& Int32.toUInt32 31)).toInt32) &&& ((1431655765 : Int32)))) &&& ((858993459 : Int32))) + ((((((sy_i F 82) - (((((sy_i F 82)).toUInt32 >>> ((((1 : Int32))).toUInt32 &&& Int32.toUInt32 31)).toInt32) &&& ((1431655765 : Int32))))).toUInt32 >>> ((((2 : Int32))).toUInt32 &&& Int32.toUInt32 31)).toInt32) &&& ((858993459 : Int32)))) + (((((((sy_i F 82) - (((((sy_i F 82)).toUInt32 >>> ((((1 : Int32))).toUInt32 &&& Int32.toUInt32 31)).toInt32) &&& ((1431655765 : Int32)))) &&& ((858993459 : Int32))) + ((((((sy_i F 82) - (((((sy_i F 82)).toUInt32 >>> ((((1 : Int32))).toUInt32 &&& Int32.toUInt32 31)).toInt32) &&& ((1431655765 : Int32))))).toUInt32 >>> ((((2 : Int32))).toUInt32 &&& Int32.toUInt32 31)).toInt32) &&& ((858993459 : Int32))))).toUInt32 >>> ((((4 : Int32))).toUInt32 &&& Int32.toUInt32 31)).toInt32)) &&& ((252645135 : Int32)))).toUInt32 >>> ((((8 : Int32))).toUInt32 &&& Int32.toUInt32 31)).toInt32))).toUInt32 >>> ((((16 : Int32))).toUInt32 &&& Int32.toUInt32 31)).toInt32)) &&& ((63 : Int32))))) (sy_dh F1 X1 X2 (iv_H 2))) :
    hd_W Ls xs d jm_M12 Q (6, sy_dL F [none, none, none], sy_dS F [.inr (.inl 82)], sy_dh F X1 X2 (iv_H 2), 0, 0) := by
  exact j2nhm_6_p0 hd F X1 X2 hB  (fun F1 g  => by rw [(rfl : ((((((((sy_i F 82) - (((((sy_i F 82)).toUInt32 >>> ((((1 : Int32))).toUInt32 &&& Int32.toUInt32 31)).toInt32) &&& ((1431655765 : Int32)))) &&& ((858993459 : Int32))) + ((((((sy_i F 82) - (((((sy_i F 82)).toUInt32 >>> ((((1 : Int32))).toUInt32 &&& Int32.toUInt32 31)).toInt32) &&& ((1431655765 : Int32))))).toUInt32 >>> ((((2 : Int32))).toUInt32 &&& Int32.toUInt32 31)).toInt32) &&& ((858993459 : Int32)))) + (((((((sy_i F 82) - (((((sy_i F 82)).toUInt32 >>> ((((1 : Int32))).toUInt32 &&& Int32.toUInt32 31)).toInt32) &&& ((1431655765 : Int32)))) &&& ((858993459 : Int32))) + ((((((sy_i F 82) - (((((sy_i F 82)).toUInt32 >>> ((((1 : Int32))).toUInt32 &&& Int32.toUInt32 31)).toInt32) &&& ((1431655765 : Int32))))).toUInt32 >>> ((((2 : Int32))).toUInt32 &&& Int32.toUInt32 31)).toInt32) &&& ((858993459 : Int32))))).toUInt32 >>> ((((4 : Int32))).toUInt32 &&& Int32.toUInt32 31)).toInt32)) &&& ((252645135 : Int32))) + (((((((((sy_i F 82) - (((((sy_i F 82)).toUInt32 >>> ((((1 : Int32))).toUInt32 &&& Int32.toUInt32 31)).toInt32) &&& ((1431655765 : Int32)))) &&& ((858993459 : Int32))) + ((((((sy_i F 82) - (((((sy_i F 82)).toUInt32 >>> ((((1 : Int32))).toUInt32 &&& Int32.toUInt32 31)).toInt32) &&& ((1431655765 : Int32))))).toUInt32 >>> ((((2 : Int32))).toUInt32 &&& Int32.toUInt32 31)).toInt32) &&& ((858993459 : Int32)))) + (((((((sy_i F 82) - (((((sy_i F 82)).toUInt32 >>> ((((1 : Int32))).toUInt32 &&& Int32.toUInt32 31)).toInt32) &&& ((1431655765 : Int32)))) &&& ((858993459 : Int32))) + ((((((sy_i F 82) - (((((sy_i F 82)).toUInt32 >>> ((((1 : Int32))).toUInt32 &&& Int32.toUInt32 31)).toInt32) &&& ((1431655765 : Int32))))).toUInt32 >>> ((((2 : Int32))).toUInt32 &&& Int32.toUInt32 31)).toInt32) &&& ((858993459 : Int32))))).toUInt32 >>> ((((4 : Int32))).toUInt32 &&& Int32.toUInt32 31)).toInt32)) &&& ((252645135 : Int32)))).toUInt32 >>> ((((8 : Int32))).toUInt32 &&& Int32.toUInt32 31)).toInt32)) + ((((((((((sy_i F 82) - (((((sy_i F 82)).toUInt32 >>> ((((1 : Int32))).toUInt32 &&& Int32.toUInt32 31)).toInt32) &&& ((1431655765 : Int32)))) &&& ((858993459 : Int32))) + ((((((sy_i F 82) - (((((sy_i F 82)).toUInt32 >>> ((((1 : Int32))).toUInt32 &&& Int32.toUInt32 31)).toInt32) &&& ((1431655765 : Int32))))).toUInt32 >>> ((((2 : Int32))).toUInt32 &&& Int32.toUInt32 31)).toInt32) &&& ((858993459 : Int32)))) + (((((((sy_i F 82) - (((((sy_i F 82)).toUInt32 >>> ((((1 : Int32))).toUInt32 &&& Int32.toUInt32 31)).toInt32) &&& ((1431655765 : Int32)))) &&& ((858993459 : Int32))) + ((((((sy_i F 82) - (((((sy_i F 82)).toUInt32 >>> ((((1 : Int32))).toUInt32 &&& Int32.toUInt32 31)).toInt32) &&& ((1431655765 : Int32))))).toUInt32 >>> ((((2 : Int32))).toUInt32 &&& Int32.toUInt32 31)).toInt32) &&& ((858993459 : Int32))))).toUInt32 >>> ((((4 : Int32))).toUInt32 &&& Int32.toUInt32 31)).toInt32)) &&& ((252645135 : Int32))) + (((((((((sy_i F 82) - (((((sy_i F 82)).toUInt32 >>> ((((1 : Int32))).toUInt32 &&& Int32.toUInt32 31)).toInt32) &&& ((1431655765 : Int32)))) &&& ((858993459 : Int32))) + ((((((sy_i F 82) - (((((sy_i F 82)).toUInt32 >>> ((((1 : Int32))).toUInt32 &&& Int32.toUInt32 31)).toInt32) &&& ((1431655765 : Int32))))).toUInt32 >>> ((((2 : Int32))).toUInt32 &&& Int32.toUInt32 31)).toInt32) &&& ((858993459 : Int32)))) + (((((((sy_i F 82) - (((((sy_i F 82)).toUInt32 >>> ((((1 : Int32))).toUInt32 &&& Int32.toUInt32 31)).toInt32) &&& ((1431655765 : Int32)))) &&& ((858993459 : Int32))) + ((((((sy_i F 82) - (((((sy_i F 82)).toUInt32 >>> ((((1 : Int32))).toUInt32 &&& Int32.toUInt32 31)).toInt32) &&& ((1431655765 : Int32))))).toUInt32 >>> ((((2 : Int32))).toUInt32 &&& Int32.toUInt32 31)).toInt32) &&& ((858993459 : Int32))))).toUInt32 >>> ((((4 : Int32))).toUInt32 &&& Int32.toUInt32 31)).toInt32)) &&& ((252645135 : Int32)))).toUInt32 >>> ((((8 : Int32))).toUInt32 &&& Int32.toUInt32 31)).toInt32))).toUInt32 >>> ((((16 : Int32))).toUInt32 &&& Int32.toUInt32 31)).toInt32)) &&& ((63 : Int32)) = ((((((((sy_i F 82) - (((((sy_i F 82)).toUInt32 >>> ((((1 : Int32))).toUInt32 &&& Int32.toUInt32 31)).toInt32) &&& ((1431655765 : Int32)))) &&& ((858993459 : Int32))) + ((((((sy_i F 82) - (((((sy_i F 82)).toUInt32 >>> ((((1 : Int32))).toUInt32 &&& Int32.toUInt32 31)).toInt32) &&& ((1431655765 : Int32))))).toUInt32 >>> ((((2 : Int32))).toUInt32 &&& Int32.toUInt32 31)).toInt32) &&& ((858993459 : Int32)))) + (((((((sy_i F 82) - (((((sy_i F 82)).toUInt32 >>> ((((1 : Int32))).toUInt32 &&& Int32.toUInt32 31)).toInt32) &&& ((1431655765 : Int32)))) &&& ((858993459 : Int32))) + ((((((sy_i F 82) - (((((sy_i F 82)).toUInt32 >>> ((((1 : Int32))).toUInt32 &&& Int32.toUInt32 31)).toInt32) &&& ((1431655765 : Int32))))).toUInt32 >>> ((((2 : Int32))).toUInt32 &&& Int32.toUInt32 31)).toInt32) &&& ((858993459 : Int32))))).toUInt32 >>> ((((4 : Int32))).toUInt32 &&& Int32.toUInt32 31)).toInt32)) &&& ((252645135 : Int32))) + (((((((((sy_i F 82) - (((((sy_i F 82)).toUInt32 >>> ((((1 : Int32))).toUInt32 &&& Int32.toUInt32 31)).toInt32) &&& ((1431655765 : Int32)))) &&& ((858993459 : Int32))) + ((((((sy_i F 82) - (((((sy_i F 82)).toUInt32 >>> ((((1 : Int32))).toUInt32 &&& Int32.toUInt32 31)).toInt32) &&& ((1431655765 : Int32))))).toUInt32 >>> ((((2 : Int32))).toUInt32 &&& Int32.toUInt32 31)).toInt32) &&& ((858993459 : Int32)))) + (((((((sy_i F 82) - (((((sy_i F 82)).toUInt32 >>> ((((1 : Int32))).toUInt32 &&& Int32.toUInt32 31)).toInt32) &&& ((1431655765 : Int32)))) &&& ((858993459 : Int32))) + ((((((sy_i F 82) - (((((sy_i F 82)).toUInt32 >>> ((((1 : Int32))).toUInt32 &&& Int32.toUInt32 31)).toInt32) &&& ((1431655765 : Int32))))).toUInt32 >>> ((((2 : Int32))).toUInt32 &&& Int32.toUInt32 31)).toInt32) &&& ((858993459 : Int32))))).toUInt32 >>> ((((4 : Int32))).toUInt32 &&& Int32.toUInt32 31)).toInt32)) &&& ((252645135 : Int32)))).toUInt32 >>> ((((8 : Int32))).toUInt32 &&& Int32.toUInt32 31)).toInt32)) + ((((((((((sy_i F 82) - (((((sy_i F 82)).toUInt32 >>> ((((1 : Int32))).toUInt32 &&& Int32.toUInt32 31)).toInt32) &&& ((1431655765 : Int32)))) &&& ((858993459 : Int32))) + ((((((sy_i F 82) - (((((sy_i F 82)).toUInt32 >>> ((((1 : Int32))).toUInt32 &&& Int32.toUInt32 31)).toInt32) &&& ((1431655765 : Int32))))).toUInt32 >>> ((((2 : Int32))).toUInt32 &&& Int32.toUInt32 31)).toInt32) &&& ((858993459 : Int32)))) + (((((((sy_i F 82) - (((((sy_i F 82)).toUInt32 >>> ((((1 : Int32))).toUInt32 &&& Int32.toUInt32 31)).toInt32) &&& ((1431655765 : Int32)))) &&& ((858993459 : Int32))) + ((((((sy_i F 82) - (((((sy_i F 82)).toUInt32 >>> ((((1 : Int32))).toUInt32 &&& Int32.toUInt32 31)).toInt32) &&& ((1431655765 : Int32))))).toUInt32 >>> ((((2 : Int32))).toUInt32 &&& Int32.toUInt32 31)).toInt32) &&& ((858993459 : Int32))))).toUInt32 >>> ((((4 : Int32))).toUInt32 &&& Int32.toUInt32 31)).toInt32)) &&& ((252645135 : Int32))) + (((((((((sy_i F 82) - (((((sy_i F 82)).toUInt32 >>> ((((1 : Int32))).toUInt32 &&& Int32.toUInt32 31)).toInt32) &&& ((1431655765 : Int32)))) &&& ((858993459 : Int32))) + ((((((sy_i F 82) - (((((sy_i F 82)).toUInt32 >>> ((((1 : Int32))).toUInt32 &&& Int32.toUInt32 31)).toInt32) &&& ((1431655765 : Int32))))).toUInt32 >>> ((((2 : Int32))).toUInt32 &&& Int32.toUInt32 31)).toInt32) &&& ((858993459 : Int32)))) + (((((((sy_i F 82) - (((((sy_i F 82)).toUInt32 >>> ((((1 : Int32))).toUInt32 &&& Int32.toUInt32 31)).toInt32) &&& ((1431655765 : Int32)))) &&& ((858993459 : Int32))) + ((((((sy_i F 82) - (((((sy_i F 82)).toUInt32 >>> ((((1 : Int32))).toUInt32 &&& Int32.toUInt32 31)).toInt32) &&& ((1431655765 : Int32))))).toUInt32 >>> ((((2 : Int32))).toUInt32 &&& Int32.toUInt32 31)).toInt32) &&& ((858993459 : Int32))))).toUInt32 >>> ((((4 : Int32))).toUInt32 &&& Int32.toUInt32 31)).toInt32)) &&& ((252645135 : Int32)))).toUInt32 >>> ((((8 : Int32))).toUInt32 &&& Int32.toUInt32 31)).toInt32))).toUInt32 >>> ((((16 : Int32))).toUInt32 &&& Int32.toUInt32 31)).toInt32)) &&& ((63 : Int32)))]; exact k0 F1 (nz_in0 hB [] (fun j hj hn => g j hj (by simp only [List.mem_cons, List.not_mem_nil, or_false, not_or] at hn; exact trivial)) (List.forall_mem_nil _)) (fun j hj hn => g j hj (by simp only [List.mem_cons, List.not_mem_nil, or_false, not_or] at hn; exact trivial)) )
theorem j2nnr_0_p0 {Ls : Nat} {xs : Nat → Int32} {d : Nat} {Q : Option Value → jm_h → Prop} (hd : 1 ≤ d) (F : Nat → sy_d) (X1 X2 : List jm_c) (hB : iv_in F iv_B0)
    (k : ∀ F1 : Nat → sy_d, (∀ j, j < 82 → True → F1 j = F j) → F1 82 = .inl (.int (sy_i F 82)) → F1 83 = .inl (.int (sy_i F 83)) → F1 84 = .inl (.int (((-2) : Int32))) → F1 85 = .inl (.int ((4 : Int32))) → F1 86 = .inl (.int ((0 : Int32))) → hd_W Ls xs d jm_M13 Q (10, sy_dL F1 [some (.inl (.ref 46)), some (.inl (.ref 20)), some (.inr (.inl 82)), some (.inr (.inl 83)), some (.inr (.inl 84)), some (.inr (.inl 85)), some (.inr (.inl 86)), none], sy_dS F1 [], sy_dh F1 X1 X2 (iv_H 2), 0, 0)) :
    hd_W Ls xs d jm_M13 Q (0, sy_dL F [some (.inl (.ref 46)), some (.inl (.ref 20)), some (.inr (.inl 82)), some (.inr (.inl 83)), none, none, none, none], sy_dS F [], sy_dh F X1 X2 (iv_H 2), 0, 0) := by
  refine hd_run (s := 2) (nv := 84) (pc := 10) (L := [some (.inl (.ref 46)), some (.inl (.ref 20)), some (.inr (.inl 82)), some (.inr (.inl 83)), some (.inr (.inl 84)), some (.inr (.inl 85)), some (.inr (.inl 86)), none]) (S := []) (uh := hd_ov (iv_id 0 iv_B0) []) (ul := [.inl (.inr (.inl 82)), .inl (.inr (.inl 83)), .inl (.inl (.int (-2))), .inl (.inl (.int 4)), .inl (.inl (.int 0))]) (f := true) (sp := [10]) (d0 := 0) (O := []) (T := []) (P := []) jm_ok13 (by decide +kernel) (by decide +kernel) hd F X1 X2 (fun F' hF hs => ?_)
  have b82 := hd_b (F := F) (F' := F') (k := 82) (hF 82 (by decide))
  have b83 := hd_b (F := F) (F' := F') (k := 83) (hF 83 (by decide))
  have hB' : iv_in F' iv_B0 := iv_in_eq hB (fun j hj => hF j (Nat.lt_of_lt_of_le hj (by decide +kernel)))
  refine ⟨fun _ h => absurd h List.not_mem_nil, ?_⟩
  refine k _ ?_ ?_ ?_ ?_ ?_ ?_
  · exact fun j hj _ => (hd_keep hB' (Nat.lt_of_lt_of_le hj (by decide +kernel)) (by simp)).trans (hF j (Nat.lt_of_lt_of_le hj (by decide)))
  · exact hd_gi (x := .inr (.inl 82)) (by decide +kernel) b82
  · exact hd_gi (x := .inr (.inl 83)) (by decide +kernel) b83
  · exact hd_gi (x := .inl (.int (-2))) (by decide +kernel) rfl
  · exact hd_gi (x := .inl (.int 4)) (by decide +kernel) rfl
  · exact hd_gi (x := .inl (.int 0)) (by decide +kernel) rfl
theorem j2nnr_0 {Ls : Nat} {xs : Nat → Int32} {d : Nat} {Q : Option Value → jm_h → Prop} (hd : 1 ≤ d) (F : Nat → sy_d) (X1 X2 : List jm_c) (hB : iv_in F iv_B0)
    (k0 : ∀ F1 : Nat → sy_d, iv_in F1 iv_B0 → (∀ j, j < 82 → j ∉ ([] : List Nat) → F1 j = F j) → (sy_i F1 82).toInt = (sy_i F 82).toInt → sy_i F1 82 = sy_i F 82 → (sy_i F1 83).toInt = (sy_i F 83).toInt → sy_i F1 83 = sy_i F 83 → (sy_i F1 84).toInt = (-2 : Int) → sy_i F1 84 = ((-2) : Int32) → (sy_i F1 85).toInt = 4 → sy_i F1 85 = (4 : Int32) → (sy_i F1 86).toInt = 0 → sy_i F1 86 = (0 : Int32) → hd_W Ls xs d jm_M13 Q (10, sy_dL F1 [some (.inl (.ref 46)), some (.inl (.ref 20)), some (.inr (.inl 82)), some (.inr (.inl 83)), some (.inr (.inl 84)), some (.inr (.inl 85)), some (.inr (.inl 86)), none], sy_dS F1 [], sy_dh F1 X1 X2 (iv_H 2), 0, 0)) :
    hd_W Ls xs d jm_M13 Q (0, sy_dL F [some (.inl (.ref 46)), some (.inl (.ref 20)), some (.inr (.inl 82)), some (.inr (.inl 83)), none, none, none, none], sy_dS F [], sy_dh F X1 X2 (iv_H 2), 0, 0) := by
  exact j2nnr_0_p0 hd F X1 X2 hB  (fun F1 g e82 e83 e84 e85 e86 => k0 F1 (nz_in0 hB [] (fun j hj hn => g j hj (by simp only [List.mem_cons, List.not_mem_nil, or_false, not_or] at hn; exact trivial)) (List.forall_mem_nil _)) (fun j hj hn => g j hj (by simp only [List.mem_cons, List.not_mem_nil, or_false, not_or] at hn; exact trivial)) ((congrArg Int32.toInt (zz_i e82)).trans (rfl : (sy_i F 82).toInt = (sy_i F 82).toInt)) ((zz_i e82).trans (rfl : sy_i F 82 = sy_i F 82)) ((congrArg Int32.toInt (zz_i e83)).trans (rfl : (sy_i F 83).toInt = (sy_i F 83).toInt)) ((zz_i e83).trans (rfl : sy_i F 83 = sy_i F 83)) ((congrArg Int32.toInt (zz_i e84)).trans (by decide : (((-2) : Int32)).toInt = (-2 : Int))) ((zz_i e84).trans (rfl : ((-2) : Int32) = ((-2) : Int32))) ((congrArg Int32.toInt (zz_i e85)).trans (by decide : ((4 : Int32)).toInt = 4)) ((zz_i e85).trans (rfl : (4 : Int32) = (4 : Int32))) ((congrArg Int32.toInt (zz_i e86)).trans (by decide : ((0 : Int32)).toInt = 0)) ((zz_i e86).trans (rfl : (0 : Int32) = (0 : Int32))))
theorem j2nnr_10_p0 {Ls : Nat} {xs : Nat → Int32} {d : Nat} {Q : Option Value → jm_h → Prop} (hd : 2 ≤ d) (F : Nat → sy_d) (X1 X2 : List jm_c) (hB : iv_in F iv_B0)
    (h0 : (sy_i F 19).toInt ≤ (sy_i F 86).toInt)
    (k : ∀ F1 : Nat → sy_d, (∀ j, j < 82 → True → F1 j = F j) → Q (some (.int (sy_i F 84))) (sy_dh F1 X1 X2 (iv_H 2))) :
    hd_W Ls xs d jm_M13 Q (10, sy_dL F [some (.inl (.ref 46)), some (.inl (.ref 20)), some (.inr (.inl 82)), some (.inr (.inl 83)), some (.inr (.inl 84)), some (.inr (.inl 85)), some (.inr (.inl 86)), none], sy_dS F [], sy_dh F X1 X2 (iv_H 2), 0, 0) := by
  refine hd_ret (s := 2) (nv := 87) (v := some (.inr (.inl 84))) (uh := hd_ov (iv_id 0 iv_B0) []) (f := true) (sp := [10]) (d0 := 1) (O := [true]) (T := []) (P := [(4, .inr (.inl 19), .inr (.inl 86))]) jm_ok13 (by decide +kernel) (by decide +kernel) hd F X1 X2 (fun F' hF hs => ?_)
  have b19 := hd_b (F := F) (F' := F') (k := 19) (hF 19 (by decide))
  have b86 := hd_b (F := F) (F' := F') (k := 86) (hF 86 (by decide))
  have b84 := hd_b (F := F) (F' := F') (k := 84) (hF 84 (by decide))
  have hB' : iv_in F' iv_B0 := iv_in_eq hB (fun j hj => hF j (Nat.lt_of_lt_of_le hj (by decide +kernel)))
  have hk := k (sy_cm F' (hd_ov (iv_id 0 iv_B0) [] ++ [])) (fun j hj _ => (hd_keep hB' (Nat.lt_of_lt_of_le hj (by decide +kernel)) (by simp)).trans (hF j (Nat.lt_of_lt_of_le hj (by decide))))
  refine ⟨List.forall_mem_cons.mpr ⟨hd_p4 b19 b86 h0, fun _ h => absurd h List.not_mem_nil⟩, ?_⟩
  show Q (some (sy_dv F' (.inr (.inl 84)))) _
  rw [b84]
  exact hk
theorem j2nnr_10_p1 {Ls : Nat} {xs : Nat → Int32} {d : Nat} {Q : Option Value → jm_h → Prop} (hd : 2 ≤ d) (F : Nat → sy_d) (X1 X2 : List jm_c) (hB : iv_in F iv_B0)
    (h0 : (sy_i F 86).toInt < (sy_i F 19).toInt)
    (h1 : 0 ≤ (sy_i F 86).toInt ∧ (sy_i F 86).toInt < 4)
    (h2 : 0 ≤ (((sy_ai F 60).getD (sy_i F 86).toNatClampNeg 0) - (sy_i F 82)).toInt)
    (h3 : 0 ≤ (sy_i F 86).toInt ∧ (sy_i F 86).toInt < 4)
    (h4 : ((sy_ai F 29).getD (sy_i F 86).toNatClampNeg 0).toInt < (((sy_ai F 60).getD (sy_i F 86).toNatClampNeg 0) - (sy_i F 82)).toInt)
    (k : ∀ F1 : Nat → sy_d, (∀ j, j < 82 → True → F1 j = F j) → F1 82 = .inl (.int (sy_i F 82)) → F1 83 = .inl (.int (sy_i F 83)) → F1 84 = .inl (.int (sy_i F 84)) → F1 85 = .inl (.int (sy_i F 85)) → F1 86 = .inl (.int ((sy_i F 86) + ((1 : Int32)))) → hd_W Ls xs d jm_M13 Q (10, sy_dL F1 [some (.inl (.ref 46)), some (.inl (.ref 20)), some (.inr (.inl 82)), some (.inr (.inl 83)), some (.inr (.inl 84)), some (.inr (.inl 85)), some (.inr (.inl 86)), none], sy_dS F1 [], sy_dh F1 X1 X2 (iv_H 2), 0, 0)) :
    hd_W Ls xs d jm_M13 Q (10, sy_dL F [some (.inl (.ref 46)), some (.inl (.ref 20)), some (.inr (.inl 82)), some (.inr (.inl 83)), some (.inr (.inl 84)), some (.inr (.inl 85)), some (.inr (.inl 86)), none], sy_dS F [], sy_dh F X1 X2 (iv_H 2), 0, 0) := by
  refine hd_run (s := 2) (nv := 87) (pc := 10) (L := [some (.inl (.ref 46)), some (.inl (.ref 20)), some (.inr (.inl 82)), some (.inr (.inl 83)), some (.inr (.inl 84)), some (.inr (.inl 85)), some (.inr (.inl 86)), none]) (S := []) (uh := hd_ov (iv_id 0 iv_B0) []) (ul := [.inl (.inr (.inl 82)), .inl (.inr (.inl 83)), .inl (.inr (.inl 84)), .inl (.inr (.inl 85)), .inl (.inr (.inl 90))]) (f := true) (sp := [10]) (d0 := 1) (O := [false, true, true]) (T := [(30, [.inr (.inl 86)], [.inr (.inl 60)]), (1, [.inr (.inl 87), .inr (.inl 82)], []), (30, [.inr (.inl 86)], [.inr (.inl 29)]), (0, [.inr (.inl 86), .inl (.int 1)], [])]) (P := [(5, .inr (.inl 19), .inr (.inl 86)), (6, .inr (.inl 86), .inl (.ref 4)), (4, .inl (.int 0), .inr (.inl 88)), (6, .inr (.inl 86), .inl (.ref 4)), (2, .inr (.inl 89), .inr (.inl 88))]) jm_ok13 (by decide +kernel) (by decide +kernel) hd F X1 X2 (fun F' hF hs => ?_)
  have b19 := hd_b (F := F) (F' := F') (k := 19) (hF 19 (by decide))
  have b86 := hd_b (F := F) (F' := F') (k := 86) (hF 86 (by decide))
  have a60 := hd_ba (F := F) (F' := F') (k := 60) (hF 60 (by decide))
  have t87 : sy_dv F' (.inr (.inl 87)) = .int ((sy_ai F 60).getD (sy_i F 86).toNatClampNeg 0) := hd_rd (hs 0 _ rfl) b86 a60
  have b82 := hd_b (F := F) (F' := F') (k := 82) (hF 82 (by decide))
  have t88 : sy_dv F' (.inr (.inl 88)) = .int (((sy_ai F 60).getD (sy_i F 86).toNatClampNeg 0) - (sy_i F 82)) := hd_o (hs 1 _ rfl) t87 b82 rfl
  have a29 := hd_ba (F := F) (F' := F') (k := 29) (hF 29 (by decide))
  have t89 : sy_dv F' (.inr (.inl 89)) = .int ((sy_ai F 29).getD (sy_i F 86).toNatClampNeg 0) := hd_rd (hs 2 _ rfl) b86 a29
  have b83 := hd_b (F := F) (F' := F') (k := 83) (hF 83 (by decide))
  have b84 := hd_b (F := F) (F' := F') (k := 84) (hF 84 (by decide))
  have b85 := hd_b (F := F) (F' := F') (k := 85) (hF 85 (by decide))
  have t90 : sy_dv F' (.inr (.inl 90)) = .int ((sy_i F 86) + ((1 : Int32))) := hd_o (hs 3 _ rfl) b86 rfl rfl
  have hB' : iv_in F' iv_B0 := iv_in_eq hB (fun j hj => hF j (Nat.lt_of_lt_of_le hj (by decide +kernel)))
  refine ⟨List.forall_mem_cons.mpr ⟨hd_p5 b19 b86 h0, List.forall_mem_cons.mpr ⟨hd_pb b86 (by first | exact h1 | exact h1), List.forall_mem_cons.mpr ⟨hd_p4 rfl t88 (by have hc : ((0) : Int32).toInt = 0 := (by decide); omega), List.forall_mem_cons.mpr ⟨hd_pb b86 (by first | exact h3 | exact h3), List.forall_mem_cons.mpr ⟨hd_p2 t89 t88 h4, fun _ h => absurd h List.not_mem_nil⟩⟩⟩⟩⟩, ?_⟩
  refine k _ ?_ ?_ ?_ ?_ ?_ ?_
  · exact fun j hj _ => (hd_keep hB' (Nat.lt_of_lt_of_le hj (by decide +kernel)) (by simp)).trans (hF j (Nat.lt_of_lt_of_le hj (by decide)))
  · exact hd_gi (x := .inr (.inl 82)) (by decide +kernel) b82
  · exact hd_gi (x := .inr (.inl 83)) (by decide +kernel) b83
  · exact hd_gi (x := .inr (.inl 84)) (by decide +kernel) b84
  · exact hd_gi (x := .inr (.inl 85)) (by decide +kernel) b85
  · exact hd_gi (x := .inr (.inl 90)) (by decide +kernel) t90
theorem j2nnr_10_p2 {Ls : Nat} {xs : Nat → Int32} {d : Nat} {Q : Option Value → jm_h → Prop} (hd : 2 ≤ d) (F : Nat → sy_d) (X1 X2 : List jm_c) (hB : iv_in F iv_B0)
    (h0 : (sy_i F 86).toInt < (sy_i F 19).toInt)
    (h1 : 0 ≤ (sy_i F 86).toInt ∧ (sy_i F 86).toInt < 4)
    (h2 : 0 ≤ (((sy_ai F 60).getD (sy_i F 86).toNatClampNeg 0) - (sy_i F 82)).toInt)
    (h3 : 0 ≤ (sy_i F 86).toInt ∧ (sy_i F 86).toInt < 4)
    (h4 : (((sy_ai F 60).getD (sy_i F 86).toNatClampNeg 0) - (sy_i F 82)).toInt ≤ ((sy_ai F 29).getD (sy_i F 86).toNatClampNeg 0).toInt)
    (h5 : (sy_i F 85).toInt ≤ (((sy_ai F 60).getD (sy_i F 86).toNatClampNeg 0) - (sy_i F 82)).toInt)
    (k : ∀ F1 : Nat → sy_d, (∀ j, j < 82 → True → F1 j = F j) → F1 82 = .inl (.int (sy_i F 82)) → F1 83 = .inl (.int (sy_i F 83)) → F1 84 = .inl (.int (sy_i F 84)) → F1 85 = .inl (.int (sy_i F 85)) → F1 86 = .inl (.int ((sy_i F 86) + ((1 : Int32)))) → hd_W Ls xs d jm_M13 Q (10, sy_dL F1 [some (.inl (.ref 46)), some (.inl (.ref 20)), some (.inr (.inl 82)), some (.inr (.inl 83)), some (.inr (.inl 84)), some (.inr (.inl 85)), some (.inr (.inl 86)), none], sy_dS F1 [], sy_dh F1 X1 X2 (iv_H 2), 0, 0)) :
    hd_W Ls xs d jm_M13 Q (10, sy_dL F [some (.inl (.ref 46)), some (.inl (.ref 20)), some (.inr (.inl 82)), some (.inr (.inl 83)), some (.inr (.inl 84)), some (.inr (.inl 85)), some (.inr (.inl 86)), none], sy_dS F [], sy_dh F X1 X2 (iv_H 2), 0, 0) := by
  refine hd_run (s := 2) (nv := 87) (pc := 10) (L := [some (.inl (.ref 46)), some (.inl (.ref 20)), some (.inr (.inl 82)), some (.inr (.inl 83)), some (.inr (.inl 84)), some (.inr (.inl 85)), some (.inr (.inl 86)), none]) (S := []) (uh := hd_ov (iv_id 0 iv_B0) []) (ul := [.inl (.inr (.inl 82)), .inl (.inr (.inl 83)), .inl (.inr (.inl 84)), .inl (.inr (.inl 85)), .inl (.inr (.inl 90))]) (f := true) (sp := [10]) (d0 := 1) (O := [false, true, false, true]) (T := [(30, [.inr (.inl 86)], [.inr (.inl 60)]), (1, [.inr (.inl 87), .inr (.inl 82)], []), (30, [.inr (.inl 86)], [.inr (.inl 29)]), (0, [.inr (.inl 86), .inl (.int 1)], [])]) (P := [(5, .inr (.inl 19), .inr (.inl 86)), (6, .inr (.inl 86), .inl (.ref 4)), (4, .inl (.int 0), .inr (.inl 88)), (6, .inr (.inl 86), .inl (.ref 4)), (3, .inr (.inl 89), .inr (.inl 88)), (4, .inr (.inl 85), .inr (.inl 88))]) jm_ok13 (by decide +kernel) (by decide +kernel) hd F X1 X2 (fun F' hF hs => ?_)
  have b19 := hd_b (F := F) (F' := F') (k := 19) (hF 19 (by decide))
  have b86 := hd_b (F := F) (F' := F') (k := 86) (hF 86 (by decide))
  have a60 := hd_ba (F := F) (F' := F') (k := 60) (hF 60 (by decide))
  have t87 : sy_dv F' (.inr (.inl 87)) = .int ((sy_ai F 60).getD (sy_i F 86).toNatClampNeg 0) := hd_rd (hs 0 _ rfl) b86 a60
  have b82 := hd_b (F := F) (F' := F') (k := 82) (hF 82 (by decide))
  have t88 : sy_dv F' (.inr (.inl 88)) = .int (((sy_ai F 60).getD (sy_i F 86).toNatClampNeg 0) - (sy_i F 82)) := hd_o (hs 1 _ rfl) t87 b82 rfl
  have a29 := hd_ba (F := F) (F' := F') (k := 29) (hF 29 (by decide))
  have t89 : sy_dv F' (.inr (.inl 89)) = .int ((sy_ai F 29).getD (sy_i F 86).toNatClampNeg 0) := hd_rd (hs 2 _ rfl) b86 a29
  have b85 := hd_b (F := F) (F' := F') (k := 85) (hF 85 (by decide))
  have b83 := hd_b (F := F) (F' := F') (k := 83) (hF 83 (by decide))
  have b84 := hd_b (F := F) (F' := F') (k := 84) (hF 84 (by decide))
  have t90 : sy_dv F' (.inr (.inl 90)) = .int ((sy_i F 86) + ((1 : Int32))) := hd_o (hs 3 _ rfl) b86 rfl rfl
  have hB' : iv_in F' iv_B0 := iv_in_eq hB (fun j hj => hF j (Nat.lt_of_lt_of_le hj (by decide +kernel)))
  refine ⟨List.forall_mem_cons.mpr ⟨hd_p5 b19 b86 h0, List.forall_mem_cons.mpr ⟨hd_pb b86 (by first | exact h1 | exact h1), List.forall_mem_cons.mpr ⟨hd_p4 rfl t88 (by have hc : ((0) : Int32).toInt = 0 := (by decide); omega), List.forall_mem_cons.mpr ⟨hd_pb b86 (by first | exact h3 | exact h3), List.forall_mem_cons.mpr ⟨hd_p3 t89 t88 h4, List.forall_mem_cons.mpr ⟨hd_p4 b85 t88 h5, fun _ h => absurd h List.not_mem_nil⟩⟩⟩⟩⟩⟩, ?_⟩
  refine k _ ?_ ?_ ?_ ?_ ?_ ?_
  · exact fun j hj _ => (hd_keep hB' (Nat.lt_of_lt_of_le hj (by decide +kernel)) (by simp)).trans (hF j (Nat.lt_of_lt_of_le hj (by decide)))
  · exact hd_gi (x := .inr (.inl 82)) (by decide +kernel) b82
  · exact hd_gi (x := .inr (.inl 83)) (by decide +kernel) b83
  · exact hd_gi (x := .inr (.inl 84)) (by decide +kernel) b84
  · exact hd_gi (x := .inr (.inl 85)) (by decide +kernel) b85
  · exact hd_gi (x := .inr (.inl 90)) (by decide +kernel) t90
theorem j2nnr_10_p3 {Ls : Nat} {xs : Nat → Int32} {d : Nat} {Q : Option Value → jm_h → Prop} (hd : 2 ≤ d) (F : Nat → sy_d) (X1 X2 : List jm_c) (hB : iv_in F iv_B0)
    (h0 : (sy_i F 86).toInt < (sy_i F 19).toInt)
    (h1 : 0 ≤ (sy_i F 86).toInt ∧ (sy_i F 86).toInt < 4)
    (h2 : 0 ≤ (((sy_ai F 60).getD (sy_i F 86).toNatClampNeg 0) - (sy_i F 82)).toInt)
    (h3 : 0 ≤ (sy_i F 86).toInt ∧ (sy_i F 86).toInt < 4)
    (h4 : (((sy_ai F 60).getD (sy_i F 86).toNatClampNeg 0) - (sy_i F 82)).toInt ≤ ((sy_ai F 29).getD (sy_i F 86).toNatClampNeg 0).toInt)
    (h5 : (((sy_ai F 60).getD (sy_i F 86).toNatClampNeg 0) - (sy_i F 82)).toInt < (sy_i F 85).toInt)
    (h6 : 0 ≤ (sy_i F 86).toInt ∧ (sy_i F 86).toInt < 4)
    (h7 : ((sy_ai F 61).getD (sy_i F 86).toNatClampNeg 0).toInt < (sy_i F 83).toInt)
    (k : ∀ F1 : Nat → sy_d, (∀ j, j < 82 → True → F1 j = F j) → F1 82 = .inl (.int (sy_i F 82)) → F1 83 = .inl (.int (sy_i F 83)) → F1 84 = .inl (.int (sy_i F 84)) → F1 85 = .inl (.int (sy_i F 85)) → F1 86 = .inl (.int ((sy_i F 86) + ((1 : Int32)))) → hd_W Ls xs d jm_M13 Q (10, sy_dL F1 [some (.inl (.ref 46)), some (.inl (.ref 20)), some (.inr (.inl 82)), some (.inr (.inl 83)), some (.inr (.inl 84)), some (.inr (.inl 85)), some (.inr (.inl 86)), none], sy_dS F1 [], sy_dh F1 X1 X2 (iv_H 2), 0, 0)) :
    hd_W Ls xs d jm_M13 Q (10, sy_dL F [some (.inl (.ref 46)), some (.inl (.ref 20)), some (.inr (.inl 82)), some (.inr (.inl 83)), some (.inr (.inl 84)), some (.inr (.inl 85)), some (.inr (.inl 86)), none], sy_dS F [], sy_dh F X1 X2 (iv_H 2), 0, 0) := by
  refine hd_run (s := 2) (nv := 87) (pc := 10) (L := [some (.inl (.ref 46)), some (.inl (.ref 20)), some (.inr (.inl 82)), some (.inr (.inl 83)), some (.inr (.inl 84)), some (.inr (.inl 85)), some (.inr (.inl 86)), none]) (S := []) (uh := hd_ov (iv_id 0 iv_B0) []) (ul := [.inl (.inr (.inl 82)), .inl (.inr (.inl 83)), .inl (.inr (.inl 84)), .inl (.inr (.inl 85)), .inl (.inr (.inl 91))]) (f := true) (sp := [10]) (d0 := 1) (O := [false, true, false, false, true]) (T := [(30, [.inr (.inl 86)], [.inr (.inl 60)]), (1, [.inr (.inl 87), .inr (.inl 82)], []), (30, [.inr (.inl 86)], [.inr (.inl 29)]), (30, [.inr (.inl 86)], [.inr (.inl 61)]), (0, [.inr (.inl 86), .inl (.int 1)], [])]) (P := [(5, .inr (.inl 19), .inr (.inl 86)), (6, .inr (.inl 86), .inl (.ref 4)), (4, .inl (.int 0), .inr (.inl 88)), (6, .inr (.inl 86), .inl (.ref 4)), (3, .inr (.inl 89), .inr (.inl 88)), (5, .inr (.inl 85), .inr (.inl 88)), (6, .inr (.inl 86), .inl (.ref 4)), (2, .inr (.inl 90), .inr (.inl 83))]) jm_ok13 (by decide +kernel) (by decide +kernel) hd F X1 X2 (fun F' hF hs => ?_)
  have b19 := hd_b (F := F) (F' := F') (k := 19) (hF 19 (by decide))
  have b86 := hd_b (F := F) (F' := F') (k := 86) (hF 86 (by decide))
  have a60 := hd_ba (F := F) (F' := F') (k := 60) (hF 60 (by decide))
  have t87 : sy_dv F' (.inr (.inl 87)) = .int ((sy_ai F 60).getD (sy_i F 86).toNatClampNeg 0) := hd_rd (hs 0 _ rfl) b86 a60
  have b82 := hd_b (F := F) (F' := F') (k := 82) (hF 82 (by decide))
  have t88 : sy_dv F' (.inr (.inl 88)) = .int (((sy_ai F 60).getD (sy_i F 86).toNatClampNeg 0) - (sy_i F 82)) := hd_o (hs 1 _ rfl) t87 b82 rfl
  have a29 := hd_ba (F := F) (F' := F') (k := 29) (hF 29 (by decide))
  have t89 : sy_dv F' (.inr (.inl 89)) = .int ((sy_ai F 29).getD (sy_i F 86).toNatClampNeg 0) := hd_rd (hs 2 _ rfl) b86 a29
  have b85 := hd_b (F := F) (F' := F') (k := 85) (hF 85 (by decide))
  have a61 := hd_ba (F := F) (F' := F') (k := 61) (hF 61 (by decide))
  have t90 : sy_dv F' (.inr (.inl 90)) = .int ((sy_ai F 61).getD (sy_i F 86).toNatClampNeg 0) := hd_rd (hs 3 _ rfl) b86 a61
  have b83 := hd_b (F := F) (F' := F') (k := 83) (hF 83 (by decide))
  have b84 := hd_b (F := F) (F' := F') (k := 84) (hF 84 (by decide))
  have t91 : sy_dv F' (.inr (.inl 91)) = .int ((sy_i F 86) + ((1 : Int32))) := hd_o (hs 4 _ rfl) b86 rfl rfl
  have hB' : iv_in F' iv_B0 := iv_in_eq hB (fun j hj => hF j (Nat.lt_of_lt_of_le hj (by decide +kernel)))
  refine ⟨List.forall_mem_cons.mpr ⟨hd_p5 b19 b86 h0, List.forall_mem_cons.mpr ⟨hd_pb b86 (by first | exact h1 | exact h1), List.forall_mem_cons.mpr ⟨hd_p4 rfl t88 (by have hc : ((0) : Int32).toInt = 0 := (by decide); omega), List.forall_mem_cons.mpr ⟨hd_pb b86 (by first | exact h3 | exact h3), List.forall_mem_cons.mpr ⟨hd_p3 t89 t88 h4, List.forall_mem_cons.mpr ⟨hd_p5 b85 t88 h5, List.forall_mem_cons.mpr ⟨hd_pb b86 (by first | exact h6 | exact h6), List.forall_mem_cons.mpr ⟨hd_p2 t90 b83 h7, fun _ h => absurd h List.not_mem_nil⟩⟩⟩⟩⟩⟩⟩⟩, ?_⟩
  refine k _ ?_ ?_ ?_ ?_ ?_ ?_
  · exact fun j hj _ => (hd_keep hB' (Nat.lt_of_lt_of_le hj (by decide +kernel)) (by simp)).trans (hF j (Nat.lt_of_lt_of_le hj (by decide)))
  · exact hd_gi (x := .inr (.inl 82)) (by decide +kernel) b82
  · exact hd_gi (x := .inr (.inl 83)) (by decide +kernel) b83
  · exact hd_gi (x := .inr (.inl 84)) (by decide +kernel) b84
  · exact hd_gi (x := .inr (.inl 85)) (by decide +kernel) b85
  · exact hd_gi (x := .inr (.inl 91)) (by decide +kernel) t91
theorem j2nnr_10_p4 {Ls : Nat} {xs : Nat → Int32} {d : Nat} {Q : Option Value → jm_h → Prop} (hd : 2 ≤ d) (F : Nat → sy_d) (X1 X2 : List jm_c) (hB : iv_in F iv_B0)
    (h0 : (sy_i F 86).toInt < (sy_i F 19).toInt)
    (h1 : 0 ≤ (sy_i F 86).toInt ∧ (sy_i F 86).toInt < 4)
    (h2 : 0 ≤ (((sy_ai F 60).getD (sy_i F 86).toNatClampNeg 0) - (sy_i F 82)).toInt)
    (h3 : 0 ≤ (sy_i F 86).toInt ∧ (sy_i F 86).toInt < 4)
    (h4 : (((sy_ai F 60).getD (sy_i F 86).toNatClampNeg 0) - (sy_i F 82)).toInt ≤ ((sy_ai F 29).getD (sy_i F 86).toNatClampNeg 0).toInt)
    (h5 : (((sy_ai F 60).getD (sy_i F 86).toNatClampNeg 0) - (sy_i F 82)).toInt < (sy_i F 85).toInt)
    (h6 : 0 ≤ (sy_i F 86).toInt ∧ (sy_i F 86).toInt < 4)
    (h7 : (sy_i F 83).toInt ≤ ((sy_ai F 61).getD (sy_i F 86).toNatClampNeg 0).toInt)
    (k : ∀ F1 : Nat → sy_d, (∀ j, j < 82 → True → F1 j = F j) → F1 82 = .inl (.int (sy_i F 82)) → F1 83 = .inl (.int (sy_i F 83)) → F1 84 = .inl (.int (sy_i F 86)) → F1 85 = .inl (.int (((sy_ai F 60).getD (sy_i F 86).toNatClampNeg 0) - (sy_i F 82))) → F1 86 = .inl (.int ((sy_i F 86) + ((1 : Int32)))) → hd_W Ls xs d jm_M13 Q (10, sy_dL F1 [some (.inl (.ref 46)), some (.inl (.ref 20)), some (.inr (.inl 82)), some (.inr (.inl 83)), some (.inr (.inl 84)), some (.inr (.inl 85)), some (.inr (.inl 86)), none], sy_dS F1 [], sy_dh F1 X1 X2 (iv_H 2), 0, 0)) :
    hd_W Ls xs d jm_M13 Q (10, sy_dL F [some (.inl (.ref 46)), some (.inl (.ref 20)), some (.inr (.inl 82)), some (.inr (.inl 83)), some (.inr (.inl 84)), some (.inr (.inl 85)), some (.inr (.inl 86)), none], sy_dS F [], sy_dh F X1 X2 (iv_H 2), 0, 0) := by
  refine hd_run (s := 2) (nv := 87) (pc := 10) (L := [some (.inl (.ref 46)), some (.inl (.ref 20)), some (.inr (.inl 82)), some (.inr (.inl 83)), some (.inr (.inl 84)), some (.inr (.inl 85)), some (.inr (.inl 86)), none]) (S := []) (uh := hd_ov (iv_id 0 iv_B0) []) (ul := [.inl (.inr (.inl 82)), .inl (.inr (.inl 83)), .inl (.inr (.inl 86)), .inl (.inr (.inl 88)), .inl (.inr (.inl 91))]) (f := true) (sp := [10]) (d0 := 1) (O := [false, true, false, false, false]) (T := [(30, [.inr (.inl 86)], [.inr (.inl 60)]), (1, [.inr (.inl 87), .inr (.inl 82)], []), (30, [.inr (.inl 86)], [.inr (.inl 29)]), (30, [.inr (.inl 86)], [.inr (.inl 61)]), (0, [.inr (.inl 86), .inl (.int 1)], [])]) (P := [(5, .inr (.inl 19), .inr (.inl 86)), (6, .inr (.inl 86), .inl (.ref 4)), (4, .inl (.int 0), .inr (.inl 88)), (6, .inr (.inl 86), .inl (.ref 4)), (3, .inr (.inl 89), .inr (.inl 88)), (5, .inr (.inl 85), .inr (.inl 88)), (6, .inr (.inl 86), .inl (.ref 4)), (3, .inr (.inl 90), .inr (.inl 83))]) jm_ok13 (by decide +kernel) (by decide +kernel) hd F X1 X2 (fun F' hF hs => ?_)
  have b19 := hd_b (F := F) (F' := F') (k := 19) (hF 19 (by decide))
  have b86 := hd_b (F := F) (F' := F') (k := 86) (hF 86 (by decide))
  have a60 := hd_ba (F := F) (F' := F') (k := 60) (hF 60 (by decide))
  have t87 : sy_dv F' (.inr (.inl 87)) = .int ((sy_ai F 60).getD (sy_i F 86).toNatClampNeg 0) := hd_rd (hs 0 _ rfl) b86 a60
  have b82 := hd_b (F := F) (F' := F') (k := 82) (hF 82 (by decide))
  have t88 : sy_dv F' (.inr (.inl 88)) = .int (((sy_ai F 60).getD (sy_i F 86).toNatClampNeg 0) - (sy_i F 82)) := hd_o (hs 1 _ rfl) t87 b82 rfl
  have a29 := hd_ba (F := F) (F' := F') (k := 29) (hF 29 (by decide))
  have t89 : sy_dv F' (.inr (.inl 89)) = .int ((sy_ai F 29).getD (sy_i F 86).toNatClampNeg 0) := hd_rd (hs 2 _ rfl) b86 a29
  have b85 := hd_b (F := F) (F' := F') (k := 85) (hF 85 (by decide))
  have a61 := hd_ba (F := F) (F' := F') (k := 61) (hF 61 (by decide))
  have t90 : sy_dv F' (.inr (.inl 90)) = .int ((sy_ai F 61).getD (sy_i F 86).toNatClampNeg 0) := hd_rd (hs 3 _ rfl) b86 a61
  have b83 := hd_b (F := F) (F' := F') (k := 83) (hF 83 (by decide))
  have t91 : sy_dv F' (.inr (.inl 91)) = .int ((sy_i F 86) + ((1 : Int32))) := hd_o (hs 4 _ rfl) b86 rfl rfl
  have hB' : iv_in F' iv_B0 := iv_in_eq hB (fun j hj => hF j (Nat.lt_of_lt_of_le hj (by decide +kernel)))
  refine ⟨List.forall_mem_cons.mpr ⟨hd_p5 b19 b86 h0, List.forall_mem_cons.mpr ⟨hd_pb b86 (by first | exact h1 | exact h1), List.forall_mem_cons.mpr ⟨hd_p4 rfl t88 (by have hc : ((0) : Int32).toInt = 0 := (by decide); omega), List.forall_mem_cons.mpr ⟨hd_pb b86 (by first | exact h3 | exact h3), List.forall_mem_cons.mpr ⟨hd_p3 t89 t88 h4, List.forall_mem_cons.mpr ⟨hd_p5 b85 t88 h5, List.forall_mem_cons.mpr ⟨hd_pb b86 (by first | exact h6 | exact h6), List.forall_mem_cons.mpr ⟨hd_p3 t90 b83 h7, fun _ h => absurd h List.not_mem_nil⟩⟩⟩⟩⟩⟩⟩⟩, ?_⟩
  refine k _ ?_ ?_ ?_ ?_ ?_ ?_
  · exact fun j hj _ => (hd_keep hB' (Nat.lt_of_lt_of_le hj (by decide +kernel)) (by simp)).trans (hF j (Nat.lt_of_lt_of_le hj (by decide)))
  · exact hd_gi (x := .inr (.inl 82)) (by decide +kernel) b82
  · exact hd_gi (x := .inr (.inl 83)) (by decide +kernel) b83
  · exact hd_gi (x := .inr (.inl 86)) (by decide +kernel) b86
  · exact hd_gi (x := .inr (.inl 88)) (by decide +kernel) t88
  · exact hd_gi (x := .inr (.inl 91)) (by decide +kernel) t91
theorem j2nnr_10_p5 {Ls : Nat} {xs : Nat → Int32} {d : Nat} {Q : Option Value → jm_h → Prop} (hd : 2 ≤ d) (F : Nat → sy_d) (X1 X2 : List jm_c) (hB : iv_in F iv_B0)
    (h0 : (sy_i F 86).toInt < (sy_i F 19).toInt)
    (h1 : 0 ≤ (sy_i F 86).toInt ∧ (sy_i F 86).toInt < 4)
    (h2 : (((sy_ai F 60).getD (sy_i F 86).toNatClampNeg 0) - (sy_i F 82)).toInt < 0)
    (h3 : 0 ≤ (sy_i F 86).toInt ∧ (sy_i F 86).toInt < 4)
    (h4 : ((sy_ai F 29).getD (sy_i F 86).toNatClampNeg 0).toInt < (0 - (((sy_ai F 60).getD (sy_i F 86).toNatClampNeg 0) - (sy_i F 82))).toInt)
    (k : ∀ F1 : Nat → sy_d, (∀ j, j < 82 → True → F1 j = F j) → F1 82 = .inl (.int (sy_i F 82)) → F1 83 = .inl (.int (sy_i F 83)) → F1 84 = .inl (.int (sy_i F 84)) → F1 85 = .inl (.int (sy_i F 85)) → F1 86 = .inl (.int ((sy_i F 86) + ((1 : Int32)))) → hd_W Ls xs d jm_M13 Q (10, sy_dL F1 [some (.inl (.ref 46)), some (.inl (.ref 20)), some (.inr (.inl 82)), some (.inr (.inl 83)), some (.inr (.inl 84)), some (.inr (.inl 85)), some (.inr (.inl 86)), none], sy_dS F1 [], sy_dh F1 X1 X2 (iv_H 2), 0, 0)) :
    hd_W Ls xs d jm_M13 Q (10, sy_dL F [some (.inl (.ref 46)), some (.inl (.ref 20)), some (.inr (.inl 82)), some (.inr (.inl 83)), some (.inr (.inl 84)), some (.inr (.inl 85)), some (.inr (.inl 86)), none], sy_dS F [], sy_dh F X1 X2 (iv_H 2), 0, 0) := by
  refine hd_run (s := 2) (nv := 87) (pc := 10) (L := [some (.inl (.ref 46)), some (.inl (.ref 20)), some (.inr (.inl 82)), some (.inr (.inl 83)), some (.inr (.inl 84)), some (.inr (.inl 85)), some (.inr (.inl 86)), none]) (S := []) (uh := hd_ov (iv_id 0 iv_B0) []) (ul := [.inl (.inr (.inl 82)), .inl (.inr (.inl 83)), .inl (.inr (.inl 84)), .inl (.inr (.inl 85)), .inl (.inr (.inl 91))]) (f := true) (sp := [10]) (d0 := 1) (O := [false, false, true]) (T := [(30, [.inr (.inl 86)], [.inr (.inl 60)]), (1, [.inr (.inl 87), .inr (.inl 82)], []), (20, [.inr (.inl 88)], []), (30, [.inr (.inl 86)], [.inr (.inl 29)]), (0, [.inr (.inl 86), .inl (.int 1)], [])]) (P := [(5, .inr (.inl 19), .inr (.inl 86)), (6, .inr (.inl 86), .inl (.ref 4)), (5, .inl (.int 0), .inr (.inl 88)), (6, .inr (.inl 86), .inl (.ref 4)), (2, .inr (.inl 90), .inr (.inl 89))]) jm_ok13 (by decide +kernel) (by decide +kernel) hd F X1 X2 (fun F' hF hs => ?_)
  have b19 := hd_b (F := F) (F' := F') (k := 19) (hF 19 (by decide))
  have b86 := hd_b (F := F) (F' := F') (k := 86) (hF 86 (by decide))
  have a60 := hd_ba (F := F) (F' := F') (k := 60) (hF 60 (by decide))
  have t87 : sy_dv F' (.inr (.inl 87)) = .int ((sy_ai F 60).getD (sy_i F 86).toNatClampNeg 0) := hd_rd (hs 0 _ rfl) b86 a60
  have b82 := hd_b (F := F) (F' := F') (k := 82) (hF 82 (by decide))
  have t88 : sy_dv F' (.inr (.inl 88)) = .int (((sy_ai F 60).getD (sy_i F 86).toNatClampNeg 0) - (sy_i F 82)) := hd_o (hs 1 _ rfl) t87 b82 rfl
  have a29 := hd_ba (F := F) (F' := F') (k := 29) (hF 29 (by decide))
  have t90 : sy_dv F' (.inr (.inl 90)) = .int ((sy_ai F 29).getD (sy_i F 86).toNatClampNeg 0) := hd_rd (hs 3 _ rfl) b86 a29
  have t89 : sy_dv F' (.inr (.inl 89)) = .int (0 - (((sy_ai F 60).getD (sy_i F 86).toNatClampNeg 0) - (sy_i F 82))) := hd_u (hs 2 _ rfl) t88 rfl
  have b83 := hd_b (F := F) (F' := F') (k := 83) (hF 83 (by decide))
  have b84 := hd_b (F := F) (F' := F') (k := 84) (hF 84 (by decide))
  have b85 := hd_b (F := F) (F' := F') (k := 85) (hF 85 (by decide))
  have t91 : sy_dv F' (.inr (.inl 91)) = .int ((sy_i F 86) + ((1 : Int32))) := hd_o (hs 4 _ rfl) b86 rfl rfl
  have hB' : iv_in F' iv_B0 := iv_in_eq hB (fun j hj => hF j (Nat.lt_of_lt_of_le hj (by decide +kernel)))
  refine ⟨List.forall_mem_cons.mpr ⟨hd_p5 b19 b86 h0, List.forall_mem_cons.mpr ⟨hd_pb b86 (by first | exact h1 | exact h1), List.forall_mem_cons.mpr ⟨hd_p5 rfl t88 (by have hc : ((0) : Int32).toInt = 0 := (by decide); omega), List.forall_mem_cons.mpr ⟨hd_pb b86 (by first | exact h3 | exact h3), List.forall_mem_cons.mpr ⟨hd_p2 t90 t89 h4, fun _ h => absurd h List.not_mem_nil⟩⟩⟩⟩⟩, ?_⟩
  refine k _ ?_ ?_ ?_ ?_ ?_ ?_
  · exact fun j hj _ => (hd_keep hB' (Nat.lt_of_lt_of_le hj (by decide +kernel)) (by simp)).trans (hF j (Nat.lt_of_lt_of_le hj (by decide)))
  · exact hd_gi (x := .inr (.inl 82)) (by decide +kernel) b82
  · exact hd_gi (x := .inr (.inl 83)) (by decide +kernel) b83
  · exact hd_gi (x := .inr (.inl 84)) (by decide +kernel) b84
  · exact hd_gi (x := .inr (.inl 85)) (by decide +kernel) b85
  · exact hd_gi (x := .inr (.inl 91)) (by decide +kernel) t91
theorem j2nnr_10_p6 {Ls : Nat} {xs : Nat → Int32} {d : Nat} {Q : Option Value → jm_h → Prop} (hd : 2 ≤ d) (F : Nat → sy_d) (X1 X2 : List jm_c) (hB : iv_in F iv_B0)
    (h0 : (sy_i F 86).toInt < (sy_i F 19).toInt)
    (h1 : 0 ≤ (sy_i F 86).toInt ∧ (sy_i F 86).toInt < 4)
    (h2 : (((sy_ai F 60).getD (sy_i F 86).toNatClampNeg 0) - (sy_i F 82)).toInt < 0)
    (h3 : 0 ≤ (sy_i F 86).toInt ∧ (sy_i F 86).toInt < 4)
    (h4 : (0 - (((sy_ai F 60).getD (sy_i F 86).toNatClampNeg 0) - (sy_i F 82))).toInt ≤ ((sy_ai F 29).getD (sy_i F 86).toNatClampNeg 0).toInt)
    (h5 : (sy_i F 85).toInt ≤ (0 - (((sy_ai F 60).getD (sy_i F 86).toNatClampNeg 0) - (sy_i F 82))).toInt)
    (k : ∀ F1 : Nat → sy_d, (∀ j, j < 82 → True → F1 j = F j) → F1 82 = .inl (.int (sy_i F 82)) → F1 83 = .inl (.int (sy_i F 83)) → F1 84 = .inl (.int (sy_i F 84)) → F1 85 = .inl (.int (sy_i F 85)) → F1 86 = .inl (.int ((sy_i F 86) + ((1 : Int32)))) → hd_W Ls xs d jm_M13 Q (10, sy_dL F1 [some (.inl (.ref 46)), some (.inl (.ref 20)), some (.inr (.inl 82)), some (.inr (.inl 83)), some (.inr (.inl 84)), some (.inr (.inl 85)), some (.inr (.inl 86)), none], sy_dS F1 [], sy_dh F1 X1 X2 (iv_H 2), 0, 0)) :
    hd_W Ls xs d jm_M13 Q (10, sy_dL F [some (.inl (.ref 46)), some (.inl (.ref 20)), some (.inr (.inl 82)), some (.inr (.inl 83)), some (.inr (.inl 84)), some (.inr (.inl 85)), some (.inr (.inl 86)), none], sy_dS F [], sy_dh F X1 X2 (iv_H 2), 0, 0) := by
  refine hd_run (s := 2) (nv := 87) (pc := 10) (L := [some (.inl (.ref 46)), some (.inl (.ref 20)), some (.inr (.inl 82)), some (.inr (.inl 83)), some (.inr (.inl 84)), some (.inr (.inl 85)), some (.inr (.inl 86)), none]) (S := []) (uh := hd_ov (iv_id 0 iv_B0) []) (ul := [.inl (.inr (.inl 82)), .inl (.inr (.inl 83)), .inl (.inr (.inl 84)), .inl (.inr (.inl 85)), .inl (.inr (.inl 91))]) (f := true) (sp := [10]) (d0 := 1) (O := [false, false, false, true]) (T := [(30, [.inr (.inl 86)], [.inr (.inl 60)]), (1, [.inr (.inl 87), .inr (.inl 82)], []), (20, [.inr (.inl 88)], []), (30, [.inr (.inl 86)], [.inr (.inl 29)]), (0, [.inr (.inl 86), .inl (.int 1)], [])]) (P := [(5, .inr (.inl 19), .inr (.inl 86)), (6, .inr (.inl 86), .inl (.ref 4)), (5, .inl (.int 0), .inr (.inl 88)), (6, .inr (.inl 86), .inl (.ref 4)), (3, .inr (.inl 90), .inr (.inl 89)), (4, .inr (.inl 85), .inr (.inl 89))]) jm_ok13 (by decide +kernel) (by decide +kernel) hd F X1 X2 (fun F' hF hs => ?_)
  have b19 := hd_b (F := F) (F' := F') (k := 19) (hF 19 (by decide))
  have b86 := hd_b (F := F) (F' := F') (k := 86) (hF 86 (by decide))
  have a60 := hd_ba (F := F) (F' := F') (k := 60) (hF 60 (by decide))
  have t87 : sy_dv F' (.inr (.inl 87)) = .int ((sy_ai F 60).getD (sy_i F 86).toNatClampNeg 0) := hd_rd (hs 0 _ rfl) b86 a60
  have b82 := hd_b (F := F) (F' := F') (k := 82) (hF 82 (by decide))
  have t88 : sy_dv F' (.inr (.inl 88)) = .int (((sy_ai F 60).getD (sy_i F 86).toNatClampNeg 0) - (sy_i F 82)) := hd_o (hs 1 _ rfl) t87 b82 rfl
  have a29 := hd_ba (F := F) (F' := F') (k := 29) (hF 29 (by decide))
  have t90 : sy_dv F' (.inr (.inl 90)) = .int ((sy_ai F 29).getD (sy_i F 86).toNatClampNeg 0) := hd_rd (hs 3 _ rfl) b86 a29
  have t89 : sy_dv F' (.inr (.inl 89)) = .int (0 - (((sy_ai F 60).getD (sy_i F 86).toNatClampNeg 0) - (sy_i F 82))) := hd_u (hs 2 _ rfl) t88 rfl
  have b85 := hd_b (F := F) (F' := F') (k := 85) (hF 85 (by decide))
  have b83 := hd_b (F := F) (F' := F') (k := 83) (hF 83 (by decide))
  have b84 := hd_b (F := F) (F' := F') (k := 84) (hF 84 (by decide))
  have t91 : sy_dv F' (.inr (.inl 91)) = .int ((sy_i F 86) + ((1 : Int32))) := hd_o (hs 4 _ rfl) b86 rfl rfl
  have hB' : iv_in F' iv_B0 := iv_in_eq hB (fun j hj => hF j (Nat.lt_of_lt_of_le hj (by decide +kernel)))
  refine ⟨List.forall_mem_cons.mpr ⟨hd_p5 b19 b86 h0, List.forall_mem_cons.mpr ⟨hd_pb b86 (by first | exact h1 | exact h1), List.forall_mem_cons.mpr ⟨hd_p5 rfl t88 (by have hc : ((0) : Int32).toInt = 0 := (by decide); omega), List.forall_mem_cons.mpr ⟨hd_pb b86 (by first | exact h3 | exact h3), List.forall_mem_cons.mpr ⟨hd_p3 t90 t89 h4, List.forall_mem_cons.mpr ⟨hd_p4 b85 t89 h5, fun _ h => absurd h List.not_mem_nil⟩⟩⟩⟩⟩⟩, ?_⟩
  refine k _ ?_ ?_ ?_ ?_ ?_ ?_
  · exact fun j hj _ => (hd_keep hB' (Nat.lt_of_lt_of_le hj (by decide +kernel)) (by simp)).trans (hF j (Nat.lt_of_lt_of_le hj (by decide)))
  · exact hd_gi (x := .inr (.inl 82)) (by decide +kernel) b82
  · exact hd_gi (x := .inr (.inl 83)) (by decide +kernel) b83
  · exact hd_gi (x := .inr (.inl 84)) (by decide +kernel) b84
  · exact hd_gi (x := .inr (.inl 85)) (by decide +kernel) b85
  · exact hd_gi (x := .inr (.inl 91)) (by decide +kernel) t91
theorem j2nnr_10_p7 {Ls : Nat} {xs : Nat → Int32} {d : Nat} {Q : Option Value → jm_h → Prop} (hd : 2 ≤ d) (F : Nat → sy_d) (X1 X2 : List jm_c) (hB : iv_in F iv_B0)
    (h0 : (sy_i F 86).toInt < (sy_i F 19).toInt)
    (h1 : 0 ≤ (sy_i F 86).toInt ∧ (sy_i F 86).toInt < 4)
    (h2 : (((sy_ai F 60).getD (sy_i F 86).toNatClampNeg 0) - (sy_i F 82)).toInt < 0)
    (h3 : 0 ≤ (sy_i F 86).toInt ∧ (sy_i F 86).toInt < 4)
    (h4 : (0 - (((sy_ai F 60).getD (sy_i F 86).toNatClampNeg 0) - (sy_i F 82))).toInt ≤ ((sy_ai F 29).getD (sy_i F 86).toNatClampNeg 0).toInt)
    (h5 : (0 - (((sy_ai F 60).getD (sy_i F 86).toNatClampNeg 0) - (sy_i F 82))).toInt < (sy_i F 85).toInt)
    (h6 : 0 ≤ (sy_i F 86).toInt ∧ (sy_i F 86).toInt < 4)
    (h7 : ((sy_ai F 61).getD (sy_i F 86).toNatClampNeg 0).toInt < (sy_i F 83).toInt)
    (k : ∀ F1 : Nat → sy_d, (∀ j, j < 82 → True → F1 j = F j) → F1 82 = .inl (.int (sy_i F 82)) → F1 83 = .inl (.int (sy_i F 83)) → F1 84 = .inl (.int (sy_i F 84)) → F1 85 = .inl (.int (sy_i F 85)) → F1 86 = .inl (.int ((sy_i F 86) + ((1 : Int32)))) → hd_W Ls xs d jm_M13 Q (10, sy_dL F1 [some (.inl (.ref 46)), some (.inl (.ref 20)), some (.inr (.inl 82)), some (.inr (.inl 83)), some (.inr (.inl 84)), some (.inr (.inl 85)), some (.inr (.inl 86)), none], sy_dS F1 [], sy_dh F1 X1 X2 (iv_H 2), 0, 0)) :
    hd_W Ls xs d jm_M13 Q (10, sy_dL F [some (.inl (.ref 46)), some (.inl (.ref 20)), some (.inr (.inl 82)), some (.inr (.inl 83)), some (.inr (.inl 84)), some (.inr (.inl 85)), some (.inr (.inl 86)), none], sy_dS F [], sy_dh F X1 X2 (iv_H 2), 0, 0) := by
  refine hd_run (s := 2) (nv := 87) (pc := 10) (L := [some (.inl (.ref 46)), some (.inl (.ref 20)), some (.inr (.inl 82)), some (.inr (.inl 83)), some (.inr (.inl 84)), some (.inr (.inl 85)), some (.inr (.inl 86)), none]) (S := []) (uh := hd_ov (iv_id 0 iv_B0) []) (ul := [.inl (.inr (.inl 82)), .inl (.inr (.inl 83)), .inl (.inr (.inl 84)), .inl (.inr (.inl 85)), .inl (.inr (.inl 92))]) (f := true) (sp := [10]) (d0 := 1) (O := [false, false, false, false, true]) (T := [(30, [.inr (.inl 86)], [.inr (.inl 60)]), (1, [.inr (.inl 87), .inr (.inl 82)], []), (20, [.inr (.inl 88)], []), (30, [.inr (.inl 86)], [.inr (.inl 29)]), (30, [.inr (.inl 86)], [.inr (.inl 61)]), (0, [.inr (.inl 86), .inl (.int 1)], [])]) (P := [(5, .inr (.inl 19), .inr (.inl 86)), (6, .inr (.inl 86), .inl (.ref 4)), (5, .inl (.int 0), .inr (.inl 88)), (6, .inr (.inl 86), .inl (.ref 4)), (3, .inr (.inl 90), .inr (.inl 89)), (5, .inr (.inl 85), .inr (.inl 89)), (6, .inr (.inl 86), .inl (.ref 4)), (2, .inr (.inl 91), .inr (.inl 83))]) jm_ok13 (by decide +kernel) (by decide +kernel) hd F X1 X2 (fun F' hF hs => ?_)
  have b19 := hd_b (F := F) (F' := F') (k := 19) (hF 19 (by decide))
  have b86 := hd_b (F := F) (F' := F') (k := 86) (hF 86 (by decide))
  have a60 := hd_ba (F := F) (F' := F') (k := 60) (hF 60 (by decide))
  have t87 : sy_dv F' (.inr (.inl 87)) = .int ((sy_ai F 60).getD (sy_i F 86).toNatClampNeg 0) := hd_rd (hs 0 _ rfl) b86 a60
  have b82 := hd_b (F := F) (F' := F') (k := 82) (hF 82 (by decide))
  have t88 : sy_dv F' (.inr (.inl 88)) = .int (((sy_ai F 60).getD (sy_i F 86).toNatClampNeg 0) - (sy_i F 82)) := hd_o (hs 1 _ rfl) t87 b82 rfl
  have a29 := hd_ba (F := F) (F' := F') (k := 29) (hF 29 (by decide))
  have t90 : sy_dv F' (.inr (.inl 90)) = .int ((sy_ai F 29).getD (sy_i F 86).toNatClampNeg 0) := hd_rd (hs 3 _ rfl) b86 a29
  have t89 : sy_dv F' (.inr (.inl 89)) = .int (0 - (((sy_ai F 60).getD (sy_i F 86).toNatClampNeg 0) - (sy_i F 82))) := hd_u (hs 2 _ rfl) t88 rfl
  have b85 := hd_b (F := F) (F' := F') (k := 85) (hF 85 (by decide))
  have a61 := hd_ba (F := F) (F' := F') (k := 61) (hF 61 (by decide))
  have t91 : sy_dv F' (.inr (.inl 91)) = .int ((sy_ai F 61).getD (sy_i F 86).toNatClampNeg 0) := hd_rd (hs 4 _ rfl) b86 a61
  have b83 := hd_b (F := F) (F' := F') (k := 83) (hF 83 (by decide))
  have b84 := hd_b (F := F) (F' := F') (k := 84) (hF 84 (by decide))
  have t92 : sy_dv F' (.inr (.inl 92)) = .int ((sy_i F 86) + ((1 : Int32))) := hd_o (hs 5 _ rfl) b86 rfl rfl
  have hB' : iv_in F' iv_B0 := iv_in_eq hB (fun j hj => hF j (Nat.lt_of_lt_of_le hj (by decide +kernel)))
  refine ⟨List.forall_mem_cons.mpr ⟨hd_p5 b19 b86 h0, List.forall_mem_cons.mpr ⟨hd_pb b86 (by first | exact h1 | exact h1), List.forall_mem_cons.mpr ⟨hd_p5 rfl t88 (by have hc : ((0) : Int32).toInt = 0 := (by decide); omega), List.forall_mem_cons.mpr ⟨hd_pb b86 (by first | exact h3 | exact h3), List.forall_mem_cons.mpr ⟨hd_p3 t90 t89 h4, List.forall_mem_cons.mpr ⟨hd_p5 b85 t89 h5, List.forall_mem_cons.mpr ⟨hd_pb b86 (by first | exact h6 | exact h6), List.forall_mem_cons.mpr ⟨hd_p2 t91 b83 h7, fun _ h => absurd h List.not_mem_nil⟩⟩⟩⟩⟩⟩⟩⟩, ?_⟩
  refine k _ ?_ ?_ ?_ ?_ ?_ ?_
  · exact fun j hj _ => (hd_keep hB' (Nat.lt_of_lt_of_le hj (by decide +kernel)) (by simp)).trans (hF j (Nat.lt_of_lt_of_le hj (by decide)))
  · exact hd_gi (x := .inr (.inl 82)) (by decide +kernel) b82
  · exact hd_gi (x := .inr (.inl 83)) (by decide +kernel) b83
  · exact hd_gi (x := .inr (.inl 84)) (by decide +kernel) b84
  · exact hd_gi (x := .inr (.inl 85)) (by decide +kernel) b85
  · exact hd_gi (x := .inr (.inl 92)) (by decide +kernel) t92
theorem j2nnr_10_p8 {Ls : Nat} {xs : Nat → Int32} {d : Nat} {Q : Option Value → jm_h → Prop} (hd : 2 ≤ d) (F : Nat → sy_d) (X1 X2 : List jm_c) (hB : iv_in F iv_B0)
    (h0 : (sy_i F 86).toInt < (sy_i F 19).toInt)
    (h1 : 0 ≤ (sy_i F 86).toInt ∧ (sy_i F 86).toInt < 4)
    (h2 : (((sy_ai F 60).getD (sy_i F 86).toNatClampNeg 0) - (sy_i F 82)).toInt < 0)
    (h3 : 0 ≤ (sy_i F 86).toInt ∧ (sy_i F 86).toInt < 4)
    (h4 : (0 - (((sy_ai F 60).getD (sy_i F 86).toNatClampNeg 0) - (sy_i F 82))).toInt ≤ ((sy_ai F 29).getD (sy_i F 86).toNatClampNeg 0).toInt)
    (h5 : (0 - (((sy_ai F 60).getD (sy_i F 86).toNatClampNeg 0) - (sy_i F 82))).toInt < (sy_i F 85).toInt)
    (h6 : 0 ≤ (sy_i F 86).toInt ∧ (sy_i F 86).toInt < 4)
    (h7 : (sy_i F 83).toInt ≤ ((sy_ai F 61).getD (sy_i F 86).toNatClampNeg 0).toInt)
    (k : ∀ F1 : Nat → sy_d, (∀ j, j < 82 → True → F1 j = F j) → F1 82 = .inl (.int (sy_i F 82)) → F1 83 = .inl (.int (sy_i F 83)) → F1 84 = .inl (.int (sy_i F 86)) → F1 85 = .inl (.int (0 - (((sy_ai F 60).getD (sy_i F 86).toNatClampNeg 0) - (sy_i F 82)))) → F1 86 = .inl (.int ((sy_i F 86) + ((1 : Int32)))) → hd_W Ls xs d jm_M13 Q (10, sy_dL F1 [some (.inl (.ref 46)), some (.inl (.ref 20)), some (.inr (.inl 82)), some (.inr (.inl 83)), some (.inr (.inl 84)), some (.inr (.inl 85)), some (.inr (.inl 86)), none], sy_dS F1 [], sy_dh F1 X1 X2 (iv_H 2), 0, 0)) :
    hd_W Ls xs d jm_M13 Q (10, sy_dL F [some (.inl (.ref 46)), some (.inl (.ref 20)), some (.inr (.inl 82)), some (.inr (.inl 83)), some (.inr (.inl 84)), some (.inr (.inl 85)), some (.inr (.inl 86)), none], sy_dS F [], sy_dh F X1 X2 (iv_H 2), 0, 0) := by
  refine hd_run (s := 2) (nv := 87) (pc := 10) (L := [some (.inl (.ref 46)), some (.inl (.ref 20)), some (.inr (.inl 82)), some (.inr (.inl 83)), some (.inr (.inl 84)), some (.inr (.inl 85)), some (.inr (.inl 86)), none]) (S := []) (uh := hd_ov (iv_id 0 iv_B0) []) (ul := [.inl (.inr (.inl 82)), .inl (.inr (.inl 83)), .inl (.inr (.inl 86)), .inl (.inr (.inl 89)), .inl (.inr (.inl 92))]) (f := true) (sp := [10]) (d0 := 1) (O := [false, false, false, false, false]) (T := [(30, [.inr (.inl 86)], [.inr (.inl 60)]), (1, [.inr (.inl 87), .inr (.inl 82)], []), (20, [.inr (.inl 88)], []), (30, [.inr (.inl 86)], [.inr (.inl 29)]), (30, [.inr (.inl 86)], [.inr (.inl 61)]), (0, [.inr (.inl 86), .inl (.int 1)], [])]) (P := [(5, .inr (.inl 19), .inr (.inl 86)), (6, .inr (.inl 86), .inl (.ref 4)), (5, .inl (.int 0), .inr (.inl 88)), (6, .inr (.inl 86), .inl (.ref 4)), (3, .inr (.inl 90), .inr (.inl 89)), (5, .inr (.inl 85), .inr (.inl 89)), (6, .inr (.inl 86), .inl (.ref 4)), (3, .inr (.inl 91), .inr (.inl 83))]) jm_ok13 (by decide +kernel) (by decide +kernel) hd F X1 X2 (fun F' hF hs => ?_)
  have b19 := hd_b (F := F) (F' := F') (k := 19) (hF 19 (by decide))
  have b86 := hd_b (F := F) (F' := F') (k := 86) (hF 86 (by decide))
  have a60 := hd_ba (F := F) (F' := F') (k := 60) (hF 60 (by decide))
  have t87 : sy_dv F' (.inr (.inl 87)) = .int ((sy_ai F 60).getD (sy_i F 86).toNatClampNeg 0) := hd_rd (hs 0 _ rfl) b86 a60
  have b82 := hd_b (F := F) (F' := F') (k := 82) (hF 82 (by decide))
  have t88 : sy_dv F' (.inr (.inl 88)) = .int (((sy_ai F 60).getD (sy_i F 86).toNatClampNeg 0) - (sy_i F 82)) := hd_o (hs 1 _ rfl) t87 b82 rfl
  have a29 := hd_ba (F := F) (F' := F') (k := 29) (hF 29 (by decide))
  have t90 : sy_dv F' (.inr (.inl 90)) = .int ((sy_ai F 29).getD (sy_i F 86).toNatClampNeg 0) := hd_rd (hs 3 _ rfl) b86 a29
  have t89 : sy_dv F' (.inr (.inl 89)) = .int (0 - (((sy_ai F 60).getD (sy_i F 86).toNatClampNeg 0) - (sy_i F 82))) := hd_u (hs 2 _ rfl) t88 rfl
  have b85 := hd_b (F := F) (F' := F') (k := 85) (hF 85 (by decide))
  have a61 := hd_ba (F := F) (F' := F') (k := 61) (hF 61 (by decide))
  have t91 : sy_dv F' (.inr (.inl 91)) = .int ((sy_ai F 61).getD (sy_i F 86).toNatClampNeg 0) := hd_rd (hs 4 _ rfl) b86 a61
  have b83 := hd_b (F := F) (F' := F') (k := 83) (hF 83 (by decide))
  have t92 : sy_dv F' (.inr (.inl 92)) = .int ((sy_i F 86) + ((1 : Int32))) := hd_o (hs 5 _ rfl) b86 rfl rfl
  have hB' : iv_in F' iv_B0 := iv_in_eq hB (fun j hj => hF j (Nat.lt_of_lt_of_le hj (by decide +kernel)))
  refine ⟨List.forall_mem_cons.mpr ⟨hd_p5 b19 b86 h0, List.forall_mem_cons.mpr ⟨hd_pb b86 (by first | exact h1 | exact h1), List.forall_mem_cons.mpr ⟨hd_p5 rfl t88 (by have hc : ((0) : Int32).toInt = 0 := (by decide); omega), List.forall_mem_cons.mpr ⟨hd_pb b86 (by first | exact h3 | exact h3), List.forall_mem_cons.mpr ⟨hd_p3 t90 t89 h4, List.forall_mem_cons.mpr ⟨hd_p5 b85 t89 h5, List.forall_mem_cons.mpr ⟨hd_pb b86 (by first | exact h6 | exact h6), List.forall_mem_cons.mpr ⟨hd_p3 t91 b83 h7, fun _ h => absurd h List.not_mem_nil⟩⟩⟩⟩⟩⟩⟩⟩, ?_⟩
  refine k _ ?_ ?_ ?_ ?_ ?_ ?_
  · exact fun j hj _ => (hd_keep hB' (Nat.lt_of_lt_of_le hj (by decide +kernel)) (by simp)).trans (hF j (Nat.lt_of_lt_of_le hj (by decide)))
  · exact hd_gi (x := .inr (.inl 82)) (by decide +kernel) b82
  · exact hd_gi (x := .inr (.inl 83)) (by decide +kernel) b83
  · exact hd_gi (x := .inr (.inl 86)) (by decide +kernel) b86
  · exact hd_gi (x := .inr (.inl 89)) (by decide +kernel) t89
  · exact hd_gi (x := .inr (.inl 92)) (by decide +kernel) t92
theorem j2nnr_10 {Ls : Nat} {xs : Nat → Int32} {d : Nat} {Q : Option Value → jm_h → Prop} (hd : 2 ≤ d) (F : Nat → sy_d) (X1 X2 : List jm_c) (hB : iv_in F iv_B0)
    (a86 : 0 ≤ (sy_i F 86).toInt ∧ (sy_i F 86).toInt ≤ 4)
    (k0 : (sy_i F 19).toInt ≤ (sy_i F 86).toInt → ∀ F1 : Nat → sy_d, iv_in F1 iv_B0 → (∀ j, j < 82 → j ∉ ([] : List Nat) → F1 j = F j) → Q (some (.int (sy_i F 84))) (sy_dh F1 X1 X2 (iv_H 2)))
    (k1 : (sy_i F 86).toInt < (sy_i F 19).toInt → 0 ≤ (((sy_ai F 60).getD ((sy_i F 86).toInt).toNat 0) - (sy_i F 82)).toInt → ((sy_ai F 29).getD ((sy_i F 86).toInt).toNat 0).toInt < (((sy_ai F 60).getD ((sy_i F 86).toInt).toNat 0) - (sy_i F 82)).toInt → ∀ F1 : Nat → sy_d, iv_in F1 iv_B0 → (∀ j, j < 82 → j ∉ ([] : List Nat) → F1 j = F j) → (sy_i F1 82).toInt = (sy_i F 82).toInt → sy_i F1 82 = sy_i F 82 → (sy_i F1 83).toInt = (sy_i F 83).toInt → sy_i F1 83 = sy_i F 83 → (sy_i F1 84).toInt = (sy_i F 84).toInt → sy_i F1 84 = sy_i F 84 → (sy_i F1 85).toInt = (sy_i F 85).toInt → sy_i F1 85 = sy_i F 85 → (sy_i F1 86).toInt = ((sy_i F 86).toInt + 1) → sy_i F1 86 = (sy_i F 86) + ((1 : Int32)) → hd_W Ls xs d jm_M13 Q (10, sy_dL F1 [some (.inl (.ref 46)), some (.inl (.ref 20)), some (.inr (.inl 82)), some (.inr (.inl 83)), some (.inr (.inl 84)), some (.inr (.inl 85)), some (.inr (.inl 86)), none], sy_dS F1 [], sy_dh F1 X1 X2 (iv_H 2), 0, 0))
    (k2 : (sy_i F 86).toInt < (sy_i F 19).toInt → 0 ≤ (((sy_ai F 60).getD ((sy_i F 86).toInt).toNat 0) - (sy_i F 82)).toInt → (((sy_ai F 60).getD ((sy_i F 86).toInt).toNat 0) - (sy_i F 82)).toInt ≤ ((sy_ai F 29).getD ((sy_i F 86).toInt).toNat 0).toInt → (sy_i F 85).toInt ≤ (((sy_ai F 60).getD ((sy_i F 86).toInt).toNat 0) - (sy_i F 82)).toInt → ∀ F1 : Nat → sy_d, iv_in F1 iv_B0 → (∀ j, j < 82 → j ∉ ([] : List Nat) → F1 j = F j) → (sy_i F1 82).toInt = (sy_i F 82).toInt → sy_i F1 82 = sy_i F 82 → (sy_i F1 83).toInt = (sy_i F 83).toInt → sy_i F1 83 = sy_i F 83 → (sy_i F1 84).toInt = (sy_i F 84).toInt → sy_i F1 84 = sy_i F 84 → (sy_i F1 85).toInt = (sy_i F 85).toInt → sy_i F1 85 = sy_i F 85 → (sy_i F1 86).toInt = ((sy_i F 86).toInt + 1) → sy_i F1 86 = (sy_i F 86) + ((1 : Int32)) → hd_W Ls xs d jm_M13 Q (10, sy_dL F1 [some (.inl (.ref 46)), some (.inl (.ref 20)), some (.inr (.inl 82)), some (.inr (.inl 83)), some (.inr (.inl 84)), some (.inr (.inl 85)), some (.inr (.inl 86)), none], sy_dS F1 [], sy_dh F1 X1 X2 (iv_H 2), 0, 0))
    (k3 : (sy_i F 86).toInt < (sy_i F 19).toInt → 0 ≤ (((sy_ai F 60).getD ((sy_i F 86).toInt).toNat 0) - (sy_i F 82)).toInt → (((sy_ai F 60).getD ((sy_i F 86).toInt).toNat 0) - (sy_i F 82)).toInt ≤ ((sy_ai F 29).getD ((sy_i F 86).toInt).toNat 0).toInt → (((sy_ai F 60).getD ((sy_i F 86).toInt).toNat 0) - (sy_i F 82)).toInt < (sy_i F 85).toInt → ((sy_ai F 61).getD ((sy_i F 86).toInt).toNat 0).toInt < (sy_i F 83).toInt → ∀ F1 : Nat → sy_d, iv_in F1 iv_B0 → (∀ j, j < 82 → j ∉ ([] : List Nat) → F1 j = F j) → (sy_i F1 82).toInt = (sy_i F 82).toInt → sy_i F1 82 = sy_i F 82 → (sy_i F1 83).toInt = (sy_i F 83).toInt → sy_i F1 83 = sy_i F 83 → (sy_i F1 84).toInt = (sy_i F 84).toInt → sy_i F1 84 = sy_i F 84 → (sy_i F1 85).toInt = (sy_i F 85).toInt → sy_i F1 85 = sy_i F 85 → (sy_i F1 86).toInt = ((sy_i F 86).toInt + 1) → sy_i F1 86 = (sy_i F 86) + ((1 : Int32)) → hd_W Ls xs d jm_M13 Q (10, sy_dL F1 [some (.inl (.ref 46)), some (.inl (.ref 20)), some (.inr (.inl 82)), some (.inr (.inl 83)), some (.inr (.inl 84)), some (.inr (.inl 85)), some (.inr (.inl 86)), none], sy_dS F1 [], sy_dh F1 X1 X2 (iv_H 2), 0, 0))
    (k4 : (sy_i F 86).toInt < (sy_i F 19).toInt → 0 ≤ (((sy_ai F 60).getD ((sy_i F 86).toInt).toNat 0) - (sy_i F 82)).toInt → (((sy_ai F 60).getD ((sy_i F 86).toInt).toNat 0) - (sy_i F 82)).toInt ≤ ((sy_ai F 29).getD ((sy_i F 86).toInt).toNat 0).toInt → (((sy_ai F 60).getD ((sy_i F 86).toInt).toNat 0) - (sy_i F 82)).toInt < (sy_i F 85).toInt → (sy_i F 83).toInt ≤ ((sy_ai F 61).getD ((sy_i F 86).toInt).toNat 0).toInt → ∀ F1 : Nat → sy_d, iv_in F1 iv_B0 → (∀ j, j < 82 → j ∉ ([] : List Nat) → F1 j = F j) → (sy_i F1 82).toInt = (sy_i F 82).toInt → sy_i F1 82 = sy_i F 82 → (sy_i F1 83).toInt = (sy_i F 83).toInt → sy_i F1 83 = sy_i F 83 → (sy_i F1 84).toInt = (sy_i F 86).toInt → sy_i F1 84 = sy_i F 86 → (sy_i F1 85).toInt = (((sy_ai F 60).getD ((sy_i F 86).toInt).toNat 0) - (sy_i F 82)).toInt → sy_i F1 85 = ((sy_ai F 60).getD ((sy_i F 86).toInt).toNat 0) - (sy_i F 82) → (sy_i F1 86).toInt = ((sy_i F 86).toInt + 1) → sy_i F1 86 = (sy_i F 86) + ((1 : Int32)) → hd_W Ls xs d jm_M13 Q (10, sy_dL F1 [some (.inl (.ref 46)), some (.inl (.ref 20)), some (.inr (.inl 82)), some (.inr (.inl 83)), some (.inr (.inl 84)), some (.inr (.inl 85)), some (.inr (.inl 86)), none], sy_dS F1 [], sy_dh F1 X1 X2 (iv_H 2), 0, 0))
    (k5 : (sy_i F 86).toInt < (sy_i F 19).toInt → (((sy_ai F 60).getD ((sy_i F 86).toInt).toNat 0) - (sy_i F 82)).toInt < 0 → ((sy_ai F 29).getD ((sy_i F 86).toInt).toNat 0).toInt < (0 - (((sy_ai F 60).getD ((sy_i F 86).toInt).toNat 0) - (sy_i F 82))).toInt → ∀ F1 : Nat → sy_d, iv_in F1 iv_B0 → (∀ j, j < 82 → j ∉ ([] : List Nat) → F1 j = F j) → (sy_i F1 82).toInt = (sy_i F 82).toInt → sy_i F1 82 = sy_i F 82 → (sy_i F1 83).toInt = (sy_i F 83).toInt → sy_i F1 83 = sy_i F 83 → (sy_i F1 84).toInt = (sy_i F 84).toInt → sy_i F1 84 = sy_i F 84 → (sy_i F1 85).toInt = (sy_i F 85).toInt → sy_i F1 85 = sy_i F 85 → (sy_i F1 86).toInt = ((sy_i F 86).toInt + 1) → sy_i F1 86 = (sy_i F 86) + ((1 : Int32)) → hd_W Ls xs d jm_M13 Q (10, sy_dL F1 [some (.inl (.ref 46)), some (.inl (.ref 20)), some (.inr (.inl 82)), some (.inr (.inl 83)), some (.inr (.inl 84)), some (.inr (.inl 85)), some (.inr (.inl 86)), none], sy_dS F1 [], sy_dh F1 X1 X2 (iv_H 2), 0, 0))
    (k6 : (sy_i F 86).toInt < (sy_i F 19).toInt → (((sy_ai F 60).getD ((sy_i F 86).toInt).toNat 0) - (sy_i F 82)).toInt < 0 → (0 - (((sy_ai F 60).getD ((sy_i F 86).toInt).toNat 0) - (sy_i F 82))).toInt ≤ ((sy_ai F 29).getD ((sy_i F 86).toInt).toNat 0).toInt → (sy_i F 85).toInt ≤ (0 - (((sy_ai F 60).getD ((sy_i F 86).toInt).toNat 0) - (sy_i F 82))).toInt → ∀ F1 : Nat → sy_d, iv_in F1 iv_B0 → (∀ j, j < 82 → j ∉ ([] : List Nat) → F1 j = F j) → (sy_i F1 82).toInt = (sy_i F 82).toInt → sy_i F1 82 = sy_i F 82 → (sy_i F1 83).toInt = (sy_i F 83).toInt → sy_i F1 83 = sy_i F 83 → (sy_i F1 84).toInt = (sy_i F 84).toInt → sy_i F1 84 = sy_i F 84 → (sy_i F1 85).toInt = (sy_i F 85).toInt → sy_i F1 85 = sy_i F 85 → (sy_i F1 86).toInt = ((sy_i F 86).toInt + 1) → sy_i F1 86 = (sy_i F 86) + ((1 : Int32)) → hd_W Ls xs d jm_M13 Q (10, sy_dL F1 [some (.inl (.ref 46)), some (.inl (.ref 20)), some (.inr (.inl 82)), some (.inr (.inl 83)), some (.inr (.inl 84)), some (.inr (.inl 85)), some (.inr (.inl 86)), none], sy_dS F1 [], sy_dh F1 X1 X2 (iv_H 2), 0, 0))
    (k7 : (sy_i F 86).toInt < (sy_i F 19).toInt → (((sy_ai F 60).getD ((sy_i F 86).toInt).toNat 0) - (sy_i F 82)).toInt < 0 → (0 - (((sy_ai F 60).getD ((sy_i F 86).toInt).toNat 0) - (sy_i F 82))).toInt ≤ ((sy_ai F 29).getD ((sy_i F 86).toInt).toNat 0).toInt → (0 - (((sy_ai F 60).getD ((sy_i F 86).toInt).toNat 0) - (sy_i F 82))).toInt < (sy_i F 85).toInt → ((sy_ai F 61).getD ((sy_i F 86).toInt).toNat 0).toInt < (sy_i F 83).toInt → ∀ F1 : Nat → sy_d, iv_in F1 iv_B0 → (∀ j, j < 82 → j ∉ ([] : List Nat) → F1 j = F j) → (sy_i F1 82).toInt = (sy_i F 82).toInt → sy_i F1 82 = sy_i F 82 → (sy_i F1 83).toInt = (sy_i F 83).toInt → sy_i F1 83 = sy_i F 83 → (sy_i F1 84).toInt = (sy_i F 84).toInt → sy_i F1 84 = sy_i F 84 → (sy_i F1 85).toInt = (sy_i F 85).toInt → sy_i F1 85 = sy_i F 85 → (sy_i F1 86).toInt = ((sy_i F 86).toInt + 1) → sy_i F1 86 = (sy_i F 86) + ((1 : Int32)) → hd_W Ls xs d jm_M13 Q (10, sy_dL F1 [some (.inl (.ref 46)), some (.inl (.ref 20)), some (.inr (.inl 82)), some (.inr (.inl 83)), some (.inr (.inl 84)), some (.inr (.inl 85)), some (.inr (.inl 86)), none], sy_dS F1 [], sy_dh F1 X1 X2 (iv_H 2), 0, 0))
    (k8 : (sy_i F 86).toInt < (sy_i F 19).toInt → (((sy_ai F 60).getD ((sy_i F 86).toInt).toNat 0) - (sy_i F 82)).toInt < 0 → (0 - (((sy_ai F 60).getD ((sy_i F 86).toInt).toNat 0) - (sy_i F 82))).toInt ≤ ((sy_ai F 29).getD ((sy_i F 86).toInt).toNat 0).toInt → (0 - (((sy_ai F 60).getD ((sy_i F 86).toInt).toNat 0) - (sy_i F 82))).toInt < (sy_i F 85).toInt → (sy_i F 83).toInt ≤ ((sy_ai F 61).getD ((sy_i F 86).toInt).toNat 0).toInt → ∀ F1 : Nat → sy_d, iv_in F1 iv_B0 → (∀ j, j < 82 → j ∉ ([] : List Nat) → F1 j = F j) → (sy_i F1 82).toInt = (sy_i F 82).toInt → sy_i F1 82 = sy_i F 82 → (sy_i F1 83).toInt = (sy_i F 83).toInt → sy_i F1 83 = sy_i F 83 → (sy_i F1 84).toInt = (sy_i F 86).toInt → sy_i F1 84 = sy_i F 86 → (sy_i F1 85).toInt = (0 - (((sy_ai F 60).getD ((sy_i F 86).toInt).toNat 0) - (sy_i F 82))).toInt → sy_i F1 85 = 0 - (((sy_ai F 60).getD ((sy_i F 86).toInt).toNat 0) - (sy_i F 82)) → (sy_i F1 86).toInt = ((sy_i F 86).toInt + 1) → sy_i F1 86 = (sy_i F 86) + ((1 : Int32)) → hd_W Ls xs d jm_M13 Q (10, sy_dL F1 [some (.inl (.ref 46)), some (.inl (.ref 20)), some (.inr (.inl 82)), some (.inr (.inl 83)), some (.inr (.inl 84)), some (.inr (.inl 85)), some (.inr (.inl 86)), none], sy_dS F1 [], sy_dh F1 X1 X2 (iv_H 2), 0, 0)) :
    hd_W Ls xs d jm_M13 Q (10, sy_dL F [some (.inl (.ref 46)), some (.inl (.ref 20)), some (.inr (.inl 82)), some (.inr (.inl 83)), some (.inr (.inl 84)), some (.inr (.inl 85)), some (.inr (.inl 86)), none], sy_dS F [], sy_dh F X1 X2 (iv_H 2), 0, 0) := by
  by_cases g0 : (sy_i F 19).toInt ≤ (sy_i F 86).toInt
  · have c19 := nz_bx hB (k := 19) (lo := 0) (hi := 4) rfl
    exact j2nnr_10_p0 hd F X1 X2 hB (by first | exact g0 | (simp only [nz_c]; exact g0)) (fun F1 g  => by rw [(rfl : sy_i F 84 = sy_i F 84)]; exact k0 g0 F1 (nz_in0 hB [] (fun j hj hn => g j hj (by simp only [List.mem_cons, List.not_mem_nil, or_false, not_or] at hn; exact trivial)) (List.forall_mem_nil _)) (fun j hj hn => g j hj (by simp only [List.mem_cons, List.not_mem_nil, or_false, not_or] at hn; exact trivial)) )
  replace g0 : (sy_i F 86).toInt < (sy_i F 19).toInt := by omega
  by_cases g1 : 0 ≤ (((sy_ai F 60).getD ((sy_i F 86).toInt).toNat 0) - (sy_i F 82)).toInt
  · by_cases g2 : ((sy_ai F 29).getD ((sy_i F 86).toInt).toNat 0).toInt < (((sy_ai F 60).getD ((sy_i F 86).toInt).toNat 0) - (sy_i F 82)).toInt
    · have c19 := nz_bx hB (k := 19) (lo := 0) (hi := 4) rfl
      have q88 : ((sy_ai F 60).getD (sy_i F 86).toNatClampNeg 0) - (sy_i F 82) = ((sy_ai F 60).getD ((sy_i F 86).toInt).toNat 0) - (sy_i F 82) := by simp only [nz_c]
      have n88 : nzI (((sy_ai F 60).getD (sy_i F 86).toNatClampNeg 0) - (sy_i F 82)) ((((sy_ai F 60).getD ((sy_i F 86).toInt).toNat 0) - (sy_i F 82)).toInt) := congrArg Int32.toInt q88
      have q89 : (sy_ai F 29).getD (sy_i F 86).toNatClampNeg 0 = (sy_ai F 29).getD ((sy_i F 86).toInt).toNat 0 := by simp only [nz_c]
      have n89 : nzI ((sy_ai F 29).getD (sy_i F 86).toNatClampNeg 0) (((sy_ai F 29).getD ((sy_i F 86).toInt).toNat 0).toInt) := congrArg Int32.toInt q89
      have n90 : nzI ((sy_i F 86) + ((1 : Int32))) (((sy_i F 86).toInt + 1)) := nz_add (rfl : (sy_i F 86).toInt = (sy_i F 86).toInt) (by decide : ((1 : Int32)).toInt = 1) (by omega) (by omega)
      exact j2nnr_10_p1 hd F X1 X2 hB (by first | exact g0 | (simp only [nz_c]; exact g0)) (by first | exact ⟨by omega, by omega⟩ | (simp only [nz_c]; exact ⟨by omega, by omega⟩)) (by first | exact g1 | (simp only [nz_c]; exact g1) | (rw [(nzE n88)]; exact g1)) (by first | exact ⟨by omega, by omega⟩ | (simp only [nz_c]; exact ⟨by omega, by omega⟩)) (by first | exact g2 | (simp only [nz_c]; exact g2) | (rw [(nzE n89)]; exact g2) | (rw [(nzE n88)]; exact g2) | (rw [(nzE n89), (nzE n88)]; exact g2)) (fun F1 g e82 e83 e84 e85 e86 => k1 g0 g1 g2 F1 (nz_in0 hB [] (fun j hj hn => g j hj (by simp only [List.mem_cons, List.not_mem_nil, or_false, not_or] at hn; exact trivial)) (List.forall_mem_nil _)) (fun j hj hn => g j hj (by simp only [List.mem_cons, List.not_mem_nil, or_false, not_or] at hn; exact trivial)) ((congrArg Int32.toInt (zz_i e82)).trans (rfl : (sy_i F 82).toInt = (sy_i F 82).toInt)) ((zz_i e82).trans (rfl : sy_i F 82 = sy_i F 82)) ((congrArg Int32.toInt (zz_i e83)).trans (rfl : (sy_i F 83).toInt = (sy_i F 83).toInt)) ((zz_i e83).trans (rfl : sy_i F 83 = sy_i F 83)) ((congrArg Int32.toInt (zz_i e84)).trans (rfl : (sy_i F 84).toInt = (sy_i F 84).toInt)) ((zz_i e84).trans (rfl : sy_i F 84 = sy_i F 84)) ((congrArg Int32.toInt (zz_i e85)).trans (rfl : (sy_i F 85).toInt = (sy_i F 85).toInt)) ((zz_i e85).trans (rfl : sy_i F 85 = sy_i F 85)) ((congrArg Int32.toInt (zz_i e86)).trans (nzE n90)) ((zz_i e86).trans (rfl : (sy_i F 86) + ((1 : Int32)) = (sy_i F 86) + ((1 : Int32)))))
    replace g2 : (((sy_ai F 60).getD ((sy_i F 86).toInt).toNat 0) - (sy_i F 82)).toInt ≤ ((sy_ai F 29).getD ((sy_i F 86).toInt).toNat 0).toInt := by omega
    by_cases g3 : (sy_i F 85).toInt ≤ (((sy_ai F 60).getD ((sy_i F 86).toInt).toNat 0) - (sy_i F 82)).toInt
    · have c19 := nz_bx hB (k := 19) (lo := 0) (hi := 4) rfl
      have q88 : ((sy_ai F 60).getD (sy_i F 86).toNatClampNeg 0) - (sy_i F 82) = ((sy_ai F 60).getD ((sy_i F 86).toInt).toNat 0) - (sy_i F 82) := by simp only [nz_c]
      have n88 : nzI (((sy_ai F 60).getD (sy_i F 86).toNatClampNeg 0) - (sy_i F 82)) ((((sy_ai F 60).getD ((sy_i F 86).toInt).toNat 0) - (sy_i F 82)).toInt) := congrArg Int32.toInt q88
      have q89 : (sy_ai F 29).getD (sy_i F 86).toNatClampNeg 0 = (sy_ai F 29).getD ((sy_i F 86).toInt).toNat 0 := by simp only [nz_c]
      have n89 : nzI ((sy_ai F 29).getD (sy_i F 86).toNatClampNeg 0) (((sy_ai F 29).getD ((sy_i F 86).toInt).toNat 0).toInt) := congrArg Int32.toInt q89
      have n90 : nzI ((sy_i F 86) + ((1 : Int32))) (((sy_i F 86).toInt + 1)) := nz_add (rfl : (sy_i F 86).toInt = (sy_i F 86).toInt) (by decide : ((1 : Int32)).toInt = 1) (by omega) (by omega)
      exact j2nnr_10_p2 hd F X1 X2 hB (by first | exact g0 | (simp only [nz_c]; exact g0)) (by first | exact ⟨by omega, by omega⟩ | (simp only [nz_c]; exact ⟨by omega, by omega⟩)) (by first | exact g1 | (simp only [nz_c]; exact g1) | (rw [(nzE n88)]; exact g1)) (by first | exact ⟨by omega, by omega⟩ | (simp only [nz_c]; exact ⟨by omega, by omega⟩)) (by first | exact g2 | (simp only [nz_c]; exact g2) | (rw [(nzE n89)]; exact g2) | (rw [(nzE n88)]; exact g2) | (rw [(nzE n89), (nzE n88)]; exact g2)) (by first | exact g3 | (simp only [nz_c]; exact g3) | (rw [(nzE n88)]; exact g3)) (fun F1 g e82 e83 e84 e85 e86 => k2 g0 g1 g2 g3 F1 (nz_in0 hB [] (fun j hj hn => g j hj (by simp only [List.mem_cons, List.not_mem_nil, or_false, not_or] at hn; exact trivial)) (List.forall_mem_nil _)) (fun j hj hn => g j hj (by simp only [List.mem_cons, List.not_mem_nil, or_false, not_or] at hn; exact trivial)) ((congrArg Int32.toInt (zz_i e82)).trans (rfl : (sy_i F 82).toInt = (sy_i F 82).toInt)) ((zz_i e82).trans (rfl : sy_i F 82 = sy_i F 82)) ((congrArg Int32.toInt (zz_i e83)).trans (rfl : (sy_i F 83).toInt = (sy_i F 83).toInt)) ((zz_i e83).trans (rfl : sy_i F 83 = sy_i F 83)) ((congrArg Int32.toInt (zz_i e84)).trans (rfl : (sy_i F 84).toInt = (sy_i F 84).toInt)) ((zz_i e84).trans (rfl : sy_i F 84 = sy_i F 84)) ((congrArg Int32.toInt (zz_i e85)).trans (rfl : (sy_i F 85).toInt = (sy_i F 85).toInt)) ((zz_i e85).trans (rfl : sy_i F 85 = sy_i F 85)) ((congrArg Int32.toInt (zz_i e86)).trans (nzE n90)) ((zz_i e86).trans (rfl : (sy_i F 86) + ((1 : Int32)) = (sy_i F 86) + ((1 : Int32)))))
    replace g3 : (((sy_ai F 60).getD ((sy_i F 86).toInt).toNat 0) - (sy_i F 82)).toInt < (sy_i F 85).toInt := by omega
    by_cases g4 : ((sy_ai F 61).getD ((sy_i F 86).toInt).toNat 0).toInt < (sy_i F 83).toInt
    · have c19 := nz_bx hB (k := 19) (lo := 0) (hi := 4) rfl
      have q88 : ((sy_ai F 60).getD (sy_i F 86).toNatClampNeg 0) - (sy_i F 82) = ((sy_ai F 60).getD ((sy_i F 86).toInt).toNat 0) - (sy_i F 82) := by simp only [nz_c]
      have n88 : nzI (((sy_ai F 60).getD (sy_i F 86).toNatClampNeg 0) - (sy_i F 82)) ((((sy_ai F 60).getD ((sy_i F 86).toInt).toNat 0) - (sy_i F 82)).toInt) := congrArg Int32.toInt q88
      have q89 : (sy_ai F 29).getD (sy_i F 86).toNatClampNeg 0 = (sy_ai F 29).getD ((sy_i F 86).toInt).toNat 0 := by simp only [nz_c]
      have n89 : nzI ((sy_ai F 29).getD (sy_i F 86).toNatClampNeg 0) (((sy_ai F 29).getD ((sy_i F 86).toInt).toNat 0).toInt) := congrArg Int32.toInt q89
      have q90 : (sy_ai F 61).getD (sy_i F 86).toNatClampNeg 0 = (sy_ai F 61).getD ((sy_i F 86).toInt).toNat 0 := by simp only [nz_c]
      have n90 : nzI ((sy_ai F 61).getD (sy_i F 86).toNatClampNeg 0) (((sy_ai F 61).getD ((sy_i F 86).toInt).toNat 0).toInt) := congrArg Int32.toInt q90
      have n91 : nzI ((sy_i F 86) + ((1 : Int32))) (((sy_i F 86).toInt + 1)) := nz_add (rfl : (sy_i F 86).toInt = (sy_i F 86).toInt) (by decide : ((1 : Int32)).toInt = 1) (by omega) (by omega)
      exact j2nnr_10_p3 hd F X1 X2 hB (by first | exact g0 | (simp only [nz_c]; exact g0)) (by first | exact ⟨by omega, by omega⟩ | (simp only [nz_c]; exact ⟨by omega, by omega⟩)) (by first | exact g1 | (simp only [nz_c]; exact g1) | (rw [(nzE n88)]; exact g1)) (by first | exact ⟨by omega, by omega⟩ | (simp only [nz_c]; exact ⟨by omega, by omega⟩)) (by first | exact g2 | (simp only [nz_c]; exact g2) | (rw [(nzE n89)]; exact g2) | (rw [(nzE n88)]; exact g2) | (rw [(nzE n89), (nzE n88)]; exact g2)) (by first | exact g3 | (simp only [nz_c]; exact g3) | (rw [(nzE n88)]; exact g3)) (by first | exact ⟨by omega, by omega⟩ | (simp only [nz_c]; exact ⟨by omega, by omega⟩)) (by first | exact g4 | (simp only [nz_c]; exact g4) | (rw [(nzE n90)]; exact g4)) (fun F1 g e82 e83 e84 e85 e86 => k3 g0 g1 g2 g3 g4 F1 (nz_in0 hB [] (fun j hj hn => g j hj (by simp only [List.mem_cons, List.not_mem_nil, or_false, not_or] at hn; exact trivial)) (List.forall_mem_nil _)) (fun j hj hn => g j hj (by simp only [List.mem_cons, List.not_mem_nil, or_false, not_or] at hn; exact trivial)) ((congrArg Int32.toInt (zz_i e82)).trans (rfl : (sy_i F 82).toInt = (sy_i F 82).toInt)) ((zz_i e82).trans (rfl : sy_i F 82 = sy_i F 82)) ((congrArg Int32.toInt (zz_i e83)).trans (rfl : (sy_i F 83).toInt = (sy_i F 83).toInt)) ((zz_i e83).trans (rfl : sy_i F 83 = sy_i F 83)) ((congrArg Int32.toInt (zz_i e84)).trans (rfl : (sy_i F 84).toInt = (sy_i F 84).toInt)) ((zz_i e84).trans (rfl : sy_i F 84 = sy_i F 84)) ((congrArg Int32.toInt (zz_i e85)).trans (rfl : (sy_i F 85).toInt = (sy_i F 85).toInt)) ((zz_i e85).trans (rfl : sy_i F 85 = sy_i F 85)) ((congrArg Int32.toInt (zz_i e86)).trans (nzE n91)) ((zz_i e86).trans (rfl : (sy_i F 86) + ((1 : Int32)) = (sy_i F 86) + ((1 : Int32)))))
    replace g4 : (sy_i F 83).toInt ≤ ((sy_ai F 61).getD ((sy_i F 86).toInt).toNat 0).toInt := by omega
    have c19 := nz_bx hB (k := 19) (lo := 0) (hi := 4) rfl
    have q88 : ((sy_ai F 60).getD (sy_i F 86).toNatClampNeg 0) - (sy_i F 82) = ((sy_ai F 60).getD ((sy_i F 86).toInt).toNat 0) - (sy_i F 82) := by simp only [nz_c]
    have n88 : nzI (((sy_ai F 60).getD (sy_i F 86).toNatClampNeg 0) - (sy_i F 82)) ((((sy_ai F 60).getD ((sy_i F 86).toInt).toNat 0) - (sy_i F 82)).toInt) := congrArg Int32.toInt q88
    have q89 : (sy_ai F 29).getD (sy_i F 86).toNatClampNeg 0 = (sy_ai F 29).getD ((sy_i F 86).toInt).toNat 0 := by simp only [nz_c]
    have n89 : nzI ((sy_ai F 29).getD (sy_i F 86).toNatClampNeg 0) (((sy_ai F 29).getD ((sy_i F 86).toInt).toNat 0).toInt) := congrArg Int32.toInt q89
    have q90 : (sy_ai F 61).getD (sy_i F 86).toNatClampNeg 0 = (sy_ai F 61).getD ((sy_i F 86).toInt).toNat 0 := by simp only [nz_c]
    have n90 : nzI ((sy_ai F 61).getD (sy_i F 86).toNatClampNeg 0) (((sy_ai F 61).getD ((sy_i F 86).toInt).toNat 0).toInt) := congrArg Int32.toInt q90
    have n91 : nzI ((sy_i F 86) + ((1 : Int32))) (((sy_i F 86).toInt + 1)) := nz_add (rfl : (sy_i F 86).toInt = (sy_i F 86).toInt) (by decide : ((1 : Int32)).toInt = 1) (by omega) (by omega)
    exact j2nnr_10_p4 hd F X1 X2 hB (by first | exact g0 | (simp only [nz_c]; exact g0)) (by first | exact ⟨by omega, by omega⟩ | (simp only [nz_c]; exact ⟨by omega, by omega⟩)) (by first | exact g1 | (simp only [nz_c]; exact g1) | (rw [(nzE n88)]; exact g1)) (by first | exact ⟨by omega, by omega⟩ | (simp only [nz_c]; exact ⟨by omega, by omega⟩)) (by first | exact g2 | (simp only [nz_c]; exact g2) | (rw [(nzE n89)]; exact g2) | (rw [(nzE n88)]; exact g2) | (rw [(nzE n89), (nzE n88)]; exact g2)) (by first | exact g3 | (simp only [nz_c]; exact g3) | (rw [(nzE n88)]; exact g3)) (by first | exact ⟨by omega, by omega⟩ | (simp only [nz_c]; exact ⟨by omega, by omega⟩)) (by first | exact g4 | (simp only [nz_c]; exact g4) | (rw [(nzE n90)]; exact g4)) (fun F1 g e82 e83 e84 e85 e86 => k4 g0 g1 g2 g3 g4 F1 (nz_in0 hB [] (fun j hj hn => g j hj (by simp only [List.mem_cons, List.not_mem_nil, or_false, not_or] at hn; exact trivial)) (List.forall_mem_nil _)) (fun j hj hn => g j hj (by simp only [List.mem_cons, List.not_mem_nil, or_false, not_or] at hn; exact trivial)) ((congrArg Int32.toInt (zz_i e82)).trans (rfl : (sy_i F 82).toInt = (sy_i F 82).toInt)) ((zz_i e82).trans (rfl : sy_i F 82 = sy_i F 82)) ((congrArg Int32.toInt (zz_i e83)).trans (rfl : (sy_i F 83).toInt = (sy_i F 83).toInt)) ((zz_i e83).trans (rfl : sy_i F 83 = sy_i F 83)) ((congrArg Int32.toInt (zz_i e84)).trans (rfl : (sy_i F 86).toInt = (sy_i F 86).toInt)) ((zz_i e84).trans (rfl : sy_i F 86 = sy_i F 86)) ((congrArg Int32.toInt (zz_i e85)).trans (nzE n88)) ((zz_i e85).trans q88) ((congrArg Int32.toInt (zz_i e86)).trans (nzE n91)) ((zz_i e86).trans (rfl : (sy_i F 86) + ((1 : Int32)) = (sy_i F 86) + ((1 : Int32)))))
  replace g1 : (((sy_ai F 60).getD ((sy_i F 86).toInt).toNat 0) - (sy_i F 82)).toInt < 0 := by omega
  by_cases g2 : ((sy_ai F 29).getD ((sy_i F 86).toInt).toNat 0).toInt < (0 - (((sy_ai F 60).getD ((sy_i F 86).toInt).toNat 0) - (sy_i F 82))).toInt
  · have c19 := nz_bx hB (k := 19) (lo := 0) (hi := 4) rfl
    have q88 : ((sy_ai F 60).getD (sy_i F 86).toNatClampNeg 0) - (sy_i F 82) = ((sy_ai F 60).getD ((sy_i F 86).toInt).toNat 0) - (sy_i F 82) := by simp only [nz_c]
    have n88 : nzI (((sy_ai F 60).getD (sy_i F 86).toNatClampNeg 0) - (sy_i F 82)) ((((sy_ai F 60).getD ((sy_i F 86).toInt).toNat 0) - (sy_i F 82)).toInt) := congrArg Int32.toInt q88
    have q90 : (sy_ai F 29).getD (sy_i F 86).toNatClampNeg 0 = (sy_ai F 29).getD ((sy_i F 86).toInt).toNat 0 := by simp only [nz_c]
    have n90 : nzI ((sy_ai F 29).getD (sy_i F 86).toNatClampNeg 0) (((sy_ai F 29).getD ((sy_i F 86).toInt).toNat 0).toInt) := congrArg Int32.toInt q90
    have q89 : 0 - (((sy_ai F 60).getD (sy_i F 86).toNatClampNeg 0) - (sy_i F 82)) = 0 - (((sy_ai F 60).getD ((sy_i F 86).toInt).toNat 0) - (sy_i F 82)) := by simp only [nz_c]
    have n89 : nzI (0 - (((sy_ai F 60).getD (sy_i F 86).toNatClampNeg 0) - (sy_i F 82))) ((0 - (((sy_ai F 60).getD ((sy_i F 86).toInt).toNat 0) - (sy_i F 82))).toInt) := congrArg Int32.toInt q89
    have n91 : nzI ((sy_i F 86) + ((1 : Int32))) (((sy_i F 86).toInt + 1)) := nz_add (rfl : (sy_i F 86).toInt = (sy_i F 86).toInt) (by decide : ((1 : Int32)).toInt = 1) (by omega) (by omega)
    exact j2nnr_10_p5 hd F X1 X2 hB (by first | exact g0 | (simp only [nz_c]; exact g0)) (by first | exact ⟨by omega, by omega⟩ | (simp only [nz_c]; exact ⟨by omega, by omega⟩)) (by first | exact g1 | (simp only [nz_c]; exact g1) | (rw [(nzE n88)]; exact g1)) (by first | exact ⟨by omega, by omega⟩ | (simp only [nz_c]; exact ⟨by omega, by omega⟩)) (by first | exact g2 | (simp only [nz_c]; exact g2) | (rw [(nzE n90)]; exact g2) | (rw [(nzE n89)]; exact g2) | (rw [(nzE n90), (nzE n89)]; exact g2)) (fun F1 g e82 e83 e84 e85 e86 => k5 g0 g1 g2 F1 (nz_in0 hB [] (fun j hj hn => g j hj (by simp only [List.mem_cons, List.not_mem_nil, or_false, not_or] at hn; exact trivial)) (List.forall_mem_nil _)) (fun j hj hn => g j hj (by simp only [List.mem_cons, List.not_mem_nil, or_false, not_or] at hn; exact trivial)) ((congrArg Int32.toInt (zz_i e82)).trans (rfl : (sy_i F 82).toInt = (sy_i F 82).toInt)) ((zz_i e82).trans (rfl : sy_i F 82 = sy_i F 82)) ((congrArg Int32.toInt (zz_i e83)).trans (rfl : (sy_i F 83).toInt = (sy_i F 83).toInt)) ((zz_i e83).trans (rfl : sy_i F 83 = sy_i F 83)) ((congrArg Int32.toInt (zz_i e84)).trans (rfl : (sy_i F 84).toInt = (sy_i F 84).toInt)) ((zz_i e84).trans (rfl : sy_i F 84 = sy_i F 84)) ((congrArg Int32.toInt (zz_i e85)).trans (rfl : (sy_i F 85).toInt = (sy_i F 85).toInt)) ((zz_i e85).trans (rfl : sy_i F 85 = sy_i F 85)) ((congrArg Int32.toInt (zz_i e86)).trans (nzE n91)) ((zz_i e86).trans (rfl : (sy_i F 86) + ((1 : Int32)) = (sy_i F 86) + ((1 : Int32)))))
  replace g2 : (0 - (((sy_ai F 60).getD ((sy_i F 86).toInt).toNat 0) - (sy_i F 82))).toInt ≤ ((sy_ai F 29).getD ((sy_i F 86).toInt).toNat 0).toInt := by omega
  by_cases g3 : (sy_i F 85).toInt ≤ (0 - (((sy_ai F 60).getD ((sy_i F 86).toInt).toNat 0) - (sy_i F 82))).toInt
  · have c19 := nz_bx hB (k := 19) (lo := 0) (hi := 4) rfl
    have q88 : ((sy_ai F 60).getD (sy_i F 86).toNatClampNeg 0) - (sy_i F 82) = ((sy_ai F 60).getD ((sy_i F 86).toInt).toNat 0) - (sy_i F 82) := by simp only [nz_c]
    have n88 : nzI (((sy_ai F 60).getD (sy_i F 86).toNatClampNeg 0) - (sy_i F 82)) ((((sy_ai F 60).getD ((sy_i F 86).toInt).toNat 0) - (sy_i F 82)).toInt) := congrArg Int32.toInt q88
    have q90 : (sy_ai F 29).getD (sy_i F 86).toNatClampNeg 0 = (sy_ai F 29).getD ((sy_i F 86).toInt).toNat 0 := by simp only [nz_c]
    have n90 : nzI ((sy_ai F 29).getD (sy_i F 86).toNatClampNeg 0) (((sy_ai F 29).getD ((sy_i F 86).toInt).toNat 0).toInt) := congrArg Int32.toInt q90
    have q89 : 0 - (((sy_ai F 60).getD (sy_i F 86).toNatClampNeg 0) - (sy_i F 82)) = 0 - (((sy_ai F 60).getD ((sy_i F 86).toInt).toNat 0) - (sy_i F 82)) := by simp only [nz_c]
    have n89 : nzI (0 - (((sy_ai F 60).getD (sy_i F 86).toNatClampNeg 0) - (sy_i F 82))) ((0 - (((sy_ai F 60).getD ((sy_i F 86).toInt).toNat 0) - (sy_i F 82))).toInt) := congrArg Int32.toInt q89
    have n91 : nzI ((sy_i F 86) + ((1 : Int32))) (((sy_i F 86).toInt + 1)) := nz_add (rfl : (sy_i F 86).toInt = (sy_i F 86).toInt) (by decide : ((1 : Int32)).toInt = 1) (by omega) (by omega)
    exact j2nnr_10_p6 hd F X1 X2 hB (by first | exact g0 | (simp only [nz_c]; exact g0)) (by first | exact ⟨by omega, by omega⟩ | (simp only [nz_c]; exact ⟨by omega, by omega⟩)) (by first | exact g1 | (simp only [nz_c]; exact g1) | (rw [(nzE n88)]; exact g1)) (by first | exact ⟨by omega, by omega⟩ | (simp only [nz_c]; exact ⟨by omega, by omega⟩)) (by first | exact g2 | (simp only [nz_c]; exact g2) | (rw [(nzE n90)]; exact g2) | (rw [(nzE n89)]; exact g2) | (rw [(nzE n90), (nzE n89)]; exact g2)) (by first | exact g3 | (simp only [nz_c]; exact g3) | (rw [(nzE n89)]; exact g3)) (fun F1 g e82 e83 e84 e85 e86 => k6 g0 g1 g2 g3 F1 (nz_in0 hB [] (fun j hj hn => g j hj (by simp only [List.mem_cons, List.not_mem_nil, or_false, not_or] at hn; exact trivial)) (List.forall_mem_nil _)) (fun j hj hn => g j hj (by simp only [List.mem_cons, List.not_mem_nil, or_false, not_or] at hn; exact trivial)) ((congrArg Int32.toInt (zz_i e82)).trans (rfl : (sy_i F 82).toInt = (sy_i F 82).toInt)) ((zz_i e82).trans (rfl : sy_i F 82 = sy_i F 82)) ((congrArg Int32.toInt (zz_i e83)).trans (rfl : (sy_i F 83).toInt = (sy_i F 83).toInt)) ((zz_i e83).trans (rfl : sy_i F 83 = sy_i F 83)) ((congrArg Int32.toInt (zz_i e84)).trans (rfl : (sy_i F 84).toInt = (sy_i F 84).toInt)) ((zz_i e84).trans (rfl : sy_i F 84 = sy_i F 84)) ((congrArg Int32.toInt (zz_i e85)).trans (rfl : (sy_i F 85).toInt = (sy_i F 85).toInt)) ((zz_i e85).trans (rfl : sy_i F 85 = sy_i F 85)) ((congrArg Int32.toInt (zz_i e86)).trans (nzE n91)) ((zz_i e86).trans (rfl : (sy_i F 86) + ((1 : Int32)) = (sy_i F 86) + ((1 : Int32)))))
  replace g3 : (0 - (((sy_ai F 60).getD ((sy_i F 86).toInt).toNat 0) - (sy_i F 82))).toInt < (sy_i F 85).toInt := by omega
  by_cases g4 : ((sy_ai F 61).getD ((sy_i F 86).toInt).toNat 0).toInt < (sy_i F 83).toInt
  · have c19 := nz_bx hB (k := 19) (lo := 0) (hi := 4) rfl
    have q88 : ((sy_ai F 60).getD (sy_i F 86).toNatClampNeg 0) - (sy_i F 82) = ((sy_ai F 60).getD ((sy_i F 86).toInt).toNat 0) - (sy_i F 82) := by simp only [nz_c]
    have n88 : nzI (((sy_ai F 60).getD (sy_i F 86).toNatClampNeg 0) - (sy_i F 82)) ((((sy_ai F 60).getD ((sy_i F 86).toInt).toNat 0) - (sy_i F 82)).toInt) := congrArg Int32.toInt q88
    have q90 : (sy_ai F 29).getD (sy_i F 86).toNatClampNeg 0 = (sy_ai F 29).getD ((sy_i F 86).toInt).toNat 0 := by simp only [nz_c]
    have n90 : nzI ((sy_ai F 29).getD (sy_i F 86).toNatClampNeg 0) (((sy_ai F 29).getD ((sy_i F 86).toInt).toNat 0).toInt) := congrArg Int32.toInt q90
    have q89 : 0 - (((sy_ai F 60).getD (sy_i F 86).toNatClampNeg 0) - (sy_i F 82)) = 0 - (((sy_ai F 60).getD ((sy_i F 86).toInt).toNat 0) - (sy_i F 82)) := by simp only [nz_c]
    have n89 : nzI (0 - (((sy_ai F 60).getD (sy_i F 86).toNatClampNeg 0) - (sy_i F 82))) ((0 - (((sy_ai F 60).getD ((sy_i F 86).toInt).toNat 0) - (sy_i F 82))).toInt) := congrArg Int32.toInt q89
    have q91 : (sy_ai F 61).getD (sy_i F 86).toNatClampNeg 0 = (sy_ai F 61).getD ((sy_i F 86).toInt).toNat 0 := by simp only [nz_c]
    have n91 : nzI ((sy_ai F 61).getD (sy_i F 86).toNatClampNeg 0) (((sy_ai F 61).getD ((sy_i F 86).toInt).toNat 0).toInt) := congrArg Int32.toInt q91
    have n92 : nzI ((sy_i F 86) + ((1 : Int32))) (((sy_i F 86).toInt + 1)) := nz_add (rfl : (sy_i F 86).toInt = (sy_i F 86).toInt) (by decide : ((1 : Int32)).toInt = 1) (by omega) (by omega)
    exact j2nnr_10_p7 hd F X1 X2 hB (by first | exact g0 | (simp only [nz_c]; exact g0)) (by first | exact ⟨by omega, by omega⟩ | (simp only [nz_c]; exact ⟨by omega, by omega⟩)) (by first | exact g1 | (simp only [nz_c]; exact g1) | (rw [(nzE n88)]; exact g1)) (by first | exact ⟨by omega, by omega⟩ | (simp only [nz_c]; exact ⟨by omega, by omega⟩)) (by first | exact g2 | (simp only [nz_c]; exact g2) | (rw [(nzE n90)]; exact g2) | (rw [(nzE n89)]; exact g2) | (rw [(nzE n90), (nzE n89)]; exact g2)) (by first | exact g3 | (simp only [nz_c]; exact g3) | (rw [(nzE n89)]; exact g3)) (by first | exact ⟨by omega, by omega⟩ | (simp only [nz_c]; exact ⟨by omega, by omega⟩)) (by first | exact g4 | (simp only [nz_c]; exact g4) | (rw [(nzE n91)]; exact g4)) (fun F1 g e82 e83 e84 e85 e86 => k7 g0 g1 g2 g3 g4 F1 (nz_in0 hB [] (fun j hj hn => g j hj (by simp only [List.mem_cons, List.not_mem_nil, or_false, not_or] at hn; exact trivial)) (List.forall_mem_nil _)) (fun j hj hn => g j hj (by simp only [List.mem_cons, List.not_mem_nil, or_false, not_or] at hn; exact trivial)) ((congrArg Int32.toInt (zz_i e82)).trans (rfl : (sy_i F 82).toInt = (sy_i F 82).toInt)) ((zz_i e82).trans (rfl : sy_i F 82 = sy_i F 82)) ((congrArg Int32.toInt (zz_i e83)).trans (rfl : (sy_i F 83).toInt = (sy_i F 83).toInt)) ((zz_i e83).trans (rfl : sy_i F 83 = sy_i F 83)) ((congrArg Int32.toInt (zz_i e84)).trans (rfl : (sy_i F 84).toInt = (sy_i F 84).toInt)) ((zz_i e84).trans (rfl : sy_i F 84 = sy_i F 84)) ((congrArg Int32.toInt (zz_i e85)).trans (rfl : (sy_i F 85).toInt = (sy_i F 85).toInt)) ((zz_i e85).trans (rfl : sy_i F 85 = sy_i F 85)) ((congrArg Int32.toInt (zz_i e86)).trans (nzE n92)) ((zz_i e86).trans (rfl : (sy_i F 86) + ((1 : Int32)) = (sy_i F 86) + ((1 : Int32)))))
  replace g4 : (sy_i F 83).toInt ≤ ((sy_ai F 61).getD ((sy_i F 86).toInt).toNat 0).toInt := by omega
  have c19 := nz_bx hB (k := 19) (lo := 0) (hi := 4) rfl
  have q88 : ((sy_ai F 60).getD (sy_i F 86).toNatClampNeg 0) - (sy_i F 82) = ((sy_ai F 60).getD ((sy_i F 86).toInt).toNat 0) - (sy_i F 82) := by simp only [nz_c]
  have n88 : nzI (((sy_ai F 60).getD (sy_i F 86).toNatClampNeg 0) - (sy_i F 82)) ((((sy_ai F 60).getD ((sy_i F 86).toInt).toNat 0) - (sy_i F 82)).toInt) := congrArg Int32.toInt q88
  have q90 : (sy_ai F 29).getD (sy_i F 86).toNatClampNeg 0 = (sy_ai F 29).getD ((sy_i F 86).toInt).toNat 0 := by simp only [nz_c]
  have n90 : nzI ((sy_ai F 29).getD (sy_i F 86).toNatClampNeg 0) (((sy_ai F 29).getD ((sy_i F 86).toInt).toNat 0).toInt) := congrArg Int32.toInt q90
  have q89 : 0 - (((sy_ai F 60).getD (sy_i F 86).toNatClampNeg 0) - (sy_i F 82)) = 0 - (((sy_ai F 60).getD ((sy_i F 86).toInt).toNat 0) - (sy_i F 82)) := by simp only [nz_c]
  have n89 : nzI (0 - (((sy_ai F 60).getD (sy_i F 86).toNatClampNeg 0) - (sy_i F 82))) ((0 - (((sy_ai F 60).getD ((sy_i F 86).toInt).toNat 0) - (sy_i F 82))).toInt) := congrArg Int32.toInt q89
  have q91 : (sy_ai F 61).getD (sy_i F 86).toNatClampNeg 0 = (sy_ai F 61).getD ((sy_i F 86).toInt).toNat 0 := by simp only [nz_c]
  have n91 : nzI ((sy_ai F 61).getD (sy_i F 86).toNatClampNeg 0) (((sy_ai F 61).getD ((sy_i F 86).toInt).toNat 0).toInt) := congrArg Int32.toInt q91
  have n92 : nzI ((sy_i F 86) + ((1 : Int32))) (((sy_i F 86).toInt + 1)) := nz_add (rfl : (sy_i F 86).toInt = (sy_i F 86).toInt) (by decide : ((1 : Int32)).toInt = 1) (by omega) (by omega)
  exact j2nnr_10_p8 hd F X1 X2 hB (by first | exact g0 | (simp only [nz_c]; exact g0)) (by first | exact ⟨by omega, by omega⟩ | (simp only [nz_c]; exact ⟨by omega, by omega⟩)) (by first | exact g1 | (simp only [nz_c]; exact g1) | (rw [(nzE n88)]; exact g1)) (by first | exact ⟨by omega, by omega⟩ | (simp only [nz_c]; exact ⟨by omega, by omega⟩)) (by first | exact g2 | (simp only [nz_c]; exact g2) | (rw [(nzE n90)]; exact g2) | (rw [(nzE n89)]; exact g2) | (rw [(nzE n90), (nzE n89)]; exact g2)) (by first | exact g3 | (simp only [nz_c]; exact g3) | (rw [(nzE n89)]; exact g3)) (by first | exact ⟨by omega, by omega⟩ | (simp only [nz_c]; exact ⟨by omega, by omega⟩)) (by first | exact g4 | (simp only [nz_c]; exact g4) | (rw [(nzE n91)]; exact g4)) (fun F1 g e82 e83 e84 e85 e86 => k8 g0 g1 g2 g3 g4 F1 (nz_in0 hB [] (fun j hj hn => g j hj (by simp only [List.mem_cons, List.not_mem_nil, or_false, not_or] at hn; exact trivial)) (List.forall_mem_nil _)) (fun j hj hn => g j hj (by simp only [List.mem_cons, List.not_mem_nil, or_false, not_or] at hn; exact trivial)) ((congrArg Int32.toInt (zz_i e82)).trans (rfl : (sy_i F 82).toInt = (sy_i F 82).toInt)) ((zz_i e82).trans (rfl : sy_i F 82 = sy_i F 82)) ((congrArg Int32.toInt (zz_i e83)).trans (rfl : (sy_i F 83).toInt = (sy_i F 83).toInt)) ((zz_i e83).trans (rfl : sy_i F 83 = sy_i F 83)) ((congrArg Int32.toInt (zz_i e84)).trans (rfl : (sy_i F 86).toInt = (sy_i F 86).toInt)) ((zz_i e84).trans (rfl : sy_i F 86 = sy_i F 86)) ((congrArg Int32.toInt (zz_i e85)).trans (nzE n89)) ((zz_i e85).trans q89) ((congrArg Int32.toInt (zz_i e86)).trans (nzE n92)) ((zz_i e86).trans (rfl : (sy_i F 86) + ((1 : Int32)) = (sy_i F 86) + ((1 : Int32)))))
theorem j2nfa_0_p0 {Ls : Nat} {xs : Nat → Int32} {d : Nat} {Q : Option Value → jm_h → Prop} (hd : 1 ≤ d) (F : Nat → sy_d) (X1 X2 : List jm_c) (hB : iv_in F iv_B0)
    (k : ∀ F1 : Nat → sy_d, (∀ j, j < 82 → True → F1 j = F j) → F1 82 = .inl (.int (sy_i F 82)) → F1 83 = .inl (.int (sy_i F 83)) → F1 84 = .inl (.int ((0 : Int32))) → hd_W Ls xs d jm_M14 Q (3, sy_dL F1 [some (.inl (.ref 46)), some (.inl (.ref 20)), some (.inr (.inl 82)), some (.inr (.inl 83)), some (.inr (.inl 84))], sy_dS F1 [], sy_dh F1 X1 X2 (iv_H 2), 0, 0)) :
    hd_W Ls xs d jm_M14 Q (0, sy_dL F [some (.inl (.ref 46)), some (.inl (.ref 20)), some (.inr (.inl 82)), some (.inr (.inl 83)), none], sy_dS F [], sy_dh F X1 X2 (iv_H 2), 0, 0) := by
  refine hd_run (s := 2) (nv := 84) (pc := 3) (L := [some (.inl (.ref 46)), some (.inl (.ref 20)), some (.inr (.inl 82)), some (.inr (.inl 83)), some (.inr (.inl 84))]) (S := []) (uh := hd_ov (iv_id 0 iv_B0) []) (ul := [.inl (.inr (.inl 82)), .inl (.inr (.inl 83)), .inl (.inl (.int 0))]) (f := true) (sp := [3]) (d0 := 0) (O := []) (T := []) (P := []) jm_ok14 (by decide +kernel) (by decide +kernel) hd F X1 X2 (fun F' hF hs => ?_)
  have b82 := hd_b (F := F) (F' := F') (k := 82) (hF 82 (by decide))
  have b83 := hd_b (F := F) (F' := F') (k := 83) (hF 83 (by decide))
  have hB' : iv_in F' iv_B0 := iv_in_eq hB (fun j hj => hF j (Nat.lt_of_lt_of_le hj (by decide +kernel)))
  refine ⟨fun _ h => absurd h List.not_mem_nil, ?_⟩
  refine k _ ?_ ?_ ?_ ?_
  · exact fun j hj _ => (hd_keep hB' (Nat.lt_of_lt_of_le hj (by decide +kernel)) (by simp)).trans (hF j (Nat.lt_of_lt_of_le hj (by decide)))
  · exact hd_gi (x := .inr (.inl 82)) (by decide +kernel) b82
  · exact hd_gi (x := .inr (.inl 83)) (by decide +kernel) b83
  · exact hd_gi (x := .inl (.int 0)) (by decide +kernel) rfl
theorem j2nfa_0 {Ls : Nat} {xs : Nat → Int32} {d : Nat} {Q : Option Value → jm_h → Prop} (hd : 1 ≤ d) (F : Nat → sy_d) (X1 X2 : List jm_c) (hB : iv_in F iv_B0)
    (k0 : ∀ F1 : Nat → sy_d, iv_in F1 iv_B0 → (∀ j, j < 82 → j ∉ ([] : List Nat) → F1 j = F j) → (sy_i F1 82).toInt = (sy_i F 82).toInt → sy_i F1 82 = sy_i F 82 → (sy_i F1 83).toInt = (sy_i F 83).toInt → sy_i F1 83 = sy_i F 83 → (sy_i F1 84).toInt = 0 → sy_i F1 84 = (0 : Int32) → hd_W Ls xs d jm_M14 Q (3, sy_dL F1 [some (.inl (.ref 46)), some (.inl (.ref 20)), some (.inr (.inl 82)), some (.inr (.inl 83)), some (.inr (.inl 84))], sy_dS F1 [], sy_dh F1 X1 X2 (iv_H 2), 0, 0)) :
    hd_W Ls xs d jm_M14 Q (0, sy_dL F [some (.inl (.ref 46)), some (.inl (.ref 20)), some (.inr (.inl 82)), some (.inr (.inl 83)), none], sy_dS F [], sy_dh F X1 X2 (iv_H 2), 0, 0) := by
  exact j2nfa_0_p0 hd F X1 X2 hB  (fun F1 g e82 e83 e84 => k0 F1 (nz_in0 hB [] (fun j hj hn => g j hj (by simp only [List.mem_cons, List.not_mem_nil, or_false, not_or] at hn; exact trivial)) (List.forall_mem_nil _)) (fun j hj hn => g j hj (by simp only [List.mem_cons, List.not_mem_nil, or_false, not_or] at hn; exact trivial)) ((congrArg Int32.toInt (zz_i e82)).trans (rfl : (sy_i F 82).toInt = (sy_i F 82).toInt)) ((zz_i e82).trans (rfl : sy_i F 82 = sy_i F 82)) ((congrArg Int32.toInt (zz_i e83)).trans (rfl : (sy_i F 83).toInt = (sy_i F 83).toInt)) ((zz_i e83).trans (rfl : sy_i F 83 = sy_i F 83)) ((congrArg Int32.toInt (zz_i e84)).trans (by decide : ((0 : Int32)).toInt = 0)) ((zz_i e84).trans (rfl : (0 : Int32) = (0 : Int32))))
theorem j2nfa_3_p0 {Ls : Nat} {xs : Nat → Int32} {d : Nat} {Q : Option Value → jm_h → Prop} (hd : 1 ≤ d) (F : Nat → sy_d) (X1 X2 : List jm_c) (hB : iv_in F iv_B0)
    (h0 : (sy_i F 19).toInt ≤ (sy_i F 84).toInt)
    (k : ∀ F1 : Nat → sy_d, (∀ j, j < 82 → True → F1 j = F j) → Q (some (.int (((-2) : Int32)))) (sy_dh F1 X1 X2 (iv_H 2))) :
    hd_W Ls xs d jm_M14 Q (3, sy_dL F [some (.inl (.ref 46)), some (.inl (.ref 20)), some (.inr (.inl 82)), some (.inr (.inl 83)), some (.inr (.inl 84))], sy_dS F [], sy_dh F X1 X2 (iv_H 2), 0, 0) := by
  refine hd_ret (s := 2) (nv := 85) (v := some (.inl (.int (-2)))) (uh := hd_ov (iv_id 0 iv_B0) []) (f := true) (sp := [3]) (d0 := 0) (O := [true]) (T := []) (P := [(4, .inr (.inl 19), .inr (.inl 84))]) jm_ok14 (by decide +kernel) (by decide +kernel) hd F X1 X2 (fun F' hF hs => ?_)
  have b19 := hd_b (F := F) (F' := F') (k := 19) (hF 19 (by decide))
  have b84 := hd_b (F := F) (F' := F') (k := 84) (hF 84 (by decide))
  have hB' : iv_in F' iv_B0 := iv_in_eq hB (fun j hj => hF j (Nat.lt_of_lt_of_le hj (by decide +kernel)))
  refine ⟨List.forall_mem_cons.mpr ⟨hd_p4 b19 b84 h0, fun _ h => absurd h List.not_mem_nil⟩, ?_⟩
  refine k _ ?_
  · exact fun j hj _ => (hd_keep hB' (Nat.lt_of_lt_of_le hj (by decide +kernel)) (by simp)).trans (hF j (Nat.lt_of_lt_of_le hj (by decide)))
theorem j2nfa_3_p1 {Ls : Nat} {xs : Nat → Int32} {d : Nat} {Q : Option Value → jm_h → Prop} (hd : 1 ≤ d) (F : Nat → sy_d) (X1 X2 : List jm_c) (hB : iv_in F iv_B0)
    (h0 : (sy_i F 84).toInt < (sy_i F 19).toInt)
    (h1 : 0 ≤ (sy_i F 84).toInt ∧ (sy_i F 84).toInt < 4)
    (h2 : ((sy_ai F 60).getD (sy_i F 84).toNatClampNeg 0).toInt ≠ (sy_i F 82).toInt)
    (k : ∀ F1 : Nat → sy_d, (∀ j, j < 82 → True → F1 j = F j) → F1 82 = .inl (.int (sy_i F 82)) → F1 83 = .inl (.int (sy_i F 83)) → F1 84 = .inl (.int ((sy_i F 84) + ((1 : Int32)))) → hd_W Ls xs d jm_M14 Q (3, sy_dL F1 [some (.inl (.ref 46)), some (.inl (.ref 20)), some (.inr (.inl 82)), some (.inr (.inl 83)), some (.inr (.inl 84))], sy_dS F1 [], sy_dh F1 X1 X2 (iv_H 2), 0, 0)) :
    hd_W Ls xs d jm_M14 Q (3, sy_dL F [some (.inl (.ref 46)), some (.inl (.ref 20)), some (.inr (.inl 82)), some (.inr (.inl 83)), some (.inr (.inl 84))], sy_dS F [], sy_dh F X1 X2 (iv_H 2), 0, 0) := by
  refine hd_run (s := 2) (nv := 85) (pc := 3) (L := [some (.inl (.ref 46)), some (.inl (.ref 20)), some (.inr (.inl 82)), some (.inr (.inl 83)), some (.inr (.inl 84))]) (S := []) (uh := hd_ov (iv_id 0 iv_B0) []) (ul := [.inl (.inr (.inl 82)), .inl (.inr (.inl 83)), .inl (.inr (.inl 86))]) (f := true) (sp := [3]) (d0 := 0) (O := [false, true]) (T := [(30, [.inr (.inl 84)], [.inr (.inl 60)]), (0, [.inr (.inl 84), .inl (.int 1)], [])]) (P := [(5, .inr (.inl 19), .inr (.inl 84)), (6, .inr (.inl 84), .inl (.ref 4)), (1, .inr (.inl 85), .inr (.inl 82))]) jm_ok14 (by decide +kernel) (by decide +kernel) hd F X1 X2 (fun F' hF hs => ?_)
  have b19 := hd_b (F := F) (F' := F') (k := 19) (hF 19 (by decide))
  have b84 := hd_b (F := F) (F' := F') (k := 84) (hF 84 (by decide))
  have a60 := hd_ba (F := F) (F' := F') (k := 60) (hF 60 (by decide))
  have t85 : sy_dv F' (.inr (.inl 85)) = .int ((sy_ai F 60).getD (sy_i F 84).toNatClampNeg 0) := hd_rd (hs 0 _ rfl) b84 a60
  have b82 := hd_b (F := F) (F' := F') (k := 82) (hF 82 (by decide))
  have b83 := hd_b (F := F) (F' := F') (k := 83) (hF 83 (by decide))
  have t86 : sy_dv F' (.inr (.inl 86)) = .int ((sy_i F 84) + ((1 : Int32))) := hd_o (hs 1 _ rfl) b84 rfl rfl
  have hB' : iv_in F' iv_B0 := iv_in_eq hB (fun j hj => hF j (Nat.lt_of_lt_of_le hj (by decide +kernel)))
  refine ⟨List.forall_mem_cons.mpr ⟨hd_p5 b19 b84 h0, List.forall_mem_cons.mpr ⟨hd_pb b84 (by first | exact h1 | exact h1), List.forall_mem_cons.mpr ⟨hd_p1 t85 b82 h2, fun _ h => absurd h List.not_mem_nil⟩⟩⟩, ?_⟩
  refine k _ ?_ ?_ ?_ ?_
  · exact fun j hj _ => (hd_keep hB' (Nat.lt_of_lt_of_le hj (by decide +kernel)) (by simp)).trans (hF j (Nat.lt_of_lt_of_le hj (by decide)))
  · exact hd_gi (x := .inr (.inl 82)) (by decide +kernel) b82
  · exact hd_gi (x := .inr (.inl 83)) (by decide +kernel) b83
  · exact hd_gi (x := .inr (.inl 86)) (by decide +kernel) t86
theorem j2nfa_3_p2 {Ls : Nat} {xs : Nat → Int32} {d : Nat} {Q : Option Value → jm_h → Prop} (hd : 1 ≤ d) (F : Nat → sy_d) (X1 X2 : List jm_c) (hB : iv_in F iv_B0)
    (h0 : (sy_i F 84).toInt < (sy_i F 19).toInt)
    (h1 : 0 ≤ (sy_i F 84).toInt ∧ (sy_i F 84).toInt < 4)
    (h2 : ((sy_ai F 60).getD (sy_i F 84).toNatClampNeg 0).toInt = (sy_i F 82).toInt)
    (h3 : 0 ≤ (sy_i F 84).toInt ∧ (sy_i F 84).toInt < 4)
    (h4 : ((sy_ai F 61).getD (sy_i F 84).toNatClampNeg 0).toInt < (sy_i F 83).toInt)
    (k : ∀ F1 : Nat → sy_d, (∀ j, j < 82 → True → F1 j = F j) → F1 82 = .inl (.int (sy_i F 82)) → F1 83 = .inl (.int (sy_i F 83)) → F1 84 = .inl (.int ((sy_i F 84) + ((1 : Int32)))) → hd_W Ls xs d jm_M14 Q (3, sy_dL F1 [some (.inl (.ref 46)), some (.inl (.ref 20)), some (.inr (.inl 82)), some (.inr (.inl 83)), some (.inr (.inl 84))], sy_dS F1 [], sy_dh F1 X1 X2 (iv_H 2), 0, 0)) :
    hd_W Ls xs d jm_M14 Q (3, sy_dL F [some (.inl (.ref 46)), some (.inl (.ref 20)), some (.inr (.inl 82)), some (.inr (.inl 83)), some (.inr (.inl 84))], sy_dS F [], sy_dh F X1 X2 (iv_H 2), 0, 0) := by
  refine hd_run (s := 2) (nv := 85) (pc := 3) (L := [some (.inl (.ref 46)), some (.inl (.ref 20)), some (.inr (.inl 82)), some (.inr (.inl 83)), some (.inr (.inl 84))]) (S := []) (uh := hd_ov (iv_id 0 iv_B0) []) (ul := [.inl (.inr (.inl 82)), .inl (.inr (.inl 83)), .inl (.inr (.inl 87))]) (f := true) (sp := [3]) (d0 := 0) (O := [false, false, true]) (T := [(30, [.inr (.inl 84)], [.inr (.inl 60)]), (30, [.inr (.inl 84)], [.inr (.inl 61)]), (0, [.inr (.inl 84), .inl (.int 1)], [])]) (P := [(5, .inr (.inl 19), .inr (.inl 84)), (6, .inr (.inl 84), .inl (.ref 4)), (0, .inr (.inl 85), .inr (.inl 82)), (6, .inr (.inl 84), .inl (.ref 4)), (2, .inr (.inl 86), .inr (.inl 83))]) jm_ok14 (by decide +kernel) (by decide +kernel) hd F X1 X2 (fun F' hF hs => ?_)
  have b19 := hd_b (F := F) (F' := F') (k := 19) (hF 19 (by decide))
  have b84 := hd_b (F := F) (F' := F') (k := 84) (hF 84 (by decide))
  have a60 := hd_ba (F := F) (F' := F') (k := 60) (hF 60 (by decide))
  have t85 : sy_dv F' (.inr (.inl 85)) = .int ((sy_ai F 60).getD (sy_i F 84).toNatClampNeg 0) := hd_rd (hs 0 _ rfl) b84 a60
  have b82 := hd_b (F := F) (F' := F') (k := 82) (hF 82 (by decide))
  have a61 := hd_ba (F := F) (F' := F') (k := 61) (hF 61 (by decide))
  have t86 : sy_dv F' (.inr (.inl 86)) = .int ((sy_ai F 61).getD (sy_i F 84).toNatClampNeg 0) := hd_rd (hs 1 _ rfl) b84 a61
  have b83 := hd_b (F := F) (F' := F') (k := 83) (hF 83 (by decide))
  have t87 : sy_dv F' (.inr (.inl 87)) = .int ((sy_i F 84) + ((1 : Int32))) := hd_o (hs 2 _ rfl) b84 rfl rfl
  have hB' : iv_in F' iv_B0 := iv_in_eq hB (fun j hj => hF j (Nat.lt_of_lt_of_le hj (by decide +kernel)))
  refine ⟨List.forall_mem_cons.mpr ⟨hd_p5 b19 b84 h0, List.forall_mem_cons.mpr ⟨hd_pb b84 (by first | exact h1 | exact h1), List.forall_mem_cons.mpr ⟨hd_p0 t85 b82 h2, List.forall_mem_cons.mpr ⟨hd_pb b84 (by first | exact h3 | exact h3), List.forall_mem_cons.mpr ⟨hd_p2 t86 b83 h4, fun _ h => absurd h List.not_mem_nil⟩⟩⟩⟩⟩, ?_⟩
  refine k _ ?_ ?_ ?_ ?_
  · exact fun j hj _ => (hd_keep hB' (Nat.lt_of_lt_of_le hj (by decide +kernel)) (by simp)).trans (hF j (Nat.lt_of_lt_of_le hj (by decide)))
  · exact hd_gi (x := .inr (.inl 82)) (by decide +kernel) b82
  · exact hd_gi (x := .inr (.inl 83)) (by decide +kernel) b83
  · exact hd_gi (x := .inr (.inl 87)) (by decide +kernel) t87
theorem j2nfa_3_p3 {Ls : Nat} {xs : Nat → Int32} {d : Nat} {Q : Option Value → jm_h → Prop} (hd : 1 ≤ d) (F : Nat → sy_d) (X1 X2 : List jm_c) (hB : iv_in F iv_B0)
    (h0 : (sy_i F 84).toInt < (sy_i F 19).toInt)
    (h1 : 0 ≤ (sy_i F 84).toInt ∧ (sy_i F 84).toInt < 4)
    (h2 : ((sy_ai F 60).getD (sy_i F 84).toNatClampNeg 0).toInt = (sy_i F 82).toInt)
    (h3 : 0 ≤ (sy_i F 84).toInt ∧ (sy_i F 84).toInt < 4)
    (h4 : (sy_i F 83).toInt ≤ ((sy_ai F 61).getD (sy_i F 84).toNatClampNeg 0).toInt)
    (k : ∀ F1 : Nat → sy_d, (∀ j, j < 82 → True → F1 j = F j) → Q (some (.int (sy_i F 84))) (sy_dh F1 X1 X2 (iv_H 2))) :
    hd_W Ls xs d jm_M14 Q (3, sy_dL F [some (.inl (.ref 46)), some (.inl (.ref 20)), some (.inr (.inl 82)), some (.inr (.inl 83)), some (.inr (.inl 84))], sy_dS F [], sy_dh F X1 X2 (iv_H 2), 0, 0) := by
  refine hd_ret (s := 2) (nv := 85) (v := some (.inr (.inl 84))) (uh := hd_ov (iv_id 0 iv_B0) []) (f := true) (sp := [3]) (d0 := 0) (O := [false, false, false]) (T := [(30, [.inr (.inl 84)], [.inr (.inl 60)]), (30, [.inr (.inl 84)], [.inr (.inl 61)])]) (P := [(5, .inr (.inl 19), .inr (.inl 84)), (6, .inr (.inl 84), .inl (.ref 4)), (0, .inr (.inl 85), .inr (.inl 82)), (6, .inr (.inl 84), .inl (.ref 4)), (3, .inr (.inl 86), .inr (.inl 83))]) jm_ok14 (by decide +kernel) (by decide +kernel) hd F X1 X2 (fun F' hF hs => ?_)
  have b19 := hd_b (F := F) (F' := F') (k := 19) (hF 19 (by decide))
  have b84 := hd_b (F := F) (F' := F') (k := 84) (hF 84 (by decide))
  have a60 := hd_ba (F := F) (F' := F') (k := 60) (hF 60 (by decide))
  have t85 : sy_dv F' (.inr (.inl 85)) = .int ((sy_ai F 60).getD (sy_i F 84).toNatClampNeg 0) := hd_rd (hs 0 _ rfl) b84 a60
  have b82 := hd_b (F := F) (F' := F') (k := 82) (hF 82 (by decide))
  have a61 := hd_ba (F := F) (F' := F') (k := 61) (hF 61 (by decide))
  have t86 : sy_dv F' (.inr (.inl 86)) = .int ((sy_ai F 61).getD (sy_i F 84).toNatClampNeg 0) := hd_rd (hs 1 _ rfl) b84 a61
  have b83 := hd_b (F := F) (F' := F') (k := 83) (hF 83 (by decide))
  have hB' : iv_in F' iv_B0 := iv_in_eq hB (fun j hj => hF j (Nat.lt_of_lt_of_le hj (by decide +kernel)))
  have hk := k (sy_cm F' (hd_ov (iv_id 0 iv_B0) [] ++ [])) (fun j hj _ => (hd_keep hB' (Nat.lt_of_lt_of_le hj (by decide +kernel)) (by simp)).trans (hF j (Nat.lt_of_lt_of_le hj (by decide))))
  refine ⟨List.forall_mem_cons.mpr ⟨hd_p5 b19 b84 h0, List.forall_mem_cons.mpr ⟨hd_pb b84 (by first | exact h1 | exact h1), List.forall_mem_cons.mpr ⟨hd_p0 t85 b82 h2, List.forall_mem_cons.mpr ⟨hd_pb b84 (by first | exact h3 | exact h3), List.forall_mem_cons.mpr ⟨hd_p3 t86 b83 h4, fun _ h => absurd h List.not_mem_nil⟩⟩⟩⟩⟩, ?_⟩
  show Q (some (sy_dv F' (.inr (.inl 84)))) _
  rw [b84]
  exact hk
theorem j2nfa_3 {Ls : Nat} {xs : Nat → Int32} {d : Nat} {Q : Option Value → jm_h → Prop} (hd : 1 ≤ d) (F : Nat → sy_d) (X1 X2 : List jm_c) (hB : iv_in F iv_B0)
    (a84 : 0 ≤ (sy_i F 84).toInt ∧ (sy_i F 84).toInt ≤ 4)
    (k0 : (sy_i F 19).toInt ≤ (sy_i F 84).toInt → ∀ F1 : Nat → sy_d, iv_in F1 iv_B0 → (∀ j, j < 82 → j ∉ ([] : List Nat) → F1 j = F j) → Q (some (.int (((-2) : Int32)))) (sy_dh F1 X1 X2 (iv_H 2)))
    (k1 : (sy_i F 84).toInt < (sy_i F 19).toInt → ((sy_ai F 60).getD ((sy_i F 84).toInt).toNat 0).toInt ≠ (sy_i F 82).toInt → ∀ F1 : Nat → sy_d, iv_in F1 iv_B0 → (∀ j, j < 82 → j ∉ ([] : List Nat) → F1 j = F j) → (sy_i F1 82).toInt = (sy_i F 82).toInt → sy_i F1 82 = sy_i F 82 → (sy_i F1 83).toInt = (sy_i F 83).toInt → sy_i F1 83 = sy_i F 83 → (sy_i F1 84).toInt = ((sy_i F 84).toInt + 1) → sy_i F1 84 = (sy_i F 84) + ((1 : Int32)) → hd_W Ls xs d jm_M14 Q (3, sy_dL F1 [some (.inl (.ref 46)), some (.inl (.ref 20)), some (.inr (.inl 82)), some (.inr (.inl 83)), some (.inr (.inl 84))], sy_dS F1 [], sy_dh F1 X1 X2 (iv_H 2), 0, 0))
    (k2 : (sy_i F 84).toInt < (sy_i F 19).toInt → ((sy_ai F 60).getD ((sy_i F 84).toInt).toNat 0).toInt = (sy_i F 82).toInt → ((sy_ai F 61).getD ((sy_i F 84).toInt).toNat 0).toInt < (sy_i F 83).toInt → ∀ F1 : Nat → sy_d, iv_in F1 iv_B0 → (∀ j, j < 82 → j ∉ ([] : List Nat) → F1 j = F j) → (sy_i F1 82).toInt = (sy_i F 82).toInt → sy_i F1 82 = sy_i F 82 → (sy_i F1 83).toInt = (sy_i F 83).toInt → sy_i F1 83 = sy_i F 83 → (sy_i F1 84).toInt = ((sy_i F 84).toInt + 1) → sy_i F1 84 = (sy_i F 84) + ((1 : Int32)) → hd_W Ls xs d jm_M14 Q (3, sy_dL F1 [some (.inl (.ref 46)), some (.inl (.ref 20)), some (.inr (.inl 82)), some (.inr (.inl 83)), some (.inr (.inl 84))], sy_dS F1 [], sy_dh F1 X1 X2 (iv_H 2), 0, 0))
    (k3 : (sy_i F 84).toInt < (sy_i F 19).toInt → ((sy_ai F 60).getD ((sy_i F 84).toInt).toNat 0).toInt = (sy_i F 82).toInt → (sy_i F 83).toInt ≤ ((sy_ai F 61).getD ((sy_i F 84).toInt).toNat 0).toInt → ∀ F1 : Nat → sy_d, iv_in F1 iv_B0 → (∀ j, j < 82 → j ∉ ([] : List Nat) → F1 j = F j) → Q (some (.int (sy_i F 84))) (sy_dh F1 X1 X2 (iv_H 2))) :
    hd_W Ls xs d jm_M14 Q (3, sy_dL F [some (.inl (.ref 46)), some (.inl (.ref 20)), some (.inr (.inl 82)), some (.inr (.inl 83)), some (.inr (.inl 84))], sy_dS F [], sy_dh F X1 X2 (iv_H 2), 0, 0) := by
  by_cases g0 : (sy_i F 19).toInt ≤ (sy_i F 84).toInt
  · have c19 := nz_bx hB (k := 19) (lo := 0) (hi := 4) rfl
    exact j2nfa_3_p0 hd F X1 X2 hB (by first | exact g0 | (simp only [nz_c]; exact g0)) (fun F1 g  => k0 g0 F1 (nz_in0 hB [] (fun j hj hn => g j hj (by simp only [List.mem_cons, List.not_mem_nil, or_false, not_or] at hn; exact trivial)) (List.forall_mem_nil _)) (fun j hj hn => g j hj (by simp only [List.mem_cons, List.not_mem_nil, or_false, not_or] at hn; exact trivial)) )
  replace g0 : (sy_i F 84).toInt < (sy_i F 19).toInt := by omega
  by_cases g1 : ((sy_ai F 60).getD ((sy_i F 84).toInt).toNat 0).toInt ≠ (sy_i F 82).toInt
  · have c19 := nz_bx hB (k := 19) (lo := 0) (hi := 4) rfl
    have q85 : (sy_ai F 60).getD (sy_i F 84).toNatClampNeg 0 = (sy_ai F 60).getD ((sy_i F 84).toInt).toNat 0 := by simp only [nz_c]
    have n85 : nzI ((sy_ai F 60).getD (sy_i F 84).toNatClampNeg 0) (((sy_ai F 60).getD ((sy_i F 84).toInt).toNat 0).toInt) := congrArg Int32.toInt q85
    have n86 : nzI ((sy_i F 84) + ((1 : Int32))) (((sy_i F 84).toInt + 1)) := nz_add (rfl : (sy_i F 84).toInt = (sy_i F 84).toInt) (by decide : ((1 : Int32)).toInt = 1) (by omega) (by omega)
    exact j2nfa_3_p1 hd F X1 X2 hB (by first | exact g0 | (simp only [nz_c]; exact g0)) (by first | exact ⟨by omega, by omega⟩ | (simp only [nz_c]; exact ⟨by omega, by omega⟩)) (by first | exact g1 | (simp only [nz_c]; exact g1) | (rw [(nzE n85)]; exact g1)) (fun F1 g e82 e83 e84 => k1 g0 g1 F1 (nz_in0 hB [] (fun j hj hn => g j hj (by simp only [List.mem_cons, List.not_mem_nil, or_false, not_or] at hn; exact trivial)) (List.forall_mem_nil _)) (fun j hj hn => g j hj (by simp only [List.mem_cons, List.not_mem_nil, or_false, not_or] at hn; exact trivial)) ((congrArg Int32.toInt (zz_i e82)).trans (rfl : (sy_i F 82).toInt = (sy_i F 82).toInt)) ((zz_i e82).trans (rfl : sy_i F 82 = sy_i F 82)) ((congrArg Int32.toInt (zz_i e83)).trans (rfl : (sy_i F 83).toInt = (sy_i F 83).toInt)) ((zz_i e83).trans (rfl : sy_i F 83 = sy_i F 83)) ((congrArg Int32.toInt (zz_i e84)).trans (nzE n86)) ((zz_i e84).trans (rfl : (sy_i F 84) + ((1 : Int32)) = (sy_i F 84) + ((1 : Int32)))))
  replace g1 : ((sy_ai F 60).getD ((sy_i F 84).toInt).toNat 0).toInt = (sy_i F 82).toInt := by omega
  by_cases g2 : ((sy_ai F 61).getD ((sy_i F 84).toInt).toNat 0).toInt < (sy_i F 83).toInt
  · have c19 := nz_bx hB (k := 19) (lo := 0) (hi := 4) rfl
    have q85 : (sy_ai F 60).getD (sy_i F 84).toNatClampNeg 0 = (sy_ai F 60).getD ((sy_i F 84).toInt).toNat 0 := by simp only [nz_c]
    have n85 : nzI ((sy_ai F 60).getD (sy_i F 84).toNatClampNeg 0) (((sy_ai F 60).getD ((sy_i F 84).toInt).toNat 0).toInt) := congrArg Int32.toInt q85
    have q86 : (sy_ai F 61).getD (sy_i F 84).toNatClampNeg 0 = (sy_ai F 61).getD ((sy_i F 84).toInt).toNat 0 := by simp only [nz_c]
    have n86 : nzI ((sy_ai F 61).getD (sy_i F 84).toNatClampNeg 0) (((sy_ai F 61).getD ((sy_i F 84).toInt).toNat 0).toInt) := congrArg Int32.toInt q86
    have n87 : nzI ((sy_i F 84) + ((1 : Int32))) (((sy_i F 84).toInt + 1)) := nz_add (rfl : (sy_i F 84).toInt = (sy_i F 84).toInt) (by decide : ((1 : Int32)).toInt = 1) (by omega) (by omega)
    exact j2nfa_3_p2 hd F X1 X2 hB (by first | exact g0 | (simp only [nz_c]; exact g0)) (by first | exact ⟨by omega, by omega⟩ | (simp only [nz_c]; exact ⟨by omega, by omega⟩)) (by first | exact g1 | (simp only [nz_c]; exact g1) | (rw [(nzE n85)]; exact g1)) (by first | exact ⟨by omega, by omega⟩ | (simp only [nz_c]; exact ⟨by omega, by omega⟩)) (by first | exact g2 | (simp only [nz_c]; exact g2) | (rw [(nzE n86)]; exact g2)) (fun F1 g e82 e83 e84 => k2 g0 g1 g2 F1 (nz_in0 hB [] (fun j hj hn => g j hj (by simp only [List.mem_cons, List.not_mem_nil, or_false, not_or] at hn; exact trivial)) (List.forall_mem_nil _)) (fun j hj hn => g j hj (by simp only [List.mem_cons, List.not_mem_nil, or_false, not_or] at hn; exact trivial)) ((congrArg Int32.toInt (zz_i e82)).trans (rfl : (sy_i F 82).toInt = (sy_i F 82).toInt)) ((zz_i e82).trans (rfl : sy_i F 82 = sy_i F 82)) ((congrArg Int32.toInt (zz_i e83)).trans (rfl : (sy_i F 83).toInt = (sy_i F 83).toInt)) ((zz_i e83).trans (rfl : sy_i F 83 = sy_i F 83)) ((congrArg Int32.toInt (zz_i e84)).trans (nzE n87)) ((zz_i e84).trans (rfl : (sy_i F 84) + ((1 : Int32)) = (sy_i F 84) + ((1 : Int32)))))
  replace g2 : (sy_i F 83).toInt ≤ ((sy_ai F 61).getD ((sy_i F 84).toInt).toNat 0).toInt := by omega
  have c19 := nz_bx hB (k := 19) (lo := 0) (hi := 4) rfl
  have q85 : (sy_ai F 60).getD (sy_i F 84).toNatClampNeg 0 = (sy_ai F 60).getD ((sy_i F 84).toInt).toNat 0 := by simp only [nz_c]
  have n85 : nzI ((sy_ai F 60).getD (sy_i F 84).toNatClampNeg 0) (((sy_ai F 60).getD ((sy_i F 84).toInt).toNat 0).toInt) := congrArg Int32.toInt q85
  have q86 : (sy_ai F 61).getD (sy_i F 84).toNatClampNeg 0 = (sy_ai F 61).getD ((sy_i F 84).toInt).toNat 0 := by simp only [nz_c]
  have n86 : nzI ((sy_ai F 61).getD (sy_i F 84).toNatClampNeg 0) (((sy_ai F 61).getD ((sy_i F 84).toInt).toNat 0).toInt) := congrArg Int32.toInt q86
  exact j2nfa_3_p3 hd F X1 X2 hB (by first | exact g0 | (simp only [nz_c]; exact g0)) (by first | exact ⟨by omega, by omega⟩ | (simp only [nz_c]; exact ⟨by omega, by omega⟩)) (by first | exact g1 | (simp only [nz_c]; exact g1) | (rw [(nzE n85)]; exact g1)) (by first | exact ⟨by omega, by omega⟩ | (simp only [nz_c]; exact ⟨by omega, by omega⟩)) (by first | exact g2 | (simp only [nz_c]; exact g2) | (rw [(nzE n86)]; exact g2)) (fun F1 g  => by rw [(rfl : sy_i F 84 = sy_i F 84)]; exact k3 g0 g1 g2 F1 (nz_in0 hB [] (fun j hj hn => g j hj (by simp only [List.mem_cons, List.not_mem_nil, or_false, not_or] at hn; exact trivial)) (List.forall_mem_nil _)) (fun j hj hn => g j hj (by simp only [List.mem_cons, List.not_mem_nil, or_false, not_or] at hn; exact trivial)) )
end
section
/-! ===== the class: wind, bounces, way by way (shape 2) ===== -/
theorem j2sh_0_p0 {Ls : Nat} {xs : Nat → Int32} {d : Nat} {Q : Option Value → jm_h → Prop} (hd : 1 ≤ d) (F : Nat → sy_d) (X1 X2 : List jm_c) (hB : iv_in F iv_B0)
    (k : ∀ F1 : Nat → sy_d, (∀ j, j < 82 → j ≠ 45 → F1 j = F j) → F1 45 = .inr (.inl (jm_upd (jm_upd (sy_ai F 45) ((2 : Int32)).toNatClampNeg (sy_i F 82)) ((8 : Int32)).toNatClampNeg (sy_i F 83))) → hd_W Ls xs d jm_M17 Q (23, sy_dL F1 [none, none, none, none], sy_dS F1 [.inl (.int 0), .inl (.ref 20), .inl (.ref 38), .inl (.int 3), .inl (.ref 39)], sy_dh F1 X1 X2 (iv_H 2), 0, 0)) :
    hd_W Ls xs d jm_M17 Q (0, sy_dL F [some (.inl (.ref 38)), some (.inl (.ref 20)), some (.inr (.inl 82)), some (.inr (.inl 83))], sy_dS F [], sy_dh F X1 X2 (iv_H 2), 0, 0) := by
  refine hd_run (s := 2) (nv := 84) (pc := 23) (L := [none, none, none, none]) (S := [.inl (.int 0), .inl (.ref 20), .inl (.ref 38), .inl (.int 3), .inl (.ref 39)]) (uh := hd_ov (iv_id 0 iv_B0) [(45, .inr (.inr (.inl 85)))]) (ul := []) (f := true) (sp := [23]) (d0 := 0) (O := []) (T := [(40, [.inl (.int 2), .inr (.inl 82)], [.inr (.inl 45)]), (40, [.inl (.int 8), .inr (.inl 83)], [.inr (.inl 84)])]) (P := []) jm_ok17 (by decide +kernel) (by decide +kernel) hd F X1 X2 (fun F' hF hs => ?_)
  have b83 := hd_b (F := F) (F' := F') (k := 83) (hF 83 (by decide))
  have b82 := hd_b (F := F) (F' := F') (k := 82) (hF 82 (by decide))
  have a45 := hd_ba (F := F) (F' := F') (k := 45) (hF 45 (by decide))
  have t84 : sy_da F' (.inr (.inl 84)) = .inl (jm_upd (sy_ai F 45) ((2 : Int32)).toNatClampNeg (sy_i F 82)) := hd_up (hs 0 _ rfl) rfl b82 a45
  have t85 : sy_da F' (.inr (.inl 85)) = .inl (jm_upd (jm_upd (sy_ai F 45) ((2 : Int32)).toNatClampNeg (sy_i F 82)) ((8 : Int32)).toNatClampNeg (sy_i F 83)) := hd_up (hs 1 _ rfl) rfl b83 t84
  have hB' : iv_in F' iv_B0 := iv_in_eq hB (fun j hj => hF j (Nat.lt_of_lt_of_le hj (by decide +kernel)))
  refine ⟨fun _ h => absurd h List.not_mem_nil, ?_⟩
  refine k _ ?_ ?_
  · exact fun j hj hn => (hd_keep hB' (Nat.lt_of_lt_of_le hj (by decide +kernel)) (by simp; omega)).trans (hF j (Nat.lt_of_lt_of_le hj (by decide)))
  · exact hd_ga (a := .inr (.inl 85)) (by decide +kernel) t85
theorem j2sh_0 {Ls : Nat} {xs : Nat → Int32} {d : Nat} {Q : Option Value → jm_h → Prop} (hd : 1 ≤ d) (F : Nat → sy_d) (X1 X2 : List jm_c) (hB : iv_in F iv_B0)
    (k0 : ∀ F1 : Nat → sy_d, iv_in F1 iv_B0 → (∀ j, j < 82 → j ∉ ([45] : List Nat) → F1 j = F j) → sy_ai F1 45 = jm_upd (jm_upd (sy_ai F 45) (2 : Int).toNat (sy_i F 82)) (8 : Int).toNat (sy_i F 83) → hd_W Ls xs d jm_M17 Q (23, sy_dL F1 [none, none, none, none], sy_dS F1 [.inl (.int 0), .inl (.ref 20), .inl (.ref 38), .inl (.int 3), .inl (.ref 39)], sy_dh F1 X1 X2 (iv_H 2), 0, 0)) :
    hd_W Ls xs d jm_M17 Q (0, sy_dL F [some (.inl (.ref 38)), some (.inl (.ref 20)), some (.inr (.inl 82)), some (.inr (.inl 83))], sy_dS F [], sy_dh F X1 X2 (iv_H 2), 0, 0) := by
  have w85 : jm_upd (jm_upd (sy_ai F 45) ((2 : Int32)).toNatClampNeg (sy_i F 82)) ((8 : Int32)).toNatClampNeg (sy_i F 83) = jm_upd (jm_upd (sy_ai F 45) (2 : Int).toNat (sy_i F 82)) (8 : Int).toNat (sy_i F 83) := by simp only [nz_c, (by decide : ((2 : Int32)).toInt = 2), (by decide : ((8 : Int32)).toInt = 8)]
  exact j2sh_0_p0 hd F X1 X2 hB  (fun F1 g e45 => k0 F1 (nz_in0 hB [45] (fun j hj hn => g j hj (by simp only [List.mem_cons, List.not_mem_nil, or_false, not_or] at hn; omega)) (List.forall_mem_cons.mpr ⟨fun t ht => (Option.some.inj ht) ▸ (nz_hz2 e45), List.forall_mem_nil _⟩)) (fun j hj hn => g j hj (by simp only [List.mem_cons, List.not_mem_nil, or_false, not_or] at hn; omega)) ((zz_ai e45).trans w85))
theorem j2sh_26_p0 {Ls : Nat} {xs : Nat → Int32} {d : Nat} {Q : Option Value → jm_h → Prop} (hd : 1 ≤ d) (F : Nat → sy_d) (X1 X2 : List jm_c) (hB : iv_in F iv_B0)
    (k : ∀ F1 : Nat → sy_d, (∀ j, j < 82 → j ≠ 45 → F1 j = F j) → F1 45 = .inr (.inl (jm_upd (sy_ai F 45) ((3 : Int32)).toNatClampNeg (sy_i F 82))) → Q (none) (sy_dh F1 X1 X2 (iv_H 2))) :
    hd_W Ls xs d jm_M17 Q (26, sy_dL F [none, none, none, none], sy_dS F [.inr (.inl 82), .inl (.int 3), .inl (.ref 39)], sy_dh F X1 X2 (iv_H 2), 0, 0) := by
  refine hd_ret (s := 2) (nv := 83) (v := none) (uh := hd_ov (iv_id 0 iv_B0) [(45, .inr (.inr (.inl 83)))]) (f := false) (sp := []) (d0 := 0) (O := []) (T := [(40, [.inl (.int 3), .inr (.inl 82)], [.inr (.inl 45)])]) (P := []) jm_ok17 (by decide +kernel) (by decide +kernel) hd F X1 X2 (fun F' hF hs => ?_)
  have b82 := hd_b (F := F) (F' := F') (k := 82) (hF 82 (by decide))
  have a45 := hd_ba (F := F) (F' := F') (k := 45) (hF 45 (by decide))
  have t83 : sy_da F' (.inr (.inl 83)) = .inl (jm_upd (sy_ai F 45) ((3 : Int32)).toNatClampNeg (sy_i F 82)) := hd_up (hs 0 _ rfl) rfl b82 a45
  have hB' : iv_in F' iv_B0 := iv_in_eq hB (fun j hj => hF j (Nat.lt_of_lt_of_le hj (by decide +kernel)))
  refine ⟨fun _ h => absurd h List.not_mem_nil, ?_⟩
  refine k _ ?_ ?_
  · exact fun j hj hn => (hd_keep hB' (Nat.lt_of_lt_of_le hj (by decide +kernel)) (by simp; omega)).trans (hF j (Nat.lt_of_lt_of_le hj (by decide)))
  · exact hd_ga (a := .inr (.inl 83)) (by decide +kernel) t83
theorem j2sh_26 {Ls : Nat} {xs : Nat → Int32} {d : Nat} {Q : Option Value → jm_h → Prop} (hd : 1 ≤ d) (F : Nat → sy_d) (X1 X2 : List jm_c) (hB : iv_in F iv_B0)
    (k0 : ∀ F1 : Nat → sy_d, iv_in F1 iv_B0 → (∀ j, j < 82 → j ∉ ([45] : List Nat) → F1 j = F j) → sy_ai F1 45 = jm_upd (sy_ai F 45) (3 : Int).toNat (sy_i F 82) → Q (none) (sy_dh F1 X1 X2 (iv_H 2))) :
    hd_W Ls xs d jm_M17 Q (26, sy_dL F [none, none, none, none], sy_dS F [.inr (.inl 82), .inl (.int 3), .inl (.ref 39)], sy_dh F X1 X2 (iv_H 2), 0, 0) := by
  have w83 : jm_upd (sy_ai F 45) ((3 : Int32)).toNatClampNeg (sy_i F 82) = jm_upd (sy_ai F 45) (3 : Int).toNat (sy_i F 82) := by simp only [nz_c, (by decide : ((3 : Int32)).toInt = 3)]
  exact j2sh_26_p0 hd F X1 X2 hB  (fun F1 g e45 => k0 F1 (nz_in0 hB [45] (fun j hj hn => g j hj (by simp only [List.mem_cons, List.not_mem_nil, or_false, not_or] at hn; omega)) (List.forall_mem_cons.mpr ⟨fun t ht => (Option.some.inj ht) ▸ (nz_hz2 e45), List.forall_mem_nil _⟩)) (fun j hj hn => g j hj (by simp only [List.mem_cons, List.not_mem_nil, or_false, not_or] at hn; omega)) ((zz_ai e45).trans w83))
theorem j2bo_0_p0 {Ls : Nat} {xs : Nat → Int32} {d : Nat} {Q : Option Value → jm_h → Prop} (hd : 1 ≤ d) (F : Nat → sy_d) (X1 X2 : List jm_c) (hB : iv_in F iv_B0)
    (h0 : 0 ≤ (sy_i F 82).toInt ∧ (sy_i F 82).toInt < 7)
    (k : ∀ F1 : Nat → sy_d, (∀ j, j < 82 → True → F1 j = F j) → F1 82 = .inl (.int ((sy_ai F 24).getD (sy_i F 82).toNatClampNeg 0)) → hd_W Ls xs d jm_M20 Q (9, sy_dL F1 [none, none, none], sy_dS F1 [.inl (.int 4), .inl (.ref 20), .inl (.ref 38), .inr (.inl 82)], sy_dh F1 X1 X2 (iv_H 2), 0, 0)) :
    hd_W Ls xs d jm_M20 Q (0, sy_dL F [some (.inl (.ref 38)), some (.inl (.ref 20)), some (.inr (.inl 82))], sy_dS F [], sy_dh F X1 X2 (iv_H 2), 0, 0) := by
  refine hd_run (s := 2) (nv := 83) (pc := 9) (L := [none, none, none]) (S := [.inl (.int 4), .inl (.ref 20), .inl (.ref 38), .inr (.inl 82)]) (uh := hd_ov (iv_id 0 iv_B0) []) (ul := [.inl (.inr (.inl 83))]) (f := true) (sp := [9]) (d0 := 0) (O := []) (T := [(30, [.inr (.inl 82)], [.inr (.inl 24)])]) (P := [(6, .inr (.inl 82), .inl (.ref 7))]) jm_ok20 (by decide +kernel) (by decide +kernel) hd F X1 X2 (fun F' hF hs => ?_)
  have b82 := hd_b (F := F) (F' := F') (k := 82) (hF 82 (by decide))
  have a24 := hd_ba (F := F) (F' := F') (k := 24) (hF 24 (by decide))
  have t83 : sy_dv F' (.inr (.inl 83)) = .int ((sy_ai F 24).getD (sy_i F 82).toNatClampNeg 0) := hd_rd (hs 0 _ rfl) b82 a24
  have hB' : iv_in F' iv_B0 := iv_in_eq hB (fun j hj => hF j (Nat.lt_of_lt_of_le hj (by decide +kernel)))
  refine ⟨List.forall_mem_cons.mpr ⟨hd_pb b82 (by first | exact h0 | exact h0), fun _ h => absurd h List.not_mem_nil⟩, ?_⟩
  refine k _ ?_ ?_
  · exact fun j hj _ => (hd_keep hB' (Nat.lt_of_lt_of_le hj (by decide +kernel)) (by simp)).trans (hF j (Nat.lt_of_lt_of_le hj (by decide)))
  · exact hd_gi (x := .inr (.inl 83)) (by decide +kernel) t83
theorem j2bo_0 {Ls : Nat} {xs : Nat → Int32} {d : Nat} {Q : Option Value → jm_h → Prop} (hd : 1 ≤ d) (F : Nat → sy_d) (X1 X2 : List jm_c) (hB : iv_in F iv_B0)
    (a82 : 0 ≤ (sy_i F 82).toInt ∧ (sy_i F 82).toInt ≤ 6)
    (k0 : ∀ F1 : Nat → sy_d, iv_in F1 iv_B0 → (∀ j, j < 82 → j ∉ ([] : List Nat) → F1 j = F j) → (sy_i F1 82).toInt = ((sy_ai F 24).getD ((sy_i F 82).toInt).toNat 0).toInt → sy_i F1 82 = (sy_ai F 24).getD ((sy_i F 82).toInt).toNat 0 → hd_W Ls xs d jm_M20 Q (9, sy_dL F1 [none, none, none], sy_dS F1 [.inl (.int 4), .inl (.ref 20), .inl (.ref 38), .inr (.inl 82)], sy_dh F1 X1 X2 (iv_H 2), 0, 0)) :
    hd_W Ls xs d jm_M20 Q (0, sy_dL F [some (.inl (.ref 38)), some (.inl (.ref 20)), some (.inr (.inl 82))], sy_dS F [], sy_dh F X1 X2 (iv_H 2), 0, 0) := by
  have q83 : (sy_ai F 24).getD (sy_i F 82).toNatClampNeg 0 = (sy_ai F 24).getD ((sy_i F 82).toInt).toNat 0 := by simp only [nz_c]
  have n83 : nzI ((sy_ai F 24).getD (sy_i F 82).toNatClampNeg 0) (((sy_ai F 24).getD ((sy_i F 82).toInt).toNat 0).toInt) := congrArg Int32.toInt q83
  exact j2bo_0_p0 hd F X1 X2 hB (by first | exact ⟨by omega, by omega⟩ | (simp only [nz_c]; exact ⟨by omega, by omega⟩)) (fun F1 g e82 => k0 F1 (nz_in0 hB [] (fun j hj hn => g j hj (by simp only [List.mem_cons, List.not_mem_nil, or_false, not_or] at hn; exact trivial)) (List.forall_mem_nil _)) (fun j hj hn => g j hj (by simp only [List.mem_cons, List.not_mem_nil, or_false, not_or] at hn; exact trivial)) ((congrArg Int32.toInt (zz_i e82)).trans (nzE n83)) ((zz_i e82).trans q83))
theorem j2bo_12_p0 {Ls : Nat} {xs : Nat → Int32} {d : Nat} {Q : Option Value → jm_h → Prop} (hd : 3 ≤ d) (F : Nat → sy_d) (X1 X2 : List jm_c) (hB : iv_in F iv_B0)
    (h0 : ((sy_i F 82) + (sy_i F 83)).toInt < 9)
    (h1 : 0 < ((sy_i F 82) + (sy_i F 83)).toInt)
    (k : ∀ F1 : Nat → sy_d, (∀ j, j < 82 → True → F1 j = F j) → Q (some (.int ((sy_i F 82) + (sy_i F 83)))) (sy_dh F1 X1 X2 (iv_H 2))) :
    hd_W Ls xs d jm_M20 Q (12, sy_dL F [none, none, none], sy_dS F [.inr (.inl 83), .inr (.inl 82)], sy_dh F X1 X2 (iv_H 2), 0, 0) := by
  refine hd_ret (s := 2) (nv := 84) (v := some (.inr (.inl 84))) (uh := hd_ov (iv_id 0 iv_B0) []) (f := false) (sp := []) (d0 := 2) (O := [true, true]) (T := [(0, [.inr (.inl 82), .inr (.inl 83)], [])]) (P := [(2, .inr (.inl 84), .inl (.int 9)), (2, .inl (.int 0), .inr (.inl 84))]) jm_ok20 (by decide +kernel) (by decide +kernel) hd F X1 X2 (fun F' hF hs => ?_)
  have b82 := hd_b (F := F) (F' := F') (k := 82) (hF 82 (by decide))
  have b83 := hd_b (F := F) (F' := F') (k := 83) (hF 83 (by decide))
  have t84 : sy_dv F' (.inr (.inl 84)) = .int ((sy_i F 82) + (sy_i F 83)) := hd_o (hs 0 _ rfl) b82 b83 rfl
  have hB' : iv_in F' iv_B0 := iv_in_eq hB (fun j hj => hF j (Nat.lt_of_lt_of_le hj (by decide +kernel)))
  have hk := k (sy_cm F' (hd_ov (iv_id 0 iv_B0) [] ++ [])) (fun j hj _ => (hd_keep hB' (Nat.lt_of_lt_of_le hj (by decide +kernel)) (by simp)).trans (hF j (Nat.lt_of_lt_of_le hj (by decide))))
  refine ⟨List.forall_mem_cons.mpr ⟨hd_p2 t84 rfl (by have hc : ((9) : Int32).toInt = 9 := (by decide); omega), List.forall_mem_cons.mpr ⟨hd_p2 rfl t84 (by have hc : ((0) : Int32).toInt = 0 := (by decide); omega), fun _ h => absurd h List.not_mem_nil⟩⟩, ?_⟩
  show Q (some (sy_dv F' (.inr (.inl 84)))) _
  rw [t84]
  exact hk
theorem j2bo_12_p1 {Ls : Nat} {xs : Nat → Int32} {d : Nat} {Q : Option Value → jm_h → Prop} (hd : 3 ≤ d) (F : Nat → sy_d) (X1 X2 : List jm_c) (hB : iv_in F iv_B0)
    (h0 : ((sy_i F 82) + (sy_i F 83)).toInt < 9)
    (h1 : ((sy_i F 82) + (sy_i F 83)).toInt ≤ 0)
    (k : ∀ F1 : Nat → sy_d, (∀ j, j < 82 → True → F1 j = F j) → Q (some (.int ((0 : Int32)))) (sy_dh F1 X1 X2 (iv_H 2))) :
    hd_W Ls xs d jm_M20 Q (12, sy_dL F [none, none, none], sy_dS F [.inr (.inl 83), .inr (.inl 82)], sy_dh F X1 X2 (iv_H 2), 0, 0) := by
  refine hd_ret (s := 2) (nv := 84) (v := some (.inl (.int 0))) (uh := hd_ov (iv_id 0 iv_B0) []) (f := false) (sp := []) (d0 := 2) (O := [true, false]) (T := [(0, [.inr (.inl 82), .inr (.inl 83)], [])]) (P := [(2, .inr (.inl 84), .inl (.int 9)), (3, .inl (.int 0), .inr (.inl 84))]) jm_ok20 (by decide +kernel) (by decide +kernel) hd F X1 X2 (fun F' hF hs => ?_)
  have b82 := hd_b (F := F) (F' := F') (k := 82) (hF 82 (by decide))
  have b83 := hd_b (F := F) (F' := F') (k := 83) (hF 83 (by decide))
  have t84 : sy_dv F' (.inr (.inl 84)) = .int ((sy_i F 82) + (sy_i F 83)) := hd_o (hs 0 _ rfl) b82 b83 rfl
  have hB' : iv_in F' iv_B0 := iv_in_eq hB (fun j hj => hF j (Nat.lt_of_lt_of_le hj (by decide +kernel)))
  refine ⟨List.forall_mem_cons.mpr ⟨hd_p2 t84 rfl (by have hc : ((9) : Int32).toInt = 9 := (by decide); omega), List.forall_mem_cons.mpr ⟨hd_p3 rfl t84 (by have hc : ((0) : Int32).toInt = 0 := (by decide); omega), fun _ h => absurd h List.not_mem_nil⟩⟩, ?_⟩
  refine k _ ?_
  · exact fun j hj _ => (hd_keep hB' (Nat.lt_of_lt_of_le hj (by decide +kernel)) (by simp)).trans (hF j (Nat.lt_of_lt_of_le hj (by decide)))
theorem j2bo_12_p2 {Ls : Nat} {xs : Nat → Int32} {d : Nat} {Q : Option Value → jm_h → Prop} (hd : 3 ≤ d) (F : Nat → sy_d) (X1 X2 : List jm_c) (hB : iv_in F iv_B0)
    (h0 : 9 ≤ ((sy_i F 82) + (sy_i F 83)).toInt)
    (k : ∀ F1 : Nat → sy_d, (∀ j, j < 82 → True → F1 j = F j) → Q (some (.int ((9 : Int32)))) (sy_dh F1 X1 X2 (iv_H 2))) :
    hd_W Ls xs d jm_M20 Q (12, sy_dL F [none, none, none], sy_dS F [.inr (.inl 83), .inr (.inl 82)], sy_dh F X1 X2 (iv_H 2), 0, 0) := by
  refine hd_ret (s := 2) (nv := 84) (v := some (.inl (.int 9))) (uh := hd_ov (iv_id 0 iv_B0) []) (f := false) (sp := []) (d0 := 2) (O := [false]) (T := [(0, [.inr (.inl 82), .inr (.inl 83)], [])]) (P := [(3, .inr (.inl 84), .inl (.int 9))]) jm_ok20 (by decide +kernel) (by decide +kernel) hd F X1 X2 (fun F' hF hs => ?_)
  have b82 := hd_b (F := F) (F' := F') (k := 82) (hF 82 (by decide))
  have b83 := hd_b (F := F) (F' := F') (k := 83) (hF 83 (by decide))
  have t84 : sy_dv F' (.inr (.inl 84)) = .int ((sy_i F 82) + (sy_i F 83)) := hd_o (hs 0 _ rfl) b82 b83 rfl
  have hB' : iv_in F' iv_B0 := iv_in_eq hB (fun j hj => hF j (Nat.lt_of_lt_of_le hj (by decide +kernel)))
  refine ⟨List.forall_mem_cons.mpr ⟨hd_p3 t84 rfl (by have hc : ((9) : Int32).toInt = 9 := (by decide); omega), fun _ h => absurd h List.not_mem_nil⟩, ?_⟩
  refine k _ ?_
  · exact fun j hj _ => (hd_keep hB' (Nat.lt_of_lt_of_le hj (by decide +kernel)) (by simp)).trans (hF j (Nat.lt_of_lt_of_le hj (by decide)))
theorem j2bo_12 {Ls : Nat} {xs : Nat → Int32} {d : Nat} {Q : Option Value → jm_h → Prop} (hd : 3 ≤ d) (F : Nat → sy_d) (X1 X2 : List jm_c) (hB : iv_in F iv_B0)
    (k0 : ((sy_i F 82) + (sy_i F 83)).toInt < 9 → 0 < ((sy_i F 82) + (sy_i F 83)).toInt → ∀ F1 : Nat → sy_d, iv_in F1 iv_B0 → (∀ j, j < 82 → j ∉ ([] : List Nat) → F1 j = F j) → Q (some (.int ((sy_i F 82) + (sy_i F 83)))) (sy_dh F1 X1 X2 (iv_H 2)))
    (k1 : ((sy_i F 82) + (sy_i F 83)).toInt < 9 → ((sy_i F 82) + (sy_i F 83)).toInt ≤ 0 → ∀ F1 : Nat → sy_d, iv_in F1 iv_B0 → (∀ j, j < 82 → j ∉ ([] : List Nat) → F1 j = F j) → Q (some (.int ((0 : Int32)))) (sy_dh F1 X1 X2 (iv_H 2)))
    (k2 : 9 ≤ ((sy_i F 82) + (sy_i F 83)).toInt → ∀ F1 : Nat → sy_d, iv_in F1 iv_B0 → (∀ j, j < 82 → j ∉ ([] : List Nat) → F1 j = F j) → Q (some (.int ((9 : Int32)))) (sy_dh F1 X1 X2 (iv_H 2))) :
    hd_W Ls xs d jm_M20 Q (12, sy_dL F [none, none, none], sy_dS F [.inr (.inl 83), .inr (.inl 82)], sy_dh F X1 X2 (iv_H 2), 0, 0) := by
  by_cases g0 : ((sy_i F 82) + (sy_i F 83)).toInt < 9
  · by_cases g1 : 0 < ((sy_i F 82) + (sy_i F 83)).toInt
    · have n84 : nzI ((sy_i F 82) + (sy_i F 83)) (((sy_i F 82) + (sy_i F 83)).toInt) := congrArg Int32.toInt (rfl : (sy_i F 82) + (sy_i F 83) = (sy_i F 82) + (sy_i F 83))
      exact j2bo_12_p0 hd F X1 X2 hB (by first | exact g0 | (simp only [nz_c]; exact g0) | (rw [(nzE n84)]; exact g0)) (by first | exact g1 | (simp only [nz_c]; exact g1) | (rw [(nzE n84)]; exact g1)) (fun F1 g  => by rw [(rfl : (sy_i F 82) + (sy_i F 83) = (sy_i F 82) + (sy_i F 83))]; exact k0 g0 g1 F1 (nz_in0 hB [] (fun j hj hn => g j hj (by simp only [List.mem_cons, List.not_mem_nil, or_false, not_or] at hn; exact trivial)) (List.forall_mem_nil _)) (fun j hj hn => g j hj (by simp only [List.mem_cons, List.not_mem_nil, or_false, not_or] at hn; exact trivial)) )
    replace g1 : ((sy_i F 82) + (sy_i F 83)).toInt ≤ 0 := by omega
    have n84 : nzI ((sy_i F 82) + (sy_i F 83)) (((sy_i F 82) + (sy_i F 83)).toInt) := congrArg Int32.toInt (rfl : (sy_i F 82) + (sy_i F 83) = (sy_i F 82) + (sy_i F 83))
    exact j2bo_12_p1 hd F X1 X2 hB (by first | exact g0 | (simp only [nz_c]; exact g0) | (rw [(nzE n84)]; exact g0)) (by first | exact g1 | (simp only [nz_c]; exact g1) | (rw [(nzE n84)]; exact g1)) (fun F1 g  => k1 g0 g1 F1 (nz_in0 hB [] (fun j hj hn => g j hj (by simp only [List.mem_cons, List.not_mem_nil, or_false, not_or] at hn; exact trivial)) (List.forall_mem_nil _)) (fun j hj hn => g j hj (by simp only [List.mem_cons, List.not_mem_nil, or_false, not_or] at hn; exact trivial)) )
  replace g0 : 9 ≤ ((sy_i F 82) + (sy_i F 83)).toInt := by omega
  have n84 : nzI ((sy_i F 82) + (sy_i F 83)) (((sy_i F 82) + (sy_i F 83)).toInt) := congrArg Int32.toInt (rfl : (sy_i F 82) + (sy_i F 83) = (sy_i F 82) + (sy_i F 83))
  exact j2bo_12_p2 hd F X1 X2 hB (by first | exact g0 | (simp only [nz_c]; exact g0) | (rw [(nzE n84)]; exact g0)) (fun F1 g  => k2 g0 F1 (nz_in0 hB [] (fun j hj hn => g j hj (by simp only [List.mem_cons, List.not_mem_nil, or_false, not_or] at hn; exact trivial)) (List.forall_mem_nil _)) (fun j hj hn => g j hj (by simp only [List.mem_cons, List.not_mem_nil, or_false, not_or] at hn; exact trivial)) )
end
section
/-! ===== the class: what is so, who catches, who buys (shape 2, n) ===== -/
section G2n
variable {Ls : Nat} {xs : Nat → Int32} {T : tX} {g : gS} (F : Nat → sy_d) (X1 X2 : List jm_c)
theorem j2nbi_L (hC : xC 18 T F) (hG : gC 50 (nfS T) (nbS T) F g) (w : Int32) : ∀ (m : Nat) (F1 : Nat → sy_d) (n : Nat), n + m = nfS T → qC [] F F1 → sy_i F1 82 = w → (sy_i F1 83).toInt = nfS T → (sy_i F1 85).toInt = n → sy_i F1 84 = mkS g w.toInt n →
    hd_W Ls xs 1 jm_M11 (pI 2 X1 X2 (fun x F' => qC [] F F' ∧ x = mkS g w.toInt (nfS T))) (5, sy_dL F1 [some (.inl (.ref 46)), some (.inr (.inl 82)), some (.inr (.inl 83)), some (.inr (.inl 84)), some (.inr (.inl 85))], sy_dS F1 [], sy_dh F1 X1 X2 (iv_H 2), 0, 0) := by
  have l7 : nfS T ≤ 7 := hC.2.2.1.1.1
  intro m
  induction m with
  | zero =>
    intro F1 n hm hq i82 e83 e85 i84
    refine j2nbi_5 (by decide) F1 X1 X2 hq.1 (by omega) (by omega) ?_ ?_ ?_
    · intro c0 F2 hb gg
      refine ⟨_, F2, rfl, rfl, qq_on hq hb gg (by decide), ?_⟩
      rw [i84, show n = nfS T by omega]
    · intros
      omega
    · intros
      omega
  | succ m ih =>
    intro F1 n hm hq i82 e83 e85 i84
    have eh : (sy_ai F1 54).getD (sy_i F1 85).toInt.toNat 0 = g 2 n := by
      rw [qq_a hq (by decide) (by decide), show (sy_i F1 85).toInt.toNat = n by omega]
      exact hG.1 2 n (by decide) (vF (by decide) (by omega))
    refine j2nbi_5 (by decide) F1 X1 X2 hq.1 (by omega) (by omega) ?_ ?_ ?_
    · intros
      omega
    · intro c0 c1 c2 F2 hb gg e82' i82' e83' i83' e84' i84' e85' i85'
      rw [eh, i82] at c2
      refine ih F2 (n + 1) (by omega) (qq_on hq hb gg (by decide)) (i82'.trans i82) (by omega) (by omega) ?_
      rw [i84', i84]
      exact (if_neg c2).symm
    · intro c0 c1 c2 F2 hb gg e82' i82' e83' i83' e84' i84' e85' i85'
      rw [eh, i82] at c2
      refine ih F2 (n + 1) (by omega) (qq_on hq hb gg (by decide)) (i82'.trans i82) (by omega) (by omega) ?_
      rw [i84', i84, ← ofi e85]
      exact (if_pos c2).symm
theorem j2nbi_V (hC : xC 18 T F) (hG : gC 50 (nfS T) (nbS T) F g) (w n : Int32) (hn : n.toInt = nfS T) : jm_T Ls xs 1 jm_M11 [.ref 46, .int w, .int n] (sy_dh F X1 X2 (iv_H 2)) 0 0 (pI 2 X1 X2 (fun x F' => qC [] F F' ∧ x = mkS g w.toInt (nfS T))) := by
  refine C_T (by decide) [w, n] [.inl (.ref 46), .inr (.inl 82), .inr (.inl 83)] jm_ok11 (by decide) rfl (fun F0 k0 ki => ?_)
  have i82 : sy_i F0 82 = w := ki 0
  have i83 : sy_i F0 83 = n := ki 1
  refine j2nbi_0 (by decide) F0 X1 X2 (hd_iveq0 hC.1 k0) ?_
  intro F1 hb gg e82 j82 e83 j83 e84 j84 e85 j85
  exact j2nbi_L F X1 X2 hC hG w (nfS T) F1 0 (by omega) (qq_src (qq_mk hb gg (by decide)) k0) (j82.trans i82) (by rw [e83, i83]; exact hn) e85 j84
theorem j2nhm_V (hC : xC 18 T F) (hG : gC 50 (nfS T) (nbS T) F g) (w n : Int32) (hn : n.toInt = nfS T) : jm_T Ls xs 2 jm_M12 [.ref 46, .int w, .int n] (sy_dh F X1 X2 (iv_H 2)) 0 0 (pI 2 X1 X2 (fun x F' => qC [] F F' ∧ x = ppS (mkS g w.toInt (nfS T)))) := by
  refine C_T (by decide) [w, n] [.inl (.ref 46), .inr (.inl 82), .inr (.inl 83)] jm_ok12 (by decide) rfl (fun F0 k0 ki => ?_)
  have i82 : sy_i F0 82 = w := ki 0
  have i83 : sy_i F0 83 = n := ki 1
  refine j2nhm_0 (by decide) F0 X1 X2 (hd_iveq0 hC.1 k0) ?_
  intro F1 hb gg e82 j82 e83 j83
  have q1 : qC [] F F1 := qq_src (qq_mk hb gg (by decide)) k0
  refine hd_calI (R := fun x F' => qC [] F1 F' ∧ x = mkS g (sy_i F1 82).toInt (nfS T)) (nh := 82) (nv := 82) (s := 2) (s1 := 2) (d1 := 1) (M1 := jm_M11) (As := [.inl (.ref 46), .inr (.inl 82), .inr (.inl 83)]) (rest := []) jm_ok12 rfl rfl (by decide) (by decide +kernel) (j2nbi_V F1 X1 X2 (xC_q (by decide) hC q1 (by decide)) (gC_eq hG (fun j h1 h2 => q1.2 j (by omega) (by simp))) _ _ (by rw [j83, i83]; exact hn)) (fun F3 F' x hR p1 p2 p3 => ?_)
  obtain ⟨r1, r2⟩ := hR
  rw [j82, i82] at r2
  have q3 : qC [] F F3 := qq_trans q1 (qC_dst r1 p1)
  refine j2nhm_6 (by decide) F3 X1 X2 q3.1 ?_
  intro F4 hb4 g4
  refine ⟨_, F4, rfl, rfl, qq_on q3 hb4 g4 (by decide), ?_⟩
  have i82' : sy_i F3 82 = x := zz_i p3
  rw [i82', r2]
  exact bc_mk hC.2.2.1 g w.toInt
theorem j2nnr_L (hC : xC 18 T F) (hG : gC 50 (nfS T) (nbS T) F g) (hO : okS T g) {x c : Int} (hx : 0 ≤ x ∧ x ≤ 9) : ∀ (m : Nat) (F1 : Nat → sy_d) (n : Nat), n + m = nbS T → qC [] F F1 → (sy_i F1 82).toInt = x → (sy_i F1 83).toInt = c → (sy_i F1 86).toInt = n → (sy_i F1 84).toInt = (nrS T g x c n).1 → (sy_i F1 85).toInt = (nrS T g x c n).2 →
    hd_W Ls xs 2 jm_M13 (pI 2 X1 X2 (fun y F' => qC [] F F' ∧ y.toInt = (nrS T g x c (nbS T)).1)) (10, sy_dL F1 [some (.inl (.ref 46)), some (.inl (.ref 20)), some (.inr (.inl 82)), some (.inr (.inl 83)), some (.inr (.inl 84)), some (.inr (.inl 85)), some (.inr (.inl 86)), none], sy_dS F1 [], sy_dh F1 X1 X2 (iv_H 2), 0, 0) := by
  have l4 : nbS T ≤ 4 := hC.2.2.1.1.2.1
  have en : (sy_i F 19).toInt = (nbS T : Int) := hC.2.1.2.1.1
  intro m
  induction m with
  | zero =>
    intro F1 n hm hq e82 e83 e86 e84 e85
    have en1 : (sy_i F1 19).toInt = (nbS T : Int) := by rw [qq_i hq (by decide) (by decide)]; exact en
    refine j2nnr_10 (by decide) F1 X1 X2 hq.1 (by omega) ?_ ?_ ?_ ?_ ?_ ?_ ?_ ?_ ?_
    · intro c0 F2 hb gg
      refine ⟨_, F2, rfl, rfl, qq_on hq hb gg (by decide), ?_⟩
      rw [e84, show n = nbS T by omega]
    iterate 8
      intros
      omega
  | succ m ih =>
    intro F1 n hm hq e82 e83 e86 e84 e85
    have en1 : (sy_i F1 19).toInt = (nbS T : Int) := by rw [qq_i hq (by decide) (by decide)]; exact en
    have enn : (sy_i F1 86).toInt.toNat = n := by omega
    have r60 : (sy_ai F1 60).getD (sy_i F1 86).toInt.toNat 0 = g 7 n := by
      rw [qq_a hq (by decide) (by decide), enn]
      exact hG.1 7 n (by decide) (vB (Or.inl rfl) (by omega))
    have r61 : (sy_ai F1 61).getD (sy_i F1 86).toInt.toNat 0 = g 8 n := by
      rw [qq_a hq (by decide) (by decide), enn]
      exact hG.1 8 n (by decide) (vB (Or.inr rfl) (by omega))
    have rea : ((sy_ai F1 29).getD (sy_i F1 86).toInt.toNat 0).toInt = (tB T n).2.1 := by
      rw [qq_a hq (by decide) (by decide), enn]
      exact (xX_b hC (show n < nbS T by omega)).2.1
    have hst := hO.1 n (by omega)
    have d1 : (g 7 n - sy_i F1 82).toInt = (g 7 n).toInt - x := by rw [nz_sub rfl e82 (by omega) (by omega)]
    have d2 : (0 - (g 7 n - sy_i F1 82)).toInt = x - (g 7 n).toInt := by
      rw [nz_sub (by decide : (0 : Int32).toInt = 0) d1 (by omega) (by omega)]
      omega
    have hstep : (nrS T g x c (n + 1)) = if (((g 7 n).toInt - x).natAbs : Int) ≤ (tB T n).2.1 ∧ (((g 7 n).toInt - x).natAbs : Int) < (nrS T g x c n).2 ∧ c ≤ (g 8 n).toInt then ((n : Int), (((g 7 n).toInt - x).natAbs : Int)) else nrS T g x c n := rfl
    have b86 : 0 ≤ (sy_i F1 86).toInt ∧ (sy_i F1 86).toInt ≤ 4 := by omega
    have yes : ∀ F2 : Nat → sy_d, iv_in F2 iv_B0 → (∀ j, j < 82 → j ∉ ([] : List Nat) → F2 j = F1 j) → (sy_i F2 82).toInt = (sy_i F1 82).toInt → (sy_i F2 83).toInt = (sy_i F1 83).toInt → (sy_i F2 84).toInt = (sy_i F1 86).toInt → (sy_i F2 85).toInt = (((g 7 n).toInt - x).natAbs : Int) → (sy_i F2 86).toInt = (sy_i F1 86).toInt + 1 → ((((g 7 n).toInt - x).natAbs : Int) ≤ (tB T n).2.1 ∧ (((g 7 n).toInt - x).natAbs : Int) < (nrS T g x c n).2 ∧ c ≤ (g 8 n).toInt) → hd_W Ls xs 2 jm_M13 (pI 2 X1 X2 (fun y F' => qC [] F F' ∧ y.toInt = (nrS T g x c (nbS T)).1)) (10, sy_dL F2 [some (.inl (.ref 46)), some (.inl (.ref 20)), some (.inr (.inl 82)), some (.inr (.inl 83)), some (.inr (.inl 84)), some (.inr (.inl 85)), some (.inr (.inl 86)), none], sy_dS F2 [], sy_dh F2 X1 X2 (iv_H 2), 0, 0) := fun F2 hb gg f82 f83 f84 f85 f86 h => ih F2 (n + 1) (by omega) (qq_on hq hb gg (by decide)) (by omega) (by omega) (by omega) (by rw [hstep, if_pos h]; show _ = (n : Int); omega) (by rw [hstep, if_pos h]; exact f85)
    have no : ∀ F2 : Nat → sy_d, iv_in F2 iv_B0 → (∀ j, j < 82 → j ∉ ([] : List Nat) → F2 j = F1 j) → (sy_i F2 82).toInt = (sy_i F1 82).toInt → (sy_i F2 83).toInt = (sy_i F1 83).toInt → (sy_i F2 84).toInt = (sy_i F1 84).toInt → (sy_i F2 85).toInt = (sy_i F1 85).toInt → (sy_i F2 86).toInt = (sy_i F1 86).toInt + 1 → ¬ ((((g 7 n).toInt - x).natAbs : Int) ≤ (tB T n).2.1 ∧ (((g 7 n).toInt - x).natAbs : Int) < (nrS T g x c n).2 ∧ c ≤ (g 8 n).toInt) → hd_W Ls xs 2 jm_M13 (pI 2 X1 X2 (fun y F' => qC [] F F' ∧ y.toInt = (nrS T g x c (nbS T)).1)) (10, sy_dL F2 [some (.inl (.ref 46)), some (.inl (.ref 20)), some (.inr (.inl 82)), some (.inr (.inl 83)), some (.inr (.inl 84)), some (.inr (.inl 85)), some (.inr (.inl 86)), none], sy_dS F2 [], sy_dh F2 X1 X2 (iv_H 2), 0, 0) := fun F2 hb gg f82 f83 f84 f85 f86 h => ih F2 (n + 1) (by omega) (qq_on hq hb gg (by decide)) (by omega) (by omega) (by omega) (by rw [hstep, if_neg h]; omega) (by rw [hstep, if_neg h]; omega)
    refine j2nnr_10 (by decide) F1 X1 X2 hq.1 b86 ?_ ?_ ?_ ?_ ?_ ?_ ?_ ?_ ?_
    · intros
      omega
    · intro c0 c1 c2 F2 hb gg f82 k82 f83 k83 f84 k84 f85 k85 f86 k86
      rw [r60, d1] at c1
      rw [rea, r60, d1] at c2
      exact no F2 hb gg f82 f83 f84 f85 f86 (by omega)
    · intro c0 c1 c2 c3 F2 hb gg f82 k82 f83 k83 f84 k84 f85 k85 f86 k86
      rw [r60, d1] at c1
      rw [rea, r60, d1] at c2
      rw [r60, d1] at c3
      exact no F2 hb gg f82 f83 f84 f85 f86 (by omega)
    · intro c0 c1 c2 c3 c4 F2 hb gg f82 k82 f83 k83 f84 k84 f85 k85 f86 k86
      rw [r60, d1] at c1
      rw [rea, r60, d1] at c2
      rw [r60, d1] at c3
      rw [r61] at c4
      exact no F2 hb gg f82 f83 f84 f85 f86 (by omega)
    · intro c0 c1 c2 c3 c4 F2 hb gg f82 k82 f83 k83 f84 k84 f85 k85 f86 k86
      rw [r60, d1] at c1
      rw [rea, r60, d1] at c2
      rw [r60, d1] at c3
      rw [r61] at c4
      rw [r60, d1] at f85
      exact yes F2 hb gg f82 f83 f84 (by omega) f86 (by omega)
    · intro c0 c1 c2 F2 hb gg f82 k82 f83 k83 f84 k84 f85 k85 f86 k86
      rw [r60, d1] at c1
      rw [rea, r60, d2] at c2
      exact no F2 hb gg f82 f83 f84 f85 f86 (by omega)
    · intro c0 c1 c2 c3 F2 hb gg f82 k82 f83 k83 f84 k84 f85 k85 f86 k86
      rw [r60, d1] at c1
      rw [rea, r60, d2] at c2
      rw [r60, d2] at c3
      exact no F2 hb gg f82 f83 f84 f85 f86 (by omega)
    · intro c0 c1 c2 c3 c4 F2 hb gg f82 k82 f83 k83 f84 k84 f85 k85 f86 k86
      rw [r60, d1] at c1
      rw [rea, r60, d2] at c2
      rw [r60, d2] at c3
      rw [r61] at c4
      exact no F2 hb gg f82 f83 f84 f85 f86 (by omega)
    · intro c0 c1 c2 c3 c4 F2 hb gg f82 k82 f83 k83 f84 k84 f85 k85 f86 k86
      rw [r60, d1] at c1
      rw [rea, r60, d2] at c2
      rw [r60, d2] at c3
      rw [r61] at c4
      rw [r60, d2] at f85
      exact yes F2 hb gg f82 f83 f84 (by omega) f86 (by omega)
theorem j2nnr_V (hC : xC 18 T F) (hG : gC 50 (nfS T) (nbS T) F g) (hO : okS T g) {x c : Int32} (hx : 0 ≤ x.toInt ∧ x.toInt ≤ 9) : jm_T Ls xs 2 jm_M13 [.ref 46, .ref 20, .int x, .int c] (sy_dh F X1 X2 (iv_H 2)) 0 0 (pI 2 X1 X2 (fun y F' => qC [] F F' ∧ y.toInt = (nrS T g x.toInt c.toInt (nbS T)).1)) := by
  refine C_T (by decide) [x, c] [.inl (.ref 46), .inl (.ref 20), .inr (.inl 82), .inr (.inl 83)] jm_ok13 (by decide) rfl (fun F0 k0 ki => ?_)
  have i82 : sy_i F0 82 = x := ki 0
  have i83 : sy_i F0 83 = c := ki 1
  refine j2nnr_0 (by decide) F0 X1 X2 (hd_iveq0 hC.1 k0) ?_
  intro F1 hb gg e82 j82 e83 j83 e84 j84 e85 j85 e86 j86
  exact j2nnr_L F X1 X2 hC hG hO hx (nbS T) F1 0 (by omega) (qq_src (qq_mk hb gg (by decide)) k0) (by rw [e82, i82]) (by rw [e83, i83]) e86 e84 e85
theorem j2nfa_L (hC : xC 18 T F) (hG : gC 50 (nfS T) (nbS T) F g) {x : Int32} {c : Int} : ∀ (m : Nat) (F1 : Nat → sy_d) (n : Nat), n + m = nbS T → qC [] F F1 → sy_i F1 82 = x → (sy_i F1 83).toInt = c → (sy_i F1 84).toInt = n → fsS g x c n = -2 →
    hd_W Ls xs 1 jm_M14 (pI 2 X1 X2 (fun y F' => qC [] F F' ∧ y.toInt = fsS g x c (nbS T))) (3, sy_dL F1 [some (.inl (.ref 46)), some (.inl (.ref 20)), some (.inr (.inl 82)), some (.inr (.inl 83)), some (.inr (.inl 84))], sy_dS F1 [], sy_dh F1 X1 X2 (iv_H 2), 0, 0) := by
  have l4 : nbS T ≤ 4 := hC.2.2.1.1.2.1
  have en : (sy_i F 19).toInt = (nbS T : Int) := hC.2.1.2.1.1
  intro m
  induction m with
  | zero =>
    intro F1 n hm hq i82 e83 e84 hfs
    have en1 : (sy_i F1 19).toInt = (nbS T : Int) := by rw [qq_i hq (by decide) (by decide)]; exact en
    refine j2nfa_3 (by decide) F1 X1 X2 hq.1 (by omega) ?_ ?_ ?_ ?_
    · intro c0 F2 hb gg
      refine ⟨_, F2, rfl, rfl, qq_on hq hb gg (by decide), ?_⟩
      rw [show nbS T = n by omega, hfs]
      decide
    iterate 3
      intros
      omega
  | succ m ih =>
    intro F1 n hm hq i82 e83 e84 hfs
    have en1 : (sy_i F1 19).toInt = (nbS T : Int) := by rw [qq_i hq (by decide) (by decide)]; exact en
    have enn : (sy_i F1 84).toInt.toNat = n := by omega
    have r60 : (sy_ai F1 60).getD (sy_i F1 84).toInt.toNat 0 = g 7 n := by
      rw [qq_a hq (by decide) (by decide), enn]
      exact hG.1 7 n (by decide) (vB (Or.inl rfl) (by omega))
    have r61 : (sy_ai F1 61).getD (sy_i F1 84).toInt.toNat 0 = g 8 n := by
      rw [qq_a hq (by decide) (by decide), enn]
      exact hG.1 8 n (by decide) (vB (Or.inr rfl) (by omega))
    have hst : fsS g x c (n + 1) = if (g 7 n) = x ∧ c ≤ (g 8 n).toInt then (n : Int) else -2 := by
      show (if 0 ≤ fsS g x c n then _ else _) = _
      rw [if_neg (by omega)]
    refine j2nfa_3 (by decide) F1 X1 X2 hq.1 (by omega) ?_ ?_ ?_ ?_
    · intros
      omega
    · intro c0 c1 F2 hb gg f82 k82 f83 k83 f84 k84
      rw [r60, i82] at c1
      refine ih F2 (n + 1) (by omega) (qq_on hq hb gg (by decide)) (k82.trans i82) (by omega) (by omega) ?_
      rw [hst, if_neg (fun z => c1 (congrArg Int32.toInt z.1))]
    · intro c0 c1 c2 F2 hb gg f82 k82 f83 k83 f84 k84
      rw [r61] at c2
      refine ih F2 (n + 1) (by omega) (qq_on hq hb gg (by decide)) (k82.trans i82) (by omega) (by omega) ?_
      rw [hst, if_neg (fun z => by omega)]
    · intro c0 c1 c2 F2 hb gg
      rw [r60, i82] at c1
      rw [r61] at c2
      refine ⟨_, F2, rfl, rfl, qq_on hq hb gg (by decide), ?_⟩
      have hs1 : fsS g x c (n + 1) = n := by rw [hst, if_pos ⟨Int32.toInt_inj.mp c1, by omega⟩]
      have := fs_st (g := g) (x := x) (c := c) (n := n + 1) (by omega) m
      rw [show n + 1 + m = nbS T by omega] at this
      omega
theorem j2nfa_V (hC : xC 18 T F) (hG : gC 50 (nfS T) (nbS T) F g) (x c : Int32) : jm_T Ls xs 1 jm_M14 [.ref 46, .ref 20, .int x, .int c] (sy_dh F X1 X2 (iv_H 2)) 0 0 (pI 2 X1 X2 (fun y F' => qC [] F F' ∧ y.toInt = fsS g x c.toInt (nbS T))) := by
  refine C_T (by decide) [x, c] [.inl (.ref 46), .inl (.ref 20), .inr (.inl 82), .inr (.inl 83)] jm_ok14 (by decide) rfl (fun F0 k0 ki => ?_)
  have i82 : sy_i F0 82 = x := ki 0
  have i83 : sy_i F0 83 = c := ki 1
  refine j2nfa_0 (by decide) F0 X1 X2 (hd_iveq0 hC.1 k0) ?_
  intro F1 hb gg e82 j82 e83 j83 e84 j84
  exact j2nfa_L F X1 X2 hC hG (nbS T) F1 0 (by omega) (qq_src (qq_mk hb gg (by decide)) k0) (j82.trans i82) (by rw [e83, i83]) e84 rfl
end G2n
end
section
/-! ===== the class: wind, and where it bounces to (shape 2) ===== -/
section WB2
variable {Ls : Nat} {xs : Nat → Int32} {T : tX} (F : Nat → sy_d) (X1 X2 : List jm_c)
theorem j2tl_V (hC : xC 18 T F) {a : Int32} {k : Nat} (hk : k < 6) (ha : a.toInt = k) : jm_T Ls xs 4 jm_M21 [.ref 38, .ref 20, .int a] (sy_dh F X1 X2 (iv_H 2)) 0 0 (pI 2 X1 X2 (fun x F' => qC [46] F F' ∧ x.toInt = lwT T k (v45 F))) := j2to_V F X1 X2 hC.1 hC.2.1 hC.2.2.1 hC.2.2.2 hk ha
theorem j2sh_V (hC : xC 18 T F) (h l : Int32) : jm_T Ls xs 5 jm_M17 [.ref 38, .ref 20, .int h, .int l] (sy_dh F X1 X2 (iv_H 2)) 0 0 (pV 2 X1 X2 (fun F' => qC [45, 46] F F' ∧ v45 F' 2 = h ∧ v45 F' 8 = l ∧ v45 F' 3 = Int32.ofInt (windT T h l))) := by
  refine C_T (by decide) [h, l] [.inl (.ref 38), .inl (.ref 20), .inr (.inl 82), .inr (.inl 83)] jm_ok17 (by decide) rfl (fun F0 k0 ki => ?_)
  have i82 : sy_i F0 82 = h := ki 0
  have i83 : sy_i F0 83 = l := ki 1
  refine j2sh_0 (by decide) F0 X1 X2 (hd_iveq0 hC.1 k0) ?_
  intro F1 hb gg a45
  have q1 : qC [45, 46] F F1 := qq_src (qq_mk hb gg (by decide)) k0
  rw [i82, i83] at a45
  have c1 := xC_q (by decide) hC q1 (by decide)
  have k2 : v45 F1 2 = h := by
    show (sy_ai F1 45).getD 2 0 = h
    rw [a45, jm_upd_at, jm_upd_at]
    rfl
  have k8 : v45 F1 8 = l := by
    show (sy_ai F1 45).getD 8 0 = l
    rw [a45, jm_upd_at]
    rfl
  refine hd_calI (R := fun x F' => qC [46] F1 F' ∧ x.toInt = lwT T 0 (v45 F1)) (nh := 82) (nv := 82) (s := 2) (s1 := 2) (d1 := 4) (M1 := jm_M21) (As := [.inl (.ref 38), .inl (.ref 20), .inl (.int 0)]) (rest := [.inl (.int 3), .inl (.ref 39)]) jm_ok17 rfl rfl (by decide) (by decide +kernel) (j2tl_V F1 X1 X2 c1 (by decide) (by decide)) (fun F3 F' x hR p1 p2 p3 => ?_)
  obtain ⟨r1, r2⟩ := hR
  have q3 : qC [45, 46] F F3 := qq_trans q1 (qq_up (qC_dst r1 p1) (by decide))
  have e45 : sy_ai F3 45 = sy_ai F1 45 := (nz_fa (p1 45 (by decide))).trans (qq_a r1 (by decide) (by decide))
  refine j2sh_26 (by decide) F3 X1 X2 q3.1 ?_
  intro F4 hb4 g4 a45'
  have key : ∀ j : Nat, v45 F4 j = if j = (3 : Int).toNat then x else v45 F1 j := fun j => by
    show (sy_ai F4 45).getD j 0 = _
    rw [a45', jm_upd_at, e45, zz_i p3]
    rfl
  refine ⟨F4, rfl, rfl, qq_on q3 hb4 g4 (by decide), by rw [key]; exact k2, by rw [key]; exact k8, ?_⟩
  have e : lwT T 0 (v45 F1) = windT T h l := lwT_cg hC.2.2.1 (nine9 (fun t => absurd t (by decide)) (fun t => absurd t (by decide)) (fun _ => k2) (fun t => absurd t (by decide)) (fun t => absurd t (by decide)) (fun t => absurd t (by decide)) (fun t => absurd t (by decide)) (fun t => absurd t (by decide)) (fun _ => k8))
  rw [key, ← e]
  exact (ofi r2).symm
theorem j2bo_V (hC : xC 18 T F) {f : Int32} (hf : 0 ≤ f.toInt ∧ f.toInt < nfS T) : jm_T Ls xs 5 jm_M20 [.ref 38, .ref 20, .int f] (sy_dh F X1 X2 (iv_H 2)) 0 0 (pI 2 X1 X2 (fun x F' => qC [46] F F' ∧ x = Int32.ofInt (hdz 0 9 (Int32.ofInt (tF T f.toInt.toNat).1 + Int32.ofInt (lwT T 4 (v45 F))).toInt))) := by
  have l7 : nfS T ≤ 7 := hC.2.2.1.1.1
  refine C_T (by decide) [f] [.inl (.ref 38), .inl (.ref 20), .inr (.inl 82)] jm_ok20 (by decide) rfl (fun F0 k0 ki => ?_)
  have i82 : sy_i F0 82 = f := ki 0
  refine j2bo_0 (by decide) F0 X1 X2 (hd_iveq0 hC.1 k0) (by rw [i82]; omega) ?_
  intro F1 hb gg e82 j82
  have q1 : qC [] F F1 := qq_src (qq_mk hb gg (by decide)) k0
  have j82 : sy_i F1 82 = Int32.ofInt (tF T f.toInt.toNat).1 := by
    rw [j82, i82, nz_fa (k0 24 (by decide))]
    exact (xX_f hC (show f.toInt.toNat < nfS T by omega)).1
  refine hd_calI (R := fun x F' => qC [46] F1 F' ∧ x.toInt = lwT T 4 (v45 F1)) (nh := 82) (nv := 83) (s := 2) (s1 := 2) (d1 := 4) (M1 := jm_M21) (As := [.inl (.ref 38), .inl (.ref 20), .inl (.int 4)]) (rest := [.inr (.inl 82)]) jm_ok20 rfl rfl (by decide) (by decide +kernel) (j2tl_V F1 X1 X2 (xC_q (by decide) hC q1 (by decide)) (by decide) (by decide)) (fun F3 F' x hR p1 p2 p3 => ?_)
  obtain ⟨r1, r2⟩ := hR
  have ev : v45 F1 = v45 F := by unfold v45; rw [qq_a q1 (by decide) (by decide)]
  rw [ev] at r2
  have q3 : qC [46] F F3 := qq_trans (qq_up q1 (by decide)) (qC_dst r1 p1)
  have k82 : sy_i F3 82 = Int32.ofInt (tF T f.toInt.toNat).1 := (eI (p2 82 (by decide) (by decide))).trans j82
  have k83 : sy_i F3 83 = Int32.ofInt (lwT T 4 (v45 F)) := by rw [zz_i p3]; exact (ofi r2).symm
  refine j2bo_12 (by decide) F3 X1 X2 q3.1 ?_ ?_ ?_
  · intro c0 c1 F4 hb4 g4
    refine ⟨_, F4, rfl, rfl, qq_on q3 hb4 g4 (by decide), ?_⟩
    rw [k82, k83] at c0 c1 ⊢
    have hz : hdz 0 9 (Int32.ofInt (tF T f.toInt.toNat).1 + Int32.ofInt (lwT T 4 (v45 F))).toInt = (Int32.ofInt (tF T f.toInt.toNat).1 + Int32.ofInt (lwT T 4 (v45 F))).toInt := by
      unfold hdz
      rw [if_neg (by omega), if_neg (by omega)]
    rw [hz, Int32.ofInt_toInt]
  · intro c0 c1 F4 hb4 g4
    refine ⟨_, F4, rfl, rfl, qq_on q3 hb4 g4 (by decide), ?_⟩
    rw [k82, k83] at c0 c1
    have hz : hdz 0 9 (Int32.ofInt (tF T f.toInt.toNat).1 + Int32.ofInt (lwT T 4 (v45 F))).toInt = 0 := by
      unfold hdz
      split
      · rfl
      · rw [if_neg (by omega)]
        omega
    rw [hz]
    rfl
  · intro c0 F4 hb4 g4
    refine ⟨_, F4, rfl, rfl, qq_on q3 hb4 g4 (by decide), ?_⟩
    rw [k82, k83] at c0
    have hz : hdz 0 9 (Int32.ofInt (tF T f.toInt.toNat).1 + Int32.ofInt (lwT T 4 (v45 F))).toInt = 9 := by
      unfold hdz
      rw [if_neg (by omega)]
      split
      · rfl
      · omega
    rw [hz]
    rfl
end WB2
end
