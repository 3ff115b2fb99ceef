section
/-! ===== the class: an hour, way by way (shape 2, n) ===== -/
theorem j2nsk_0_p0 {Ls : Nat} {xs : Nat → Int32} {d : Nat} {Q : Option Value → jm_h → Prop} (hd : 2 ≤ d) (F : Nat → sy_d) (X1 X2 : List jm_c) (hB : iv_in F iv_B0)
    (h0 : 0 ≤ (sy_i F 82).toInt ∧ (sy_i F 82).toInt < 7)
    (h1 : 0 ≤ (sy_i F 82).toInt ∧ (sy_i F 82).toInt < 7)
    (h2 : 0 ≤ (sy_i F 82).toInt ∧ (sy_i F 82).toInt < 7)
    (h3 : 0 ≤ (sy_i F 82).toInt ∧ (sy_i F 82).toInt < 7)
    (h4 : 0 ≤ (sy_i F 82).toInt ∧ (sy_i F 82).toInt < 7)
    (h5 : 0 ≤ (sy_i F 82).toInt ∧ (sy_i F 82).toInt < 7)
    (k : ∀ F1 : Nat → sy_d, (∀ j, j < 82 → j ≠ 45 → F1 j = F j) → F1 45 = .inr (.inl (jm_upd (jm_upd (jm_upd (jm_upd (jm_upd (jm_upd (sy_ai F 45) ((0 : Int32)).toNatClampNeg ((sy_ai F 53).getD (sy_i F 82).toNatClampNeg 0)) ((1 : Int32)).toNatClampNeg ((sy_ai F 25).getD (sy_i F 82).toNatClampNeg 0)) ((4 : Int32)).toNatClampNeg ((sy_ai F 24).getD (sy_i F 82).toNatClampNeg 0)) ((5 : Int32)).toNatClampNeg ((sy_ai F 58).getD (sy_i F 82).toNatClampNeg 0)) ((6 : Int32)).toNatClampNeg ((sy_ai F 57).getD (sy_i F 82).toNatClampNeg 0)) ((7 : Int32)).toNatClampNeg ((sy_ai F 56).getD (sy_i F 82).toNatClampNeg 0))) → F1 82 = .inl (.int (sy_i F 82)) → hd_W Ls xs d jm_M4 Q (16, sy_dL F1 [none, some (.inl (.ref 20)), some (.inl (.ref 46)), some (.inr (.inl 82)), none, none], sy_dS F1 [.inl (.int 3), .inl (.ref 20), .inl (.ref 38)], sy_dh F1 X1 X2 (iv_H 2), 0, 0)) :
    hd_W Ls xs d jm_M4 Q (0, sy_dL F [some (.inl (.ref 41)), some (.inl (.ref 20)), some (.inl (.ref 46)), some (.inr (.inl 82)), none, none], sy_dS F [], sy_dh F X1 X2 (iv_H 2), 0, 0) := by
  refine hd_run (s := 2) (nv := 83) (pc := 16) (L := [none, some (.inl (.ref 20)), some (.inl (.ref 46)), some (.inr (.inl 82)), none, none]) (S := [.inl (.int 3), .inl (.ref 20), .inl (.ref 38)]) (uh := hd_ov (iv_id 0 iv_B0) [(45, .inr (.inr (.inl 94)))]) (ul := [.inl (.inr (.inl 82))]) (f := true) (sp := [16]) (d0 := 1) (O := []) (T := [(30, [.inr (.inl 82)], [.inr (.inl 53)]), (40, [.inl (.int 0), .inr (.inl 83)], [.inr (.inl 45)]), (30, [.inr (.inl 82)], [.inr (.inl 25)]), (40, [.inl (.int 1), .inr (.inl 85)], [.inr (.inl 84)]), (30, [.inr (.inl 82)], [.inr (.inl 24)]), (40, [.inl (.int 4), .inr (.inl 87)], [.inr (.inl 86)]), (30, [.inr (.inl 82)], [.inr (.inl 58)]), (40, [.inl (.int 5), .inr (.inl 89)], [.inr (.inl 88)]), (30, [.inr (.inl 82)], [.inr (.inl 57)]), (40, [.inl (.int 6), .inr (.inl 91)], [.inr (.inl 90)]), (30, [.inr (.inl 82)], [.inr (.inl 56)]), (40, [.inl (.int 7), .inr (.inl 93)], [.inr (.inl 92)])]) (P := [(6, .inr (.inl 82), .inl (.ref 7)), (6, .inr (.inl 82), .inl (.ref 7)), (6, .inr (.inl 82), .inl (.ref 7)), (6, .inr (.inl 82), .inl (.ref 7)), (6, .inr (.inl 82), .inl (.ref 7)), (6, .inr (.inl 82), .inl (.ref 7))]) jm_ok4 (by decide +kernel) (by decide +kernel) hd F X1 X2 (fun F' hF hs => ?_)
  have b82 := hd_b (F := F) (F' := F') (k := 82) (hF 82 (by decide))
  have a56 := hd_ba (F := F) (F' := F') (k := 56) (hF 56 (by decide))
  have t93 : sy_dv F' (.inr (.inl 93)) = .int ((sy_ai F 56).getD (sy_i F 82).toNatClampNeg 0) := hd_rd (hs 10 _ rfl) b82 a56
  have a57 := hd_ba (F := F) (F' := F') (k := 57) (hF 57 (by decide))
  have t91 : sy_dv F' (.inr (.inl 91)) = .int ((sy_ai F 57).getD (sy_i F 82).toNatClampNeg 0) := hd_rd (hs 8 _ rfl) b82 a57
  have a58 := hd_ba (F := F) (F' := F') (k := 58) (hF 58 (by decide))
  have t89 : sy_dv F' (.inr (.inl 89)) = .int ((sy_ai F 58).getD (sy_i F 82).toNatClampNeg 0) := hd_rd (hs 6 _ rfl) b82 a58
  have a24 := hd_ba (F := F) (F' := F') (k := 24) (hF 24 (by decide))
  have t87 : sy_dv F' (.inr (.inl 87)) = .int ((sy_ai F 24).getD (sy_i F 82).toNatClampNeg 0) := hd_rd (hs 4 _ rfl) b82 a24
  have a25 := hd_ba (F := F) (F' := F') (k := 25) (hF 25 (by decide))
  have t85 : sy_dv F' (.inr (.inl 85)) = .int ((sy_ai F 25).getD (sy_i F 82).toNatClampNeg 0) := hd_rd (hs 2 _ rfl) b82 a25
  have a53 := hd_ba (F := F) (F' := F') (k := 53) (hF 53 (by decide))
  have t83 : sy_dv F' (.inr (.inl 83)) = .int ((sy_ai F 53).getD (sy_i F 82).toNatClampNeg 0) := hd_rd (hs 0 _ rfl) b82 a53
  have a45 := hd_ba (F := F) (F' := F') (k := 45) (hF 45 (by decide))
  have t84 : sy_da F' (.inr (.inl 84)) = .inl (jm_upd (sy_ai F 45) ((0 : Int32)).toNatClampNeg ((sy_ai F 53).getD (sy_i F 82).toNatClampNeg 0)) := hd_up (hs 1 _ rfl) rfl t83 a45
  have t86 : sy_da F' (.inr (.inl 86)) = .inl (jm_upd (jm_upd (sy_ai F 45) ((0 : Int32)).toNatClampNeg ((sy_ai F 53).getD (sy_i F 82).toNatClampNeg 0)) ((1 : Int32)).toNatClampNeg ((sy_ai F 25).getD (sy_i F 82).toNatClampNeg 0)) := hd_up (hs 3 _ rfl) rfl t85 t84
  have t88 : sy_da F' (.inr (.inl 88)) = .inl (jm_upd (jm_upd (jm_upd (sy_ai F 45) ((0 : Int32)).toNatClampNeg ((sy_ai F 53).getD (sy_i F 82).toNatClampNeg 0)) ((1 : Int32)).toNatClampNeg ((sy_ai F 25).getD (sy_i F 82).toNatClampNeg 0)) ((4 : Int32)).toNatClampNeg ((sy_ai F 24).getD (sy_i F 82).toNatClampNeg 0)) := hd_up (hs 5 _ rfl) rfl t87 t86
  have t90 : sy_da F' (.inr (.inl 90)) = .inl (jm_upd (jm_upd (jm_upd (jm_upd (sy_ai F 45) ((0 : Int32)).toNatClampNeg ((sy_ai F 53).getD (sy_i F 82).toNatClampNeg 0)) ((1 : Int32)).toNatClampNeg ((sy_ai F 25).getD (sy_i F 82).toNatClampNeg 0)) ((4 : Int32)).toNatClampNeg ((sy_ai F 24).getD (sy_i F 82).toNatClampNeg 0)) ((5 : Int32)).toNatClampNeg ((sy_ai F 58).getD (sy_i F 82).toNatClampNeg 0)) := hd_up (hs 7 _ rfl) rfl t89 t88
  have t92 : sy_da F' (.inr (.inl 92)) = .inl (jm_upd (jm_upd (jm_upd (jm_upd (jm_upd (sy_ai F 45) ((0 : Int32)).toNatClampNeg ((sy_ai F 53).getD (sy_i F 82).toNatClampNeg 0)) ((1 : Int32)).toNatClampNeg ((sy_ai F 25).getD (sy_i F 82).toNatClampNeg 0)) ((4 : Int32)).toNatClampNeg ((sy_ai F 24).getD (sy_i F 82).toNatClampNeg 0)) ((5 : Int32)).toNatClampNeg ((sy_ai F 58).getD (sy_i F 82).toNatClampNeg 0)) ((6 : Int32)).toNatClampNeg ((sy_ai F 57).getD (sy_i F 82).toNatClampNeg 0)) := hd_up (hs 9 _ rfl) rfl t91 t90
  have t94 : sy_da F' (.inr (.inl 94)) = .inl (jm_upd (jm_upd (jm_upd (jm_upd (jm_upd (jm_upd (sy_ai F 45) ((0 : Int32)).toNatClampNeg ((sy_ai F 53).getD (sy_i F 82).toNatClampNeg 0)) ((1 : Int32)).toNatClampNeg ((sy_ai F 25).getD (sy_i F 82).toNatClampNeg 0)) ((4 : Int32)).toNatClampNeg ((sy_ai F 24).getD (sy_i F 82).toNatClampNeg 0)) ((5 : Int32)).toNatClampNeg ((sy_ai F 58).getD (sy_i F 82).toNatClampNeg 0)) ((6 : Int32)).toNatClampNeg ((sy_ai F 57).getD (sy_i F 82).toNatClampNeg 0)) ((7 : Int32)).toNatClampNeg ((sy_ai F 56).getD (sy_i F 82).toNatClampNeg 0)) := hd_up (hs 11 _ rfl) rfl t93 t92
  have hB' : iv_in F' iv_B0 := iv_in_eq hB (fun j hj => hF j (Nat.lt_of_lt_of_le hj (by decide +kernel)))
  refine ⟨List.forall_mem_cons.mpr ⟨hd_pb b82 (by first | exact h0 | exact h0), List.forall_mem_cons.mpr ⟨hd_pb b82 (by first | exact h1 | exact h1), List.forall_mem_cons.mpr ⟨hd_pb b82 (by first | exact h2 | exact h2), List.forall_mem_cons.mpr ⟨hd_pb b82 (by first | exact h3 | exact h3), List.forall_mem_cons.mpr ⟨hd_pb b82 (by first | exact h4 | exact h4), List.forall_mem_cons.mpr ⟨hd_pb b82 (by first | exact h5 | exact h5), fun _ h => absurd h List.not_mem_nil⟩⟩⟩⟩⟩⟩, ?_⟩
  refine k _ ?_ ?_ ?_
  · exact fun j hj hn => (hd_keep hB' (Nat.lt_of_lt_of_le hj (by decide +kernel)) (by simp; omega)).trans (hF j (Nat.lt_of_lt_of_le hj (by decide)))
  · exact hd_ga (a := .inr (.inl 94)) (by decide +kernel) t94
  · exact hd_gi (x := .inr (.inl 82)) (by decide +kernel) b82
theorem j2nsk_0 {Ls : Nat} {xs : Nat → Int32} {d : Nat} {Q : Option Value → jm_h → Prop} (hd : 2 ≤ d) (F : Nat → sy_d) (X1 X2 : List jm_c) (hB : iv_in F iv_B0)
    (a82 : 0 ≤ (sy_i F 82).toInt ∧ (sy_i F 82).toInt ≤ 6)
    (k0 : ∀ F1 : Nat → sy_d, iv_in F1 iv_B0 → (∀ j, j < 82 → j ∉ ([45] : List Nat) → F1 j = F j) → sy_ai F1 45 = jm_upd (jm_upd (jm_upd (jm_upd (jm_upd (jm_upd (sy_ai F 45) (0 : Int).toNat ((sy_ai F 53).getD ((sy_i F 82).toInt).toNat 0)) (1 : Int).toNat ((sy_ai F 25).getD ((sy_i F 82).toInt).toNat 0)) (4 : Int).toNat ((sy_ai F 24).getD ((sy_i F 82).toInt).toNat 0)) (5 : Int).toNat ((sy_ai F 58).getD ((sy_i F 82).toInt).toNat 0)) (6 : Int).toNat ((sy_ai F 57).getD ((sy_i F 82).toInt).toNat 0)) (7 : Int).toNat ((sy_ai F 56).getD ((sy_i F 82).toInt).toNat 0) → (sy_i F1 82).toInt = (sy_i F 82).toInt → sy_i F1 82 = sy_i F 82 → hd_W Ls xs d jm_M4 Q (16, sy_dL F1 [none, some (.inl (.ref 20)), some (.inl (.ref 46)), some (.inr (.inl 82)), none, none], sy_dS F1 [.inl (.int 3), .inl (.ref 20), .inl (.ref 38)], sy_dh F1 X1 X2 (iv_H 2), 0, 0)) :
    hd_W Ls xs d jm_M4 Q (0, sy_dL F [some (.inl (.ref 41)), some (.inl (.ref 20)), some (.inl (.ref 46)), some (.inr (.inl 82)), none, none], sy_dS F [], sy_dh F X1 X2 (iv_H 2), 0, 0) := by
  have w94 : jm_upd (jm_upd (jm_upd (jm_upd (jm_upd (jm_upd (sy_ai F 45) ((0 : Int32)).toNatClampNeg ((sy_ai F 53).getD (sy_i F 82).toNatClampNeg 0)) ((1 : Int32)).toNatClampNeg ((sy_ai F 25).getD (sy_i F 82).toNatClampNeg 0)) ((4 : Int32)).toNatClampNeg ((sy_ai F 24).getD (sy_i F 82).toNatClampNeg 0)) ((5 : Int32)).toNatClampNeg ((sy_ai F 58).getD (sy_i F 82).toNatClampNeg 0)) ((6 : Int32)).toNatClampNeg ((sy_ai F 57).getD (sy_i F 82).toNatClampNeg 0)) ((7 : Int32)).toNatClampNeg ((sy_ai F 56).getD (sy_i F 82).toNatClampNeg 0) = jm_upd (jm_upd (jm_upd (jm_upd (jm_upd (jm_upd (sy_ai F 45) (0 : Int).toNat ((sy_ai F 53).getD ((sy_i F 82).toInt).toNat 0)) (1 : Int).toNat ((sy_ai F 25).getD ((sy_i F 82).toInt).toNat 0)) (4 : Int).toNat ((sy_ai F 24).getD ((sy_i F 82).toInt).toNat 0)) (5 : Int).toNat ((sy_ai F 58).getD ((sy_i F 82).toInt).toNat 0)) (6 : Int).toNat ((sy_ai F 57).getD ((sy_i F 82).toInt).toNat 0)) (7 : Int).toNat ((sy_ai F 56).getD ((sy_i F 82).toInt).toNat 0) := by simp only [nz_c, (by decide : ((0 : Int32)).toInt = 0), (by decide : ((1 : Int32)).toInt = 1), (by decide : ((4 : Int32)).toInt = 4), (by decide : ((5 : Int32)).toInt = 5), (by decide : ((6 : Int32)).toInt = 6), (by decide : ((7 : Int32)).toInt = 7)]
  exact j2nsk_0_p0 hd F X1 X2 hB (by first | exact ⟨by omega, by omega⟩ | (simp only [nz_c]; exact ⟨by omega, by omega⟩)) (by first | exact ⟨by omega, by omega⟩ | (simp only [nz_c]; exact ⟨by omega, by omega⟩)) (by first | exact ⟨by omega, by omega⟩ | (simp only [nz_c]; exact ⟨by omega, by omega⟩)) (by first | exact ⟨by omega, by omega⟩ | (simp only [nz_c]; exact ⟨by omega, by omega⟩)) (by first | exact ⟨by omega, by omega⟩ | (simp only [nz_c]; exact ⟨by omega, by omega⟩)) (by first | exact ⟨by omega, by omega⟩ | (simp only [nz_c]; exact ⟨by omega, by omega⟩)) (fun F1 g e45 e82 => k0 F1 (nz_in0 hB [45] (fun j hj hn => g j hj (by simp only [List.mem_cons, List.not_mem_nil, or_false, not_or] at hn; omega)) (List.forall_mem_cons.mpr ⟨fun t ht => (Option.some.inj ht) ▸ (nz_hz2 e45), List.forall_mem_nil _⟩)) (fun j hj hn => g j hj (by simp only [List.mem_cons, List.not_mem_nil, or_false, not_or] at hn; omega)) ((zz_ai e45).trans w94) ((congrArg Int32.toInt (zz_i e82)).trans (rfl : (sy_i F 82).toInt = (sy_i F 82).toInt)) ((zz_i e82).trans (rfl : sy_i F 82 = sy_i F 82)))
theorem j2nsk_19_p0 {Ls : Nat} {xs : Nat → Int32} {d : Nat} {Q : Option Value → jm_h → Prop} (hd : 1 ≤ d) (F : Nat → sy_d) (X1 X2 : List jm_c) (hB : iv_in F iv_B0)
    (h0 : 0 ≤ (sy_i F 82).toInt ∧ (sy_i F 82).toInt < 7)
    (k : ∀ F1 : Nat → sy_d, (∀ j, j < 82 → True → F1 j = F j) → F1 82 = .inl (.int (sy_i F 82)) → F1 83 = .inl (.int (sy_i F 83)) → F1 84 = .inl (.int ((sy_ai F 59).getD (sy_i F 82).toNatClampNeg 0)) → hd_W Ls xs d jm_M4 Q (31, sy_dL F1 [none, some (.inl (.ref 20)), some (.inl (.ref 46)), some (.inr (.inl 82)), some (.inr (.inl 83)), none], sy_dS F1 [.inr (.inl 83), .inr (.inl 84), .inl (.ref 20), .inl (.ref 46)], sy_dh F1 X1 X2 (iv_H 2), 0, 0)) :
    hd_W Ls xs d jm_M4 Q (19, sy_dL F [none, some (.inl (.ref 20)), some (.inl (.ref 46)), some (.inr (.inl 82)), none, none], sy_dS F [.inr (.inl 83)], sy_dh F X1 X2 (iv_H 2), 0, 0) := by
  refine hd_run (s := 2) (nv := 84) (pc := 31) (L := [none, some (.inl (.ref 20)), some (.inl (.ref 46)), some (.inr (.inl 82)), some (.inr (.inl 83)), none]) (S := [.inr (.inl 83), .inr (.inl 84), .inl (.ref 20), .inl (.ref 46)]) (uh := hd_ov (iv_id 0 iv_B0) []) (ul := [.inl (.inr (.inl 82)), .inl (.inr (.inl 83)), .inl (.inr (.inl 84))]) (f := false) (sp := [31]) (d0 := 0) (O := []) (T := [(30, [.inr (.inl 82)], [.inr (.inl 59)])]) (P := [(6, .inr (.inl 82), .inl (.ref 7))]) jm_ok4 (by decide +kernel) (by decide +kernel) hd F X1 X2 (fun F' hF hs => ?_)
  have b82 := hd_b (F := F) (F' := F') (k := 82) (hF 82 (by decide))
  have b83 := hd_b (F := F) (F' := F') (k := 83) (hF 83 (by decide))
  have a59 := hd_ba (F := F) (F' := F') (k := 59) (hF 59 (by decide))
  have t84 : sy_dv F' (.inr (.inl 84)) = .int ((sy_ai F 59).getD (sy_i F 82).toNatClampNeg 0) := hd_rd (hs 0 _ rfl) b82 a59
  have hB' : iv_in F' iv_B0 := iv_in_eq hB (fun j hj => hF j (Nat.lt_of_lt_of_le hj (by decide +kernel)))
  refine ⟨List.forall_mem_cons.mpr ⟨hd_pb b82 (by first | exact h0 | exact h0), fun _ h => absurd h List.not_mem_nil⟩, ?_⟩
  refine k _ ?_ ?_ ?_ ?_
  · exact fun j hj _ => (hd_keep hB' (Nat.lt_of_lt_of_le hj (by decide +kernel)) (by simp)).trans (hF j (Nat.lt_of_lt_of_le hj (by decide)))
  · exact hd_gi (x := .inr (.inl 82)) (by decide +kernel) b82
  · exact hd_gi (x := .inr (.inl 83)) (by decide +kernel) b83
  · exact hd_gi (x := .inr (.inl 84)) (by decide +kernel) t84
theorem j2nsk_19 {Ls : Nat} {xs : Nat → Int32} {d : Nat} {Q : Option Value → jm_h → Prop} (hd : 1 ≤ d) (F : Nat → sy_d) (X1 X2 : List jm_c) (hB : iv_in F iv_B0)
    (a82 : 0 ≤ (sy_i F 82).toInt ∧ (sy_i F 82).toInt ≤ 6)
    (k0 : ∀ F1 : Nat → sy_d, iv_in F1 iv_B0 → (∀ j, j < 82 → j ∉ ([] : List Nat) → F1 j = F j) → (sy_i F1 82).toInt = (sy_i F 82).toInt → sy_i F1 82 = sy_i F 82 → (sy_i F1 83).toInt = (sy_i F 83).toInt → sy_i F1 83 = sy_i F 83 → (sy_i F1 84).toInt = ((sy_ai F 59).getD ((sy_i F 82).toInt).toNat 0).toInt → sy_i F1 84 = (sy_ai F 59).getD ((sy_i F 82).toInt).toNat 0 → hd_W Ls xs d jm_M4 Q (31, sy_dL F1 [none, some (.inl (.ref 20)), some (.inl (.ref 46)), some (.inr (.inl 82)), some (.inr (.inl 83)), none], sy_dS F1 [.inr (.inl 83), .inr (.inl 84), .inl (.ref 20), .inl (.ref 46)], sy_dh F1 X1 X2 (iv_H 2), 0, 0)) :
    hd_W Ls xs d jm_M4 Q (19, sy_dL F [none, some (.inl (.ref 20)), some (.inl (.ref 46)), some (.inr (.inl 82)), none, none], sy_dS F [.inr (.inl 83)], sy_dh F X1 X2 (iv_H 2), 0, 0) := by
  have q84 : (sy_ai F 59).getD (sy_i F 82).toNatClampNeg 0 = (sy_ai F 59).getD ((sy_i F 82).toInt).toNat 0 := by simp only [nz_c]
  have n84 : nzI ((sy_ai F 59).getD (sy_i F 82).toNatClampNeg 0) (((sy_ai F 59).getD ((sy_i F 82).toInt).toNat 0).toInt) := congrArg Int32.toInt q84
  exact j2nsk_19_p0 hd F X1 X2 hB (by first | exact ⟨by omega, by omega⟩ | (simp only [nz_c]; exact ⟨by omega, by omega⟩)) (fun F1 g e82 e83 e84 => k0 F1 (nz_in0 hB [] (fun j hj hn => g j hj (by simp only [List.mem_cons, List.not_mem_nil, or_false, not_or] at hn; exact trivial)) (List.forall_mem_nil _)) (fun j hj hn => g j hj (by simp only [List.mem_cons, List.not_mem_nil, or_false, not_or] at hn; exact trivial)) ((congrArg Int32.toInt (zz_i e82)).trans (rfl : (sy_i F 82).toInt = (sy_i F 82).toInt)) ((zz_i e82).trans (rfl : sy_i F 82 = sy_i F 82)) ((congrArg Int32.toInt (zz_i e83)).trans (rfl : (sy_i F 83).toInt = (sy_i F 83).toInt)) ((zz_i e83).trans (rfl : sy_i F 83 = sy_i F 83)) ((congrArg Int32.toInt (zz_i e84)).trans (nzE n84)) ((zz_i e84).trans q84))
theorem j2nsk_34_p0 {Ls : Nat} {xs : Nat → Int32} {d : Nat} {Q : Option Value → jm_h → Prop} (hd : 2 ≤ d) (F : Nat → sy_d) (X1 X2 : List jm_c) (hB : iv_in F iv_B0)
    (h0 : (sy_i F 84).toInt < 0)
    (h1 : 0 ≤ (sy_i F 82).toInt ∧ (sy_i F 82).toInt < 7)
    (h2 : 0 ≤ (sy_i F 82).toInt ∧ (sy_i F 82).toInt < 7)
    (h3 : 0 ≤ (sy_i F 82).toInt ∧ (sy_i F 82).toInt < 7)
    (h4 : ((jm_upd (sy_ai F 56) (sy_i F 82).toNatClampNeg (((sy_ai F 56).getD (sy_i F 82).toNatClampNeg 0) + ((1 : Int32)))).getD (sy_i F 82).toNatClampNeg 0).toInt ≤ (sy_i F 21).toInt)
    (k : ∀ F1 : Nat → sy_d, (∀ j, j < 82 → j ≠ 56 → F1 j = F j) → F1 56 = .inr (.inl (jm_upd (sy_ai F 56) (sy_i F 82).toNatClampNeg (((sy_ai F 56).getD (sy_i F 82).toNatClampNeg 0) + ((1 : Int32))))) → Q (none) (sy_dh F1 X1 X2 (iv_H 2))) :
    hd_W Ls xs d jm_M4 Q (34, sy_dL F [none, some (.inl (.ref 20)), some (.inl (.ref 46)), some (.inr (.inl 82)), some (.inr (.inl 83)), none], sy_dS F [.inr (.inl 84)], sy_dh F X1 X2 (iv_H 2), 0, 0) := by
  refine hd_ret (s := 2) (nv := 85) (v := none) (uh := hd_ov (iv_id 0 iv_B0) [(56, .inr (.inr (.inl 87)))]) (f := false) (sp := []) (d0 := 1) (O := [true, true]) (T := [(30, [.inr (.inl 82)], [.inr (.inl 56)]), (0, [.inr (.inl 85), .inl (.int 1)], []), (40, [.inr (.inl 82), .inr (.inl 86)], [.inr (.inl 56)]), (30, [.inr (.inl 82)], [.inr (.inl 87)])]) (P := [(2, .inr (.inl 84), .inl (.int 0)), (6, .inr (.inl 82), .inl (.ref 7)), (6, .inr (.inl 82), .inl (.ref 7)), (6, .inr (.inl 82), .inl (.ref 7)), (4, .inr (.inl 88), .inr (.inl 21))]) jm_ok4 (by decide +kernel) (by decide +kernel) hd F X1 X2 (fun F' hF hs => ?_)
  have b84 := hd_b (F := F) (F' := F') (k := 84) (hF 84 (by decide))
  have b82 := hd_b (F := F) (F' := F') (k := 82) (hF 82 (by decide))
  have a56 := hd_ba (F := F) (F' := F') (k := 56) (hF 56 (by decide))
  have t85 : sy_dv F' (.inr (.inl 85)) = .int ((sy_ai F 56).getD (sy_i F 82).toNatClampNeg 0) := hd_rd (hs 0 _ rfl) b82 a56
  have t86 : sy_dv F' (.inr (.inl 86)) = .int (((sy_ai F 56).getD (sy_i F 82).toNatClampNeg 0) + ((1 : Int32))) := hd_o (hs 1 _ rfl) t85 rfl rfl
  have t87 : sy_da F' (.inr (.inl 87)) = .inl (jm_upd (sy_ai F 56) (sy_i F 82).toNatClampNeg (((sy_ai F 56).getD (sy_i F 82).toNatClampNeg 0) + ((1 : Int32)))) := hd_up (hs 2 _ rfl) b82 t86 a56
  have t88 : sy_dv F' (.inr (.inl 88)) = .int ((jm_upd (sy_ai F 56) (sy_i F 82).toNatClampNeg (((sy_ai F 56).getD (sy_i F 82).toNatClampNeg 0) + ((1 : Int32)))).getD (sy_i F 82).toNatClampNeg 0) := hd_rd (hs 3 _ rfl) b82 t87
  have b21 := hd_b (F := F) (F' := F') (k := 21) (hF 21 (by decide))
  have hB' : iv_in F' iv_B0 := iv_in_eq hB (fun j hj => hF j (Nat.lt_of_lt_of_le hj (by decide +kernel)))
  refine ⟨List.forall_mem_cons.mpr ⟨hd_p2 b84 rfl (by have hc : ((0) : Int32).toInt = 0 := (by decide); omega), List.forall_mem_cons.mpr ⟨hd_pb b82 (by first | exact h1 | exact h1), List.forall_mem_cons.mpr ⟨hd_pb b82 (by first | exact h2 | exact h2), List.forall_mem_cons.mpr ⟨hd_pb b82 (by first | exact h3 | exact h3), List.forall_mem_cons.mpr ⟨hd_p4 t88 b21 h4, fun _ h => absurd h List.not_mem_nil⟩⟩⟩⟩⟩, ?_⟩
  refine k _ ?_ ?_
  · exact fun j hj hn => (hd_keep hB' (Nat.lt_of_lt_of_le hj (by decide +kernel)) (by simp; omega)).trans (hF j (Nat.lt_of_lt_of_le hj (by decide)))
  · exact hd_ga (a := .inr (.inl 87)) (by decide +kernel) t87
theorem j2nsk_34_p1 {Ls : Nat} {xs : Nat → Int32} {d : Nat} {Q : Option Value → jm_h → Prop} (hd : 2 ≤ d) (F : Nat → sy_d) (X1 X2 : List jm_c) (hB : iv_in F iv_B0)
    (h0 : (sy_i F 84).toInt < 0)
    (h1 : 0 ≤ (sy_i F 82).toInt ∧ (sy_i F 82).toInt < 7)
    (h2 : 0 ≤ (sy_i F 82).toInt ∧ (sy_i F 82).toInt < 7)
    (h3 : 0 ≤ (sy_i F 82).toInt ∧ (sy_i F 82).toInt < 7)
    (h4 : (sy_i F 21).toInt < ((jm_upd (sy_ai F 56) (sy_i F 82).toNatClampNeg (((sy_ai F 56).getD (sy_i F 82).toNatClampNeg 0) + ((1 : Int32)))).getD (sy_i F 82).toNatClampNeg 0).toInt)
    (h5 : 0 ≤ (sy_i F 82).toInt ∧ (sy_i F 82).toInt < 7)
    (k : ∀ F1 : Nat → sy_d, (∀ j, j < 82 → j ≠ 54 ∧ j ≠ 56 → F1 j = F j) → F1 54 = .inr (.inl (jm_upd (sy_ai F 54) (sy_i F 82).toNatClampNeg ((3 : Int32)))) → F1 56 = .inr (.inl (jm_upd (sy_ai F 56) (sy_i F 82).toNatClampNeg (((sy_ai F 56).getD (sy_i F 82).toNatClampNeg 0) + ((1 : Int32))))) → Q (none) (sy_dh F1 X1 X2 (iv_H 2))) :
    hd_W Ls xs d jm_M4 Q (34, sy_dL F [none, some (.inl (.ref 20)), some (.inl (.ref 46)), some (.inr (.inl 82)), some (.inr (.inl 83)), none], sy_dS F [.inr (.inl 84)], sy_dh F X1 X2 (iv_H 2), 0, 0) := by
  refine hd_ret (s := 2) (nv := 85) (v := none) (uh := hd_ov (iv_id 0 iv_B0) [(54, .inr (.inr (.inl 89))), (56, .inr (.inr (.inl 87)))]) (f := false) (sp := []) (d0 := 1) (O := [true, false]) (T := [(30, [.inr (.inl 82)], [.inr (.inl 56)]), (0, [.inr (.inl 85), .inl (.int 1)], []), (40, [.inr (.inl 82), .inr (.inl 86)], [.inr (.inl 56)]), (30, [.inr (.inl 82)], [.inr (.inl 87)]), (40, [.inr (.inl 82), .inl (.int 3)], [.inr (.inl 54)])]) (P := [(2, .inr (.inl 84), .inl (.int 0)), (6, .inr (.inl 82), .inl (.ref 7)), (6, .inr (.inl 82), .inl (.ref 7)), (6, .inr (.inl 82), .inl (.ref 7)), (5, .inr (.inl 88), .inr (.inl 21)), (6, .inr (.inl 82), .inl (.ref 7))]) jm_ok4 (by decide +kernel) (by decide +kernel) hd F X1 X2 (fun F' hF hs => ?_)
  have b84 := hd_b (F := F) (F' := F') (k := 84) (hF 84 (by decide))
  have b82 := hd_b (F := F) (F' := F') (k := 82) (hF 82 (by decide))
  have a56 := hd_ba (F := F) (F' := F') (k := 56) (hF 56 (by decide))
  have t85 : sy_dv F' (.inr (.inl 85)) = .int ((sy_ai F 56).getD (sy_i F 82).toNatClampNeg 0) := hd_rd (hs 0 _ rfl) b82 a56
  have t86 : sy_dv F' (.inr (.inl 86)) = .int (((sy_ai F 56).getD (sy_i F 82).toNatClampNeg 0) + ((1 : Int32))) := hd_o (hs 1 _ rfl) t85 rfl rfl
  have t87 : sy_da F' (.inr (.inl 87)) = .inl (jm_upd (sy_ai F 56) (sy_i F 82).toNatClampNeg (((sy_ai F 56).getD (sy_i F 82).toNatClampNeg 0) + ((1 : Int32)))) := hd_up (hs 2 _ rfl) b82 t86 a56
  have t88 : sy_dv F' (.inr (.inl 88)) = .int ((jm_upd (sy_ai F 56) (sy_i F 82).toNatClampNeg (((sy_ai F 56).getD (sy_i F 82).toNatClampNeg 0) + ((1 : Int32)))).getD (sy_i F 82).toNatClampNeg 0) := hd_rd (hs 3 _ rfl) b82 t87
  have b21 := hd_b (F := F) (F' := F') (k := 21) (hF 21 (by decide))
  have a54 := hd_ba (F := F) (F' := F') (k := 54) (hF 54 (by decide))
  have t89 : sy_da F' (.inr (.inl 89)) = .inl (jm_upd (sy_ai F 54) (sy_i F 82).toNatClampNeg ((3 : Int32))) := hd_up (hs 4 _ rfl) b82 rfl a54
  have hB' : iv_in F' iv_B0 := iv_in_eq hB (fun j hj => hF j (Nat.lt_of_lt_of_le hj (by decide +kernel)))
  refine ⟨List.forall_mem_cons.mpr ⟨hd_p2 b84 rfl (by have hc : ((0) : Int32).toInt = 0 := (by decide); omega), List.forall_mem_cons.mpr ⟨hd_pb b82 (by first | exact h1 | exact h1), List.forall_mem_cons.mpr ⟨hd_pb b82 (by first | exact h2 | exact h2), List.forall_mem_cons.mpr ⟨hd_pb b82 (by first | exact h3 | exact h3), List.forall_mem_cons.mpr ⟨hd_p5 t88 b21 h4, List.forall_mem_cons.mpr ⟨hd_pb b82 (by first | exact h5 | exact h5), fun _ h => absurd h List.not_mem_nil⟩⟩⟩⟩⟩⟩, ?_⟩
  refine k _ ?_ ?_ ?_
  · exact fun j hj hn => (hd_keep hB' (Nat.lt_of_lt_of_le hj (by decide +kernel)) (by simp; omega)).trans (hF j (Nat.lt_of_lt_of_le hj (by decide)))
  · exact hd_ga (a := .inr (.inl 89)) (by decide +kernel) t89
  · exact hd_ga (a := .inr (.inl 87)) (by decide +kernel) t87
theorem j2nsk_34_p2 {Ls : Nat} {xs : Nat → Int32} {d : Nat} {Q : Option Value → jm_h → Prop} (hd : 2 ≤ d) (F : Nat → sy_d) (X1 X2 : List jm_c) (hB : iv_in F iv_B0)
    (h0 : 0 ≤ (sy_i F 84).toInt)
    (h1 : 0 ≤ (sy_i F 82).toInt ∧ (sy_i F 82).toInt < 7)
    (h2 : 0 ≤ (sy_i F 82).toInt ∧ (sy_i F 82).toInt < 7)
    (h3 : 0 ≤ (sy_i F 84).toInt ∧ (sy_i F 84).toInt < 4)
    (h4 : 0 ≤ (sy_i F 84).toInt ∧ (sy_i F 84).toInt < 4)
    (k : ∀ F1 : Nat → sy_d, (∀ j, j < 82 → j ≠ 54 ∧ j ≠ 55 ∧ j ≠ 61 → F1 j = F j) → F1 54 = .inr (.inl (jm_upd (sy_ai F 54) (sy_i F 82).toNatClampNeg ((2 : Int32)))) → F1 55 = .inr (.inl (jm_upd (sy_ai F 55) (sy_i F 82).toNatClampNeg (sy_i F 84))) → F1 61 = .inr (.inl (jm_upd (sy_ai F 61) (sy_i F 84).toNatClampNeg (((sy_ai F 61).getD (sy_i F 84).toNatClampNeg 0) - (sy_i F 83)))) → Q (none) (sy_dh F1 X1 X2 (iv_H 2))) :
    hd_W Ls xs d jm_M4 Q (34, sy_dL F [none, some (.inl (.ref 20)), some (.inl (.ref 46)), some (.inr (.inl 82)), some (.inr (.inl 83)), none], sy_dS F [.inr (.inl 84)], sy_dh F X1 X2 (iv_H 2), 0, 0) := by
  refine hd_ret (s := 2) (nv := 85) (v := none) (uh := hd_ov (iv_id 0 iv_B0) [(54, .inr (.inr (.inl 85))), (55, .inr (.inr (.inl 86))), (61, .inr (.inr (.inl 89)))]) (f := false) (sp := []) (d0 := 1) (O := [false]) (T := [(40, [.inr (.inl 82), .inl (.int 2)], [.inr (.inl 54)]), (40, [.inr (.inl 82), .inr (.inl 84)], [.inr (.inl 55)]), (30, [.inr (.inl 84)], [.inr (.inl 61)]), (1, [.inr (.inl 87), .inr (.inl 83)], []), (40, [.inr (.inl 84), .inr (.inl 88)], [.inr (.inl 61)])]) (P := [(3, .inr (.inl 84), .inl (.int 0)), (6, .inr (.inl 82), .inl (.ref 7)), (6, .inr (.inl 82), .inl (.ref 7)), (6, .inr (.inl 84), .inl (.ref 4)), (6, .inr (.inl 84), .inl (.ref 4))]) jm_ok4 (by decide +kernel) (by decide +kernel) hd F X1 X2 (fun F' hF hs => ?_)
  have b84 := hd_b (F := F) (F' := F') (k := 84) (hF 84 (by decide))
  have b82 := hd_b (F := F) (F' := F') (k := 82) (hF 82 (by decide))
  have a54 := hd_ba (F := F) (F' := F') (k := 54) (hF 54 (by decide))
  have t85 : sy_da F' (.inr (.inl 85)) = .inl (jm_upd (sy_ai F 54) (sy_i F 82).toNatClampNeg ((2 : Int32))) := hd_up (hs 0 _ rfl) b82 rfl a54
  have a55 := hd_ba (F := F) (F' := F') (k := 55) (hF 55 (by decide))
  have t86 : sy_da F' (.inr (.inl 86)) = .inl (jm_upd (sy_ai F 55) (sy_i F 82).toNatClampNeg (sy_i F 84)) := hd_up (hs 1 _ rfl) b82 b84 a55
  have a61 := hd_ba (F := F) (F' := F') (k := 61) (hF 61 (by decide))
  have t87 : sy_dv F' (.inr (.inl 87)) = .int ((sy_ai F 61).getD (sy_i F 84).toNatClampNeg 0) := hd_rd (hs 2 _ rfl) b84 a61
  have b83 := hd_b (F := F) (F' := F') (k := 83) (hF 83 (by decide))
  have t88 : sy_dv F' (.inr (.inl 88)) = .int (((sy_ai F 61).getD (sy_i F 84).toNatClampNeg 0) - (sy_i F 83)) := hd_o (hs 3 _ rfl) t87 b83 rfl
  have t89 : sy_da F' (.inr (.inl 89)) = .inl (jm_upd (sy_ai F 61) (sy_i F 84).toNatClampNeg (((sy_ai F 61).getD (sy_i F 84).toNatClampNeg 0) - (sy_i F 83))) := hd_up (hs 4 _ rfl) b84 t88 a61
  have hB' : iv_in F' iv_B0 := iv_in_eq hB (fun j hj => hF j (Nat.lt_of_lt_of_le hj (by decide +kernel)))
  refine ⟨List.forall_mem_cons.mpr ⟨hd_p3 b84 rfl (by have hc : ((0) : Int32).toInt = 0 := (by decide); omega), List.forall_mem_cons.mpr ⟨hd_pb b82 (by first | exact h1 | exact h1), List.forall_mem_cons.mpr ⟨hd_pb b82 (by first | exact h2 | exact h2), List.forall_mem_cons.mpr ⟨hd_pb b84 (by first | exact h3 | exact h3), List.forall_mem_cons.mpr ⟨hd_pb b84 (by first | exact h4 | exact h4), fun _ h => absurd h List.not_mem_nil⟩⟩⟩⟩⟩, ?_⟩
  refine k _ ?_ ?_ ?_ ?_
  · exact fun j hj hn => (hd_keep hB' (Nat.lt_of_lt_of_le hj (by decide +kernel)) (by simp; omega)).trans (hF j (Nat.lt_of_lt_of_le hj (by decide)))
  · exact hd_ga (a := .inr (.inl 85)) (by decide +kernel) t85
  · exact hd_ga (a := .inr (.inl 86)) (by decide +kernel) t86
  · exact hd_ga (a := .inr (.inl 89)) (by decide +kernel) t89
theorem j2nsk_34 {Ls : Nat} {xs : Nat → Int32} {d : Nat} {Q : Option Value → jm_h → Prop} (hd : 2 ≤ d) (F : Nat → sy_d) (X1 X2 : List jm_c) (hB : iv_in F iv_B0)
    (a82 : 0 ≤ (sy_i F 82).toInt ∧ (sy_i F 82).toInt ≤ 6)
    (a84 : (-2) ≤ (sy_i F 84).toInt ∧ (sy_i F 84).toInt ≤ 3)
    (k0 : (sy_i F 84).toInt < 0 → ((jm_upd (sy_ai F 56) ((sy_i F 82).toInt).toNat (((sy_ai F 56).getD ((sy_i F 82).toInt).toNat 0) + ((1 : Int32)))).getD ((sy_i F 82).toInt).toNat 0).toInt ≤ (sy_i F 21).toInt → ∀ F1 : Nat → sy_d, iv_in F1 iv_B0 → (∀ j, j < 82 → j ∉ ([56] : List Nat) → F1 j = F j) → sy_ai F1 56 = jm_upd (sy_ai F 56) ((sy_i F 82).toInt).toNat (((sy_ai F 56).getD ((sy_i F 82).toInt).toNat 0) + ((1 : Int32))) → Q (none) (sy_dh F1 X1 X2 (iv_H 2)))
    (k1 : (sy_i F 84).toInt < 0 → (sy_i F 21).toInt < ((jm_upd (sy_ai F 56) ((sy_i F 82).toInt).toNat (((sy_ai F 56).getD ((sy_i F 82).toInt).toNat 0) + ((1 : Int32)))).getD ((sy_i F 82).toInt).toNat 0).toInt → ∀ F1 : Nat → sy_d, iv_in F1 iv_B0 → (∀ j, j < 82 → j ∉ ([54, 56] : List Nat) → F1 j = F j) → sy_ai F1 54 = jm_upd (sy_ai F 54) ((sy_i F 82).toInt).toNat ((3 : Int32)) → sy_ai F1 56 = jm_upd (sy_ai F 56) ((sy_i F 82).toInt).toNat (((sy_ai F 56).getD ((sy_i F 82).toInt).toNat 0) + ((1 : Int32))) → Q (none) (sy_dh F1 X1 X2 (iv_H 2)))
    (k2 : 0 ≤ (sy_i F 84).toInt → ∀ F1 : Nat → sy_d, iv_in F1 iv_B0 → (∀ j, j < 82 → j ∉ ([54, 55, 61] : List Nat) → F1 j = F j) → sy_ai F1 54 = jm_upd (sy_ai F 54) ((sy_i F 82).toInt).toNat ((2 : Int32)) → sy_ai F1 55 = jm_upd (sy_ai F 55) ((sy_i F 82).toInt).toNat (sy_i F 84) → sy_ai F1 61 = jm_upd (sy_ai F 61) ((sy_i F 84).toInt).toNat (((sy_ai F 61).getD ((sy_i F 84).toInt).toNat 0) - (sy_i F 83)) → Q (none) (sy_dh F1 X1 X2 (iv_H 2))) :
    hd_W Ls xs d jm_M4 Q (34, sy_dL F [none, some (.inl (.ref 20)), some (.inl (.ref 46)), some (.inr (.inl 82)), some (.inr (.inl 83)), none], sy_dS F [.inr (.inl 84)], sy_dh F X1 X2 (iv_H 2), 0, 0) := by
  by_cases g0 : (sy_i F 84).toInt < 0
  · by_cases g1 : ((jm_upd (sy_ai F 56) ((sy_i F 82).toInt).toNat (((sy_ai F 56).getD ((sy_i F 82).toInt).toNat 0) + ((1 : Int32)))).getD ((sy_i F 82).toInt).toNat 0).toInt ≤ (sy_i F 21).toInt
    · have q88 : (jm_upd (sy_ai F 56) (sy_i F 82).toNatClampNeg (((sy_ai F 56).getD (sy_i F 82).toNatClampNeg 0) + ((1 : Int32)))).getD (sy_i F 82).toNatClampNeg 0 = (jm_upd (sy_ai F 56) ((sy_i F 82).toInt).toNat (((sy_ai F 56).getD ((sy_i F 82).toInt).toNat 0) + ((1 : Int32)))).getD ((sy_i F 82).toInt).toNat 0 := by simp only [nz_c, (by decide : ((1 : Int32)).toInt = 1)]
      have n88 : nzI ((jm_upd (sy_ai F 56) (sy_i F 82).toNatClampNeg (((sy_ai F 56).getD (sy_i F 82).toNatClampNeg 0) + ((1 : Int32)))).getD (sy_i F 82).toNatClampNeg 0) (((jm_upd (sy_ai F 56) ((sy_i F 82).toInt).toNat (((sy_ai F 56).getD ((sy_i F 82).toInt).toNat 0) + ((1 : Int32)))).getD ((sy_i F 82).toInt).toNat 0).toInt) := congrArg Int32.toInt q88
      have w87 : jm_upd (sy_ai F 56) (sy_i F 82).toNatClampNeg (((sy_ai F 56).getD (sy_i F 82).toNatClampNeg 0) + ((1 : Int32))) = jm_upd (sy_ai F 56) ((sy_i F 82).toInt).toNat (((sy_ai F 56).getD ((sy_i F 82).toInt).toNat 0) + ((1 : Int32))) := by simp only [nz_c, (by decide : ((1 : Int32)).toInt = 1)]
      exact j2nsk_34_p0 hd F X1 X2 hB (by first | exact g0 | (simp only [nz_c]; exact g0)) (by first | exact ⟨by omega, by omega⟩ | (simp only [nz_c]; exact ⟨by omega, by omega⟩)) (by first | exact ⟨by omega, by omega⟩ | (simp only [nz_c]; exact ⟨by omega, by omega⟩)) (by first | exact ⟨by omega, by omega⟩ | (simp only [nz_c]; exact ⟨by omega, by omega⟩)) (by first | exact g1 | (simp only [nz_c]; exact g1) | (rw [(nzE n88)]; exact g1)) (fun F1 g e56 => k0 g0 g1 F1 (nz_in0 hB [56] (fun j hj hn => g j hj (by simp only [List.mem_cons, List.not_mem_nil, or_false, not_or] at hn; omega)) (List.forall_mem_cons.mpr ⟨fun t ht => (Option.some.inj ht) ▸ (nz_hz2 e56), List.forall_mem_nil _⟩)) (fun j hj hn => g j hj (by simp only [List.mem_cons, List.not_mem_nil, or_false, not_or] at hn; omega)) ((zz_ai e56).trans w87))
    replace g1 : (sy_i F 21).toInt < ((jm_upd (sy_ai F 56) ((sy_i F 82).toInt).toNat (((sy_ai F 56).getD ((sy_i F 82).toInt).toNat 0) + ((1 : Int32)))).getD ((sy_i F 82).toInt).toNat 0).toInt := by omega
    have q88 : (jm_upd (sy_ai F 56) (sy_i F 82).toNatClampNeg (((sy_ai F 56).getD (sy_i F 82).toNatClampNeg 0) + ((1 : Int32)))).getD (sy_i F 82).toNatClampNeg 0 = (jm_upd (sy_ai F 56) ((sy_i F 82).toInt).toNat (((sy_ai F 56).getD ((sy_i F 82).toInt).toNat 0) + ((1 : Int32)))).getD ((sy_i F 82).toInt).toNat 0 := by simp only [nz_c, (by decide : ((1 : Int32)).toInt = 1)]
    have n88 : nzI ((jm_upd (sy_ai F 56) (sy_i F 82).toNatClampNeg (((sy_ai F 56).getD (sy_i F 82).toNatClampNeg 0) + ((1 : Int32)))).getD (sy_i F 82).toNatClampNeg 0) (((jm_upd (sy_ai F 56) ((sy_i F 82).toInt).toNat (((sy_ai F 56).getD ((sy_i F 82).toInt).toNat 0) + ((1 : Int32)))).getD ((sy_i F 82).toInt).toNat 0).toInt) := congrArg Int32.toInt q88
    have w89 : jm_upd (sy_ai F 54) (sy_i F 82).toNatClampNeg ((3 : Int32)) = jm_upd (sy_ai F 54) ((sy_i F 82).toInt).toNat ((3 : Int32)) := by simp only [nz_c, (by decide : ((3 : Int32)).toInt = 3)]
    have w87 : jm_upd (sy_ai F 56) (sy_i F 82).toNatClampNeg (((sy_ai F 56).getD (sy_i F 82).toNatClampNeg 0) + ((1 : Int32))) = jm_upd (sy_ai F 56) ((sy_i F 82).toInt).toNat (((sy_ai F 56).getD ((sy_i F 82).toInt).toNat 0) + ((1 : Int32))) := by simp only [nz_c, (by decide : ((1 : Int32)).toInt = 1)]
    exact j2nsk_34_p1 hd F X1 X2 hB (by first | exact g0 | (simp only [nz_c]; exact g0)) (by first | exact ⟨by omega, by omega⟩ | (simp only [nz_c]; exact ⟨by omega, by omega⟩)) (by first | exact ⟨by omega, by omega⟩ | (simp only [nz_c]; exact ⟨by omega, by omega⟩)) (by first | exact ⟨by omega, by omega⟩ | (simp only [nz_c]; exact ⟨by omega, by omega⟩)) (by first | exact g1 | (simp only [nz_c]; exact g1) | (rw [(nzE n88)]; exact g1)) (by first | exact ⟨by omega, by omega⟩ | (simp only [nz_c]; exact ⟨by omega, by omega⟩)) (fun F1 g e54 e56 => k1 g0 g1 F1 (nz_in0 hB [54, 56] (fun j hj hn => g j hj (by simp only [List.mem_cons, List.not_mem_nil, or_false, not_or] at hn; omega)) (List.forall_mem_cons.mpr ⟨fun t ht => (Option.some.inj ht) ▸ (nz_hz2 e54), List.forall_mem_cons.mpr ⟨fun t ht => (Option.some.inj ht) ▸ (nz_hz2 e56), List.forall_mem_nil _⟩⟩)) (fun j hj hn => g j hj (by simp only [List.mem_cons, List.not_mem_nil, or_false, not_or] at hn; omega)) ((zz_ai e54).trans w89) ((zz_ai e56).trans w87))
  replace g0 : 0 ≤ (sy_i F 84).toInt := by omega
  have w85 : jm_upd (sy_ai F 54) (sy_i F 82).toNatClampNeg ((2 : Int32)) = jm_upd (sy_ai F 54) ((sy_i F 82).toInt).toNat ((2 : Int32)) := by simp only [nz_c, (by decide : ((2 : Int32)).toInt = 2)]
  have w86 : jm_upd (sy_ai F 55) (sy_i F 82).toNatClampNeg (sy_i F 84) = jm_upd (sy_ai F 55) ((sy_i F 82).toInt).toNat (sy_i F 84) := by simp only [nz_c]
  have w89 : jm_upd (sy_ai F 61) (sy_i F 84).toNatClampNeg (((sy_ai F 61).getD (sy_i F 84).toNatClampNeg 0) - (sy_i F 83)) = jm_upd (sy_ai F 61) ((sy_i F 84).toInt).toNat (((sy_ai F 61).getD ((sy_i F 84).toInt).toNat 0) - (sy_i F 83)) := by simp only [nz_c]
  exact j2nsk_34_p2 hd F X1 X2 hB (by first | exact g0 | (simp only [nz_c]; exact g0)) (by first | exact ⟨by omega, by omega⟩ | (simp only [nz_c]; exact ⟨by omega, by omega⟩)) (by first | exact ⟨by omega, by omega⟩ | (simp only [nz_c]; exact ⟨by omega, by omega⟩)) (by first | exact ⟨by omega, by omega⟩ | (simp only [nz_c]; exact ⟨by omega, by omega⟩)) (by first | exact ⟨by omega, by omega⟩ | (simp only [nz_c]; exact ⟨by omega, by omega⟩)) (fun F1 g e54 e55 e61 => k2 g0 F1 (nz_in0 hB [54, 55, 61] (fun j hj hn => g j hj (by simp only [List.mem_cons, List.not_mem_nil, or_false, not_or] at hn; omega)) (List.forall_mem_cons.mpr ⟨fun t ht => (Option.some.inj ht) ▸ (nz_hz2 e54), List.forall_mem_cons.mpr ⟨fun t ht => (Option.some.inj ht) ▸ (nz_hz2 e55), List.forall_mem_cons.mpr ⟨fun t ht => (Option.some.inj ht) ▸ (nz_hz2 e61), List.forall_mem_nil _⟩⟩⟩)) (fun j hj hn => g j hj (by simp only [List.mem_cons, List.not_mem_nil, or_false, not_or] at hn; omega)) ((zz_ai e54).trans w85) ((zz_ai e55).trans w86) ((zz_ai e61).trans w89))
theorem j2nlf_0_p0 {Ls : Nat} {xs : Nat → Int32} {d : Nat} {Q : Option Value → jm_h → Prop} (hd : 1 ≤ d) (F : Nat → sy_d) (X1 X2 : List jm_c) (hB : iv_in F iv_B0)
    (k : ∀ F1 : Nat → sy_d, (∀ j, j < 82 → True → F1 j = F j) → F1 82 = .inl (.int (sy_i F 82)) → hd_W Ls xs d jm_M5 Q (6, sy_dL F1 [some (.inl (.ref 41)), some (.inl (.ref 20)), some (.inl (.ref 46)), some (.inr (.inl 82)), none, none], sy_dS F1 [.inl (.int 3), .inl (.ref 20), .inl (.ref 38)], sy_dh F1 X1 X2 (iv_H 2), 0, 0)) :
    hd_W Ls xs d jm_M5 Q (0, sy_dL F [some (.inl (.ref 41)), some (.inl (.ref 20)), some (.inl (.ref 46)), some (.inr (.inl 82)), none, none], sy_dS F [], sy_dh F X1 X2 (iv_H 2), 0, 0) := by
  refine hd_run (s := 2) (nv := 83) (pc := 6) (L := [some (.inl (.ref 41)), some (.inl (.ref 20)), some (.inl (.ref 46)), some (.inr (.inl 82)), none, none]) (S := [.inl (.int 3), .inl (.ref 20), .inl (.ref 38)]) (uh := hd_ov (iv_id 0 iv_B0) []) (ul := [.inl (.inr (.inl 82))]) (f := true) (sp := [6]) (d0 := 0) (O := []) (T := []) (P := []) jm_ok5 (by decide +kernel) (by decide +kernel) hd F X1 X2 (fun F' hF hs => ?_)
  have b82 := hd_b (F := F) (F' := F') (k := 82) (hF 82 (by decide))
  have hB' : iv_in F' iv_B0 := iv_in_eq hB (fun j hj => hF j (Nat.lt_of_lt_of_le hj (by decide +kernel)))
  refine ⟨fun _ h => absurd h List.not_mem_nil, ?_⟩
  refine k _ ?_ ?_
  · exact fun j hj _ => (hd_keep hB' (Nat.lt_of_lt_of_le hj (by decide +kernel)) (by simp)).trans (hF j (Nat.lt_of_lt_of_le hj (by decide)))
  · exact hd_gi (x := .inr (.inl 82)) (by decide +kernel) b82
theorem j2nlf_0 {Ls : Nat} {xs : Nat → Int32} {d : Nat} {Q : Option Value → jm_h → Prop} (hd : 1 ≤ d) (F : Nat → sy_d) (X1 X2 : List jm_c) (hB : iv_in F iv_B0)
    (k0 : ∀ F1 : Nat → sy_d, iv_in F1 iv_B0 → (∀ j, j < 82 → j ∉ ([] : List Nat) → F1 j = F j) → (sy_i F1 82).toInt = (sy_i F 82).toInt → sy_i F1 82 = sy_i F 82 → hd_W Ls xs d jm_M5 Q (6, sy_dL F1 [some (.inl (.ref 41)), some (.inl (.ref 20)), some (.inl (.ref 46)), some (.inr (.inl 82)), none, none], sy_dS F1 [.inl (.int 3), .inl (.ref 20), .inl (.ref 38)], sy_dh F1 X1 X2 (iv_H 2), 0, 0)) :
    hd_W Ls xs d jm_M5 Q (0, sy_dL F [some (.inl (.ref 41)), some (.inl (.ref 20)), some (.inl (.ref 46)), some (.inr (.inl 82)), none, none], sy_dS F [], sy_dh F X1 X2 (iv_H 2), 0, 0) := by
  exact j2nlf_0_p0 hd F X1 X2 hB  (fun F1 g e82 => k0 F1 (nz_in0 hB [] (fun j hj hn => g j hj (by simp only [List.mem_cons, List.not_mem_nil, or_false, not_or] at hn; exact trivial)) (List.forall_mem_nil _)) (fun j hj hn => g j hj (by simp only [List.mem_cons, List.not_mem_nil, or_false, not_or] at hn; exact trivial)) ((congrArg Int32.toInt (zz_i e82)).trans (rfl : (sy_i F 82).toInt = (sy_i F 82).toInt)) ((zz_i e82).trans (rfl : sy_i F 82 = sy_i F 82)))
theorem j2nlf_9_p0 {Ls : Nat} {xs : Nat → Int32} {d : Nat} {Q : Option Value → jm_h → Prop} (hd : 1 ≤ d) (F : Nat → sy_d) (X1 X2 : List jm_c) (hB : iv_in F iv_B0)
    (h0 : 0 ≤ (sy_i F 82).toInt ∧ (sy_i F 82).toInt < 7)
    (k : ∀ F1 : Nat → sy_d, (∀ j, j < 82 → True → F1 j = F j) → F1 82 = .inl (.int (sy_i F 82)) → F1 83 = .inl (.int (sy_i F 83)) → F1 84 = .inl (.int ((sy_ai F 24).getD (sy_i F 82).toNatClampNeg 0)) → hd_W Ls xs d jm_M5 Q (21, sy_dL F1 [some (.inl (.ref 41)), some (.inl (.ref 20)), some (.inl (.ref 46)), some (.inr (.inl 82)), some (.inr (.inl 83)), none], sy_dS F1 [.inr (.inl 83), .inr (.inl 84), .inl (.ref 20), .inl (.ref 46)], sy_dh F1 X1 X2 (iv_H 2), 0, 0)) :
    hd_W Ls xs d jm_M5 Q (9, sy_dL F [some (.inl (.ref 41)), some (.inl (.ref 20)), some (.inl (.ref 46)), some (.inr (.inl 82)), none, none], sy_dS F [.inr (.inl 83)], sy_dh F X1 X2 (iv_H 2), 0, 0) := by
  refine hd_run (s := 2) (nv := 84) (pc := 21) (L := [some (.inl (.ref 41)), some (.inl (.ref 20)), some (.inl (.ref 46)), some (.inr (.inl 82)), some (.inr (.inl 83)), none]) (S := [.inr (.inl 83), .inr (.inl 84), .inl (.ref 20), .inl (.ref 46)]) (uh := hd_ov (iv_id 0 iv_B0) []) (ul := [.inl (.inr (.inl 82)), .inl (.inr (.inl 83)), .inl (.inr (.inl 84))]) (f := false) (sp := [21]) (d0 := 0) (O := []) (T := [(30, [.inr (.inl 82)], [.inr (.inl 24)])]) (P := [(6, .inr (.inl 82), .inl (.ref 7))]) jm_ok5 (by decide +kernel) (by decide +kernel) hd F X1 X2 (fun F' hF hs => ?_)
  have b82 := hd_b (F := F) (F' := F') (k := 82) (hF 82 (by decide))
  have b83 := hd_b (F := F) (F' := F') (k := 83) (hF 83 (by decide))
  have a24 := hd_ba (F := F) (F' := F') (k := 24) (hF 24 (by decide))
  have t84 : sy_dv F' (.inr (.inl 84)) = .int ((sy_ai F 24).getD (sy_i F 82).toNatClampNeg 0) := hd_rd (hs 0 _ rfl) b82 a24
  have hB' : iv_in F' iv_B0 := iv_in_eq hB (fun j hj => hF j (Nat.lt_of_lt_of_le hj (by decide +kernel)))
  refine ⟨List.forall_mem_cons.mpr ⟨hd_pb b82 (by first | exact h0 | exact h0), fun _ h => absurd h List.not_mem_nil⟩, ?_⟩
  refine k _ ?_ ?_ ?_ ?_
  · exact fun j hj _ => (hd_keep hB' (Nat.lt_of_lt_of_le hj (by decide +kernel)) (by simp)).trans (hF j (Nat.lt_of_lt_of_le hj (by decide)))
  · exact hd_gi (x := .inr (.inl 82)) (by decide +kernel) b82
  · exact hd_gi (x := .inr (.inl 83)) (by decide +kernel) b83
  · exact hd_gi (x := .inr (.inl 84)) (by decide +kernel) t84
theorem j2nlf_9 {Ls : Nat} {xs : Nat → Int32} {d : Nat} {Q : Option Value → jm_h → Prop} (hd : 1 ≤ d) (F : Nat → sy_d) (X1 X2 : List jm_c) (hB : iv_in F iv_B0)
    (a82 : 0 ≤ (sy_i F 82).toInt ∧ (sy_i F 82).toInt ≤ 6)
    (k0 : ∀ F1 : Nat → sy_d, iv_in F1 iv_B0 → (∀ j, j < 82 → j ∉ ([] : List Nat) → F1 j = F j) → (sy_i F1 82).toInt = (sy_i F 82).toInt → sy_i F1 82 = sy_i F 82 → (sy_i F1 83).toInt = (sy_i F 83).toInt → sy_i F1 83 = sy_i F 83 → (sy_i F1 84).toInt = ((sy_ai F 24).getD ((sy_i F 82).toInt).toNat 0).toInt → sy_i F1 84 = (sy_ai F 24).getD ((sy_i F 82).toInt).toNat 0 → hd_W Ls xs d jm_M5 Q (21, sy_dL F1 [some (.inl (.ref 41)), some (.inl (.ref 20)), some (.inl (.ref 46)), some (.inr (.inl 82)), some (.inr (.inl 83)), none], sy_dS F1 [.inr (.inl 83), .inr (.inl 84), .inl (.ref 20), .inl (.ref 46)], sy_dh F1 X1 X2 (iv_H 2), 0, 0)) :
    hd_W Ls xs d jm_M5 Q (9, sy_dL F [some (.inl (.ref 41)), some (.inl (.ref 20)), some (.inl (.ref 46)), some (.inr (.inl 82)), none, none], sy_dS F [.inr (.inl 83)], sy_dh F X1 X2 (iv_H 2), 0, 0) := by
  have q84 : (sy_ai F 24).getD (sy_i F 82).toNatClampNeg 0 = (sy_ai F 24).getD ((sy_i F 82).toInt).toNat 0 := by simp only [nz_c]
  have n84 : nzI ((sy_ai F 24).getD (sy_i F 82).toNatClampNeg 0) (((sy_ai F 24).getD ((sy_i F 82).toInt).toNat 0).toInt) := congrArg Int32.toInt q84
  exact j2nlf_9_p0 hd F X1 X2 hB (by first | exact ⟨by omega, by omega⟩ | (simp only [nz_c]; exact ⟨by omega, by omega⟩)) (fun F1 g e82 e83 e84 => k0 F1 (nz_in0 hB [] (fun j hj hn => g j hj (by simp only [List.mem_cons, List.not_mem_nil, or_false, not_or] at hn; exact trivial)) (List.forall_mem_nil _)) (fun j hj hn => g j hj (by simp only [List.mem_cons, List.not_mem_nil, or_false, not_or] at hn; exact trivial)) ((congrArg Int32.toInt (zz_i e82)).trans (rfl : (sy_i F 82).toInt = (sy_i F 82).toInt)) ((zz_i e82).trans (rfl : sy_i F 82 = sy_i F 82)) ((congrArg Int32.toInt (zz_i e83)).trans (rfl : (sy_i F 83).toInt = (sy_i F 83).toInt)) ((zz_i e83).trans (rfl : sy_i F 83 = sy_i F 83)) ((congrArg Int32.toInt (zz_i e84)).trans (nzE n84)) ((zz_i e84).trans q84))
theorem j2nlf_24_p0 {Ls : Nat} {xs : Nat → Int32} {d : Nat} {Q : Option Value → jm_h → Prop} (hd : 2 ≤ d) (F : Nat → sy_d) (X1 X2 : List jm_c) (hB : iv_in F iv_B0)
    (h0 : (sy_i F 84).toInt < 0)
    (h1 : 0 ≤ (sy_i F 82).toInt ∧ (sy_i F 82).toInt < 7)
    (k : ∀ F1 : Nat → sy_d, (∀ j, j < 82 → j ≠ 54 → F1 j = F j) → F1 54 = .inr (.inl (jm_upd (sy_ai F 54) (sy_i F 82).toNatClampNeg ((1 : Int32)))) → F1 82 = .inl (.int (sy_i F 82)) → hd_W Ls xs d jm_M5 Q (61, sy_dL F1 [none, none, none, none, none, none], sy_dS F1 [.inr (.inl 82), .inl (.ref 20), .inl (.ref 38), .inr (.inl 82), .inl (.ref 53)], sy_dh F1 X1 X2 (iv_H 2), 0, 0)) :
    hd_W Ls xs d jm_M5 Q (24, sy_dL F [some (.inl (.ref 41)), some (.inl (.ref 20)), some (.inl (.ref 46)), some (.inr (.inl 82)), some (.inr (.inl 83)), none], sy_dS F [.inr (.inl 84)], sy_dh F X1 X2 (iv_H 2), 0, 0) := by
  refine hd_run (s := 2) (nv := 85) (pc := 61) (L := [none, none, none, none, none, none]) (S := [.inr (.inl 82), .inl (.ref 20), .inl (.ref 38), .inr (.inl 82), .inl (.ref 53)]) (uh := hd_ov (iv_id 0 iv_B0) [(54, .inr (.inr (.inl 85)))]) (ul := [.inl (.inr (.inl 82))]) (f := false) (sp := [61]) (d0 := 1) (O := [true]) (T := [(40, [.inr (.inl 82), .inl (.int 1)], [.inr (.inl 54)])]) (P := [(2, .inr (.inl 84), .inl (.int 0)), (6, .inr (.inl 82), .inl (.ref 7))]) jm_ok5 (by decide +kernel) (by decide +kernel) hd F X1 X2 (fun F' hF hs => ?_)
  have b84 := hd_b (F := F) (F' := F') (k := 84) (hF 84 (by decide))
  have b82 := hd_b (F := F) (F' := F') (k := 82) (hF 82 (by decide))
  have a54 := hd_ba (F := F) (F' := F') (k := 54) (hF 54 (by decide))
  have t85 : sy_da F' (.inr (.inl 85)) = .inl (jm_upd (sy_ai F 54) (sy_i F 82).toNatClampNeg ((1 : Int32))) := hd_up (hs 0 _ rfl) b82 rfl a54
  have hB' : iv_in F' iv_B0 := iv_in_eq hB (fun j hj => hF j (Nat.lt_of_lt_of_le hj (by decide +kernel)))
  refine ⟨List.forall_mem_cons.mpr ⟨hd_p2 b84 rfl (by have hc : ((0) : Int32).toInt = 0 := (by decide); omega), List.forall_mem_cons.mpr ⟨hd_pb b82 (by first | exact h1 | exact h1), fun _ h => absurd h List.not_mem_nil⟩⟩, ?_⟩
  refine k _ ?_ ?_ ?_
  · exact fun j hj hn => (hd_keep hB' (Nat.lt_of_lt_of_le hj (by decide +kernel)) (by simp; omega)).trans (hF j (Nat.lt_of_lt_of_le hj (by decide)))
  · exact hd_ga (a := .inr (.inl 85)) (by decide +kernel) t85
  · exact hd_gi (x := .inr (.inl 82)) (by decide +kernel) b82
theorem j2nlf_24_p1 {Ls : Nat} {xs : Nat → Int32} {d : Nat} {Q : Option Value → jm_h → Prop} (hd : 2 ≤ d) (F : Nat → sy_d) (X1 X2 : List jm_c) (hB : iv_in F iv_B0)
    (h0 : 0 ≤ (sy_i F 84).toInt)
    (h1 : 0 ≤ (sy_i F 82).toInt ∧ (sy_i F 82).toInt < 7)
    (h2 : 0 ≤ (sy_i F 82).toInt ∧ (sy_i F 82).toInt < 7)
    (h3 : 0 ≤ (sy_i F 84).toInt ∧ (sy_i F 84).toInt < 4)
    (h4 : 0 ≤ (sy_i F 84).toInt ∧ (sy_i F 84).toInt < 4)
    (k : ∀ F1 : Nat → sy_d, (∀ j, j < 82 → j ≠ 54 ∧ j ≠ 55 ∧ j ≠ 61 → F1 j = F j) → F1 54 = .inr (.inl (jm_upd (sy_ai F 54) (sy_i F 82).toNatClampNeg ((2 : Int32)))) → F1 55 = .inr (.inl (jm_upd (sy_ai F 55) (sy_i F 82).toNatClampNeg (sy_i F 84))) → F1 61 = .inr (.inl (jm_upd (sy_ai F 61) (sy_i F 84).toNatClampNeg (((sy_ai F 61).getD (sy_i F 84).toNatClampNeg 0) - (sy_i F 83)))) → Q (none) (sy_dh F1 X1 X2 (iv_H 2))) :
    hd_W Ls xs d jm_M5 Q (24, sy_dL F [some (.inl (.ref 41)), some (.inl (.ref 20)), some (.inl (.ref 46)), some (.inr (.inl 82)), some (.inr (.inl 83)), none], sy_dS F [.inr (.inl 84)], sy_dh F X1 X2 (iv_H 2), 0, 0) := by
  refine hd_ret (s := 2) (nv := 85) (v := none) (uh := hd_ov (iv_id 0 iv_B0) [(54, .inr (.inr (.inl 85))), (55, .inr (.inr (.inl 86))), (61, .inr (.inr (.inl 89)))]) (f := false) (sp := [61]) (d0 := 1) (O := [false]) (T := [(40, [.inr (.inl 82), .inl (.int 2)], [.inr (.inl 54)]), (40, [.inr (.inl 82), .inr (.inl 84)], [.inr (.inl 55)]), (30, [.inr (.inl 84)], [.inr (.inl 61)]), (1, [.inr (.inl 87), .inr (.inl 83)], []), (40, [.inr (.inl 84), .inr (.inl 88)], [.inr (.inl 61)])]) (P := [(3, .inr (.inl 84), .inl (.int 0)), (6, .inr (.inl 82), .inl (.ref 7)), (6, .inr (.inl 82), .inl (.ref 7)), (6, .inr (.inl 84), .inl (.ref 4)), (6, .inr (.inl 84), .inl (.ref 4))]) jm_ok5 (by decide +kernel) (by decide +kernel) hd F X1 X2 (fun F' hF hs => ?_)
  have b84 := hd_b (F := F) (F' := F') (k := 84) (hF 84 (by decide))
  have b82 := hd_b (F := F) (F' := F') (k := 82) (hF 82 (by decide))
  have a54 := hd_ba (F := F) (F' := F') (k := 54) (hF 54 (by decide))
  have t85 : sy_da F' (.inr (.inl 85)) = .inl (jm_upd (sy_ai F 54) (sy_i F 82).toNatClampNeg ((2 : Int32))) := hd_up (hs 0 _ rfl) b82 rfl a54
  have a55 := hd_ba (F := F) (F' := F') (k := 55) (hF 55 (by decide))
  have t86 : sy_da F' (.inr (.inl 86)) = .inl (jm_upd (sy_ai F 55) (sy_i F 82).toNatClampNeg (sy_i F 84)) := hd_up (hs 1 _ rfl) b82 b84 a55
  have a61 := hd_ba (F := F) (F' := F') (k := 61) (hF 61 (by decide))
  have t87 : sy_dv F' (.inr (.inl 87)) = .int ((sy_ai F 61).getD (sy_i F 84).toNatClampNeg 0) := hd_rd (hs 2 _ rfl) b84 a61
  have b83 := hd_b (F := F) (F' := F') (k := 83) (hF 83 (by decide))
  have t88 : sy_dv F' (.inr (.inl 88)) = .int (((sy_ai F 61).getD (sy_i F 84).toNatClampNeg 0) - (sy_i F 83)) := hd_o (hs 3 _ rfl) t87 b83 rfl
  have t89 : sy_da F' (.inr (.inl 89)) = .inl (jm_upd (sy_ai F 61) (sy_i F 84).toNatClampNeg (((sy_ai F 61).getD (sy_i F 84).toNatClampNeg 0) - (sy_i F 83))) := hd_up (hs 4 _ rfl) b84 t88 a61
  have hB' : iv_in F' iv_B0 := iv_in_eq hB (fun j hj => hF j (Nat.lt_of_lt_of_le hj (by decide +kernel)))
  refine ⟨List.forall_mem_cons.mpr ⟨hd_p3 b84 rfl (by have hc : ((0) : Int32).toInt = 0 := (by decide); omega), List.forall_mem_cons.mpr ⟨hd_pb b82 (by first | exact h1 | exact h1), List.forall_mem_cons.mpr ⟨hd_pb b82 (by first | exact h2 | exact h2), List.forall_mem_cons.mpr ⟨hd_pb b84 (by first | exact h3 | exact h3), List.forall_mem_cons.mpr ⟨hd_pb b84 (by first | exact h4 | exact h4), fun _ h => absurd h List.not_mem_nil⟩⟩⟩⟩⟩, ?_⟩
  refine k _ ?_ ?_ ?_ ?_
  · exact fun j hj hn => (hd_keep hB' (Nat.lt_of_lt_of_le hj (by decide +kernel)) (by simp; omega)).trans (hF j (Nat.lt_of_lt_of_le hj (by decide)))
  · exact hd_ga (a := .inr (.inl 85)) (by decide +kernel) t85
  · exact hd_ga (a := .inr (.inl 86)) (by decide +kernel) t86
  · exact hd_ga (a := .inr (.inl 89)) (by decide +kernel) t89
theorem j2nlf_24 {Ls : Nat} {xs : Nat → Int32} {d : Nat} {Q : Option Value → jm_h → Prop} (hd : 2 ≤ d) (F : Nat → sy_d) (X1 X2 : List jm_c) (hB : iv_in F iv_B0)
    (a82 : 0 ≤ (sy_i F 82).toInt ∧ (sy_i F 82).toInt ≤ 6)
    (a84 : (-2) ≤ (sy_i F 84).toInt ∧ (sy_i F 84).toInt ≤ 3)
    (k0 : (sy_i F 84).toInt < 0 → ∀ F1 : Nat → sy_d, iv_in F1 iv_B0 → (∀ j, j < 82 → j ∉ ([54] : List Nat) → F1 j = F j) → sy_ai F1 54 = jm_upd (sy_ai F 54) ((sy_i F 82).toInt).toNat ((1 : Int32)) → (sy_i F1 82).toInt = (sy_i F 82).toInt → sy_i F1 82 = sy_i F 82 → hd_W Ls xs d jm_M5 Q (61, sy_dL F1 [none, none, none, none, none, none], sy_dS F1 [.inr (.inl 82), .inl (.ref 20), .inl (.ref 38), .inr (.inl 82), .inl (.ref 53)], sy_dh F1 X1 X2 (iv_H 2), 0, 0))
    (k1 : 0 ≤ (sy_i F 84).toInt → ∀ F1 : Nat → sy_d, iv_in F1 iv_B0 → (∀ j, j < 82 → j ∉ ([54, 55, 61] : List Nat) → F1 j = F j) → sy_ai F1 54 = jm_upd (sy_ai F 54) ((sy_i F 82).toInt).toNat ((2 : Int32)) → sy_ai F1 55 = jm_upd (sy_ai F 55) ((sy_i F 82).toInt).toNat (sy_i F 84) → sy_ai F1 61 = jm_upd (sy_ai F 61) ((sy_i F 84).toInt).toNat (((sy_ai F 61).getD ((sy_i F 84).toInt).toNat 0) - (sy_i F 83)) → Q (none) (sy_dh F1 X1 X2 (iv_H 2))) :
    hd_W Ls xs d jm_M5 Q (24, sy_dL F [some (.inl (.ref 41)), some (.inl (.ref 20)), some (.inl (.ref 46)), some (.inr (.inl 82)), some (.inr (.inl 83)), none], sy_dS F [.inr (.inl 84)], sy_dh F X1 X2 (iv_H 2), 0, 0) := by
  by_cases g0 : (sy_i F 84).toInt < 0
  · have w85 : jm_upd (sy_ai F 54) (sy_i F 82).toNatClampNeg ((1 : Int32)) = jm_upd (sy_ai F 54) ((sy_i F 82).toInt).toNat ((1 : Int32)) := by simp only [nz_c, (by decide : ((1 : Int32)).toInt = 1)]
    exact j2nlf_24_p0 hd F X1 X2 hB (by first | exact g0 | (simp only [nz_c]; exact g0)) (by first | exact ⟨by omega, by omega⟩ | (simp only [nz_c]; exact ⟨by omega, by omega⟩)) (fun F1 g e54 e82 => k0 g0 F1 (nz_in0 hB [54] (fun j hj hn => g j hj (by simp only [List.mem_cons, List.not_mem_nil, or_false, not_or] at hn; omega)) (List.forall_mem_cons.mpr ⟨fun t ht => (Option.some.inj ht) ▸ (nz_hz2 e54), List.forall_mem_nil _⟩)) (fun j hj hn => g j hj (by simp only [List.mem_cons, List.not_mem_nil, or_false, not_or] at hn; omega)) ((zz_ai e54).trans w85) ((congrArg Int32.toInt (zz_i e82)).trans (rfl : (sy_i F 82).toInt = (sy_i F 82).toInt)) ((zz_i e82).trans (rfl : sy_i F 82 = sy_i F 82)))
  replace g0 : 0 ≤ (sy_i F 84).toInt := by omega
  have w85 : jm_upd (sy_ai F 54) (sy_i F 82).toNatClampNeg ((2 : Int32)) = jm_upd (sy_ai F 54) ((sy_i F 82).toInt).toNat ((2 : Int32)) := by simp only [nz_c, (by decide : ((2 : Int32)).toInt = 2)]
  have w86 : jm_upd (sy_ai F 55) (sy_i F 82).toNatClampNeg (sy_i F 84) = jm_upd (sy_ai F 55) ((sy_i F 82).toInt).toNat (sy_i F 84) := by simp only [nz_c]
  have w89 : jm_upd (sy_ai F 61) (sy_i F 84).toNatClampNeg (((sy_ai F 61).getD (sy_i F 84).toNatClampNeg 0) - (sy_i F 83)) = jm_upd (sy_ai F 61) ((sy_i F 84).toInt).toNat (((sy_ai F 61).getD ((sy_i F 84).toInt).toNat 0) - (sy_i F 83)) := by simp only [nz_c]
  exact j2nlf_24_p1 hd F X1 X2 hB (by first | exact g0 | (simp only [nz_c]; exact g0)) (by first | exact ⟨by omega, by omega⟩ | (simp only [nz_c]; exact ⟨by omega, by omega⟩)) (by first | exact ⟨by omega, by omega⟩ | (simp only [nz_c]; exact ⟨by omega, by omega⟩)) (by first | exact ⟨by omega, by omega⟩ | (simp only [nz_c]; exact ⟨by omega, by omega⟩)) (by first | exact ⟨by omega, by omega⟩ | (simp only [nz_c]; exact ⟨by omega, by omega⟩)) (fun F1 g e54 e55 e61 => k1 g0 F1 (nz_in0 hB [54, 55, 61] (fun j hj hn => g j hj (by simp only [List.mem_cons, List.not_mem_nil, or_false, not_or] at hn; omega)) (List.forall_mem_cons.mpr ⟨fun t ht => (Option.some.inj ht) ▸ (nz_hz2 e54), List.forall_mem_cons.mpr ⟨fun t ht => (Option.some.inj ht) ▸ (nz_hz2 e55), List.forall_mem_cons.mpr ⟨fun t ht => (Option.some.inj ht) ▸ (nz_hz2 e61), List.forall_mem_nil _⟩⟩⟩)) (fun j hj hn => g j hj (by simp only [List.mem_cons, List.not_mem_nil, or_false, not_or] at hn; omega)) ((zz_ai e54).trans w85) ((zz_ai e55).trans w86) ((zz_ai e61).trans w89))
theorem j2nlf_64_p0 {Ls : Nat} {xs : Nat → Int32} {d : Nat} {Q : Option Value → jm_h → Prop} (hd : 1 ≤ d) (F : Nat → sy_d) (X1 X2 : List jm_c) (hB : iv_in F iv_B0)
    (h0 : 0 ≤ (sy_i F 82).toInt ∧ (sy_i F 82).toInt < 7)
    (k : ∀ F1 : Nat → sy_d, (∀ j, j < 82 → j ≠ 59 → F1 j = F j) → F1 59 = .inr (.inl (jm_upd (sy_ai F 59) (sy_i F 82).toNatClampNeg (sy_i F 83))) → Q (none) (sy_dh F1 X1 X2 (iv_H 2))) :
    hd_W Ls xs d jm_M5 Q (64, sy_dL F [none, none, none, none, none, none], sy_dS F [.inr (.inl 83), .inr (.inl 82), .inl (.ref 53)], sy_dh F X1 X2 (iv_H 2), 0, 0) := by
  refine hd_ret (s := 2) (nv := 84) (v := none) (uh := hd_ov (iv_id 0 iv_B0) [(59, .inr (.inr (.inl 84)))]) (f := false) (sp := []) (d0 := 0) (O := []) (T := [(40, [.inr (.inl 82), .inr (.inl 83)], [.inr (.inl 59)])]) (P := [(6, .inr (.inl 82), .inl (.ref 7))]) jm_ok5 (by decide +kernel) (by decide +kernel) hd F X1 X2 (fun F' hF hs => ?_)
  have b82 := hd_b (F := F) (F' := F') (k := 82) (hF 82 (by decide))
  have b83 := hd_b (F := F) (F' := F') (k := 83) (hF 83 (by decide))
  have a59 := hd_ba (F := F) (F' := F') (k := 59) (hF 59 (by decide))
  have t84 : sy_da F' (.inr (.inl 84)) = .inl (jm_upd (sy_ai F 59) (sy_i F 82).toNatClampNeg (sy_i F 83)) := hd_up (hs 0 _ rfl) b82 b83 a59
  have hB' : iv_in F' iv_B0 := iv_in_eq hB (fun j hj => hF j (Nat.lt_of_lt_of_le hj (by decide +kernel)))
  refine ⟨List.forall_mem_cons.mpr ⟨hd_pb b82 (by first | exact h0 | exact h0), fun _ h => absurd h List.not_mem_nil⟩, ?_⟩
  refine k _ ?_ ?_
  · exact fun j hj hn => (hd_keep hB' (Nat.lt_of_lt_of_le hj (by decide +kernel)) (by simp; omega)).trans (hF j (Nat.lt_of_lt_of_le hj (by decide)))
  · exact hd_ga (a := .inr (.inl 84)) (by decide +kernel) t84
theorem j2nlf_64 {Ls : Nat} {xs : Nat → Int32} {d : Nat} {Q : Option Value → jm_h → Prop} (hd : 1 ≤ d) (F : Nat → sy_d) (X1 X2 : List jm_c) (hB : iv_in F iv_B0)
    (a82 : 0 ≤ (sy_i F 82).toInt ∧ (sy_i F 82).toInt ≤ 6)
    (k0 : ∀ F1 : Nat → sy_d, iv_in F1 iv_B0 → (∀ j, j < 82 → j ∉ ([59] : List Nat) → F1 j = F j) → sy_ai F1 59 = jm_upd (sy_ai F 59) ((sy_i F 82).toInt).toNat (sy_i F 83) → Q (none) (sy_dh F1 X1 X2 (iv_H 2))) :
    hd_W Ls xs d jm_M5 Q (64, sy_dL F [none, none, none, none, none, none], sy_dS F [.inr (.inl 83), .inr (.inl 82), .inl (.ref 53)], sy_dh F X1 X2 (iv_H 2), 0, 0) := by
  have w84 : jm_upd (sy_ai F 59) (sy_i F 82).toNatClampNeg (sy_i F 83) = jm_upd (sy_ai F 59) ((sy_i F 82).toInt).toNat (sy_i F 83) := by simp only [nz_c]
  exact j2nlf_64_p0 hd F X1 X2 hB (by first | exact ⟨by omega, by omega⟩ | (simp only [nz_c]; exact ⟨by omega, by omega⟩)) (fun F1 g e59 => k0 F1 (nz_in0 hB [59] (fun j hj hn => g j hj (by simp only [List.mem_cons, List.not_mem_nil, or_false, not_or] at hn; omega)) (List.forall_mem_cons.mpr ⟨fun t ht => (Option.some.inj ht) ▸ (nz_hz2 e59), List.forall_mem_nil _⟩)) (fun j hj hn => g j hj (by simp only [List.mem_cons, List.not_mem_nil, or_false, not_or] at hn; omega)) ((zz_ai e59).trans w84))
theorem j2nph_0_p0 {Ls : Nat} {xs : Nat → Int32} {d : Nat} {Q : Option Value → jm_h → Prop} (hd : 1 ≤ d) (F : Nat → sy_d) (X1 X2 : List jm_c) (hB : iv_in F iv_B0)
    (k : ∀ F1 : Nat → sy_d, (∀ j, j < 82 → True → F1 j = F j) → F1 82 = .inl (.int (sy_i F 82)) → F1 83 = .inl (.int (sy_i F 50)) → F1 84 = .inl (.int (sy_i F 18)) → hd_W Ls xs d jm_M3 Q (15, sy_dL F1 [some (.inl (.ref 41)), some (.inl (.ref 20)), some (.inl (.ref 46)), some (.inr (.inl 82)), none], sy_dS F1 [.inr (.inl 84), .inl (.int 0), .inl (.ref 46), .inr (.inl 83), .inl (.ref 20), .inl (.ref 38)], sy_dh F1 X1 X2 (iv_H 2), 0, 0)) :
    hd_W Ls xs d jm_M3 Q (0, sy_dL F [some (.inl (.ref 41)), some (.inl (.ref 20)), some (.inl (.ref 46)), some (.inr (.inl 82)), none], sy_dS F [], sy_dh F X1 X2 (iv_H 2), 0, 0) := by
  refine hd_run (s := 2) (nv := 83) (pc := 15) (L := [some (.inl (.ref 41)), some (.inl (.ref 20)), some (.inl (.ref 46)), some (.inr (.inl 82)), none]) (S := [.inr (.inl 84), .inl (.int 0), .inl (.ref 46), .inr (.inl 83), .inl (.ref 20), .inl (.ref 38)]) (uh := hd_ov (iv_id 0 iv_B0) []) (ul := [.inl (.inr (.inl 82)), .inl (.inr (.inl 50)), .inl (.inr (.inl 18))]) (f := true) (sp := [15]) (d0 := 0) (O := []) (T := []) (P := []) jm_ok3 (by decide +kernel) (by decide +kernel) hd F X1 X2 (fun F' hF hs => ?_)
  have b82 := hd_b (F := F) (F' := F') (k := 82) (hF 82 (by decide))
  have b50 := hd_b (F := F) (F' := F') (k := 50) (hF 50 (by decide))
  have b18 := hd_b (F := F) (F' := F') (k := 18) (hF 18 (by decide))
  have hB' : iv_in F' iv_B0 := iv_in_eq hB (fun j hj => hF j (Nat.lt_of_lt_of_le hj (by decide +kernel)))
  refine ⟨fun _ h => absurd h List.not_mem_nil, ?_⟩
  refine k _ ?_ ?_ ?_ ?_
  · exact fun j hj _ => (hd_keep hB' (Nat.lt_of_lt_of_le hj (by decide +kernel)) (by simp)).trans (hF j (Nat.lt_of_lt_of_le hj (by decide)))
  · exact hd_gi (x := .inr (.inl 82)) (by decide +kernel) b82
  · exact hd_gi (x := .inr (.inl 50)) (by decide +kernel) b50
  · exact hd_gi (x := .inr (.inl 18)) (by decide +kernel) b18
theorem j2nph_0 {Ls : Nat} {xs : Nat → Int32} {d : Nat} {Q : Option Value → jm_h → Prop} (hd : 1 ≤ d) (F : Nat → sy_d) (X1 X2 : List jm_c) (hB : iv_in F iv_B0)
    (k0 : ∀ F1 : Nat → sy_d, iv_in F1 iv_B0 → (∀ j, j < 82 → j ∉ ([] : List Nat) → F1 j = F j) → (sy_i F1 82).toInt = (sy_i F 82).toInt → sy_i F1 82 = sy_i F 82 → (sy_i F1 83).toInt = (sy_i F 50).toInt → sy_i F1 83 = sy_i F 50 → (sy_i F1 84).toInt = (sy_i F 18).toInt → sy_i F1 84 = sy_i F 18 → hd_W Ls xs d jm_M3 Q (15, sy_dL F1 [some (.inl (.ref 41)), some (.inl (.ref 20)), some (.inl (.ref 46)), some (.inr (.inl 82)), none], sy_dS F1 [.inr (.inl 84), .inl (.int 0), .inl (.ref 46), .inr (.inl 83), .inl (.ref 20), .inl (.ref 38)], sy_dh F1 X1 X2 (iv_H 2), 0, 0)) :
    hd_W Ls xs d jm_M3 Q (0, sy_dL F [some (.inl (.ref 41)), some (.inl (.ref 20)), some (.inl (.ref 46)), some (.inr (.inl 82)), none], sy_dS F [], sy_dh F X1 X2 (iv_H 2), 0, 0) := by
  have c18 := nz_bx hB (k := 18) (lo := 0) (hi := 7) rfl
  exact j2nph_0_p0 hd F X1 X2 hB  (fun F1 g e82 e83 e84 => k0 F1 (nz_in0 hB [] (fun j hj hn => g j hj (by simp only [List.mem_cons, List.not_mem_nil, or_false, not_or] at hn; exact trivial)) (List.forall_mem_nil _)) (fun j hj hn => g j hj (by simp only [List.mem_cons, List.not_mem_nil, or_false, not_or] at hn; exact trivial)) ((congrArg Int32.toInt (zz_i e82)).trans (rfl : (sy_i F 82).toInt = (sy_i F 82).toInt)) ((zz_i e82).trans (rfl : sy_i F 82 = sy_i F 82)) ((congrArg Int32.toInt (zz_i e83)).trans (rfl : (sy_i F 50).toInt = (sy_i F 50).toInt)) ((zz_i e83).trans (rfl : sy_i F 50 = sy_i F 50)) ((congrArg Int32.toInt (zz_i e84)).trans (rfl : (sy_i F 18).toInt = (sy_i F 18).toInt)) ((zz_i e84).trans (rfl : sy_i F 18 = sy_i F 18)))
theorem j2nph_21_p0 {Ls : Nat} {xs : Nat → Int32} {d : Nat} {Q : Option Value → jm_h → Prop} (hd : 1 ≤ d) (F : Nat → sy_d) (X1 X2 : List jm_c) (hB : iv_in F iv_B0)
    (k : ∀ F1 : Nat → sy_d, (∀ j, j < 82 → True → F1 j = F j) → F1 82 = .inl (.int (sy_i F 82)) → F1 83 = .inl (.int ((0 : Int32))) → hd_W Ls xs d jm_M3 Q (24, sy_dL F1 [some (.inl (.ref 41)), some (.inl (.ref 20)), some (.inl (.ref 46)), some (.inr (.inl 82)), some (.inr (.inl 83))], sy_dS F1 [], sy_dh F1 X1 X2 (iv_H 2), 0, 0)) :
    hd_W Ls xs d jm_M3 Q (21, sy_dL F [some (.inl (.ref 41)), some (.inl (.ref 20)), some (.inl (.ref 46)), some (.inr (.inl 82)), none], sy_dS F [], sy_dh F X1 X2 (iv_H 2), 0, 0) := by
  refine hd_run (s := 2) (nv := 83) (pc := 24) (L := [some (.inl (.ref 41)), some (.inl (.ref 20)), some (.inl (.ref 46)), some (.inr (.inl 82)), some (.inr (.inl 83))]) (S := []) (uh := hd_ov (iv_id 0 iv_B0) []) (ul := [.inl (.inr (.inl 82)), .inl (.inl (.int 0))]) (f := false) (sp := [24]) (d0 := 0) (O := []) (T := []) (P := []) jm_ok3 (by decide +kernel) (by decide +kernel) hd F X1 X2 (fun F' hF hs => ?_)
  have b82 := hd_b (F := F) (F' := F') (k := 82) (hF 82 (by decide))
  have hB' : iv_in F' iv_B0 := iv_in_eq hB (fun j hj => hF j (Nat.lt_of_lt_of_le hj (by decide +kernel)))
  refine ⟨fun _ h => absurd h List.not_mem_nil, ?_⟩
  refine k _ ?_ ?_ ?_
  · exact fun j hj _ => (hd_keep hB' (Nat.lt_of_lt_of_le hj (by decide +kernel)) (by simp)).trans (hF j (Nat.lt_of_lt_of_le hj (by decide)))
  · exact hd_gi (x := .inr (.inl 82)) (by decide +kernel) b82
  · exact hd_gi (x := .inl (.int 0)) (by decide +kernel) rfl
theorem j2nph_21 {Ls : Nat} {xs : Nat → Int32} {d : Nat} {Q : Option Value → jm_h → Prop} (hd : 1 ≤ d) (F : Nat → sy_d) (X1 X2 : List jm_c) (hB : iv_in F iv_B0)
    (k0 : ∀ F1 : Nat → sy_d, iv_in F1 iv_B0 → (∀ j, j < 82 → j ∉ ([] : List Nat) → F1 j = F j) → (sy_i F1 82).toInt = (sy_i F 82).toInt → sy_i F1 82 = sy_i F 82 → (sy_i F1 83).toInt = 0 → sy_i F1 83 = (0 : Int32) → hd_W Ls xs d jm_M3 Q (24, sy_dL F1 [some (.inl (.ref 41)), some (.inl (.ref 20)), some (.inl (.ref 46)), some (.inr (.inl 82)), some (.inr (.inl 83))], sy_dS F1 [], sy_dh F1 X1 X2 (iv_H 2), 0, 0)) :
    hd_W Ls xs d jm_M3 Q (21, sy_dL F [some (.inl (.ref 41)), some (.inl (.ref 20)), some (.inl (.ref 46)), some (.inr (.inl 82)), none], sy_dS F [], sy_dh F X1 X2 (iv_H 2), 0, 0) := by
  exact j2nph_21_p0 hd F X1 X2 hB  (fun F1 g e82 e83 => k0 F1 (nz_in0 hB [] (fun j hj hn => g j hj (by simp only [List.mem_cons, List.not_mem_nil, or_false, not_or] at hn; exact trivial)) (List.forall_mem_nil _)) (fun j hj hn => g j hj (by simp only [List.mem_cons, List.not_mem_nil, or_false, not_or] at hn; exact trivial)) ((congrArg Int32.toInt (zz_i e82)).trans (rfl : (sy_i F 82).toInt = (sy_i F 82).toInt)) ((zz_i e82).trans (rfl : sy_i F 82 = sy_i F 82)) ((congrArg Int32.toInt (zz_i e83)).trans (by decide : ((0 : Int32)).toInt = 0)) ((zz_i e83).trans (rfl : (0 : Int32) = (0 : Int32))))
theorem j2nph_24_p0 {Ls : Nat} {xs : Nat → Int32} {d : Nat} {Q : Option Value → jm_h → Prop} (hd : 1 ≤ d) (F : Nat → sy_d) (X1 X2 : List jm_c) (hB : iv_in F iv_B0)
    (h0 : (sy_i F 18).toInt ≤ (sy_i F 83).toInt)
    (k : ∀ F1 : Nat → sy_d, (∀ j, j < 82 → True → F1 j = F j) → F1 82 = .inl (.int (sy_i F 82)) → F1 83 = .inl (.int ((0 : Int32))) → hd_W Ls xs d jm_M3 Q (61, sy_dL F1 [some (.inl (.ref 41)), some (.inl (.ref 20)), some (.inl (.ref 46)), some (.inr (.inl 82)), some (.inr (.inl 83))], sy_dS F1 [], sy_dh F1 X1 X2 (iv_H 2), 0, 0)) :
    hd_W Ls xs d jm_M3 Q (24, sy_dL F [some (.inl (.ref 41)), some (.inl (.ref 20)), some (.inl (.ref 46)), some (.inr (.inl 82)), some (.inr (.inl 83))], sy_dS F [], sy_dh F X1 X2 (iv_H 2), 0, 0) := by
  refine hd_run (s := 2) (nv := 84) (pc := 61) (L := [some (.inl (.ref 41)), some (.inl (.ref 20)), some (.inl (.ref 46)), some (.inr (.inl 82)), some (.inr (.inl 83))]) (S := []) (uh := hd_ov (iv_id 0 iv_B0) []) (ul := [.inl (.inr (.inl 82)), .inl (.inl (.int 0))]) (f := true) (sp := [24, 49, 61]) (d0 := 0) (O := [true]) (T := []) (P := [(4, .inr (.inl 18), .inr (.inl 83))]) jm_ok3 (by decide +kernel) (by decide +kernel) hd F X1 X2 (fun F' hF hs => ?_)
  have b18 := hd_b (F := F) (F' := F') (k := 18) (hF 18 (by decide))
  have b83 := hd_b (F := F) (F' := F') (k := 83) (hF 83 (by decide))
  have b82 := hd_b (F := F) (F' := F') (k := 82) (hF 82 (by decide))
  have hB' : iv_in F' iv_B0 := iv_in_eq hB (fun j hj => hF j (Nat.lt_of_lt_of_le hj (by decide +kernel)))
  refine ⟨List.forall_mem_cons.mpr ⟨hd_p4 b18 b83 h0, fun _ h => absurd h List.not_mem_nil⟩, ?_⟩
  refine k _ ?_ ?_ ?_
  · exact fun j hj _ => (hd_keep hB' (Nat.lt_of_lt_of_le hj (by decide +kernel)) (by simp)).trans (hF j (Nat.lt_of_lt_of_le hj (by decide)))
  · exact hd_gi (x := .inr (.inl 82)) (by decide +kernel) b82
  · exact hd_gi (x := .inl (.int 0)) (by decide +kernel) rfl
theorem j2nph_24_p1 {Ls : Nat} {xs : Nat → Int32} {d : Nat} {Q : Option Value → jm_h → Prop} (hd : 1 ≤ d) (F : Nat → sy_d) (X1 X2 : List jm_c) (hB : iv_in F iv_B0)
    (h0 : (sy_i F 83).toInt < (sy_i F 18).toInt)
    (h1 : 0 ≤ (sy_i F 83).toInt ∧ (sy_i F 83).toInt < 7)
    (h2 : ((sy_ai F 54).getD (sy_i F 83).toNatClampNeg 0).toInt ≠ 1)
    (k : ∀ F1 : Nat → sy_d, (∀ j, j < 82 → True → F1 j = F j) → F1 82 = .inl (.int (sy_i F 82)) → F1 83 = .inl (.int ((sy_i F 83) + ((1 : Int32)))) → hd_W Ls xs d jm_M3 Q (24, sy_dL F1 [some (.inl (.ref 41)), some (.inl (.ref 20)), some (.inl (.ref 46)), some (.inr (.inl 82)), some (.inr (.inl 83))], sy_dS F1 [], sy_dh F1 X1 X2 (iv_H 2), 0, 0)) :
    hd_W Ls xs d jm_M3 Q (24, sy_dL F [some (.inl (.ref 41)), some (.inl (.ref 20)), some (.inl (.ref 46)), some (.inr (.inl 82)), some (.inr (.inl 83))], sy_dS F [], sy_dh F X1 X2 (iv_H 2), 0, 0) := by
  refine hd_run (s := 2) (nv := 84) (pc := 24) (L := [some (.inl (.ref 41)), some (.inl (.ref 20)), some (.inl (.ref 46)), some (.inr (.inl 82)), some (.inr (.inl 83))]) (S := []) (uh := hd_ov (iv_id 0 iv_B0) []) (ul := [.inl (.inr (.inl 82)), .inl (.inr (.inl 85))]) (f := true) (sp := [24, 49, 61]) (d0 := 0) (O := [false, true]) (T := [(30, [.inr (.inl 83)], [.inr (.inl 54)]), (0, [.inr (.inl 83), .inl (.int 1)], [])]) (P := [(5, .inr (.inl 18), .inr (.inl 83)), (6, .inr (.inl 83), .inl (.ref 7)), (1, .inr (.inl 84), .inl (.int 1))]) jm_ok3 (by decide +kernel) (by decide +kernel) hd F X1 X2 (fun F' hF hs => ?_)
  have b18 := hd_b (F := F) (F' := F') (k := 18) (hF 18 (by decide))
  have b83 := hd_b (F := F) (F' := F') (k := 83) (hF 83 (by decide))
  have a54 := hd_ba (F := F) (F' := F') (k := 54) (hF 54 (by decide))
  have t84 : sy_dv F' (.inr (.inl 84)) = .int ((sy_ai F 54).getD (sy_i F 83).toNatClampNeg 0) := hd_rd (hs 0 _ rfl) b83 a54
  have b82 := hd_b (F := F) (F' := F') (k := 82) (hF 82 (by decide))
  have t85 : sy_dv F' (.inr (.inl 85)) = .int ((sy_i F 83) + ((1 : Int32))) := hd_o (hs 1 _ rfl) b83 rfl rfl
  have hB' : iv_in F' iv_B0 := iv_in_eq hB (fun j hj => hF j (Nat.lt_of_lt_of_le hj (by decide +kernel)))
  refine ⟨List.forall_mem_cons.mpr ⟨hd_p5 b18 b83 h0, List.forall_mem_cons.mpr ⟨hd_pb b83 (by first | exact h1 | exact h1), List.forall_mem_cons.mpr ⟨hd_p1 t84 rfl (by have hc : ((1) : Int32).toInt = 1 := (by decide); omega), fun _ h => absurd h List.not_mem_nil⟩⟩⟩, ?_⟩
  refine k _ ?_ ?_ ?_
  · exact fun j hj _ => (hd_keep hB' (Nat.lt_of_lt_of_le hj (by decide +kernel)) (by simp)).trans (hF j (Nat.lt_of_lt_of_le hj (by decide)))
  · exact hd_gi (x := .inr (.inl 82)) (by decide +kernel) b82
  · exact hd_gi (x := .inr (.inl 85)) (by decide +kernel) t85
theorem j2nph_24_p2 {Ls : Nat} {xs : Nat → Int32} {d : Nat} {Q : Option Value → jm_h → Prop} (hd : 1 ≤ d) (F : Nat → sy_d) (X1 X2 : List jm_c) (hB : iv_in F iv_B0)
    (h0 : (sy_i F 83).toInt < (sy_i F 18).toInt)
    (h1 : 0 ≤ (sy_i F 83).toInt ∧ (sy_i F 83).toInt < 7)
    (h2 : ((sy_ai F 54).getD (sy_i F 83).toNatClampNeg 0).toInt = 1)
    (k : ∀ F1 : Nat → sy_d, (∀ j, j < 82 → True → F1 j = F j) → F1 82 = .inl (.int (sy_i F 82)) → F1 83 = .inl (.int (sy_i F 83)) → hd_W Ls xs d jm_M3 Q (49, sy_dL F1 [some (.inl (.ref 41)), some (.inl (.ref 20)), some (.inl (.ref 46)), some (.inr (.inl 82)), some (.inr (.inl 83))], sy_dS F1 [.inr (.inl 83), .inl (.ref 46), .inl (.ref 20), .inl (.ref 41)], sy_dh F1 X1 X2 (iv_H 2), 0, 0)) :
    hd_W Ls xs d jm_M3 Q (24, sy_dL F [some (.inl (.ref 41)), some (.inl (.ref 20)), some (.inl (.ref 46)), some (.inr (.inl 82)), some (.inr (.inl 83))], sy_dS F [], sy_dh F X1 X2 (iv_H 2), 0, 0) := by
  refine hd_run (s := 2) (nv := 84) (pc := 49) (L := [some (.inl (.ref 41)), some (.inl (.ref 20)), some (.inl (.ref 46)), some (.inr (.inl 82)), some (.inr (.inl 83))]) (S := [.inr (.inl 83), .inl (.ref 46), .inl (.ref 20), .inl (.ref 41)]) (uh := hd_ov (iv_id 0 iv_B0) []) (ul := [.inl (.inr (.inl 82)), .inl (.inr (.inl 83))]) (f := true) (sp := [24, 49, 61]) (d0 := 0) (O := [false, false]) (T := [(30, [.inr (.inl 83)], [.inr (.inl 54)])]) (P := [(5, .inr (.inl 18), .inr (.inl 83)), (6, .inr (.inl 83), .inl (.ref 7)), (0, .inr (.inl 84), .inl (.int 1))]) jm_ok3 (by decide +kernel) (by decide +kernel) hd F X1 X2 (fun F' hF hs => ?_)
  have b18 := hd_b (F := F) (F' := F') (k := 18) (hF 18 (by decide))
  have b83 := hd_b (F := F) (F' := F') (k := 83) (hF 83 (by decide))
  have a54 := hd_ba (F := F) (F' := F') (k := 54) (hF 54 (by decide))
  have t84 : sy_dv F' (.inr (.inl 84)) = .int ((sy_ai F 54).getD (sy_i F 83).toNatClampNeg 0) := hd_rd (hs 0 _ rfl) b83 a54
  have b82 := hd_b (F := F) (F' := F') (k := 82) (hF 82 (by decide))
  have hB' : iv_in F' iv_B0 := iv_in_eq hB (fun j hj => hF j (Nat.lt_of_lt_of_le hj (by decide +kernel)))
  refine ⟨List.forall_mem_cons.mpr ⟨hd_p5 b18 b83 h0, List.forall_mem_cons.mpr ⟨hd_pb b83 (by first | exact h1 | exact h1), List.forall_mem_cons.mpr ⟨hd_p0 t84 rfl (by have hc : ((1) : Int32).toInt = 1 := (by decide); omega), fun _ h => absurd h List.not_mem_nil⟩⟩⟩, ?_⟩
  refine k _ ?_ ?_ ?_
  · exact fun j hj _ => (hd_keep hB' (Nat.lt_of_lt_of_le hj (by decide +kernel)) (by simp)).trans (hF j (Nat.lt_of_lt_of_le hj (by decide)))
  · exact hd_gi (x := .inr (.inl 82)) (by decide +kernel) b82
  · exact hd_gi (x := .inr (.inl 83)) (by decide +kernel) b83
theorem j2nph_24 {Ls : Nat} {xs : Nat → Int32} {d : Nat} {Q : Option Value → jm_h → Prop} (hd : 1 ≤ d) (F : Nat → sy_d) (X1 X2 : List jm_c) (hB : iv_in F iv_B0)
    (a83 : 0 ≤ (sy_i F 83).toInt ∧ (sy_i F 83).toInt ≤ 7)
    (k0 : (sy_i F 18).toInt ≤ (sy_i F 83).toInt → ∀ F1 : Nat → sy_d, iv_in F1 iv_B0 → (∀ j, j < 82 → j ∉ ([] : List Nat) → F1 j = F j) → (sy_i F1 82).toInt = (sy_i F 82).toInt → sy_i F1 82 = sy_i F 82 → (sy_i F1 83).toInt = 0 → sy_i F1 83 = (0 : Int32) → hd_W Ls xs d jm_M3 Q (61, sy_dL F1 [some (.inl (.ref 41)), some (.inl (.ref 20)), some (.inl (.ref 46)), some (.inr (.inl 82)), some (.inr (.inl 83))], sy_dS F1 [], sy_dh F1 X1 X2 (iv_H 2), 0, 0))
    (k1 : (sy_i F 83).toInt < (sy_i F 18).toInt → ((sy_ai F 54).getD ((sy_i F 83).toInt).toNat 0).toInt ≠ 1 → ∀ F1 : Nat → sy_d, iv_in F1 iv_B0 → (∀ j, j < 82 → j ∉ ([] : List Nat) → F1 j = F j) → (sy_i F1 82).toInt = (sy_i F 82).toInt → sy_i F1 82 = sy_i F 82 → (sy_i F1 83).toInt = ((sy_i F 83).toInt + 1) → sy_i F1 83 = (sy_i F 83) + ((1 : Int32)) → hd_W Ls xs d jm_M3 Q (24, sy_dL F1 [some (.inl (.ref 41)), some (.inl (.ref 20)), some (.inl (.ref 46)), some (.inr (.inl 82)), some (.inr (.inl 83))], sy_dS F1 [], sy_dh F1 X1 X2 (iv_H 2), 0, 0))
    (k2 : (sy_i F 83).toInt < (sy_i F 18).toInt → ((sy_ai F 54).getD ((sy_i F 83).toInt).toNat 0).toInt = 1 → ∀ F1 : Nat → sy_d, iv_in F1 iv_B0 → (∀ j, j < 82 → j ∉ ([] : List Nat) → F1 j = F j) → (sy_i F1 82).toInt = (sy_i F 82).toInt → sy_i F1 82 = sy_i F 82 → (sy_i F1 83).toInt = (sy_i F 83).toInt → sy_i F1 83 = sy_i F 83 → hd_W Ls xs d jm_M3 Q (49, sy_dL F1 [some (.inl (.ref 41)), some (.inl (.ref 20)), some (.inl (.ref 46)), some (.inr (.inl 82)), some (.inr (.inl 83))], sy_dS F1 [.inr (.inl 83), .inl (.ref 46), .inl (.ref 20), .inl (.ref 41)], sy_dh F1 X1 X2 (iv_H 2), 0, 0)) :
    hd_W Ls xs d jm_M3 Q (24, sy_dL F [some (.inl (.ref 41)), some (.inl (.ref 20)), some (.inl (.ref 46)), some (.inr (.inl 82)), some (.inr (.inl 83))], sy_dS F [], sy_dh F X1 X2 (iv_H 2), 0, 0) := by
  by_cases g0 : (sy_i F 18).toInt ≤ (sy_i F 83).toInt
  · have c18 := nz_bx hB (k := 18) (lo := 0) (hi := 7) rfl
    exact j2nph_24_p0 hd F X1 X2 hB (by first | exact g0 | (simp only [nz_c]; exact g0)) (fun F1 g e82 e83 => k0 g0 F1 (nz_in0 hB [] (fun j hj hn => g j hj (by simp only [List.mem_cons, List.not_mem_nil, or_false, not_or] at hn; exact trivial)) (List.forall_mem_nil _)) (fun j hj hn => g j hj (by simp only [List.mem_cons, List.not_mem_nil, or_false, not_or] at hn; exact trivial)) ((congrArg Int32.toInt (zz_i e82)).trans (rfl : (sy_i F 82).toInt = (sy_i F 82).toInt)) ((zz_i e82).trans (rfl : sy_i F 82 = sy_i F 82)) ((congrArg Int32.toInt (zz_i e83)).trans (by decide : ((0 : Int32)).toInt = 0)) ((zz_i e83).trans (rfl : (0 : Int32) = (0 : Int32))))
  replace g0 : (sy_i F 83).toInt < (sy_i F 18).toInt := by omega
  by_cases g1 : ((sy_ai F 54).getD ((sy_i F 83).toInt).toNat 0).toInt ≠ 1
  · have c18 := nz_bx hB (k := 18) (lo := 0) (hi := 7) rfl
    have q84 : (sy_ai F 54).getD (sy_i F 83).toNatClampNeg 0 = (sy_ai F 54).getD ((sy_i F 83).toInt).toNat 0 := by simp only [nz_c]
    have n84 : nzI ((sy_ai F 54).getD (sy_i F 83).toNatClampNeg 0) (((sy_ai F 54).getD ((sy_i F 83).toInt).toNat 0).toInt) := congrArg Int32.toInt q84
    have n85 : nzI ((sy_i F 83) + ((1 : Int32))) (((sy_i F 83).toInt + 1)) := nz_add (rfl : (sy_i F 83).toInt = (sy_i F 83).toInt) (by decide : ((1 : Int32)).toInt = 1) (by omega) (by omega)
    exact j2nph_24_p1 hd F X1 X2 hB (by first | exact g0 | (simp only [nz_c]; exact g0)) (by first | exact ⟨by omega, by omega⟩ | (simp only [nz_c]; exact ⟨by omega, by omega⟩)) (by first | exact g1 | (simp only [nz_c]; exact g1) | (rw [(nzE n84)]; exact g1)) (fun F1 g e82 e83 => k1 g0 g1 F1 (nz_in0 hB [] (fun j hj hn => g j hj (by simp only [List.mem_cons, List.not_mem_nil, or_false, not_or] at hn; exact trivial)) (List.forall_mem_nil _)) (fun j hj hn => g j hj (by simp only [List.mem_cons, List.not_mem_nil, or_false, not_or] at hn; exact trivial)) ((congrArg Int32.toInt (zz_i e82)).trans (rfl : (sy_i F 82).toInt = (sy_i F 82).toInt)) ((zz_i e82).trans (rfl : sy_i F 82 = sy_i F 82)) ((congrArg Int32.toInt (zz_i e83)).trans (nzE n85)) ((zz_i e83).trans (rfl : (sy_i F 83) + ((1 : Int32)) = (sy_i F 83) + ((1 : Int32)))))
  replace g1 : ((sy_ai F 54).getD ((sy_i F 83).toInt).toNat 0).toInt = 1 := by omega
  have c18 := nz_bx hB (k := 18) (lo := 0) (hi := 7) rfl
  have q84 : (sy_ai F 54).getD (sy_i F 83).toNatClampNeg 0 = (sy_ai F 54).getD ((sy_i F 83).toInt).toNat 0 := by simp only [nz_c]
  have n84 : nzI ((sy_ai F 54).getD (sy_i F 83).toNatClampNeg 0) (((sy_ai F 54).getD ((sy_i F 83).toInt).toNat 0).toInt) := congrArg Int32.toInt q84
  exact j2nph_24_p2 hd F X1 X2 hB (by first | exact g0 | (simp only [nz_c]; exact g0)) (by first | exact ⟨by omega, by omega⟩ | (simp only [nz_c]; exact ⟨by omega, by omega⟩)) (by first | exact g1 | (simp only [nz_c]; exact g1) | (rw [(nzE n84)]; exact g1)) (fun F1 g e82 e83 => k2 g0 g1 F1 (nz_in0 hB [] (fun j hj hn => g j hj (by simp only [List.mem_cons, List.not_mem_nil, or_false, not_or] at hn; exact trivial)) (List.forall_mem_nil _)) (fun j hj hn => g j hj (by simp only [List.mem_cons, List.not_mem_nil, or_false, not_or] at hn; exact trivial)) ((congrArg Int32.toInt (zz_i e82)).trans (rfl : (sy_i F 82).toInt = (sy_i F 82).toInt)) ((zz_i e82).trans (rfl : sy_i F 82 = sy_i F 82)) ((congrArg Int32.toInt (zz_i e83)).trans (rfl : (sy_i F 83).toInt = (sy_i F 83).toInt)) ((zz_i e83).trans (rfl : sy_i F 83 = sy_i F 83)))
theorem j2nph_52_p0 {Ls : Nat} {xs : Nat → Int32} {d : Nat} {Q : Option Value → jm_h → Prop} (hd : 1 ≤ d) (F : Nat → sy_d) (X1 X2 : List jm_c) (hB : iv_in F iv_B0)
    (k : ∀ F1 : Nat → sy_d, (∀ j, j < 82 → True → F1 j = F j) → F1 82 = .inl (.int (sy_i F 82)) → F1 83 = .inl (.int ((sy_i F 83) + ((1 : Int32)))) → hd_W Ls xs d jm_M3 Q (24, sy_dL F1 [some (.inl (.ref 41)), some (.inl (.ref 20)), some (.inl (.ref 46)), some (.inr (.inl 82)), some (.inr (.inl 83))], sy_dS F1 [], sy_dh F1 X1 X2 (iv_H 2), 0, 0)) :
    hd_W Ls xs d jm_M3 Q (52, sy_dL F [some (.inl (.ref 41)), some (.inl (.ref 20)), some (.inl (.ref 46)), some (.inr (.inl 82)), some (.inr (.inl 83))], sy_dS F [], sy_dh F X1 X2 (iv_H 2), 0, 0) := by
  refine hd_run (s := 2) (nv := 84) (pc := 24) (L := [some (.inl (.ref 41)), some (.inl (.ref 20)), some (.inl (.ref 46)), some (.inr (.inl 82)), some (.inr (.inl 83))]) (S := []) (uh := hd_ov (iv_id 0 iv_B0) []) (ul := [.inl (.inr (.inl 82)), .inl (.inr (.inl 84))]) (f := false) (sp := [24]) (d0 := 0) (O := []) (T := [(0, [.inr (.inl 83), .inl (.int 1)], [])]) (P := []) jm_ok3 (by decide +kernel) (by decide +kernel) hd F X1 X2 (fun F' hF hs => ?_)
  have b82 := hd_b (F := F) (F' := F') (k := 82) (hF 82 (by decide))
  have b83 := hd_b (F := F) (F' := F') (k := 83) (hF 83 (by decide))
  have t84 : sy_dv F' (.inr (.inl 84)) = .int ((sy_i F 83) + ((1 : Int32))) := hd_o (hs 0 _ rfl) b83 rfl rfl
  have hB' : iv_in F' iv_B0 := iv_in_eq hB (fun j hj => hF j (Nat.lt_of_lt_of_le hj (by decide +kernel)))
  refine ⟨fun _ h => absurd h List.not_mem_nil, ?_⟩
  refine k _ ?_ ?_ ?_
  · exact fun j hj _ => (hd_keep hB' (Nat.lt_of_lt_of_le hj (by decide +kernel)) (by simp)).trans (hF j (Nat.lt_of_lt_of_le hj (by decide)))
  · exact hd_gi (x := .inr (.inl 82)) (by decide +kernel) b82
  · exact hd_gi (x := .inr (.inl 84)) (by decide +kernel) t84
theorem j2nph_52 {Ls : Nat} {xs : Nat → Int32} {d : Nat} {Q : Option Value → jm_h → Prop} (hd : 1 ≤ d) (F : Nat → sy_d) (X1 X2 : List jm_c) (hB : iv_in F iv_B0)
    (a83 : 0 ≤ (sy_i F 83).toInt ∧ (sy_i F 83).toInt ≤ 6)
    (k0 : ∀ F1 : Nat → sy_d, iv_in F1 iv_B0 → (∀ j, j < 82 → j ∉ ([] : List Nat) → F1 j = F j) → (sy_i F1 82).toInt = (sy_i F 82).toInt → sy_i F1 82 = sy_i F 82 → (sy_i F1 83).toInt = ((sy_i F 83).toInt + 1) → sy_i F1 83 = (sy_i F 83) + ((1 : Int32)) → hd_W Ls xs d jm_M3 Q (24, sy_dL F1 [some (.inl (.ref 41)), some (.inl (.ref 20)), some (.inl (.ref 46)), some (.inr (.inl 82)), some (.inr (.inl 83))], sy_dS F1 [], sy_dh F1 X1 X2 (iv_H 2), 0, 0)) :
    hd_W Ls xs d jm_M3 Q (52, sy_dL F [some (.inl (.ref 41)), some (.inl (.ref 20)), some (.inl (.ref 46)), some (.inr (.inl 82)), some (.inr (.inl 83))], sy_dS F [], sy_dh F X1 X2 (iv_H 2), 0, 0) := by
  have n84 : nzI ((sy_i F 83) + ((1 : Int32))) (((sy_i F 83).toInt + 1)) := nz_add (rfl : (sy_i F 83).toInt = (sy_i F 83).toInt) (by decide : ((1 : Int32)).toInt = 1) (by omega) (by omega)
  exact j2nph_52_p0 hd F X1 X2 hB  (fun F1 g e82 e83 => k0 F1 (nz_in0 hB [] (fun j hj hn => g j hj (by simp only [List.mem_cons, List.not_mem_nil, or_false, not_or] at hn; exact trivial)) (List.forall_mem_nil _)) (fun j hj hn => g j hj (by simp only [List.mem_cons, List.not_mem_nil, or_false, not_or] at hn; exact trivial)) ((congrArg Int32.toInt (zz_i e82)).trans (rfl : (sy_i F 82).toInt = (sy_i F 82).toInt)) ((zz_i e82).trans (rfl : sy_i F 82 = sy_i F 82)) ((congrArg Int32.toInt (zz_i e83)).trans (nzE n84)) ((zz_i e83).trans (rfl : (sy_i F 83) + ((1 : Int32)) = (sy_i F 83) + ((1 : Int32)))))
theorem j2nph_61_p0 {Ls : Nat} {xs : Nat → Int32} {d : Nat} {Q : Option Value → jm_h → Prop} (hd : 3 ≤ d) (F : Nat → sy_d) (X1 X2 : List jm_c) (hB : iv_in F iv_B0)
    (h0 : (sy_i F 18).toInt ≤ (sy_i F 83).toInt)
    (k : ∀ F1 : Nat → sy_d, (∀ j, j < 82 → j ≠ 50 ∧ j ≠ 58 → F1 j = F j) → F1 50 = .inl (.int ((sy_i F 50) + ((1 : Int32)))) → F1 58 = .inr (.inl (jm_upd (jm_upd (jm_upd (jm_upd (jm_upd (jm_upd (jm_upd (sy_ai F 58) ((0 : Int32)).toNatClampNeg ((0 : Int32))) ((1 : Int32)).toNatClampNeg ((0 : Int32))) ((2 : Int32)).toNatClampNeg ((0 : Int32))) ((3 : Int32)).toNatClampNeg ((0 : Int32))) ((4 : Int32)).toNatClampNeg ((0 : Int32))) ((5 : Int32)).toNatClampNeg ((0 : Int32))) ((6 : Int32)).toNatClampNeg ((0 : Int32)))) → Q (none) (sy_dh F1 X1 X2 (iv_H 2))) :
    hd_W Ls xs d jm_M3 Q (61, sy_dL F [some (.inl (.ref 41)), some (.inl (.ref 20)), some (.inl (.ref 46)), some (.inr (.inl 82)), some (.inr (.inl 83))], sy_dS F [], sy_dh F X1 X2 (iv_H 2), 0, 0) := by
  refine hd_ret (s := 2) (nv := 84) (v := none) (uh := hd_ov (iv_id 0 iv_B0) [(50, .inl (.inr (.inl 84))), (58, .inr (.inr (.inl 91)))]) (f := true) (sp := [61, 111]) (d0 := 2) (O := [true]) (T := [(0, [.inr (.inl 50), .inl (.int 1)], []), (40, [.inl (.int 0), .inl (.int 0)], [.inr (.inl 58)]), (40, [.inl (.int 1), .inl (.int 0)], [.inr (.inl 85)]), (40, [.inl (.int 2), .inl (.int 0)], [.inr (.inl 86)]), (40, [.inl (.int 3), .inl (.int 0)], [.inr (.inl 87)]), (40, [.inl (.int 4), .inl (.int 0)], [.inr (.inl 88)]), (40, [.inl (.int 5), .inl (.int 0)], [.inr (.inl 89)]), (40, [.inl (.int 6), .inl (.int 0)], [.inr (.inl 90)])]) (P := [(4, .inr (.inl 18), .inr (.inl 83))]) jm_ok3 (by decide +kernel) (by decide +kernel) hd F X1 X2 (fun F' hF hs => ?_)
  have b18 := hd_b (F := F) (F' := F') (k := 18) (hF 18 (by decide))
  have b83 := hd_b (F := F) (F' := F') (k := 83) (hF 83 (by decide))
  have b50 := hd_b (F := F) (F' := F') (k := 50) (hF 50 (by decide))
  have t84 : sy_dv F' (.inr (.inl 84)) = .int ((sy_i F 50) + ((1 : Int32))) := hd_o (hs 0 _ rfl) b50 rfl rfl
  have a58 := hd_ba (F := F) (F' := F') (k := 58) (hF 58 (by decide))
  have t85 : sy_da F' (.inr (.inl 85)) = .inl (jm_upd (sy_ai F 58) ((0 : Int32)).toNatClampNeg ((0 : Int32))) := hd_up (hs 1 _ rfl) rfl rfl a58
  have t86 : sy_da F' (.inr (.inl 86)) = .inl (jm_upd (jm_upd (sy_ai F 58) ((0 : Int32)).toNatClampNeg ((0 : Int32))) ((1 : Int32)).toNatClampNeg ((0 : Int32))) := hd_up (hs 2 _ rfl) rfl rfl t85
  have t87 : sy_da F' (.inr (.inl 87)) = .inl (jm_upd (jm_upd (jm_upd (sy_ai F 58) ((0 : Int32)).toNatClampNeg ((0 : Int32))) ((1 : Int32)).toNatClampNeg ((0 : Int32))) ((2 : Int32)).toNatClampNeg ((0 : Int32))) := hd_up (hs 3 _ rfl) rfl rfl t86
  have t88 : sy_da F' (.inr (.inl 88)) = .inl (jm_upd (jm_upd (jm_upd (jm_upd (sy_ai F 58) ((0 : Int32)).toNatClampNeg ((0 : Int32))) ((1 : Int32)).toNatClampNeg ((0 : Int32))) ((2 : Int32)).toNatClampNeg ((0 : Int32))) ((3 : Int32)).toNatClampNeg ((0 : Int32))) := hd_up (hs 4 _ rfl) rfl rfl t87
  have t89 : sy_da F' (.inr (.inl 89)) = .inl (jm_upd (jm_upd (jm_upd (jm_upd (jm_upd (sy_ai F 58) ((0 : Int32)).toNatClampNeg ((0 : Int32))) ((1 : Int32)).toNatClampNeg ((0 : Int32))) ((2 : Int32)).toNatClampNeg ((0 : Int32))) ((3 : Int32)).toNatClampNeg ((0 : Int32))) ((4 : Int32)).toNatClampNeg ((0 : Int32))) := hd_up (hs 5 _ rfl) rfl rfl t88
  have t90 : sy_da F' (.inr (.inl 90)) = .inl (jm_upd (jm_upd (jm_upd (jm_upd (jm_upd (jm_upd (sy_ai F 58) ((0 : Int32)).toNatClampNeg ((0 : Int32))) ((1 : Int32)).toNatClampNeg ((0 : Int32))) ((2 : Int32)).toNatClampNeg ((0 : Int32))) ((3 : Int32)).toNatClampNeg ((0 : Int32))) ((4 : Int32)).toNatClampNeg ((0 : Int32))) ((5 : Int32)).toNatClampNeg ((0 : Int32))) := hd_up (hs 6 _ rfl) rfl rfl t89
  have t91 : sy_da F' (.inr (.inl 91)) = .inl (jm_upd (jm_upd (jm_upd (jm_upd (jm_upd (jm_upd (jm_upd (sy_ai F 58) ((0 : Int32)).toNatClampNeg ((0 : Int32))) ((1 : Int32)).toNatClampNeg ((0 : Int32))) ((2 : Int32)).toNatClampNeg ((0 : Int32))) ((3 : Int32)).toNatClampNeg ((0 : Int32))) ((4 : Int32)).toNatClampNeg ((0 : Int32))) ((5 : Int32)).toNatClampNeg ((0 : Int32))) ((6 : Int32)).toNatClampNeg ((0 : Int32))) := hd_up (hs 7 _ rfl) rfl rfl t90
  have hB' : iv_in F' iv_B0 := iv_in_eq hB (fun j hj => hF j (Nat.lt_of_lt_of_le hj (by decide +kernel)))
  refine ⟨List.forall_mem_cons.mpr ⟨hd_p4 b18 b83 h0, fun _ h => absurd h List.not_mem_nil⟩, ?_⟩
  refine k _ ?_ ?_ ?_
  · exact fun j hj hn => (hd_keep hB' (Nat.lt_of_lt_of_le hj (by decide +kernel)) (by simp; omega)).trans (hF j (Nat.lt_of_lt_of_le hj (by decide)))
  · exact hd_gi (x := .inr (.inl 84)) (by decide +kernel) t84
  · exact hd_ga (a := .inr (.inl 91)) (by decide +kernel) t91
theorem j2nph_61_p1 {Ls : Nat} {xs : Nat → Int32} {d : Nat} {Q : Option Value → jm_h → Prop} (hd : 3 ≤ d) (F : Nat → sy_d) (X1 X2 : List jm_c) (hB : iv_in F iv_B0)
    (h0 : (sy_i F 83).toInt < (sy_i F 18).toInt)
    (h1 : 0 ≤ (sy_i F 83).toInt ∧ (sy_i F 83).toInt < 7)
    (h2 : ((sy_ai F 54).getD (sy_i F 83).toNatClampNeg 0).toInt ≠ 0)
    (k : ∀ F1 : Nat → sy_d, (∀ j, j < 82 → True → F1 j = F j) → F1 82 = .inl (.int (sy_i F 82)) → F1 83 = .inl (.int ((sy_i F 83) + ((1 : Int32)))) → hd_W Ls xs d jm_M3 Q (61, sy_dL F1 [some (.inl (.ref 41)), some (.inl (.ref 20)), some (.inl (.ref 46)), some (.inr (.inl 82)), some (.inr (.inl 83))], sy_dS F1 [], sy_dh F1 X1 X2 (iv_H 2), 0, 0)) :
    hd_W Ls xs d jm_M3 Q (61, sy_dL F [some (.inl (.ref 41)), some (.inl (.ref 20)), some (.inl (.ref 46)), some (.inr (.inl 82)), some (.inr (.inl 83))], sy_dS F [], sy_dh F X1 X2 (iv_H 2), 0, 0) := by
  refine hd_run (s := 2) (nv := 84) (pc := 61) (L := [some (.inl (.ref 41)), some (.inl (.ref 20)), some (.inl (.ref 46)), some (.inr (.inl 82)), some (.inr (.inl 83))]) (S := []) (uh := hd_ov (iv_id 0 iv_B0) []) (ul := [.inl (.inr (.inl 82)), .inl (.inr (.inl 85))]) (f := true) (sp := [61, 111]) (d0 := 2) (O := [false, true]) (T := [(30, [.inr (.inl 83)], [.inr (.inl 54)]), (0, [.inr (.inl 83), .inl (.int 1)], [])]) (P := [(5, .inr (.inl 18), .inr (.inl 83)), (6, .inr (.inl 83), .inl (.ref 7)), (1, .inr (.inl 84), .inl (.int 0))]) jm_ok3 (by decide +kernel) (by decide +kernel) hd F X1 X2 (fun F' hF hs => ?_)
  have b18 := hd_b (F := F) (F' := F') (k := 18) (hF 18 (by decide))
  have b83 := hd_b (F := F) (F' := F') (k := 83) (hF 83 (by decide))
  have a54 := hd_ba (F := F) (F' := F') (k := 54) (hF 54 (by decide))
  have t84 : sy_dv F' (.inr (.inl 84)) = .int ((sy_ai F 54).getD (sy_i F 83).toNatClampNeg 0) := hd_rd (hs 0 _ rfl) b83 a54
  have b82 := hd_b (F := F) (F' := F') (k := 82) (hF 82 (by decide))
  have t85 : sy_dv F' (.inr (.inl 85)) = .int ((sy_i F 83) + ((1 : Int32))) := hd_o (hs 1 _ rfl) b83 rfl rfl
  have hB' : iv_in F' iv_B0 := iv_in_eq hB (fun j hj => hF j (Nat.lt_of_lt_of_le hj (by decide +kernel)))
  refine ⟨List.forall_mem_cons.mpr ⟨hd_p5 b18 b83 h0, List.forall_mem_cons.mpr ⟨hd_pb b83 (by first | exact h1 | exact h1), List.forall_mem_cons.mpr ⟨hd_p1 t84 rfl (by have hc : ((0) : Int32).toInt = 0 := (by decide); omega), fun _ h => absurd h List.not_mem_nil⟩⟩⟩, ?_⟩
  refine k _ ?_ ?_ ?_
  · exact fun j hj _ => (hd_keep hB' (Nat.lt_of_lt_of_le hj (by decide +kernel)) (by simp)).trans (hF j (Nat.lt_of_lt_of_le hj (by decide)))
  · exact hd_gi (x := .inr (.inl 82)) (by decide +kernel) b82
  · exact hd_gi (x := .inr (.inl 85)) (by decide +kernel) t85
theorem j2nph_61_p2 {Ls : Nat} {xs : Nat → Int32} {d : Nat} {Q : Option Value → jm_h → Prop} (hd : 3 ≤ d) (F : Nat → sy_d) (X1 X2 : List jm_c) (hB : iv_in F iv_B0)
    (h0 : (sy_i F 83).toInt < (sy_i F 18).toInt)
    (h1 : 0 ≤ (sy_i F 83).toInt ∧ (sy_i F 83).toInt < 7)
    (h2 : ((sy_ai F 54).getD (sy_i F 83).toNatClampNeg 0).toInt = 0)
    (h3 : 0 ≤ (sy_i F 83).toInt ∧ (sy_i F 83).toInt < 7)
    (h4 : 0 ≤ (sy_i F 83).toInt ∧ (sy_i F 83).toInt < 7)
    (h5 : 0 ≤ (sy_i F 83).toInt ∧ (sy_i F 83).toInt < 7)
    (h6 : 0 ≤ (sy_i F 83).toInt ∧ (sy_i F 83).toInt < 7)
    (h7 : 0 ≤ (sy_i F 83).toInt ∧ (sy_i F 83).toInt < 7)
    (h8 : 0 ≤ (sy_i F 83).toInt ∧ (sy_i F 83).toInt < 7)
    (k : ∀ F1 : Nat → sy_d, (∀ j, j < 82 → j ≠ 45 → F1 j = F j) → F1 45 = .inr (.inl (jm_upd (jm_upd (jm_upd (jm_upd (jm_upd (jm_upd (sy_ai F 45) ((0 : Int32)).toNatClampNeg ((sy_ai F 53).getD (sy_i F 83).toNatClampNeg 0)) ((1 : Int32)).toNatClampNeg ((sy_ai F 25).getD (sy_i F 83).toNatClampNeg 0)) ((4 : Int32)).toNatClampNeg ((sy_ai F 24).getD (sy_i F 83).toNatClampNeg 0)) ((5 : Int32)).toNatClampNeg ((sy_ai F 58).getD (sy_i F 83).toNatClampNeg 0)) ((6 : Int32)).toNatClampNeg ((sy_ai F 57).getD (sy_i F 83).toNatClampNeg 0)) ((7 : Int32)).toNatClampNeg ((sy_ai F 56).getD (sy_i F 83).toNatClampNeg 0))) → F1 82 = .inl (.int (sy_i F 82)) → F1 83 = .inl (.int (sy_i F 83)) → F1 84 = .inl (.int (((((((((((((sy_i F 82) ^^^ ((101 : Int32))) * ((1103515245 : Int32))) + ((12345 : Int32))) ^^^ (((((((sy_i F 82) ^^^ ((101 : Int32))) * ((1103515245 : Int32))) + ((12345 : Int32)))).toUInt32 >>> ((((15 : Int32))).toUInt32 &&& Int32.toUInt32 31)).toInt32)) ^^^ ((((16 : Int32)) * (sy_i F 50)) + (sy_i F 83))) * ((1103515245 : Int32))) + ((12345 : Int32))) ^^^ (((((((((((sy_i F 82) ^^^ ((101 : Int32))) * ((1103515245 : Int32))) + ((12345 : Int32))) ^^^ (((((((sy_i F 82) ^^^ ((101 : Int32))) * ((1103515245 : Int32))) + ((12345 : Int32)))).toUInt32 >>> ((((15 : Int32))).toUInt32 &&& Int32.toUInt32 31)).toInt32)) ^^^ ((((16 : Int32)) * (sy_i F 50)) + (sy_i F 83))) * ((1103515245 : Int32))) + ((12345 : Int32)))).toUInt32 >>> ((((15 : Int32))).toUInt32 &&& Int32.toUInt32 31)).toInt32))).toUInt32 >>> ((((1 : Int32))).toUInt32 &&& Int32.toUInt32 31)).toInt32) - ((((((((((((sy_i F 82) ^^^ ((101 : Int32))) * ((1103515245 : Int32))) + ((12345 : Int32))) ^^^ (((((((sy_i F 82) ^^^ ((101 : Int32))) * ((1103515245 : Int32))) + ((12345 : Int32)))).toUInt32 >>> ((((15 : Int32))).toUInt32 &&& Int32.toUInt32 31)).toInt32)) ^^^ ((((16 : Int32)) * (sy_i F 50)) + (sy_i F 83))) * ((1103515245 : Int32))) + ((12345 : Int32))) ^^^ (((((((((((sy_i F 82) ^^^ ((101 : Int32))) * ((1103515245 : Int32))) + ((12345 : Int32))) ^^^ (((((((sy_i F 82) ^^^ ((101 : Int32))) * ((1103515245 : Int32))) + ((12345 : Int32)))).toUInt32 >>> ((((15 : Int32))).toUInt32 &&& Int32.toUInt32 31)).toInt32)) ^^^ ((((16 : Int32)) * (sy_i F 50)) + (sy_i F 83))) * ((1103515245 : Int32))) + ((12345 : Int32)))).toUInt32 >>> ((((15 : Int32))).toUInt32 &&& Int32.toUInt32 31)).toInt32))).toUInt32 >>> ((((1 : Int32))).toUInt32 &&& Int32.toUInt32 31)).toInt32) / ((100 : Int32)) * ((100 : Int32)))) → hd_W Ls xs d jm_M3 Q (111, sy_dL F1 [some (.inl (.ref 41)), some (.inl (.ref 20)), some (.inl (.ref 46)), some (.inr (.inl 82)), some (.inr (.inl 83))], sy_dS F1 [.inl (.int 2), .inl (.ref 20), .inl (.ref 38), .inr (.inl 84)], sy_dh F1 X1 X2 (iv_H 2), 0, 0)) :
    hd_W Ls xs d jm_M3 Q (61, sy_dL F [some (.inl (.ref 41)), some (.inl (.ref 20)), some (.inl (.ref 46)), some (.inr (.inl 82)), some (.inr (.inl 83))], sy_dS F [], sy_dh F X1 X2 (iv_H 2), 0, 0) := by
  refine hd_run (s := 2) (nv := 84) (pc := 111) (L := [some (.inl (.ref 41)), some (.inl (.ref 20)), some (.inl (.ref 46)), some (.inr (.inl 82)), some (.inr (.inl 83))]) (S := [.inl (.int 2), .inl (.ref 20), .inl (.ref 38), .inr (.inl 84)]) (uh := hd_ov (iv_id 0 iv_B0) [(45, .inr (.inr (.inl 96)))]) (ul := [.inl (.inr (.inl 82)), .inl (.inr (.inl 83)), .inl (.inr (.inl 110))]) (f := true) (sp := [61, 111]) (d0 := 2) (O := [false, false]) (T := [(30, [.inr (.inl 83)], [.inr (.inl 54)]), (30, [.inr (.inl 83)], [.inr (.inl 53)]), (40, [.inl (.int 0), .inr (.inl 85)], [.inr (.inl 45)]), (30, [.inr (.inl 83)], [.inr (.inl 25)]), (40, [.inl (.int 1), .inr (.inl 87)], [.inr (.inl 86)]), (30, [.inr (.inl 83)], [.inr (.inl 24)]), (40, [.inl (.int 4), .inr (.inl 89)], [.inr (.inl 88)]), (30, [.inr (.inl 83)], [.inr (.inl 58)]), (40, [.inl (.int 5), .inr (.inl 91)], [.inr (.inl 90)]), (30, [.inr (.inl 83)], [.inr (.inl 57)]), (40, [.inl (.int 6), .inr (.inl 93)], [.inr (.inl 92)]), (30, [.inr (.inl 83)], [.inr (.inl 56)]), (40, [.inl (.int 7), .inr (.inl 95)], [.inr (.inl 94)]), (2, [.inl (.int 16), .inr (.inl 50)], []), (0, [.inr (.inl 97), .inr (.inl 83)], []), (5, [.inr (.inl 82), .inl (.int 101)], []), (2, [.inr (.inl 99), .inl (.int 1103515245)], []), (0, [.inr (.inl 100), .inl (.int 12345)], []), (8, [.inr (.inl 101), .inl (.int 15)], []), (5, [.inr (.inl 101), .inr (.inl 102)], []), (5, [.inr (.inl 103), .inr (.inl 98)], []), (2, [.inr (.inl 104), .inl (.int 1103515245)], []), (0, [.inr (.inl 105), .inl (.int 12345)], []), (8, [.inr (.inl 106), .inl (.int 15)], []), (5, [.inr (.inl 106), .inr (.inl 107)], []), (8, [.inr (.inl 108), .inl (.int 1)], []), (10, [.inr (.inl 109), .inl (.int 100)], [])]) (P := [(5, .inr (.inl 18), .inr (.inl 83)), (6, .inr (.inl 83), .inl (.ref 7)), (0, .inr (.inl 84), .inl (.int 0)), (6, .inr (.inl 83), .inl (.ref 7)), (6, .inr (.inl 83), .inl (.ref 7)), (6, .inr (.inl 83), .inl (.ref 7)), (6, .inr (.inl 83), .inl (.ref 7)), (6, .inr (.inl 83), .inl (.ref 7)), (6, .inr (.inl 83), .inl (.ref 7)), (1, .inl (.int 100), .inl (.int 0))]) jm_ok3 (by decide +kernel) (by decide +kernel) hd F X1 X2 (fun F' hF hs => ?_)
  have b18 := hd_b (F := F) (F' := F') (k := 18) (hF 18 (by decide))
  have b83 := hd_b (F := F) (F' := F') (k := 83) (hF 83 (by decide))
  have a54 := hd_ba (F := F) (F' := F') (k := 54) (hF 54 (by decide))
  have t84 : sy_dv F' (.inr (.inl 84)) = .int ((sy_ai F 54).getD (sy_i F 83).toNatClampNeg 0) := hd_rd (hs 0 _ rfl) b83 a54
  have a56 := hd_ba (F := F) (F' := F') (k := 56) (hF 56 (by decide))
  have t95 : sy_dv F' (.inr (.inl 95)) = .int ((sy_ai F 56).getD (sy_i F 83).toNatClampNeg 0) := hd_rd (hs 11 _ rfl) b83 a56
  have a57 := hd_ba (F := F) (F' := F') (k := 57) (hF 57 (by decide))
  have t93 : sy_dv F' (.inr (.inl 93)) = .int ((sy_ai F 57).getD (sy_i F 83).toNatClampNeg 0) := hd_rd (hs 9 _ rfl) b83 a57
  have a58 := hd_ba (F := F) (F' := F') (k := 58) (hF 58 (by decide))
  have t91 : sy_dv F' (.inr (.inl 91)) = .int ((sy_ai F 58).getD (sy_i F 83).toNatClampNeg 0) := hd_rd (hs 7 _ rfl) b83 a58
  have a24 := hd_ba (F := F) (F' := F') (k := 24) (hF 24 (by decide))
  have t89 : sy_dv F' (.inr (.inl 89)) = .int ((sy_ai F 24).getD (sy_i F 83).toNatClampNeg 0) := hd_rd (hs 5 _ rfl) b83 a24
  have a25 := hd_ba (F := F) (F' := F') (k := 25) (hF 25 (by decide))
  have t87 : sy_dv F' (.inr (.inl 87)) = .int ((sy_ai F 25).getD (sy_i F 83).toNatClampNeg 0) := hd_rd (hs 3 _ rfl) b83 a25
  have a53 := hd_ba (F := F) (F' := F') (k := 53) (hF 53 (by decide))
  have t85 : sy_dv F' (.inr (.inl 85)) = .int ((sy_ai F 53).getD (sy_i F 83).toNatClampNeg 0) := hd_rd (hs 1 _ rfl) b83 a53
  have a45 := hd_ba (F := F) (F' := F') (k := 45) (hF 45 (by decide))
  have t86 : sy_da F' (.inr (.inl 86)) = .inl (jm_upd (sy_ai F 45) ((0 : Int32)).toNatClampNeg ((sy_ai F 53).getD (sy_i F 83).toNatClampNeg 0)) := hd_up (hs 2 _ rfl) rfl t85 a45
  have t88 : sy_da F' (.inr (.inl 88)) = .inl (jm_upd (jm_upd (sy_ai F 45) ((0 : Int32)).toNatClampNeg ((sy_ai F 53).getD (sy_i F 83).toNatClampNeg 0)) ((1 : Int32)).toNatClampNeg ((sy_ai F 25).getD (sy_i F 83).toNatClampNeg 0)) := hd_up (hs 4 _ rfl) rfl t87 t86
  have t90 : sy_da F' (.inr (.inl 90)) = .inl (jm_upd (jm_upd (jm_upd (sy_ai F 45) ((0 : Int32)).toNatClampNeg ((sy_ai F 53).getD (sy_i F 83).toNatClampNeg 0)) ((1 : Int32)).toNatClampNeg ((sy_ai F 25).getD (sy_i F 83).toNatClampNeg 0)) ((4 : Int32)).toNatClampNeg ((sy_ai F 24).getD (sy_i F 83).toNatClampNeg 0)) := hd_up (hs 6 _ rfl) rfl t89 t88
  have t92 : sy_da F' (.inr (.inl 92)) = .inl (jm_upd (jm_upd (jm_upd (jm_upd (sy_ai F 45) ((0 : Int32)).toNatClampNeg ((sy_ai F 53).getD (sy_i F 83).toNatClampNeg 0)) ((1 : Int32)).toNatClampNeg ((sy_ai F 25).getD (sy_i F 83).toNatClampNeg 0)) ((4 : Int32)).toNatClampNeg ((sy_ai F 24).getD (sy_i F 83).toNatClampNeg 0)) ((5 : Int32)).toNatClampNeg ((sy_ai F 58).getD (sy_i F 83).toNatClampNeg 0)) := hd_up (hs 8 _ rfl) rfl t91 t90
  have t94 : sy_da F' (.inr (.inl 94)) = .inl (jm_upd (jm_upd (jm_upd (jm_upd (jm_upd (sy_ai F 45) ((0 : Int32)).toNatClampNeg ((sy_ai F 53).getD (sy_i F 83).toNatClampNeg 0)) ((1 : Int32)).toNatClampNeg ((sy_ai F 25).getD (sy_i F 83).toNatClampNeg 0)) ((4 : Int32)).toNatClampNeg ((sy_ai F 24).getD (sy_i F 83).toNatClampNeg 0)) ((5 : Int32)).toNatClampNeg ((sy_ai F 58).getD (sy_i F 83).toNatClampNeg 0)) ((6 : Int32)).toNatClampNeg ((sy_ai F 57).getD (sy_i F 83).toNatClampNeg 0)) := hd_up (hs 10 _ rfl) rfl t93 t92
  have t96 : sy_da F' (.inr (.inl 96)) = .inl (jm_upd (jm_upd (jm_upd (jm_upd (jm_upd (jm_upd (sy_ai F 45) ((0 : Int32)).toNatClampNeg ((sy_ai F 53).getD (sy_i F 83).toNatClampNeg 0)) ((1 : Int32)).toNatClampNeg ((sy_ai F 25).getD (sy_i F 83).toNatClampNeg 0)) ((4 : Int32)).toNatClampNeg ((sy_ai F 24).getD (sy_i F 83).toNatClampNeg 0)) ((5 : Int32)).toNatClampNeg ((sy_ai F 58).getD (sy_i F 83).toNatClampNeg 0)) ((6 : Int32)).toNatClampNeg ((sy_ai F 57).getD (sy_i F 83).toNatClampNeg 0)) ((7 : Int32)).toNatClampNeg ((sy_ai F 56).getD (sy_i F 83).toNatClampNeg 0)) := hd_up (hs 12 _ rfl) rfl t95 t94
  have b82 := hd_b (F := F) (F' := F') (k := 82) (hF 82 (by decide))
  have t99 : sy_dv F' (.inr (.inl 99)) = .int ((sy_i F 82) ^^^ ((101 : Int32))) := hd_o (hs 15 _ rfl) b82 rfl rfl
  have t100 : sy_dv F' (.inr (.inl 100)) = .int (((sy_i F 82) ^^^ ((101 : Int32))) * ((1103515245 : Int32))) := hd_o (hs 16 _ rfl) t99 rfl rfl
  have t101 : sy_dv F' (.inr (.inl 101)) = .int ((((sy_i F 82) ^^^ ((101 : Int32))) * ((1103515245 : Int32))) + ((12345 : Int32))) := hd_o (hs 17 _ rfl) t100 rfl rfl
  have t102 : sy_dv F' (.inr (.inl 102)) = .int (((((((sy_i F 82) ^^^ ((101 : Int32))) * ((1103515245 : Int32))) + ((12345 : Int32)))).toUInt32 >>> ((((15 : Int32))).toUInt32 &&& Int32.toUInt32 31)).toInt32) := hd_o (hs 18 _ rfl) t101 rfl rfl
  have t103 : sy_dv F' (.inr (.inl 103)) = .int (((((sy_i F 82) ^^^ ((101 : Int32))) * ((1103515245 : Int32))) + ((12345 : Int32))) ^^^ (((((((sy_i F 82) ^^^ ((101 : Int32))) * ((1103515245 : Int32))) + ((12345 : Int32)))).toUInt32 >>> ((((15 : Int32))).toUInt32 &&& Int32.toUInt32 31)).toInt32)) := hd_o (hs 19 _ rfl) t101 t102 rfl
  have b50 := hd_b (F := F) (F' := F') (k := 50) (hF 50 (by decide))
  have t97 : sy_dv F' (.inr (.inl 97)) = .int (((16 : Int32)) * (sy_i F 50)) := hd_o (hs 13 _ rfl) rfl b50 rfl
  have t98 : sy_dv F' (.inr (.inl 98)) = .int ((((16 : Int32)) * (sy_i F 50)) + (sy_i F 83)) := hd_o (hs 14 _ rfl) t97 b83 rfl
  have t104 : sy_dv F' (.inr (.inl 104)) = .int ((((((sy_i F 82) ^^^ ((101 : Int32))) * ((1103515245 : Int32))) + ((12345 : Int32))) ^^^ (((((((sy_i F 82) ^^^ ((101 : Int32))) * ((1103515245 : Int32))) + ((12345 : Int32)))).toUInt32 >>> ((((15 : Int32))).toUInt32 &&& Int32.toUInt32 31)).toInt32)) ^^^ ((((16 : Int32)) * (sy_i F 50)) + (sy_i F 83))) := hd_o (hs 20 _ rfl) t103 t98 rfl
  have t105 : sy_dv F' (.inr (.inl 105)) = .int (((((((sy_i F 82) ^^^ ((101 : Int32))) * ((1103515245 : Int32))) + ((12345 : Int32))) ^^^ (((((((sy_i F 82) ^^^ ((101 : Int32))) * ((1103515245 : Int32))) + ((12345 : Int32)))).toUInt32 >>> ((((15 : Int32))).toUInt32 &&& Int32.toUInt32 31)).toInt32)) ^^^ ((((16 : Int32)) * (sy_i F 50)) + (sy_i F 83))) * ((1103515245 : Int32))) := hd_o (hs 21 _ rfl) t104 rfl rfl
  have t106 : sy_dv F' (.inr (.inl 106)) = .int ((((((((sy_i F 82) ^^^ ((101 : Int32))) * ((1103515245 : Int32))) + ((12345 : Int32))) ^^^ (((((((sy_i F 82) ^^^ ((101 : Int32))) * ((1103515245 : Int32))) + ((12345 : Int32)))).toUInt32 >>> ((((15 : Int32))).toUInt32 &&& Int32.toUInt32 31)).toInt32)) ^^^ ((((16 : Int32)) * (sy_i F 50)) + (sy_i F 83))) * ((1103515245 : Int32))) + ((12345 : Int32))) := hd_o (hs 22 _ rfl) t105 rfl rfl
  have t107 : sy_dv F' (.inr (.inl 107)) = .int (((((((((((sy_i F 82) ^^^ ((101 : Int32))) * ((1103515245 : Int32))) + ((12345 : Int32))) ^^^ (((((((sy_i F 82) ^^^ ((101 : Int32))) * ((1103515245 : Int32))) + ((12345 : Int32)))).toUInt32 >>> ((((15 : Int32))).toUInt32 &&& Int32.toUInt32 31)).toInt32)) ^^^ ((((16 : Int32)) * (sy_i F 50)) + (sy_i F 83))) * ((1103515245 : Int32))) + ((12345 : Int32)))).toUInt32 >>> ((((15 : Int32))).toUInt32 &&& Int32.toUInt32 31)).toInt32) := hd_o (hs 23 _ rfl) t106 rfl rfl
  have t108 : sy_dv F' (.inr (.inl 108)) = .int (((((((((sy_i F 82) ^^^ ((101 : Int32))) * ((1103515245 : Int32))) + ((12345 : Int32))) ^^^ (((((((sy_i F 82) ^^^ ((101 : Int32))) * ((1103515245 : Int32))) + ((12345 : Int32)))).toUInt32 >>> ((((15 : Int32))).toUInt32 &&& Int32.toUInt32 31)).toInt32)) ^^^ ((((16 : Int32)) * (sy_i F 50)) + (sy_i F 83))) * ((1103515245 : Int32))) + ((12345 : Int32))) ^^^ (((((((((((sy_i F 82) ^^^ ((101 : Int32))) * ((1103515245 : Int32))) + ((12345 : Int32))) ^^^ (((((((sy_i F 82) ^^^ ((101 : Int32))) * ((1103515245 : Int32))) + ((12345 : Int32)))).toUInt32 >>> ((((15 : Int32))).toUInt32 &&& Int32.toUInt32 31)).toInt32)) ^^^ ((((16 : Int32)) * (sy_i F 50)) + (sy_i F 83))) * ((1103515245 : Int32))) + ((12345 : Int32)))).toUInt32 >>> ((((15 : Int32))).toUInt32 &&& Int32.toUInt32 31)).toInt32)) := hd_o (hs 24 _ rfl) t106 t107 rfl
  have t109 : sy_dv F' (.inr (.inl 109)) = .int ((((((((((((sy_i F 82) ^^^ ((101 : Int32))) * ((1103515245 : Int32))) + ((12345 : Int32))) ^^^ (((((((sy_i F 82) ^^^ ((101 : Int32))) * ((1103515245 : Int32))) + ((12345 : Int32)))).toUInt32 >>> ((((15 : Int32))).toUInt32 &&& Int32.toUInt32 31)).toInt32)) ^^^ ((((16 : Int32)) * (sy_i F 50)) + (sy_i F 83))) * ((1103515245 : Int32))) + ((12345 : Int32))) ^^^ (((((((((((sy_i F 82) ^^^ ((101 : Int32))) * ((1103515245 : Int32))) + ((12345 : Int32))) ^^^ (((((((sy_i F 82) ^^^ ((101 : Int32))) * ((1103515245 : Int32))) + ((12345 : Int32)))).toUInt32 >>> ((((15 : Int32))).toUInt32 &&& Int32.toUInt32 31)).toInt32)) ^^^ ((((16 : Int32)) * (sy_i F 50)) + (sy_i F 83))) * ((1103515245 : Int32))) + ((12345 : Int32)))).toUInt32 >>> ((((15 : Int32))).toUInt32 &&& Int32.toUInt32 31)).toInt32))).toUInt32 >>> ((((1 : Int32))).toUInt32 &&& Int32.toUInt32 31)).toInt32) := hd_o (hs 25 _ rfl) t108 rfl rfl
  have t110 : sy_dv F' (.inr (.inl 110)) = .int (((((((((((((sy_i F 82) ^^^ ((101 : Int32))) * ((1103515245 : Int32))) + ((12345 : Int32))) ^^^ (((((((sy_i F 82) ^^^ ((101 : Int32))) * ((1103515245 : Int32))) + ((12345 : Int32)))).toUInt32 >>> ((((15 : Int32))).toUInt32 &&& Int32.toUInt32 31)).toInt32)) ^^^ ((((16 : Int32)) * (sy_i F 50)) + (sy_i F 83))) * ((1103515245 : Int32))) + ((12345 : Int32))) ^^^ (((((((((((sy_i F 82) ^^^ ((101 : Int32))) * ((1103515245 : Int32))) + ((12345 : Int32))) ^^^ (((((((sy_i F 82) ^^^ ((101 : Int32))) * ((1103515245 : Int32))) + ((12345 : Int32)))).toUInt32 >>> ((((15 : Int32))).toUInt32 &&& Int32.toUInt32 31)).toInt32)) ^^^ ((((16 : Int32)) * (sy_i F 50)) + (sy_i F 83))) * ((1103515245 : Int32))) + ((12345 : Int32)))).toUInt32 >>> ((((15 : Int32))).toUInt32 &&& Int32.toUInt32 31)).toInt32))).toUInt32 >>> ((((1 : Int32))).toUInt32 &&& Int32.toUInt32 31)).toInt32) - ((((((((((((sy_i F 82) ^^^ ((101 : Int32))) * ((1103515245 : Int32))) + ((12345 : Int32))) ^^^ (((((((sy_i F 82) ^^^ ((101 : Int32))) * ((1103515245 : Int32))) + ((12345 : Int32)))).toUInt32 >>> ((((15 : Int32))).toUInt32 &&& Int32.toUInt32 31)).toInt32)) ^^^ ((((16 : Int32)) * (sy_i F 50)) + (sy_i F 83))) * ((1103515245 : Int32))) + ((12345 : Int32))) ^^^ (((((((((((sy_i F 82) ^^^ ((101 : Int32))) * ((1103515245 : Int32))) + ((12345 : Int32))) ^^^ (((((((sy_i F 82) ^^^ ((101 : Int32))) * ((1103515245 : Int32))) + ((12345 : Int32)))).toUInt32 >>> ((((15 : Int32))).toUInt32 &&& Int32.toUInt32 31)).toInt32)) ^^^ ((((16 : Int32)) * (sy_i F 50)) + (sy_i F 83))) * ((1103515245 : Int32))) + ((12345 : Int32)))).toUInt32 >>> ((((15 : Int32))).toUInt32 &&& Int32.toUInt32 31)).toInt32))).toUInt32 >>> ((((1 : Int32))).toUInt32 &&& Int32.toUInt32 31)).toInt32) / ((100 : Int32)) * ((100 : Int32))) := hd_o (hs 26 _ rfl) t109 rfl rfl
  have hB' : iv_in F' iv_B0 := iv_in_eq hB (fun j hj => hF j (Nat.lt_of_lt_of_le hj (by decide +kernel)))
  refine ⟨List.forall_mem_cons.mpr ⟨hd_p5 b18 b83 h0, List.forall_mem_cons.mpr ⟨hd_pb b83 (by first | exact h1 | exact h1), List.forall_mem_cons.mpr ⟨hd_p0 t84 rfl (by have hc : ((0) : Int32).toInt = 0 := (by decide); omega), List.forall_mem_cons.mpr ⟨hd_pb b83 (by first | exact h3 | exact h3), List.forall_mem_cons.mpr ⟨hd_pb b83 (by first | exact h4 | exact h4), List.forall_mem_cons.mpr ⟨hd_pb b83 (by first | exact h5 | exact h5), List.forall_mem_cons.mpr ⟨hd_pb b83 (by first | exact h6 | exact h6), List.forall_mem_cons.mpr ⟨hd_pb b83 (by first | exact h7 | exact h7), List.forall_mem_cons.mpr ⟨hd_pb b83 (by first | exact h8 | exact h8), List.forall_mem_cons.mpr ⟨(hd_p1 (X := 100) (Y := 0) rfl rfl (by decide)), fun _ h => absurd h List.not_mem_nil⟩⟩⟩⟩⟩⟩⟩⟩⟩⟩, ?_⟩
  refine k _ ?_ ?_ ?_ ?_ ?_
  · exact fun j hj hn => (hd_keep hB' (Nat.lt_of_lt_of_le hj (by decide +kernel)) (by simp; omega)).trans (hF j (Nat.lt_of_lt_of_le hj (by decide)))
  · exact hd_ga (a := .inr (.inl 96)) (by decide +kernel) t96
  · exact hd_gi (x := .inr (.inl 82)) (by decide +kernel) b82
  · exact hd_gi (x := .inr (.inl 83)) (by decide +kernel) b83
  · exact hd_gi (x := .inr (.inl 110)) (by decide +kernel) t110
theorem j2nph_61 {Ls : Nat} {xs : Nat → Int32} {d : Nat} {Q : Option Value → jm_h → Prop} (hd : 3 ≤ d) (F : Nat → sy_d) (X1 X2 : List jm_c) (hB : iv_in F iv_B0)
    (a83 : 0 ≤ (sy_i F 83).toInt ∧ (sy_i F 83).toInt ≤ 7)
    (k0 : (sy_i F 18).toInt ≤ (sy_i F 83).toInt → ∀ F1 : Nat → sy_d, iv_in F1 iv_B0 → (∀ j, j < 82 → j ∉ ([50, 58] : List Nat) → F1 j = F j) → (sy_i F1 50).toInt = ((sy_i F 50) + ((1 : Int32))).toInt → sy_i F1 50 = (sy_i F 50) + ((1 : Int32)) → sy_ai F1 58 = jm_upd (jm_upd (jm_upd (jm_upd (jm_upd (jm_upd (jm_upd (sy_ai F 58) (0 : Int).toNat ((0 : Int32))) (1 : Int).toNat ((0 : Int32))) (2 : Int).toNat ((0 : Int32))) (3 : Int).toNat ((0 : Int32))) (4 : Int).toNat ((0 : Int32))) (5 : Int).toNat ((0 : Int32))) (6 : Int).toNat ((0 : Int32)) → Q (none) (sy_dh F1 X1 X2 (iv_H 2)))
    (k1 : (sy_i F 83).toInt < (sy_i F 18).toInt → ((sy_ai F 54).getD ((sy_i F 83).toInt).toNat 0).toInt ≠ 0 → ∀ F1 : Nat → sy_d, iv_in F1 iv_B0 → (∀ j, j < 82 → j ∉ ([] : List Nat) → F1 j = F j) → (sy_i F1 82).toInt = (sy_i F 82).toInt → sy_i F1 82 = sy_i F 82 → (sy_i F1 83).toInt = ((sy_i F 83).toInt + 1) → sy_i F1 83 = (sy_i F 83) + ((1 : Int32)) → hd_W Ls xs d jm_M3 Q (61, sy_dL F1 [some (.inl (.ref 41)), some (.inl (.ref 20)), some (.inl (.ref 46)), some (.inr (.inl 82)), some (.inr (.inl 83))], sy_dS F1 [], sy_dh F1 X1 X2 (iv_H 2), 0, 0))
    (k2 : (sy_i F 83).toInt < (sy_i F 18).toInt → ((sy_ai F 54).getD ((sy_i F 83).toInt).toNat 0).toInt = 0 → ∀ F1 : Nat → sy_d, iv_in F1 iv_B0 → (∀ j, j < 82 → j ∉ ([45] : List Nat) → F1 j = F j) → sy_ai F1 45 = jm_upd (jm_upd (jm_upd (jm_upd (jm_upd (jm_upd (sy_ai F 45) (0 : Int).toNat ((sy_ai F 53).getD ((sy_i F 83).toInt).toNat 0)) (1 : Int).toNat ((sy_ai F 25).getD ((sy_i F 83).toInt).toNat 0)) (4 : Int).toNat ((sy_ai F 24).getD ((sy_i F 83).toInt).toNat 0)) (5 : Int).toNat ((sy_ai F 58).getD ((sy_i F 83).toInt).toNat 0)) (6 : Int).toNat ((sy_ai F 57).getD ((sy_i F 83).toInt).toNat 0)) (7 : Int).toNat ((sy_ai F 56).getD ((sy_i F 83).toInt).toNat 0) → (sy_i F1 82).toInt = (sy_i F 82).toInt → sy_i F1 82 = sy_i F 82 → (sy_i F1 83).toInt = (sy_i F 83).toInt → sy_i F1 83 = sy_i F 83 → (sy_i F1 84).toInt = (((((((((((((sy_i F 82) ^^^ ((101 : Int32))) * ((1103515245 : Int32))) + ((12345 : Int32))) ^^^ (((((((sy_i F 82) ^^^ ((101 : Int32))) * ((1103515245 : Int32))) + ((12345 : Int32)))).toUInt32 >>> ((((15 : Int32))).toUInt32 &&& Int32.toUInt32 31)).toInt32)) ^^^ ((((16 : Int32)) * (sy_i F 50)) + (sy_i F 83))) * ((1103515245 : Int32))) + ((12345 : Int32))) ^^^ (((((((((((sy_i F 82) ^^^ ((101 : Int32))) * ((1103515245 : Int32))) + ((12345 : Int32))) ^^^ (((((((sy_i F 82) ^^^ ((101 : Int32))) * ((1103515245 : Int32))) + ((12345 : Int32)))).toUInt32 >>> ((((15 : Int32))).toUInt32 &&& Int32.toUInt32 31)).toInt32)) ^^^ ((((16 : Int32)) * (sy_i F 50)) + (sy_i F 83))) * ((1103515245 : Int32))) + ((12345 : Int32)))).toUInt32 >>> ((((15 : Int32))).toUInt32 &&& Int32.toUInt32 31)).toInt32))).toUInt32 >>> ((((1 : Int32))).toUInt32 &&& Int32.toUInt32 31)).toInt32) - ((((((((((((sy_i F 82) ^^^ ((101 : Int32))) * ((1103515245 : Int32))) + ((12345 : Int32))) ^^^ (((((((sy_i F 82) ^^^ ((101 : Int32))) * ((1103515245 : Int32))) + ((12345 : Int32)))).toUInt32 >>> ((((15 : Int32))).toUInt32 &&& Int32.toUInt32 31)).toInt32)) ^^^ ((((16 : Int32)) * (sy_i F 50)) + (sy_i F 83))) * ((1103515245 : Int32))) + ((12345 : Int32))) ^^^ (((((((((((sy_i F 82) ^^^ ((101 : Int32))) * ((1103515245 : Int32))) + ((12345 : Int32))) ^^^ (((((((sy_i F 82) ^^^ ((101 : Int32))) * ((1103515245 : Int32))) + ((12345 : Int32)))).toUInt32 >>> ((((15 : Int32))).toUInt32 &&& Int32.toUInt32 31)).toInt32)) ^^^ ((((16 : Int32)) * (sy_i F 50)) + (sy_i F 83))) * ((1103515245 : Int32))) + ((12345 : Int32)))).toUInt32 >>> ((((15 : Int32))).toUInt32 &&& Int32.toUInt32 31)).toInt32))).toUInt32 >>> ((((1 : Int32))).toUInt32 &&& Int32.toUInt32 31)).toInt32) / ((100 : Int32)) * ((100 : Int32))).toInt → sy_i F1 84 = ((((((((((((sy_i F 82) ^^^ ((101 : Int32))) * ((1103515245 : Int32))) + ((12345 : Int32))) ^^^ (((((((sy_i F 82) ^^^ ((101 : Int32))) * ((1103515245 : Int32))) + ((12345 : Int32)))).toUInt32 >>> ((((15 : Int32))).toUInt32 &&& Int32.toUInt32 31)).toInt32)) ^^^ ((((16 : Int32)) * (sy_i F 50)) + (sy_i F 83))) * ((1103515245 : Int32))) + ((12345 : Int32))) ^^^ (((((((((((sy_i F 82) ^^^ ((101 : Int32))) * ((1103515245 : Int32))) + ((12345 : Int32))) ^^^ (((((((sy_i F 82) ^^^ ((101 : Int32))) * ((1103515245 : Int32))) + ((12345 : Int32)))).toUInt32 >>> ((((15 : Int32))).toUInt32 &&& Int32.toUInt32 31)).toInt32)) ^^^ ((((16 : Int32)) * (sy_i F 50)) + (sy_i F 83))) * ((1103515245 : Int32))) + ((12345 : Int32)))).toUInt32 >>> ((((15 : Int32))).toUInt32 &&& Int32.toUInt32 31)).toInt32))).toUInt32 >>> ((((1 : Int32))).toUInt32 &&& Int32.toUInt32 31)).toInt32) - ((((((((((((sy_i F 82) ^^^ ((101 : Int32))) * ((1103515245 : Int32))) + ((12345 : Int32))) ^^^ (((((((sy_i F 82) ^^^ ((101 : Int32))) * ((1103515245 : Int32))) + ((12345 : Int32)))).toUInt32 >>> ((((15 : Int32))).toUInt32 &&& Int32.toUInt32 31)).toInt32)) ^^^ ((((16 : Int32)) * (sy_i F 50)) + (sy_i F 83))) * ((1103515245 : Int32))) + ((12345 : Int32))) ^^^ (((((((((((sy_i F 82) ^^^ ((101 : Int32))) * ((1103515245 : Int32))) + ((12345 : Int32))) ^^^ (((((((sy_i F 82) ^^^ ((101 : Int32))) * ((1103515245 : Int32))) + ((12345 : Int32)))).toUInt32 >>> ((((15 : Int32))).toUInt32 &&& Int32.toUInt32 31)).toInt32)) ^^^ ((((16 : Int32)) * (sy_i F 50)) + (sy_i F 83))) * ((1103515245 : Int32))) + ((12345 : Int32)))).toUInt32 >>> ((((15 : Int32))).toUInt32 &&& Int32.toUInt32 31)).toInt32))).toUInt32 >>> ((((1 : Int32))).toUInt32 &&& Int32.toUInt32 31)).toInt32) / ((100 : Int32)) * ((100 : Int32)) → hd_W Ls xs d jm_M3 Q (111, sy_dL F1 [some (.inl (.ref 41)), some (.inl (.ref 20)), some (.inl (.ref 46)), some (.inr (.inl 82)), some (.inr (.inl 83))], sy_dS F1 [.inl (.int 2), .inl (.ref 20), .inl (.ref 38), .inr (.inl 84)], sy_dh F1 X1 X2 (iv_H 2), 0, 0)) :
    hd_W Ls xs d jm_M3 Q (61, sy_dL F [some (.inl (.ref 41)), some (.inl (.ref 20)), some (.inl (.ref 46)), some (.inr (.inl 82)), some (.inr (.inl 83))], sy_dS F [], sy_dh F X1 X2 (iv_H 2), 0, 0) := by
  by_cases g0 : (sy_i F 18).toInt ≤ (sy_i F 83).toInt
  · have c18 := nz_bx hB (k := 18) (lo := 0) (hi := 7) rfl
    have n84 : nzI ((sy_i F 50) + ((1 : Int32))) (((sy_i F 50) + ((1 : Int32))).toInt) := congrArg Int32.toInt (rfl : (sy_i F 50) + ((1 : Int32)) = (sy_i F 50) + ((1 : Int32)))
    have w91 : jm_upd (jm_upd (jm_upd (jm_upd (jm_upd (jm_upd (jm_upd (sy_ai F 58) ((0 : Int32)).toNatClampNeg ((0 : Int32))) ((1 : Int32)).toNatClampNeg ((0 : Int32))) ((2 : Int32)).toNatClampNeg ((0 : Int32))) ((3 : Int32)).toNatClampNeg ((0 : Int32))) ((4 : Int32)).toNatClampNeg ((0 : Int32))) ((5 : Int32)).toNatClampNeg ((0 : Int32))) ((6 : Int32)).toNatClampNeg ((0 : Int32)) = jm_upd (jm_upd (jm_upd (jm_upd (jm_upd (jm_upd (jm_upd (sy_ai F 58) (0 : Int).toNat ((0 : Int32))) (1 : Int).toNat ((0 : Int32))) (2 : Int).toNat ((0 : Int32))) (3 : Int).toNat ((0 : Int32))) (4 : Int).toNat ((0 : Int32))) (5 : Int).toNat ((0 : Int32))) (6 : Int).toNat ((0 : Int32)) := by simp only [nz_c, (by decide : ((0 : Int32)).toInt = 0), (by decide : ((1 : Int32)).toInt = 1), (by decide : ((2 : Int32)).toInt = 2), (by decide : ((3 : Int32)).toInt = 3), (by decide : ((4 : Int32)).toInt = 4), (by decide : ((5 : Int32)).toInt = 5), (by decide : ((6 : Int32)).toInt = 6)]
    exact j2nph_61_p0 hd F X1 X2 hB (by first | exact g0 | (simp only [nz_c]; exact g0)) (fun F1 g e50 e58 => k0 g0 F1 (nz_in0 hB [50, 58] (fun j hj hn => g j hj (by simp only [List.mem_cons, List.not_mem_nil, or_false, not_or] at hn; omega)) (List.forall_mem_cons.mpr ⟨fun t ht => (Option.some.inj ht) ▸ (nz_hz e50), List.forall_mem_cons.mpr ⟨fun t ht => (Option.some.inj ht) ▸ (nz_hz2 e58), List.forall_mem_nil _⟩⟩)) (fun j hj hn => g j hj (by simp only [List.mem_cons, List.not_mem_nil, or_false, not_or] at hn; omega)) ((congrArg Int32.toInt (zz_i e50)).trans (nzE n84)) ((zz_i e50).trans (rfl : (sy_i F 50) + ((1 : Int32)) = (sy_i F 50) + ((1 : Int32)))) ((zz_ai e58).trans w91))
  replace g0 : (sy_i F 83).toInt < (sy_i F 18).toInt := by omega
  by_cases g1 : ((sy_ai F 54).getD ((sy_i F 83).toInt).toNat 0).toInt ≠ 0
  · have c18 := nz_bx hB (k := 18) (lo := 0) (hi := 7) rfl
    have q84 : (sy_ai F 54).getD (sy_i F 83).toNatClampNeg 0 = (sy_ai F 54).getD ((sy_i F 83).toInt).toNat 0 := by simp only [nz_c]
    have n84 : nzI ((sy_ai F 54).getD (sy_i F 83).toNatClampNeg 0) (((sy_ai F 54).getD ((sy_i F 83).toInt).toNat 0).toInt) := congrArg Int32.toInt q84
    have n85 : nzI ((sy_i F 83) + ((1 : Int32))) (((sy_i F 83).toInt + 1)) := nz_add (rfl : (sy_i F 83).toInt = (sy_i F 83).toInt) (by decide : ((1 : Int32)).toInt = 1) (by omega) (by omega)
    exact j2nph_61_p1 hd F X1 X2 hB (by first | exact g0 | (simp only [nz_c]; exact g0)) (by first | exact ⟨by omega, by omega⟩ | (simp only [nz_c]; exact ⟨by omega, by omega⟩)) (by first | exact g1 | (simp only [nz_c]; exact g1) | (rw [(nzE n84)]; exact g1)) (fun F1 g e82 e83 => k1 g0 g1 F1 (nz_in0 hB [] (fun j hj hn => g j hj (by simp only [List.mem_cons, List.not_mem_nil, or_false, not_or] at hn; exact trivial)) (List.forall_mem_nil _)) (fun j hj hn => g j hj (by simp only [List.mem_cons, List.not_mem_nil, or_false, not_or] at hn; exact trivial)) ((congrArg Int32.toInt (zz_i e82)).trans (rfl : (sy_i F 82).toInt = (sy_i F 82).toInt)) ((zz_i e82).trans (rfl : sy_i F 82 = sy_i F 82)) ((congrArg Int32.toInt (zz_i e83)).trans (nzE n85)) ((zz_i e83).trans (rfl : (sy_i F 83) + ((1 : Int32)) = (sy_i F 83) + ((1 : Int32)))))
  replace g1 : ((sy_ai F 54).getD ((sy_i F 83).toInt).toNat 0).toInt = 0 := by omega
  have c18 := nz_bx hB (k := 18) (lo := 0) (hi := 7) rfl
  have q84 : (sy_ai F 54).getD (sy_i F 83).toNatClampNeg 0 = (sy_ai F 54).getD ((sy_i F 83).toInt).toNat 0 := by simp only [nz_c]
  have n84 : nzI ((sy_ai F 54).getD (sy_i F 83).toNatClampNeg 0) (((sy_ai F 54).getD ((sy_i F 83).toInt).toNat 0).toInt) := congrArg Int32.toInt q84
  have w96 : jm_upd (jm_upd (jm_upd (jm_upd (jm_upd (jm_upd (sy_ai F 45) ((0 : Int32)).toNatClampNeg ((sy_ai F 53).getD (sy_i F 83).toNatClampNeg 0)) ((1 : Int32)).toNatClampNeg ((sy_ai F 25).getD (sy_i F 83).toNatClampNeg 0)) ((4 : Int32)).toNatClampNeg ((sy_ai F 24).getD (sy_i F 83).toNatClampNeg 0)) ((5 : Int32)).toNatClampNeg ((sy_ai F 58).getD (sy_i F 83).toNatClampNeg 0)) ((6 : Int32)).toNatClampNeg ((sy_ai F 57).getD (sy_i F 83).toNatClampNeg 0)) ((7 : Int32)).toNatClampNeg ((sy_ai F 56).getD (sy_i F 83).toNatClampNeg 0) = jm_upd (jm_upd (jm_upd (jm_upd (jm_upd (jm_upd (sy_ai F 45) (0 : Int).toNat ((sy_ai F 53).getD ((sy_i F 83).toInt).toNat 0)) (1 : Int).toNat ((sy_ai F 25).getD ((sy_i F 83).toInt).toNat 0)) (4 : Int).toNat ((sy_ai F 24).getD ((sy_i F 83).toInt).toNat 0)) (5 : Int).toNat ((sy_ai F 58).getD ((sy_i F 83).toInt).toNat 0)) (6 : Int).toNat ((sy_ai F 57).getD ((sy_i F 83).toInt).toNat 0)) (7 : Int).toNat ((sy_ai F 56).getD ((sy_i F 83).toInt).toNat 0) := by simp only [nz_c, (by decide : ((0 : Int32)).toInt = 0), (by decide : ((1 : Int32)).toInt = 1), (by decide : ((4 : Int32)).toInt = 4), (by decide : ((5 : Int32)).toInt = 5), (by decide : ((6 : Int32)).toInt = 6), (by decide : ((7 : Int32)).toInt = 7)]
  have n110 : nzI (((((((((((((sy_i F 82) ^^^ ((101 : Int32))) * ((1103515245 : Int32))) + ((12345 : Int32))) ^^^ (((((((sy_i F 82) ^^^ ((101 : Int32))) * ((1103515245 : Int32))) + ((12345 : Int32)))).toUInt32 >>> ((((15 : Int32))).toUInt32 &&& Int32.toUInt32 31)).toInt32)) ^^^ ((((16 : Int32)) * (sy_i F 50)) + (sy_i F 83))) * ((1103515245 : Int32))) + ((12345 : Int32))) ^^^ (((((((((((sy_i F 82) ^^^ ((101 : Int32))) * ((1103515245 : Int32))) + ((12345 : Int32))) ^^^ (((((((sy_i F 82) ^^^ ((101 : Int32))) * ((1103515245 : Int32))) + ((12345 : Int32)))).toUInt32 >>> ((((15 : Int32))).toUInt32 &&& Int32.toUInt32 31)).toInt32)) ^^^ ((((16 : Int32)) * (sy_i F 50)) + (sy_i F 83))) * ((1103515245 : Int32))) + ((12345 : Int32)))).toUInt32 >>> ((((15 : Int32))).toUInt32 &&& Int32.toUInt32 31)).toInt32))).toUInt32 >>> ((((1 : Int32))).toUInt32 &&& Int32.toUInt32 31)).toInt32) - ((((((((((((sy_i F 82) ^^^ ((101 : Int32))) * ((1103515245 : Int32))) + ((12345 : Int32))) ^^^ (((((((sy_i F 82) ^^^ ((101 : Int32))) * ((1103515245 : Int32))) + ((12345 : Int32)))).toUInt32 >>> ((((15 : Int32))).toUInt32 &&& Int32.toUInt32 31)).toInt32)) ^^^ ((((16 : Int32)) * (sy_i F 50)) + (sy_i F 83))) * ((1103515245 : Int32))) + ((12345 : Int32))) ^^^ (((((((((((sy_i F 82) ^^^ ((101 : Int32))) * ((1103515245 : Int32))) + ((12345 : Int32))) ^^^ (((((((sy_i F 82) ^^^ ((101 : Int32))) * ((1103515245 : Int32))) + ((12345 : Int32)))).toUInt32 >>> ((((15 : Int32))).toUInt32 &&& Int32.toUInt32 31)).toInt32)) ^^^ ((((16 : Int32)) * (sy_i F 50)) + (sy_i F 83))) * ((1103515245 : Int32))) + ((12345 : Int32)))).toUInt32 >>> ((((15 : Int32))).toUInt32 &&& Int32.toUInt32 31)).toInt32))).toUInt32 >>> ((((1 : Int32))).toUInt32 &&& Int32.toUInt32 31)).toInt32) / ((100 : Int32)) * ((100 : Int32))) ((((((((((((((sy_i F 82) ^^^ ((101 : Int32))) * ((1103515245 : Int32))) + ((12345 : Int32))) ^^^ (((((((sy_i F 82) ^^^ ((101 : Int32))) * ((1103515245 : Int32))) + ((12345 : Int32)))).toUInt32 >>> ((((15 : Int32))).toUInt32 &&& Int32.toUInt32 31)).toInt32)) ^^^ ((((16 : Int32)) * (sy_i F 50)) + (sy_i F 83))) * ((1103515245 : Int32))) + ((12345 : Int32))) ^^^ (((((((((((sy_i F 82) ^^^ ((101 : Int32))) * ((1103515245 : Int32))) + ((12345 : Int32))) ^^^ (((((((sy_i F 82) ^^^ ((101 : Int32))) * ((1103515245 : Int32))) + ((12345 : Int32)))).toUInt32 >>> ((((15 : Int32))).toUInt32 &&& Int32.toUInt32 31)).toInt32)) ^^^ ((((16 : Int32)) * (sy_i F 50)) + (sy_i F 83))) * ((1103515245 : Int32))) + ((12345 : Int32)))).toUInt32 >>> ((((15 : Int32))).toUInt32 &&& Int32.toUInt32 31)).toInt32))).toUInt32 >>> ((((1 : Int32))).toUInt32 &&& Int32.toUInt32 31)).toInt32) - ((((((((((((sy_i F 82) ^^^ ((101 : Int32))) * ((1103515245 : Int32))) + ((12345 : Int32))) ^^^ (((((((sy_i F 82) ^^^ ((101 : Int32))) * ((1103515245 : Int32))) + ((12345 : Int32)))).toUInt32 >>> ((((15 : Int32))).toUInt32 &&& Int32.toUInt32 31)).toInt32)) ^^^ ((((16 : Int32)) * (sy_i F 50)) + (sy_i F 83))) * ((1103515245 : Int32))) + ((12345 : Int32))) ^^^ (((((((((((sy_i F 82) ^^^ ((101 : Int32))) * ((1103515245 : Int32))) + ((12345 : Int32))) ^^^ (((((((sy_i F 82) ^^^ ((101 : Int32))) * ((1103515245 : Int32))) + ((12345 : Int32)))).toUInt32 >>> ((((15 : Int32))).toUInt32 &&& Int32.toUInt32 31)).toInt32)) ^^^ ((((16 : Int32)) * (sy_i F 50)) + (sy_i F 83))) * ((1103515245 : Int32))) + ((12345 : Int32)))).toUInt32 >>> ((((15 : Int32))).toUInt32 &&& Int32.toUInt32 31)).toInt32))).toUInt32 >>> ((((1 : Int32))).toUInt32 &&& Int32.toUInt32 31)).toInt32) / ((100 : Int32)) * ((100 : Int32))).toInt) := congrArg Int32.toInt (rfl : ((((((((((((sy_i F 82) ^^^ ((101 : Int32))) * ((1103515245 : Int32))) + ((12345 : Int32))) ^^^ (((((((sy_i F 82) ^^^ ((101 : Int32))) * ((1103515245 : Int32))) + ((12345 : Int32)))).toUInt32 >>> ((((15 : Int32))).toUInt32 &&& Int32.toUInt32 31)).toInt32)) ^^^ ((((16 : Int32)) * (sy_i F 50)) + (sy_i F 83))) * ((1103515245 : Int32))) + ((12345 : Int32))) ^^^ (((((((((((sy_i F 82) ^^^ ((101 : Int32))) * ((1103515245 : Int32))) + ((12345 : Int32))) ^^^ (((((((sy_i F 82) ^^^ ((101 : Int32))) * ((1103515245 : Int32))) + ((12345 : Int32)))).toUInt32 >>> ((((15 : Int32))).toUInt32 &&& Int32.toUInt32 31)).toInt32)) ^^^ ((((16 : Int32)) * (sy_i F 50)) + (sy_i F 83))) * ((1103515245 : Int32))) + ((12345 : Int32)))).toUInt32 >>> ((((15 : Int32))).toUInt32 &&& Int32.toUInt32 31)).toInt32))).toUInt32 >>> ((((1 : Int32))).toUInt32 &&& Int32.toUInt32 31)).toInt32) - ((((((((((((sy_i F 82) ^^^ ((101 : Int32))) * ((1103515245 : Int32))) + ((12345 : Int32))) ^^^ (((((((sy_i F 82) ^^^ ((101 : Int32))) * ((1103515245 : Int32))) + ((12345 : Int32)))).toUInt32 >>> ((((15 : Int32))).toUInt32 &&& Int32.toUInt32 31)).toInt32)) ^^^ ((((16 : Int32)) * (sy_i F 50)) + (sy_i F 83))) * ((1103515245 : Int32))) + ((12345 : Int32))) ^^^ (((((((((((sy_i F 82) ^^^ ((101 : Int32))) * ((1103515245 : Int32))) + ((12345 : Int32))) ^^^ (((((((sy_i F 82) ^^^ ((101 : Int32))) * ((1103515245 : Int32))) + ((12345 : Int32)))).toUInt32 >>> ((((15 : Int32))).toUInt32 &&& Int32.toUInt32 31)).toInt32)) ^^^ ((((16 : Int32)) * (sy_i F 50)) + (sy_i F 83))) * ((1103515245 : Int32))) + ((12345 : Int32)))).toUInt32 >>> ((((15 : Int32))).toUInt32 &&& Int32.toUInt32 31)).toInt32))).toUInt32 >>> ((((1 : Int32))).toUInt32 &&& Int32.toUInt32 31)).toInt32) / ((100 : Int32)) * ((100 : Int32)) = ((((((((((((sy_i F 82) ^^^ ((101 : Int32))) * ((1103515245 : Int32))) + ((12345 : Int32))) ^^^ (((((((sy_i F 82) ^^^ ((101 : Int32))) * ((1103515245 : Int32))) + ((12345 : Int32)))).toUInt32 >>> ((((15 : Int32))).toUInt32 &&& Int32.toUInt32 31)).toInt32)) ^^^ ((((16 : Int32)) * (sy_i F 50)) + (sy_i F 83))) * ((1103515245 : Int32))) + ((12345 : Int32))) ^^^ (((((((((((sy_i F 82) ^^^ ((101 : Int32))) * ((1103515245 : Int32))) + ((12345 : Int32))) ^^^ (((((((sy_i F 82) ^^^ ((101 : Int32))) * ((1103515245 : Int32))) + ((12345 : Int32)))).toUInt32 >>> ((((15 : Int32))).toUInt32 &&& Int32.toUInt32 31)).toInt32)) ^^^ ((((16 : Int32)) * (sy_i F 50)) + (sy_i F 83))) * ((1103515245 : Int32))) + ((12345 : Int32)))).toUInt32 >>> ((((15 : Int32))).toUInt32 &&& Int32.toUInt32 31)).toInt32))).toUInt32 >>> ((((1 : Int32))).toUInt32 &&& Int32.toUInt32 31)).toInt32) - ((((((((((((sy_i F 82) ^^^ ((101 : Int32))) * ((1103515245 : Int32))) + ((12345 : Int32))) ^^^ (((((((sy_i F 82) ^^^ ((101 : Int32))) * ((1103515245 : Int32))) + ((12345 : Int32)))).toUInt32 >>> ((((15 : Int32))).toUInt32 &&& Int32.toUInt32 31)).toInt32)) ^^^ ((((16 : Int32)) * (sy_i F 50)) + (sy_i F 83))) * ((1103515245 : Int32))) + ((12345 : Int32))) ^^^ (((((((((((sy_i F 82) ^^^ ((101 : Int32))) * ((1103515245 : Int32))) + ((12345 : Int32))) ^^^ (((((((sy_i F 82) ^^^ ((101 : Int32))) * ((1103515245 : Int32))) + ((12345 : Int32)))).toUInt32 >>> ((((15 : Int32))).toUInt32 &&& Int32.toUInt32 31)).toInt32)) ^^^ ((((16 : Int32)) * (sy_i F 50)) + (sy_i F 83))) * ((1103515245 : Int32))) + ((12345 : Int32)))).toUInt32 >>> ((((15 : Int32))).toUInt32 &&& Int32.toUInt32 31)).toInt32))).toUInt32 >>> ((((1 : Int32))).toUInt32 &&& Int32.toUInt32 31)).toInt32) / ((100 : Int32)) * ((100 : Int32)))
  exact j2nph_61_p2 hd F X1 X2 hB (by first | exact g0 | (simp only [nz_c]; exact g0)) (by first | exact ⟨by omega, by omega⟩ | (simp only [nz_c]; exact ⟨by omega, by omega⟩)) (by first | exact g1 | (simp only [nz_c]; exact g1) | (rw [(nzE n84)]; exact g1)) (by first | exact ⟨by omega, by omega⟩ | (simp only [nz_c]; exact ⟨by omega, by omega⟩)) (by first | exact ⟨by omega, by omega⟩ | (simp only [nz_c]; exact ⟨by omega, by omega⟩)) (by first | exact ⟨by omega, by omega⟩ | (simp only [nz_c]; exact ⟨by omega, by omega⟩)) (by first | exact ⟨by omega, by omega⟩ | (simp only [nz_c]; exact ⟨by omega, by omega⟩)) (by first | exact ⟨by omega, by omega⟩ | (simp only [nz_c]; exact ⟨by omega, by omega⟩)) (by first | exact ⟨by omega, by omega⟩ | (simp only [nz_c]; exact ⟨by omega, by omega⟩)) (fun F1 g e45 e82 e83 e84 => k2 g0 g1 F1 (nz_in0 hB [45] (fun j hj hn => g j hj (by simp only [List.mem_cons, List.not_mem_nil, or_false, not_or] at hn; omega)) (List.forall_mem_cons.mpr ⟨fun t ht => (Option.some.inj ht) ▸ (nz_hz2 e45), List.forall_mem_nil _⟩)) (fun j hj hn => g j hj (by simp only [List.mem_cons, List.not_mem_nil, or_false, not_or] at hn; omega)) ((zz_ai e45).trans w96) ((congrArg Int32.toInt (zz_i e82)).trans (rfl : (sy_i F 82).toInt = (sy_i F 82).toInt)) ((zz_i e82).trans (rfl : sy_i F 82 = sy_i F 82)) ((congrArg Int32.toInt (zz_i e83)).trans (rfl : (sy_i F 83).toInt = (sy_i F 83).toInt)) ((zz_i e83).trans (rfl : sy_i F 83 = sy_i F 83)) ((congrArg Int32.toInt (zz_i e84)).trans (nzE n110)) ((zz_i e84).trans (rfl : ((((((((((((sy_i F 82) ^^^ ((101 : Int32))) * ((1103515245 : Int32))) + ((12345 : Int32))) ^^^ (((((((sy_i F 82) ^^^ ((101 : Int32))) * ((1103515245 : Int32))) + ((12345 : Int32)))).toUInt32 >>> ((((15 : Int32))).toUInt32 &&& Int32.toUInt32 31)).toInt32)) ^^^ ((((16 : Int32)) * (sy_i F 50)) + (sy_i F 83))) * ((1103515245 : Int32))) + ((12345 : Int32))) ^^^ (((((((((((sy_i F 82) ^^^ ((101 : Int32))) * ((1103515245 : Int32))) + ((12345 : Int32))) ^^^ (((((((sy_i F 82) ^^^ ((101 : Int32))) * ((1103515245 : Int32))) + ((12345 : Int32)))).toUInt32 >>> ((((15 : Int32))).toUInt32 &&& Int32.toUInt32 31)).toInt32)) ^^^ ((((16 : Int32)) * (sy_i F 50)) + (sy_i F 83))) * ((1103515245 : Int32))) + ((12345 : Int32)))).toUInt32 >>> ((((15 : Int32))).toUInt32 &&& Int32.toUInt32 31)).toInt32))).toUInt32 >>> ((((1 : Int32))).toUInt32 &&& Int32.toUInt32 31)).toInt32) - ((((((((((((sy_i F 82) ^^^ ((101 : Int32))) * ((1103515245 : Int32))) + ((12345 : Int32))) ^^^ (((((((sy_i F 82) ^^^ ((101 : Int32))) * ((1103515245 : Int32))) + ((12345 : Int32)))).toUInt32 >>> ((((15 : Int32))).toUInt32 &&& Int32.toUInt32 31)).toInt32)) ^^^ ((((16 : Int32)) * (sy_i F 50)) + (sy_i F 83))) * ((1103515245 : Int32))) + ((12345 : Int32))) ^^^ (((((((((((sy_i F 82) ^^^ ((101 : Int32))) * ((1103515245 : Int32))) + ((12345 : Int32))) ^^^ (((((((sy_i F 82) ^^^ ((101 : Int32))) * ((1103515245 : Int32))) + ((12345 : Int32)))).toUInt32 >>> ((((15 : Int32))).toUInt32 &&& Int32.toUInt32 31)).toInt32)) ^^^ ((((16 : Int32)) * (sy_i F 50)) + (sy_i F 83))) * ((1103515245 : Int32))) + ((12345 : Int32)))).toUInt32 >>> ((((15 : Int32))).toUInt32 &&& Int32.toUInt32 31)).toInt32))).toUInt32 >>> ((((1 : Int32))).toUInt32 &&& Int32.toUInt32 31)).toInt32) / ((100 : Int32)) * ((100 : Int32)) = ((((((((((((sy_i F 82) ^^^ ((101 : Int32))) * ((1103515245 : Int32))) + ((12345 : Int32))) ^^^ (((((((sy_i F 82) ^^^ ((101 : Int32))) * ((1103515245 : Int32))) + ((12345 : Int32)))).toUInt32 >>> ((((15 : Int32))).toUInt32 &&& Int32.toUInt32 31)).toInt32)) ^^^ ((((16 : Int32)) * (sy_i F 50)) + (sy_i F 83))) * ((1103515245 : Int32))) + ((12345 : Int32))) ^^^ (((((((((((sy_i F 82) ^^^ ((101 : Int32))) * ((1103515245 : Int32))) + ((12345 : Int32))) ^^^ (((((((sy_i F 82) ^^^ ((101 : Int32))) * ((1103515245 : Int32))) + ((12345 : Int32)))).toUInt32 >>> ((((15 : Int32))).toUInt32 &&& Int32.toUInt32 31)).toInt32)) ^^^ ((((16 : Int32)) * (sy_i F 50)) + (sy_i F 83))) * ((1103515245 : Int32))) + ((12345 : Int32)))).toUInt32 >>> ((((15 : Int32))).toUInt32 &&& Int32.toUInt32 31)).toInt32))).toUInt32 >>> ((((1 : Int32))).toUInt32 &&& Int32.toUInt32 31)).toInt32) - ((((((((((((sy_i F 82) ^^^ ((101 : Int32))) * ((1103515245 : Int32))) + ((12345 : Int32))) ^^^ (((((((sy_i F 82) ^^^ ((101 : Int32))) * ((1103515245 : Int32))) + ((12345 : Int32)))).toUInt32 >>> ((((15 : Int32))).toUInt32 &&& Int32.toUInt32 31)).toInt32)) ^^^ ((((16 : Int32)) * (sy_i F 50)) + (sy_i F 83))) * ((1103515245 : Int32))) + ((12345 : Int32))) ^^^ (((((((((((sy_i F 82) ^^^ ((101 : Int32))) * ((1103515245 : Int32))) + ((12345 : Int32))) ^^^ (((((((sy_i F 82) ^^^ ((101 : Int32))) * ((1103515245 : Int32))) + ((12345 : Int32)))).toUInt32 >>> ((((15 : Int32))).toUInt32 &&& Int32.toUInt32 31)).toInt32)) ^^^ ((((16 : Int32)) * (sy_i F 50)) + (sy_i F 83))) * ((1103515245 : Int32))) + ((12345 : Int32)))).toUInt32 >>> ((((15 : Int32))).toUInt32 &&& Int32.toUInt32 31)).toInt32))).toUInt32 >>> ((((1 : Int32))).toUInt32 &&& Int32.toUInt32 31)).toInt32) / ((100 : Int32)) * ((100 : Int32)))))
theorem j2nph_114_p0 {Ls : Nat} {xs : Nat → Int32} {d : Nat} {Q : Option Value → jm_h → Prop} (hd : 1 ≤ d) (F : Nat → sy_d) (X1 X2 : List jm_c) (hB : iv_in F iv_B0)
    (h0 : (sy_i F 85).toInt ≤ (sy_i F 84).toInt)
    (h1 : 0 ≤ (sy_i F 83).toInt ∧ (sy_i F 83).toInt < 7)
    (k : ∀ F1 : Nat → sy_d, (∀ j, j < 82 → True → F1 j = F j) → F1 82 = .inl (.int (sy_i F 82)) → F1 83 = .inl (.int (sy_i F 83)) → F1 84 = .inl (.int ((sy_ai F 53).getD (sy_i F 83).toNatClampNeg 0)) → hd_W Ls xs d jm_M3 Q (147, sy_dL F1 [some (.inl (.ref 41)), some (.inl (.ref 20)), some (.inl (.ref 46)), some (.inr (.inl 82)), some (.inr (.inl 83))], sy_dS F1 [.inl (.int 1), .inl (.ref 20), .inl (.ref 38), .inr (.inl 84), .inr (.inl 83), .inl (.ref 47)], sy_dh F1 X1 X2 (iv_H 2), 0, 0)) :
    hd_W Ls xs d jm_M3 Q (114, sy_dL F [some (.inl (.ref 41)), some (.inl (.ref 20)), some (.inl (.ref 46)), some (.inr (.inl 82)), some (.inr (.inl 83))], sy_dS F [.inr (.inl 85), .inr (.inl 84)], sy_dh F X1 X2 (iv_H 2), 0, 0) := by
  refine hd_run (s := 2) (nv := 86) (pc := 147) (L := [some (.inl (.ref 41)), some (.inl (.ref 20)), some (.inl (.ref 46)), some (.inr (.inl 82)), some (.inr (.inl 83))]) (S := [.inl (.int 1), .inl (.ref 20), .inl (.ref 38), .inr (.inl 84), .inr (.inl 83), .inl (.ref 47)]) (uh := hd_ov (iv_id 0 iv_B0) []) (ul := [.inl (.inr (.inl 82)), .inl (.inr (.inl 83)), .inl (.inr (.inl 86))]) (f := false) (sp := [122, 147]) (d0 := 0) (O := [true]) (T := [(30, [.inr (.inl 83)], [.inr (.inl 53)])]) (P := [(4, .inr (.inl 85), .inr (.inl 84)), (6, .inr (.inl 83), .inl (.ref 7))]) jm_ok3 (by decide +kernel) (by decide +kernel) hd F X1 X2 (fun F' hF hs => ?_)
  have b85 := hd_b (F := F) (F' := F') (k := 85) (hF 85 (by decide))
  have b84 := hd_b (F := F) (F' := F') (k := 84) (hF 84 (by decide))
  have b83 := hd_b (F := F) (F' := F') (k := 83) (hF 83 (by decide))
  have b82 := hd_b (F := F) (F' := F') (k := 82) (hF 82 (by decide))
  have a53 := hd_ba (F := F) (F' := F') (k := 53) (hF 53 (by decide))
  have t86 : sy_dv F' (.inr (.inl 86)) = .int ((sy_ai F 53).getD (sy_i F 83).toNatClampNeg 0) := hd_rd (hs 0 _ rfl) b83 a53
  have hB' : iv_in F' iv_B0 := iv_in_eq hB (fun j hj => hF j (Nat.lt_of_lt_of_le hj (by decide +kernel)))
  refine ⟨List.forall_mem_cons.mpr ⟨hd_p4 b85 b84 h0, List.forall_mem_cons.mpr ⟨hd_pb b83 (by first | exact h1 | exact h1), fun _ h => absurd h List.not_mem_nil⟩⟩, ?_⟩
  refine k _ ?_ ?_ ?_ ?_
  · exact fun j hj _ => (hd_keep hB' (Nat.lt_of_lt_of_le hj (by decide +kernel)) (by simp)).trans (hF j (Nat.lt_of_lt_of_le hj (by decide)))
  · exact hd_gi (x := .inr (.inl 82)) (by decide +kernel) b82
  · exact hd_gi (x := .inr (.inl 83)) (by decide +kernel) b83
  · exact hd_gi (x := .inr (.inl 86)) (by decide +kernel) t86
theorem j2nph_114_p1 {Ls : Nat} {xs : Nat → Int32} {d : Nat} {Q : Option Value → jm_h → Prop} (hd : 1 ≤ d) (F : Nat → sy_d) (X1 X2 : List jm_c) (hB : iv_in F iv_B0)
    (h0 : (sy_i F 84).toInt < (sy_i F 85).toInt)
    (k : ∀ F1 : Nat → sy_d, (∀ j, j < 82 → True → F1 j = F j) → F1 82 = .inl (.int (sy_i F 82)) → F1 83 = .inl (.int (sy_i F 83)) → hd_W Ls xs d jm_M3 Q (122, sy_dL F1 [some (.inl (.ref 41)), some (.inl (.ref 20)), some (.inl (.ref 46)), some (.inr (.inl 82)), some (.inr (.inl 83))], sy_dS F1 [.inr (.inl 83), .inl (.ref 46), .inl (.ref 20), .inl (.ref 41)], sy_dh F1 X1 X2 (iv_H 2), 0, 0)) :
    hd_W Ls xs d jm_M3 Q (114, sy_dL F [some (.inl (.ref 41)), some (.inl (.ref 20)), some (.inl (.ref 46)), some (.inr (.inl 82)), some (.inr (.inl 83))], sy_dS F [.inr (.inl 85), .inr (.inl 84)], sy_dh F X1 X2 (iv_H 2), 0, 0) := by
  refine hd_run (s := 2) (nv := 86) (pc := 122) (L := [some (.inl (.ref 41)), some (.inl (.ref 20)), some (.inl (.ref 46)), some (.inr (.inl 82)), some (.inr (.inl 83))]) (S := [.inr (.inl 83), .inl (.ref 46), .inl (.ref 20), .inl (.ref 41)]) (uh := hd_ov (iv_id 0 iv_B0) []) (ul := [.inl (.inr (.inl 82)), .inl (.inr (.inl 83))]) (f := false) (sp := [122, 147]) (d0 := 0) (O := [false]) (T := []) (P := [(5, .inr (.inl 85), .inr (.inl 84))]) jm_ok3 (by decide +kernel) (by decide +kernel) hd F X1 X2 (fun F' hF hs => ?_)
  have b85 := hd_b (F := F) (F' := F') (k := 85) (hF 85 (by decide))
  have b84 := hd_b (F := F) (F' := F') (k := 84) (hF 84 (by decide))
  have b82 := hd_b (F := F) (F' := F') (k := 82) (hF 82 (by decide))
  have b83 := hd_b (F := F) (F' := F') (k := 83) (hF 83 (by decide))
  have hB' : iv_in F' iv_B0 := iv_in_eq hB (fun j hj => hF j (Nat.lt_of_lt_of_le hj (by decide +kernel)))
  refine ⟨List.forall_mem_cons.mpr ⟨hd_p5 b85 b84 h0, fun _ h => absurd h List.not_mem_nil⟩, ?_⟩
  refine k _ ?_ ?_ ?_
  · exact fun j hj _ => (hd_keep hB' (Nat.lt_of_lt_of_le hj (by decide +kernel)) (by simp)).trans (hF j (Nat.lt_of_lt_of_le hj (by decide)))
  · exact hd_gi (x := .inr (.inl 82)) (by decide +kernel) b82
  · exact hd_gi (x := .inr (.inl 83)) (by decide +kernel) b83
theorem j2nph_114 {Ls : Nat} {xs : Nat → Int32} {d : Nat} {Q : Option Value → jm_h → Prop} (hd : 1 ≤ d) (F : Nat → sy_d) (X1 X2 : List jm_c) (hB : iv_in F iv_B0)
    (a83 : 0 ≤ (sy_i F 83).toInt ∧ (sy_i F 83).toInt ≤ 6)
    (k0 : (sy_i F 85).toInt ≤ (sy_i F 84).toInt → ∀ F1 : Nat → sy_d, iv_in F1 iv_B0 → (∀ j, j < 82 → j ∉ ([] : List Nat) → F1 j = F j) → (sy_i F1 82).toInt = (sy_i F 82).toInt → sy_i F1 82 = sy_i F 82 → (sy_i F1 83).toInt = (sy_i F 83).toInt → sy_i F1 83 = sy_i F 83 → (sy_i F1 84).toInt = ((sy_ai F 53).getD ((sy_i F 83).toInt).toNat 0).toInt → sy_i F1 84 = (sy_ai F 53).getD ((sy_i F 83).toInt).toNat 0 → hd_W Ls xs d jm_M3 Q (147, sy_dL F1 [some (.inl (.ref 41)), some (.inl (.ref 20)), some (.inl (.ref 46)), some (.inr (.inl 82)), some (.inr (.inl 83))], sy_dS F1 [.inl (.int 1), .inl (.ref 20), .inl (.ref 38), .inr (.inl 84), .inr (.inl 83), .inl (.ref 47)], sy_dh F1 X1 X2 (iv_H 2), 0, 0))
    (k1 : (sy_i F 84).toInt < (sy_i F 85).toInt → ∀ F1 : Nat → sy_d, iv_in F1 iv_B0 → (∀ j, j < 82 → j ∉ ([] : List Nat) → F1 j = F j) → (sy_i F1 82).toInt = (sy_i F 82).toInt → sy_i F1 82 = sy_i F 82 → (sy_i F1 83).toInt = (sy_i F 83).toInt → sy_i F1 83 = sy_i F 83 → hd_W Ls xs d jm_M3 Q (122, sy_dL F1 [some (.inl (.ref 41)), some (.inl (.ref 20)), some (.inl (.ref 46)), some (.inr (.inl 82)), some (.inr (.inl 83))], sy_dS F1 [.inr (.inl 83), .inl (.ref 46), .inl (.ref 20), .inl (.ref 41)], sy_dh F1 X1 X2 (iv_H 2), 0, 0)) :
    hd_W Ls xs d jm_M3 Q (114, sy_dL F [some (.inl (.ref 41)), some (.inl (.ref 20)), some (.inl (.ref 46)), some (.inr (.inl 82)), some (.inr (.inl 83))], sy_dS F [.inr (.inl 85), .inr (.inl 84)], sy_dh F X1 X2 (iv_H 2), 0, 0) := by
  by_cases g0 : (sy_i F 85).toInt ≤ (sy_i F 84).toInt
  · have q86 : (sy_ai F 53).getD (sy_i F 83).toNatClampNeg 0 = (sy_ai F 53).getD ((sy_i F 83).toInt).toNat 0 := by simp only [nz_c]
    have n86 : nzI ((sy_ai F 53).getD (sy_i F 83).toNatClampNeg 0) (((sy_ai F 53).getD ((sy_i F 83).toInt).toNat 0).toInt) := congrArg Int32.toInt q86
    exact j2nph_114_p0 hd F X1 X2 hB (by first | exact g0 | (simp only [nz_c]; exact g0)) (by first | exact ⟨by omega, by omega⟩ | (simp only [nz_c]; exact ⟨by omega, by omega⟩)) (fun F1 g e82 e83 e84 => k0 g0 F1 (nz_in0 hB [] (fun j hj hn => g j hj (by simp only [List.mem_cons, List.not_mem_nil, or_false, not_or] at hn; exact trivial)) (List.forall_mem_nil _)) (fun j hj hn => g j hj (by simp only [List.mem_cons, List.not_mem_nil, or_false, not_or] at hn; exact trivial)) ((congrArg Int32.toInt (zz_i e82)).trans (rfl : (sy_i F 82).toInt = (sy_i F 82).toInt)) ((zz_i e82).trans (rfl : sy_i F 82 = sy_i F 82)) ((congrArg Int32.toInt (zz_i e83)).trans (rfl : (sy_i F 83).toInt = (sy_i F 83).toInt)) ((zz_i e83).trans (rfl : sy_i F 83 = sy_i F 83)) ((congrArg Int32.toInt (zz_i e84)).trans (nzE n86)) ((zz_i e84).trans q86))
  replace g0 : (sy_i F 84).toInt < (sy_i F 85).toInt := by omega
  exact j2nph_114_p1 hd F X1 X2 hB (by first | exact g0 | (simp only [nz_c]; exact g0)) (fun F1 g e82 e83 => k1 g0 F1 (nz_in0 hB [] (fun j hj hn => g j hj (by simp only [List.mem_cons, List.not_mem_nil, or_false, not_or] at hn; exact trivial)) (List.forall_mem_nil _)) (fun j hj hn => g j hj (by simp only [List.mem_cons, List.not_mem_nil, or_false, not_or] at hn; exact trivial)) ((congrArg Int32.toInt (zz_i e82)).trans (rfl : (sy_i F 82).toInt = (sy_i F 82).toInt)) ((zz_i e82).trans (rfl : sy_i F 82 = sy_i F 82)) ((congrArg Int32.toInt (zz_i e83)).trans (rfl : (sy_i F 83).toInt = (sy_i F 83).toInt)) ((zz_i e83).trans (rfl : sy_i F 83 = sy_i F 83)))
theorem j2nph_125_p0 {Ls : Nat} {xs : Nat → Int32} {d : Nat} {Q : Option Value → jm_h → Prop} (hd : 1 ≤ d) (F : Nat → sy_d) (X1 X2 : List jm_c) (hB : iv_in F iv_B0)
    (k : ∀ F1 : Nat → sy_d, (∀ j, j < 82 → True → F1 j = F j) → F1 82 = .inl (.int (sy_i F 82)) → F1 83 = .inl (.int ((sy_i F 83) + ((1 : Int32)))) → hd_W Ls xs d jm_M3 Q (61, sy_dL F1 [some (.inl (.ref 41)), some (.inl (.ref 20)), some (.inl (.ref 46)), some (.inr (.inl 82)), some (.inr (.inl 83))], sy_dS F1 [], sy_dh F1 X1 X2 (iv_H 2), 0, 0)) :
    hd_W Ls xs d jm_M3 Q (125, sy_dL F [some (.inl (.ref 41)), some (.inl (.ref 20)), some (.inl (.ref 46)), some (.inr (.inl 82)), some (.inr (.inl 83))], sy_dS F [], sy_dh F X1 X2 (iv_H 2), 0, 0) := by
  refine hd_run (s := 2) (nv := 84) (pc := 61) (L := [some (.inl (.ref 41)), some (.inl (.ref 20)), some (.inl (.ref 46)), some (.inr (.inl 82)), some (.inr (.inl 83))]) (S := []) (uh := hd_ov (iv_id 0 iv_B0) []) (ul := [.inl (.inr (.inl 82)), .inl (.inr (.inl 84))]) (f := false) (sp := [61]) (d0 := 0) (O := []) (T := [(0, [.inr (.inl 83), .inl (.int 1)], [])]) (P := []) jm_ok3 (by decide +kernel) (by decide +kernel) hd F X1 X2 (fun F' hF hs => ?_)
  have b82 := hd_b (F := F) (F' := F') (k := 82) (hF 82 (by decide))
  have b83 := hd_b (F := F) (F' := F') (k := 83) (hF 83 (by decide))
  have t84 : sy_dv F' (.inr (.inl 84)) = .int ((sy_i F 83) + ((1 : Int32))) := hd_o (hs 0 _ rfl) b83 rfl rfl
  have hB' : iv_in F' iv_B0 := iv_in_eq hB (fun j hj => hF j (Nat.lt_of_lt_of_le hj (by decide +kernel)))
  refine ⟨fun _ h => absurd h List.not_mem_nil, ?_⟩
  refine k _ ?_ ?_ ?_
  · exact fun j hj _ => (hd_keep hB' (Nat.lt_of_lt_of_le hj (by decide +kernel)) (by simp)).trans (hF j (Nat.lt_of_lt_of_le hj (by decide)))
  · exact hd_gi (x := .inr (.inl 82)) (by decide +kernel) b82
  · exact hd_gi (x := .inr (.inl 84)) (by decide +kernel) t84
theorem j2nph_125 {Ls : Nat} {xs : Nat → Int32} {d : Nat} {Q : Option Value → jm_h → Prop} (hd : 1 ≤ d) (F : Nat → sy_d) (X1 X2 : List jm_c) (hB : iv_in F iv_B0)
    (a83 : 0 ≤ (sy_i F 83).toInt ∧ (sy_i F 83).toInt ≤ 6)
    (k0 : ∀ F1 : Nat → sy_d, iv_in F1 iv_B0 → (∀ j, j < 82 → j ∉ ([] : List Nat) → F1 j = F j) → (sy_i F1 82).toInt = (sy_i F 82).toInt → sy_i F1 82 = sy_i F 82 → (sy_i F1 83).toInt = ((sy_i F 83).toInt + 1) → sy_i F1 83 = (sy_i F 83) + ((1 : Int32)) → hd_W Ls xs d jm_M3 Q (61, sy_dL F1 [some (.inl (.ref 41)), some (.inl (.ref 20)), some (.inl (.ref 46)), some (.inr (.inl 82)), some (.inr (.inl 83))], sy_dS F1 [], sy_dh F1 X1 X2 (iv_H 2), 0, 0)) :
    hd_W Ls xs d jm_M3 Q (125, sy_dL F [some (.inl (.ref 41)), some (.inl (.ref 20)), some (.inl (.ref 46)), some (.inr (.inl 82)), some (.inr (.inl 83))], sy_dS F [], sy_dh F X1 X2 (iv_H 2), 0, 0) := by
  have n84 : nzI ((sy_i F 83) + ((1 : Int32))) (((sy_i F 83).toInt + 1)) := nz_add (rfl : (sy_i F 83).toInt = (sy_i F 83).toInt) (by decide : ((1 : Int32)).toInt = 1) (by omega) (by omega)
  exact j2nph_125_p0 hd F X1 X2 hB  (fun F1 g e82 e83 => k0 F1 (nz_in0 hB [] (fun j hj hn => g j hj (by simp only [List.mem_cons, List.not_mem_nil, or_false, not_or] at hn; exact trivial)) (List.forall_mem_nil _)) (fun j hj hn => g j hj (by simp only [List.mem_cons, List.not_mem_nil, or_false, not_or] at hn; exact trivial)) ((congrArg Int32.toInt (zz_i e82)).trans (rfl : (sy_i F 82).toInt = (sy_i F 82).toInt)) ((zz_i e82).trans (rfl : sy_i F 82 = sy_i F 82)) ((congrArg Int32.toInt (zz_i e83)).trans (nzE n84)) ((zz_i e83).trans (rfl : (sy_i F 83) + ((1 : Int32)) = (sy_i F 83) + ((1 : Int32)))))
theorem j2nph_150_p0 {Ls : Nat} {xs : Nat → Int32} {d : Nat} {Q : Option Value → jm_h → Prop} (hd : 3 ≤ d) (F : Nat → sy_d) (X1 X2 : List jm_c) (hB : iv_in F iv_B0)
    (h0 : ((sy_i F 84) + (sy_i F 85)).toInt < 99)
    (h1 : 0 < ((sy_i F 84) + (sy_i F 85)).toInt)
    (h2 : 0 ≤ (sy_i F 83).toInt ∧ (sy_i F 83).toInt < 7)
    (k : ∀ F1 : Nat → sy_d, (∀ j, j < 82 → j ≠ 53 → F1 j = F j) → F1 53 = .inr (.inl (jm_upd (sy_ai F 53) (sy_i F 83).toNatClampNeg ((sy_i F 84) + (sy_i F 85)))) → F1 82 = .inl (.int (sy_i F 82)) → F1 83 = .inl (.int ((sy_i F 83) + ((1 : Int32)))) → hd_W Ls xs d jm_M3 Q (61, sy_dL F1 [some (.inl (.ref 41)), some (.inl (.ref 20)), some (.inl (.ref 46)), some (.inr (.inl 82)), some (.inr (.inl 83))], sy_dS F1 [], sy_dh F1 X1 X2 (iv_H 2), 0, 0)) :
    hd_W Ls xs d jm_M3 Q (150, sy_dL F [some (.inl (.ref 41)), some (.inl (.ref 20)), some (.inl (.ref 46)), some (.inr (.inl 82)), some (.inr (.inl 83))], sy_dS F [.inr (.inl 85), .inr (.inl 84), .inr (.inl 83), .inl (.ref 47)], sy_dh F X1 X2 (iv_H 2), 0, 0) := by
  refine hd_run (s := 2) (nv := 86) (pc := 61) (L := [some (.inl (.ref 41)), some (.inl (.ref 20)), some (.inl (.ref 46)), some (.inr (.inl 82)), some (.inr (.inl 83))]) (S := []) (uh := hd_ov (iv_id 0 iv_B0) [(53, .inr (.inr (.inl 87)))]) (ul := [.inl (.inr (.inl 82)), .inl (.inr (.inl 88))]) (f := false) (sp := [61]) (d0 := 2) (O := [true, true]) (T := [(0, [.inr (.inl 84), .inr (.inl 85)], []), (40, [.inr (.inl 83), .inr (.inl 86)], [.inr (.inl 53)]), (0, [.inr (.inl 83), .inl (.int 1)], [])]) (P := [(2, .inr (.inl 86), .inl (.int 99)), (2, .inl (.int 0), .inr (.inl 86)), (6, .inr (.inl 83), .inl (.ref 7))]) jm_ok3 (by decide +kernel) (by decide +kernel) hd F X1 X2 (fun F' hF hs => ?_)
  have b84 := hd_b (F := F) (F' := F') (k := 84) (hF 84 (by decide))
  have b85 := hd_b (F := F) (F' := F') (k := 85) (hF 85 (by decide))
  have t86 : sy_dv F' (.inr (.inl 86)) = .int ((sy_i F 84) + (sy_i F 85)) := hd_o (hs 0 _ rfl) b84 b85 rfl
  have b83 := hd_b (F := F) (F' := F') (k := 83) (hF 83 (by decide))
  have a53 := hd_ba (F := F) (F' := F') (k := 53) (hF 53 (by decide))
  have t87 : sy_da F' (.inr (.inl 87)) = .inl (jm_upd (sy_ai F 53) (sy_i F 83).toNatClampNeg ((sy_i F 84) + (sy_i F 85))) := hd_up (hs 1 _ rfl) b83 t86 a53
  have b82 := hd_b (F := F) (F' := F') (k := 82) (hF 82 (by decide))
  have t88 : sy_dv F' (.inr (.inl 88)) = .int ((sy_i F 83) + ((1 : Int32))) := hd_o (hs 2 _ rfl) b83 rfl rfl
  have hB' : iv_in F' iv_B0 := iv_in_eq hB (fun j hj => hF j (Nat.lt_of_lt_of_le hj (by decide +kernel)))
  refine ⟨List.forall_mem_cons.mpr ⟨hd_p2 t86 rfl (by have hc : ((99) : Int32).toInt = 99 := (by decide); omega), List.forall_mem_cons.mpr ⟨hd_p2 rfl t86 (by have hc : ((0) : Int32).toInt = 0 := (by decide); omega), List.forall_mem_cons.mpr ⟨hd_pb b83 (by first | exact h2 | exact h2), fun _ h => absurd h List.not_mem_nil⟩⟩⟩, ?_⟩
  refine k _ ?_ ?_ ?_ ?_
  · exact fun j hj hn => (hd_keep hB' (Nat.lt_of_lt_of_le hj (by decide +kernel)) (by simp; omega)).trans (hF j (Nat.lt_of_lt_of_le hj (by decide)))
  · exact hd_ga (a := .inr (.inl 87)) (by decide +kernel) t87
  · exact hd_gi (x := .inr (.inl 82)) (by decide +kernel) b82
  · exact hd_gi (x := .inr (.inl 88)) (by decide +kernel) t88
theorem j2nph_150_p1 {Ls : Nat} {xs : Nat → Int32} {d : Nat} {Q : Option Value → jm_h → Prop} (hd : 3 ≤ d) (F : Nat → sy_d) (X1 X2 : List jm_c) (hB : iv_in F iv_B0)
    (h0 : ((sy_i F 84) + (sy_i F 85)).toInt < 99)
    (h1 : ((sy_i F 84) + (sy_i F 85)).toInt ≤ 0)
    (h2 : 0 ≤ (sy_i F 83).toInt ∧ (sy_i F 83).toInt < 7)
    (k : ∀ F1 : Nat → sy_d, (∀ j, j < 82 → j ≠ 53 → F1 j = F j) → F1 53 = .inr (.inl (jm_upd (sy_ai F 53) (sy_i F 83).toNatClampNeg ((0 : Int32)))) → F1 82 = .inl (.int (sy_i F 82)) → F1 83 = .inl (.int ((sy_i F 83) + ((1 : Int32)))) → hd_W Ls xs d jm_M3 Q (61, sy_dL F1 [some (.inl (.ref 41)), some (.inl (.ref 20)), some (.inl (.ref 46)), some (.inr (.inl 82)), some (.inr (.inl 83))], sy_dS F1 [], sy_dh F1 X1 X2 (iv_H 2), 0, 0)) :
    hd_W Ls xs d jm_M3 Q (150, sy_dL F [some (.inl (.ref 41)), some (.inl (.ref 20)), some (.inl (.ref 46)), some (.inr (.inl 82)), some (.inr (.inl 83))], sy_dS F [.inr (.inl 85), .inr (.inl 84), .inr (.inl 83), .inl (.ref 47)], sy_dh F X1 X2 (iv_H 2), 0, 0) := by
  refine hd_run (s := 2) (nv := 86) (pc := 61) (L := [some (.inl (.ref 41)), some (.inl (.ref 20)), some (.inl (.ref 46)), some (.inr (.inl 82)), some (.inr (.inl 83))]) (S := []) (uh := hd_ov (iv_id 0 iv_B0) [(53, .inr (.inr (.inl 87)))]) (ul := [.inl (.inr (.inl 82)), .inl (.inr (.inl 88))]) (f := false) (sp := [61]) (d0 := 2) (O := [true, false]) (T := [(0, [.inr (.inl 84), .inr (.inl 85)], []), (40, [.inr (.inl 83), .inl (.int 0)], [.inr (.inl 53)]), (0, [.inr (.inl 83), .inl (.int 1)], [])]) (P := [(2, .inr (.inl 86), .inl (.int 99)), (3, .inl (.int 0), .inr (.inl 86)), (6, .inr (.inl 83), .inl (.ref 7))]) jm_ok3 (by decide +kernel) (by decide +kernel) hd F X1 X2 (fun F' hF hs => ?_)
  have b84 := hd_b (F := F) (F' := F') (k := 84) (hF 84 (by decide))
  have b85 := hd_b (F := F) (F' := F') (k := 85) (hF 85 (by decide))
  have t86 : sy_dv F' (.inr (.inl 86)) = .int ((sy_i F 84) + (sy_i F 85)) := hd_o (hs 0 _ rfl) b84 b85 rfl
  have b83 := hd_b (F := F) (F' := F') (k := 83) (hF 83 (by decide))
  have a53 := hd_ba (F := F) (F' := F') (k := 53) (hF 53 (by decide))
  have t87 : sy_da F' (.inr (.inl 87)) = .inl (jm_upd (sy_ai F 53) (sy_i F 83).toNatClampNeg ((0 : Int32))) := hd_up (hs 1 _ rfl) b83 rfl a53
  have b82 := hd_b (F := F) (F' := F') (k := 82) (hF 82 (by decide))
  have t88 : sy_dv F' (.inr (.inl 88)) = .int ((sy_i F 83) + ((1 : Int32))) := hd_o (hs 2 _ rfl) b83 rfl rfl
  have hB' : iv_in F' iv_B0 := iv_in_eq hB (fun j hj => hF j (Nat.lt_of_lt_of_le hj (by decide +kernel)))
  refine ⟨List.forall_mem_cons.mpr ⟨hd_p2 t86 rfl (by have hc : ((99) : Int32).toInt = 99 := (by decide); omega), List.forall_mem_cons.mpr ⟨hd_p3 rfl t86 (by have hc : ((0) : Int32).toInt = 0 := (by decide); omega), List.forall_mem_cons.mpr ⟨hd_pb b83 (by first | exact h2 | exact h2), fun _ h => absurd h List.not_mem_nil⟩⟩⟩, ?_⟩
  refine k _ ?_ ?_ ?_ ?_
  · exact fun j hj hn => (hd_keep hB' (Nat.lt_of_lt_of_le hj (by decide +kernel)) (by simp; omega)).trans (hF j (Nat.lt_of_lt_of_le hj (by decide)))
  · exact hd_ga (a := .inr (.inl 87)) (by decide +kernel) t87
  · exact hd_gi (x := .inr (.inl 82)) (by decide +kernel) b82
  · exact hd_gi (x := .inr (.inl 88)) (by decide +kernel) t88
theorem j2nph_150_p2 {Ls : Nat} {xs : Nat → Int32} {d : Nat} {Q : Option Value → jm_h → Prop} (hd : 3 ≤ d) (F : Nat → sy_d) (X1 X2 : List jm_c) (hB : iv_in F iv_B0)
    (h0 : 99 ≤ ((sy_i F 84) + (sy_i F 85)).toInt)
    (h1 : 0 ≤ (sy_i F 83).toInt ∧ (sy_i F 83).toInt < 7)
    (k : ∀ F1 : Nat → sy_d, (∀ j, j < 82 → j ≠ 53 → F1 j = F j) → F1 53 = .inr (.inl (jm_upd (sy_ai F 53) (sy_i F 83).toNatClampNeg ((99 : Int32)))) → F1 82 = .inl (.int (sy_i F 82)) → F1 83 = .inl (.int ((sy_i F 83) + ((1 : Int32)))) → hd_W Ls xs d jm_M3 Q (61, sy_dL F1 [some (.inl (.ref 41)), some (.inl (.ref 20)), some (.inl (.ref 46)), some (.inr (.inl 82)), some (.inr (.inl 83))], sy_dS F1 [], sy_dh F1 X1 X2 (iv_H 2), 0, 0)) :
    hd_W Ls xs d jm_M3 Q (150, sy_dL F [some (.inl (.ref 41)), some (.inl (.ref 20)), some (.inl (.ref 46)), some (.inr (.inl 82)), some (.inr (.inl 83))], sy_dS F [.inr (.inl 85), .inr (.inl 84), .inr (.inl 83), .inl (.ref 47)], sy_dh F X1 X2 (iv_H 2), 0, 0) := by
  refine hd_run (s := 2) (nv := 86) (pc := 61) (L := [some (.inl (.ref 41)), some (.inl (.ref 20)), some (.inl (.ref 46)), some (.inr (.inl 82)), some (.inr (.inl 83))]) (S := []) (uh := hd_ov (iv_id 0 iv_B0) [(53, .inr (.inr (.inl 87)))]) (ul := [.inl (.inr (.inl 82)), .inl (.inr (.inl 88))]) (f := false) (sp := [61]) (d0 := 2) (O := [false]) (T := [(0, [.inr (.inl 84), .inr (.inl 85)], []), (40, [.inr (.inl 83), .inl (.int 99)], [.inr (.inl 53)]), (0, [.inr (.inl 83), .inl (.int 1)], [])]) (P := [(3, .inr (.inl 86), .inl (.int 99)), (6, .inr (.inl 83), .inl (.ref 7))]) jm_ok3 (by decide +kernel) (by decide +kernel) hd F X1 X2 (fun F' hF hs => ?_)
  have b84 := hd_b (F := F) (F' := F') (k := 84) (hF 84 (by decide))
  have b85 := hd_b (F := F) (F' := F') (k := 85) (hF 85 (by decide))
  have t86 : sy_dv F' (.inr (.inl 86)) = .int ((sy_i F 84) + (sy_i F 85)) := hd_o (hs 0 _ rfl) b84 b85 rfl
  have b83 := hd_b (F := F) (F' := F') (k := 83) (hF 83 (by decide))
  have a53 := hd_ba (F := F) (F' := F') (k := 53) (hF 53 (by decide))
  have t87 : sy_da F' (.inr (.inl 87)) = .inl (jm_upd (sy_ai F 53) (sy_i F 83).toNatClampNeg ((99 : Int32))) := hd_up (hs 1 _ rfl) b83 rfl a53
  have b82 := hd_b (F := F) (F' := F') (k := 82) (hF 82 (by decide))
  have t88 : sy_dv F' (.inr (.inl 88)) = .int ((sy_i F 83) + ((1 : Int32))) := hd_o (hs 2 _ rfl) b83 rfl rfl
  have hB' : iv_in F' iv_B0 := iv_in_eq hB (fun j hj => hF j (Nat.lt_of_lt_of_le hj (by decide +kernel)))
  refine ⟨List.forall_mem_cons.mpr ⟨hd_p3 t86 rfl (by have hc : ((99) : Int32).toInt = 99 := (by decide); omega), List.forall_mem_cons.mpr ⟨hd_pb b83 (by first | exact h1 | exact h1), fun _ h => absurd h List.not_mem_nil⟩⟩, ?_⟩
  refine k _ ?_ ?_ ?_ ?_
  · exact fun j hj hn => (hd_keep hB' (Nat.lt_of_lt_of_le hj (by decide +kernel)) (by simp; omega)).trans (hF j (Nat.lt_of_lt_of_le hj (by decide)))
  · exact hd_ga (a := .inr (.inl 87)) (by decide +kernel) t87
  · exact hd_gi (x := .inr (.inl 82)) (by decide +kernel) b82
  · exact hd_gi (x := .inr (.inl 88)) (by decide +kernel) t88
theorem j2nph_150 {Ls : Nat} {xs : Nat → Int32} {d : Nat} {Q : Option Value → jm_h → Prop} (hd : 3 ≤ d) (F : Nat → sy_d) (X1 X2 : List jm_c) (hB : iv_in F iv_B0)
    (a83 : 0 ≤ (sy_i F 83).toInt ∧ (sy_i F 83).toInt ≤ 6)
    (k0 : ((sy_i F 84) + (sy_i F 85)).toInt < 99 → 0 < ((sy_i F 84) + (sy_i F 85)).toInt → ∀ F1 : Nat → sy_d, iv_in F1 iv_B0 → (∀ j, j < 82 → j ∉ ([53] : List Nat) → F1 j = F j) → sy_ai F1 53 = jm_upd (sy_ai F 53) ((sy_i F 83).toInt).toNat ((sy_i F 84) + (sy_i F 85)) → (sy_i F1 82).toInt = (sy_i F 82).toInt → sy_i F1 82 = sy_i F 82 → (sy_i F1 83).toInt = ((sy_i F 83).toInt + 1) → sy_i F1 83 = (sy_i F 83) + ((1 : Int32)) → hd_W Ls xs d jm_M3 Q (61, sy_dL F1 [some (.inl (.ref 41)), some (.inl (.ref 20)), some (.inl (.ref 46)), some (.inr (.inl 82)), some (.inr (.inl 83))], sy_dS F1 [], sy_dh F1 X1 X2 (iv_H 2), 0, 0))
    (k1 : ((sy_i F 84) + (sy_i F 85)).toInt < 99 → ((sy_i F 84) + (sy_i F 85)).toInt ≤ 0 → ∀ F1 : Nat → sy_d, iv_in F1 iv_B0 → (∀ j, j < 82 → j ∉ ([53] : List Nat) → F1 j = F j) → sy_ai F1 53 = jm_upd (sy_ai F 53) ((sy_i F 83).toInt).toNat ((0 : Int32)) → (sy_i F1 82).toInt = (sy_i F 82).toInt → sy_i F1 82 = sy_i F 82 → (sy_i F1 83).toInt = ((sy_i F 83).toInt + 1) → sy_i F1 83 = (sy_i F 83) + ((1 : Int32)) → hd_W Ls xs d jm_M3 Q (61, sy_dL F1 [some (.inl (.ref 41)), some (.inl (.ref 20)), some (.inl (.ref 46)), some (.inr (.inl 82)), some (.inr (.inl 83))], sy_dS F1 [], sy_dh F1 X1 X2 (iv_H 2), 0, 0))
    (k2 : 99 ≤ ((sy_i F 84) + (sy_i F 85)).toInt → ∀ F1 : Nat → sy_d, iv_in F1 iv_B0 → (∀ j, j < 82 → j ∉ ([53] : List Nat) → F1 j = F j) → sy_ai F1 53 = jm_upd (sy_ai F 53) ((sy_i F 83).toInt).toNat ((99 : Int32)) → (sy_i F1 82).toInt = (sy_i F 82).toInt → sy_i F1 82 = sy_i F 82 → (sy_i F1 83).toInt = ((sy_i F 83).toInt + 1) → sy_i F1 83 = (sy_i F 83) + ((1 : Int32)) → hd_W Ls xs d jm_M3 Q (61, sy_dL F1 [some (.inl (.ref 41)), some (.inl (.ref 20)), some (.inl (.ref 46)), some (.inr (.inl 82)), some (.inr (.inl 83))], sy_dS F1 [], sy_dh F1 X1 X2 (iv_H 2), 0, 0)) :
    hd_W Ls xs d jm_M3 Q (150, sy_dL F [some (.inl (.ref 41)), some (.inl (.ref 20)), some (.inl (.ref 46)), some (.inr (.inl 82)), some (.inr (.inl 83))], sy_dS F [.inr (.inl 85), .inr (.inl 84), .inr (.inl 83), .inl (.ref 47)], sy_dh F X1 X2 (iv_H 2), 0, 0) := by
  by_cases g0 : ((sy_i F 84) + (sy_i F 85)).toInt < 99
  · by_cases g1 : 0 < ((sy_i F 84) + (sy_i F 85)).toInt
    · have n86 : nzI ((sy_i F 84) + (sy_i F 85)) (((sy_i F 84) + (sy_i F 85)).toInt) := congrArg Int32.toInt (rfl : (sy_i F 84) + (sy_i F 85) = (sy_i F 84) + (sy_i F 85))
      have w87 : jm_upd (sy_ai F 53) (sy_i F 83).toNatClampNeg ((sy_i F 84) + (sy_i F 85)) = jm_upd (sy_ai F 53) ((sy_i F 83).toInt).toNat ((sy_i F 84) + (sy_i F 85)) := by simp only [nz_c]
      have n88 : nzI ((sy_i F 83) + ((1 : Int32))) (((sy_i F 83).toInt + 1)) := nz_add (rfl : (sy_i F 83).toInt = (sy_i F 83).toInt) (by decide : ((1 : Int32)).toInt = 1) (by omega) (by omega)
      exact j2nph_150_p0 hd F X1 X2 hB (by first | exact g0 | (simp only [nz_c]; exact g0) | (rw [(nzE n86)]; exact g0)) (by first | exact g1 | (simp only [nz_c]; exact g1) | (rw [(nzE n86)]; exact g1)) (by first | exact ⟨by omega, by omega⟩ | (simp only [nz_c]; exact ⟨by omega, by omega⟩)) (fun F1 g e53 e82 e83 => k0 g0 g1 F1 (nz_in0 hB [53] (fun j hj hn => g j hj (by simp only [List.mem_cons, List.not_mem_nil, or_false, not_or] at hn; omega)) (List.forall_mem_cons.mpr ⟨fun t ht => (Option.some.inj ht) ▸ (nz_hz2 e53), List.forall_mem_nil _⟩)) (fun j hj hn => g j hj (by simp only [List.mem_cons, List.not_mem_nil, or_false, not_or] at hn; omega)) ((zz_ai e53).trans w87) ((congrArg Int32.toInt (zz_i e82)).trans (rfl : (sy_i F 82).toInt = (sy_i F 82).toInt)) ((zz_i e82).trans (rfl : sy_i F 82 = sy_i F 82)) ((congrArg Int32.toInt (zz_i e83)).trans (nzE n88)) ((zz_i e83).trans (rfl : (sy_i F 83) + ((1 : Int32)) = (sy_i F 83) + ((1 : Int32)))))
    replace g1 : ((sy_i F 84) + (sy_i F 85)).toInt ≤ 0 := by omega
    have n86 : nzI ((sy_i F 84) + (sy_i F 85)) (((sy_i F 84) + (sy_i F 85)).toInt) := congrArg Int32.toInt (rfl : (sy_i F 84) + (sy_i F 85) = (sy_i F 84) + (sy_i F 85))
    have w87 : jm_upd (sy_ai F 53) (sy_i F 83).toNatClampNeg ((0 : Int32)) = jm_upd (sy_ai F 53) ((sy_i F 83).toInt).toNat ((0 : Int32)) := by simp only [nz_c, (by decide : ((0 : Int32)).toInt = 0)]
    have n88 : nzI ((sy_i F 83) + ((1 : Int32))) (((sy_i F 83).toInt + 1)) := nz_add (rfl : (sy_i F 83).toInt = (sy_i F 83).toInt) (by decide : ((1 : Int32)).toInt = 1) (by omega) (by omega)
    exact j2nph_150_p1 hd F X1 X2 hB (by first | exact g0 | (simp only [nz_c]; exact g0) | (rw [(nzE n86)]; exact g0)) (by first | exact g1 | (simp only [nz_c]; exact g1) | (rw [(nzE n86)]; exact g1)) (by first | exact ⟨by omega, by omega⟩ | (simp only [nz_c]; exact ⟨by omega, by omega⟩)) (fun F1 g e53 e82 e83 => k1 g0 g1 F1 (nz_in0 hB [53] (fun j hj hn => g j hj (by simp only [List.mem_cons, List.not_mem_nil, or_false, not_or] at hn; omega)) (List.forall_mem_cons.mpr ⟨fun t ht => (Option.some.inj ht) ▸ (nz_hz2 e53), List.forall_mem_nil _⟩)) (fun j hj hn => g j hj (by simp only [List.mem_cons, List.not_mem_nil, or_false, not_or] at hn; omega)) ((zz_ai e53).trans w87) ((congrArg Int32.toInt (zz_i e82)).trans (rfl : (sy_i F 82).toInt = (sy_i F 82).toInt)) ((zz_i e82).trans (rfl : sy_i F 82 = sy_i F 82)) ((congrArg Int32.toInt (zz_i e83)).trans (nzE n88)) ((zz_i e83).trans (rfl : (sy_i F 83) + ((1 : Int32)) = (sy_i F 83) + ((1 : Int32)))))
  replace g0 : 99 ≤ ((sy_i F 84) + (sy_i F 85)).toInt := by omega
  have n86 : nzI ((sy_i F 84) + (sy_i F 85)) (((sy_i F 84) + (sy_i F 85)).toInt) := congrArg Int32.toInt (rfl : (sy_i F 84) + (sy_i F 85) = (sy_i F 84) + (sy_i F 85))
  have w87 : jm_upd (sy_ai F 53) (sy_i F 83).toNatClampNeg ((99 : Int32)) = jm_upd (sy_ai F 53) ((sy_i F 83).toInt).toNat ((99 : Int32)) := by simp only [nz_c, (by decide : ((99 : Int32)).toInt = 99)]
  have n88 : nzI ((sy_i F 83) + ((1 : Int32))) (((sy_i F 83).toInt + 1)) := nz_add (rfl : (sy_i F 83).toInt = (sy_i F 83).toInt) (by decide : ((1 : Int32)).toInt = 1) (by omega) (by omega)
  exact j2nph_150_p2 hd F X1 X2 hB (by first | exact g0 | (simp only [nz_c]; exact g0) | (rw [(nzE n86)]; exact g0)) (by first | exact ⟨by omega, by omega⟩ | (simp only [nz_c]; exact ⟨by omega, by omega⟩)) (fun F1 g e53 e82 e83 => k2 g0 F1 (nz_in0 hB [53] (fun j hj hn => g j hj (by simp only [List.mem_cons, List.not_mem_nil, or_false, not_or] at hn; omega)) (List.forall_mem_cons.mpr ⟨fun t ht => (Option.some.inj ht) ▸ (nz_hz2 e53), List.forall_mem_nil _⟩)) (fun j hj hn => g j hj (by simp only [List.mem_cons, List.not_mem_nil, or_false, not_or] at hn; omega)) ((zz_ai e53).trans w87) ((congrArg Int32.toInt (zz_i e82)).trans (rfl : (sy_i F 82).toInt = (sy_i F 82).toInt)) ((zz_i e82).trans (rfl : sy_i F 82 = sy_i F 82)) ((congrArg Int32.toInt (zz_i e83)).trans (nzE n88)) ((zz_i e83).trans (rfl : (sy_i F 83) + ((1 : Int32)) = (sy_i F 83) + ((1 : Int32)))))
end
section
/-! ===== the class: an hour (shape 2, n) ===== -/
abbrev W2n : List Nat := [45, 46, 50, 53, 54, 55, 56, 58, 59, 61]
section H2n
variable {Ls : Nat} {xs : Nat → Int32} {T : tX} {g : gS} (F : Nat → sy_d) (X1 X2 : List jm_c)
theorem j2ngq {F F1 : Nat → sy_d} {W : List Nat} (hG : gC 50 (nfS T) (nbS T) F g) (q : qC W F F1) (h : ∀ a ∈ W, a < 50 ∨ 62 ≤ a) : gC 50 (nfS T) (nbS T) F1 g := gC_eq hG (fun j h1 h2 => q.2 j (by omega) (fun z => by have := h j z; omega))
/-- what lies there is sold, or kept -/
theorem j2nsk_V {cur : gS} (hC : xC 18 T F) (hG : gC 50 (nfS T) (nbS T) F cur) (hH : hV T g F) {f : Int32} (hf : 0 ≤ f.toInt ∧ f.toInt < nfS T) : jm_T Ls xs 5 jm_M4 [.ref 41, .ref 20, .ref 46, .int f] (sy_dh F X1 X2 (iv_H 2)) 0 0 (pV 2 X1 X2 (fun F' => qC W2n F F' ∧ gC 50 (nfS T) (nbS T) F' (lieS T cur f.toInt.toNat (Int32.ofInt (worthT T f.toInt.toNat (cur 1 f.toInt.toNat) (cur 4 f.toInt.toNat) (g 9 0) (lfS T g)))) ∧ hV T g F')) := by
  have l7 : nfS T ≤ 7 := hC.2.2.1.1.1
  have l4 : nbS T ≤ 4 := hC.2.2.1.1.2.1
  have ek : (sy_i F 21).toInt = T.2.2.2.1 := hC.2.1.2.2.2.1
  refine C_T (by decide) [f] [.inl (.ref 41), .inl (.ref 20), .inl (.ref 46), .inr (.inl 82)] jm_ok4 (by decide) rfl (fun F0 k0 ki => ?_)
  have i82 : sy_i F0 82 = f := ki 0
  obtain ⟨n, hn⟩ : ∃ n : Nat, n = f.toInt.toNat := ⟨_, rfl⟩
  have hnf : n < nfS T := by omega
  rw [← hn]
  refine j2nsk_0 (by decide) F0 X1 X2 (hd_iveq0 hC.1 k0) (by rw [i82]; omega) ?_
  intro F1 hb gg a45 e82 j82
  have q1 : qC W2n F F1 := qq_src (qq_mk hb gg (by decide)) k0
  rw [i82, ← hn] at a45
  rw [i82] at j82 e82
  have hx := xX_f hC hnf
  obtain ⟨fv, hvf⟩ := fV_set (T := T) (g := cur) (f := n) a45 (by rw [nz_fa (k0 53 (by decide))]; exact hG.1 1 n (by decide) (vF (by decide) hnf)) (by rw [nz_fa (k0 25 (by decide))]; exact hx.2.1) (by rw [nz_fa (k0 24 (by decide))]; exact hx.1) (by rw [nz_fa (k0 58 (by decide))]; exact hG.1 6 n (by decide) (vF (by decide) hnf)) (by rw [nz_fa (k0 57 (by decide))]; exact hG.1 5 n (by decide) (vF (by decide) hnf)) (by rw [nz_fa (k0 56 (by decide))]; exact hG.1 4 n (by decide) (vF (by decide) hnf))
  have hv1 := hvf (hV_e hH (nz_fa (k0 45 (by decide))))
  have c1 := xC_q (by decide) hC q1 (by decide)
  have g1 : gC 50 (nfS T) (nbS T) F1 cur := gC_eq hG (fun j h1 h2 => (gg j (by omega) (by intro z; simp at z <;> omega)).trans (k0 j (by omega)))
  have hw := wo_of c1.2.2.1 hv1 fv
  refine hd_calI (R := fun x F' => qC [46] F1 F' ∧ x.toInt = lwT T 3 (v45 F1)) (nh := 82) (nv := 83) (s := 2) (s1 := 2) (d1 := 4) (M1 := jm_M21) (As := [.inl (.ref 38), .inl (.ref 20), .inl (.int 3)]) (rest := []) jm_ok4 rfl rfl (by decide) (by decide +kernel) (j2tl_V F1 X1 X2 c1 (by decide) (by decide)) (fun F3 F' x hR p1 p2 p3 => ?_)
  obtain ⟨r1, r2⟩ := hR
  rw [hw] at r2
  obtain ⟨c, hc⟩ : ∃ c : Int32, c = Int32.ofInt (worthT T n (cur 1 n) (cur 4 n) (g 9 0) (lfS T g)) := ⟨_, rfl⟩
  rw [← hc]
  have r1' : qC [46] F1 F3 := qC_dst r1 p1
  have q3 : qC W2n F F3 := qq_trans q1 (qq_up r1' (by decide))
  have i83 : sy_i F3 83 = c := by rw [zz_i p3, hc]; exact (ofi r2).symm
  have k82 : sy_i F3 82 = f := (eI (p2 82 (by decide) (by decide))).trans j82
  have g3 : gC 50 (nfS T) (nbS T) F3 cur := j2ngq g1 r1' (by decide)
  have hv3 := hV_e hv1 (qq_a r1' (by decide) (by decide))
  refine j2nsk_19 (by decide) F3 X1 X2 q3.1 (by rw [k82]; omega) ?_
  intro F4 hb4 g4 e82' j82' e83' j83' e84' j84'
  have q4' : qC W2n F F4 := qq_on q3 hb4 g4 (by decide)
  have j84 : sy_i F4 84 = cur 0 n := by
    rw [j84', k82, ← hn]
    exact g3.1 0 n (by decide) (vF (by decide) hnf)
  have j83 : sy_i F4 83 = c := j83'.trans i83
  have g4' : gC 50 (nfS T) (nbS T) F4 cur := gC_eq g3 (fun j h1 h2 => g4 j (by omega) (by simp))
  refine hd_calI (R := fun x F' => qC [] F4 F' ∧ x.toInt = fsS cur (sy_i F4 84) (sy_i F4 83).toInt (nbS T)) (nh := 82) (nv := 84) (s := 2) (s1 := 2) (d1 := 1) (M1 := jm_M14) (As := [.inl (.ref 46), .inl (.ref 20), .inr (.inl 84), .inr (.inl 83)]) (rest := []) jm_ok4 rfl rfl (by decide) (by decide +kernel) (j2nfa_V F4 X1 X2 (xC_q (by decide) hC q4' (by decide)) g4' _ _) (fun F5 F6 y hR2 p1' p2' p3' => ?_)
  obtain ⟨s1, s2⟩ := hR2
  rw [j84, j83] at s2
  have s1' : qC [] F4 F5 := qC_dst s1 p1'
  have q5 : qC W2n F F5 := qq_trans q4' (qq_up s1' (by decide))
  have g5 : gC 50 (nfS T) (nbS T) F5 cur := j2ngq g4' s1' (by decide)
  have hv5 := hV_e (hV_e hv3 (nz_fa (g4 45 (by decide) (by decide)))) (qq_a s1' (by decide) (by decide))
  have m82 : (sy_i F5 82).toInt.toNat = n := by rw [nz_fi (p2' 82 (by decide) (by decide)), e82', k82]; exact hn.symm
  have m82b : 0 ≤ (sy_i F5 82).toInt ∧ (sy_i F5 82).toInt ≤ 6 := by rw [nz_fi (p2' 82 (by decide) (by decide)), e82', k82]; omega
  have m83 : sy_i F5 83 = c := (eI (p2' 83 (by decide) (by decide))).trans j83
  have m84 : (sy_i F5 84).toInt = fsS cur (cur 0 n) c.toInt (nbS T) := by rw [zz_i p3']; exact s2
  have hfs := fs_in cur (cur 0 n) c.toInt (nbS T)
  have r4 : (sy_ai F5 56).getD n 0 = cur 4 n := g5.1 4 n (by decide) (vF (by decide) hnf)
  have ek5 : (sy_i F5 21).toInt = T.2.2.2.1 := by rw [qq_i q5 (by decide) (by decide)]; exact ek
  refine j2nsk_34 (by decide) F5 X1 X2 q5.1 m82b (by omega) ?_ ?_ ?_
  · intro c0 c1 F7 hb7 g7 a56
    rw [m82, jm_upd_at, if_pos rfl, r4, ek5] at c1
    rw [m82, r4] at a56
    refine ⟨F7, rfl, rfl, qq_on q5 hb7 g7 (by decide), ?_, hV_e hv5 (nz_fa (g7 45 (by decide) (by decide)))⟩
    unfold lieS
    rw [if_neg (by omega), if_neg (by omega)]
    exact gC_up g5 (by decide) rfl a56 (fun j h1 h2 h3 => g7 j (by omega) (by intro z; simp at z; exact h3 z))
  · intro c0 c1 F7 hb7 g7 a54 a56
    rw [m82, jm_upd_at, if_pos rfl, r4, ek5] at c1
    rw [m82] at a54
    rw [m82, r4] at a56
    refine ⟨F7, rfl, rfl, qq_on q5 hb7 g7 (by decide), ?_, hV_e hv5 (nz_fa (g7 45 (by decide) (by decide)))⟩
    unfold lieS
    rw [if_neg (by omega), if_pos (by omega)]
    exact gC_up2 g5 (by decide) (by decide) (by decide) rfl rfl a56 a54 (fun j h1 h2 h3 h4 => g7 j (by omega) (by intro z; simp at z; rcases z with z | z; exact h4 z; exact h3 z))
  · intro c0 F7 hb7 g7 a54 a55 a61
    refine ⟨F7, rfl, rfl, qq_on q5 hb7 g7 (by decide), ?_, hV_e hv5 (nz_fa (g7 45 (by decide) (by decide)))⟩
    obtain ⟨b, hb'⟩ : ∃ b : Nat, fsS cur (cur 0 n) c.toInt (nbS T) = b := ⟨(fsS cur (cur 0 n) c.toInt (nbS T)).toNat, by omega⟩
    have m84n : (sy_i F5 84).toInt.toNat = b := by omega
    have r8 : (sy_ai F5 61).getD b 0 = cur 8 b := g5.1 8 b (by decide) (vB (Or.inr rfl) (by omega))
    have e84 : sy_i F5 84 = Int32.ofInt (b : Int) := (ofi (m84.trans hb')).symm
    rw [m82] at a54 a55
    rw [m84n, r8, m83] at a61
    rw [e84] at a55
    unfold lieS
    rw [hb', if_pos (by omega)]
    unfold sellS
    rw [Int.toNat_natCast]
    exact gC_up3 g5 (by decide) (by decide) (by decide) (by decide) (by decide) (by decide) rfl rfl rfl a54 a55 a61 (fun j h1 h2 h3 h4 h5 => g7 j (by omega) (by intro z; simp at z; rcases z with z | z | z; exact h3 z; exact h4 z; exact h5 z))
/-- what falls is caught, or lies -/
theorem j2nlf_V {cur : gS} (hC : xC 18 T F) (hG : gC 50 (nfS T) (nbS T) F cur) (hO : okS T cur) (hH : hV T g F) {f : Int32} (hf : 0 ≤ f.toInt ∧ f.toInt < nfS T) (hF : fV T cur f.toInt.toNat F) : jm_T Ls xs 6 jm_M5 [.ref 41, .ref 20, .ref 46, .int f] (sy_dh F X1 X2 (iv_H 2)) 0 0 (pV 2 X1 X2 (fun F' => qC W2n F F' ∧ gC 50 (nfS T) (nbS T) F' (fallS T cur f.toInt.toNat (Int32.ofInt (worthT T f.toInt.toNat (cur 1 f.toInt.toNat) (cur 4 f.toInt.toNat) (g 9 0) (lfS T g))) (bncT T f.toInt.toNat (cur 1 f.toInt.toNat) (g 9 0) (lfS T g))) ∧ hV T g F')) := by
  have l7 : nfS T ≤ 7 := hC.2.2.1.1.1
  have l4 : nbS T ≤ 4 := hC.2.2.1.1.2.1
  refine C_T (by decide) [f] [.inl (.ref 41), .inl (.ref 20), .inl (.ref 46), .inr (.inl 82)] jm_ok5 (by decide) rfl (fun F0 k0 ki => ?_)
  have i82 : sy_i F0 82 = f := ki 0
  obtain ⟨n, hn⟩ : ∃ n : Nat, n = f.toInt.toNat := ⟨_, rfl⟩
  have hnf : n < nfS T := by omega
  rw [← hn] at hF ⊢
  refine j2nlf_0 (by decide) F0 X1 X2 (hd_iveq0 hC.1 k0) ?_
  intro F1 hb gg e82 j82
  have q1 : qC [] F F1 := qq_src (qq_mk hb gg (by decide)) k0
  rw [i82] at j82 e82
  have hv1 := hV_e hH (qq_a q1 (by decide) (by decide))
  have fv := fV_e hF (qq_a q1 (by decide) (by decide))
  have c1 := xC_q (by decide) hC q1 (by decide)
  have g1 : gC 50 (nfS T) (nbS T) F1 cur := j2ngq hG q1 (by decide)
  have hw := wo_of c1.2.2.1 hv1 fv
  refine hd_calI (R := fun x F' => qC [46] F1 F' ∧ x.toInt = lwT T 3 (v45 F1)) (nh := 82) (nv := 83) (s := 2) (s1 := 2) (d1 := 4) (M1 := jm_M21) (As := [.inl (.ref 38), .inl (.ref 20), .inl (.int 3)]) (rest := []) jm_ok5 rfl rfl (by decide) (by decide +kernel) (j2tl_V F1 X1 X2 c1 (by decide) (by decide)) (fun F3 F' x hR p1 p2 p3 => ?_)
  obtain ⟨r1, r2⟩ := hR
  rw [hw] at r2
  obtain ⟨c, hc⟩ : ∃ c : Int32, c = Int32.ofInt (worthT T n (cur 1 n) (cur 4 n) (g 9 0) (lfS T g)) := ⟨_, rfl⟩
  rw [← hc]
  have r1' : qC [46] F1 F3 := qC_dst r1 p1
  have q3 : qC W2n F F3 := qq_trans (qq_up q1 (by decide)) (qq_up r1' (by decide))
  have i83 : sy_i F3 83 = c := by rw [zz_i p3, hc]; exact (ofi r2).symm
  have k82 : sy_i F3 82 = f := (eI (p2 82 (by decide) (by decide))).trans j82
  have g3 : gC 50 (nfS T) (nbS T) F3 cur := j2ngq g1 r1' (by decide)
  have hv3 := hV_e hv1 (qq_a r1' (by decide) (by decide))
  have fv3 := fV_e fv (qq_a r1' (by decide) (by decide))
  have c3 := xC_q (by decide) hC q3 (by decide)
  refine j2nlf_9 (by decide) F3 X1 X2 q3.1 (by rw [k82]; omega) ?_
  intro F4 hb4 g4 e82' j82' e83' j83' e84' j84'
  have q34 : qC [] F3 F4 := qq_mk hb4 g4 (by decide)
  have q4' : qC W2n F F4 := qq_on q3 hb4 g4 (by decide)
  have hxf := bF_of hC.2.2.1 hnf
  have e84 : (sy_i F4 84).toInt = (tF T n).1 := by
    rw [e84', k82, ← hn]
    exact (c3.2.1.1.2 n (tF T n) (gD hnf)).1
  have j83 : sy_i F4 83 = c := j83'.trans i83
  have g4' : gC 50 (nfS T) (nbS T) F4 cur := j2ngq g3 q34 (by decide)
  refine hd_calI (R := fun x F' => qC [] F4 F' ∧ x.toInt = (nrS T cur (sy_i F4 84).toInt (sy_i F4 83).toInt (nbS T)).1) (nh := 82) (nv := 84) (s := 2) (s1 := 2) (d1 := 2) (M1 := jm_M13) (As := [.inl (.ref 46), .inl (.ref 20), .inr (.inl 84), .inr (.inl 83)]) (rest := []) jm_ok5 rfl rfl (by decide) (by decide +kernel) (j2nnr_V F4 X1 X2 (xC_q (by decide) hC q4' (by decide)) g4' hO (by rw [e84]; exact hxf.1)) (fun F5 F6 y hR2 p1' p2' p3' => ?_)
  obtain ⟨s1, s2⟩ := hR2
  rw [e84, j83] at s2
  have s1' : qC [] F4 F5 := qC_dst s1 p1'
  have q5 : qC W2n F F5 := qq_trans q4' (qq_up s1' (by decide))
  have g5 : gC 50 (nfS T) (nbS T) F5 cur := j2ngq g4' s1' (by decide)
  have a45e : sy_ai F5 45 = sy_ai F3 45 := (qq_a s1' (by decide) (by decide)).trans (qq_a q34 (by decide) (by decide))
  have hv5 := hV_e hv3 a45e
  have fv5 := fV_e fv3 a45e
  have n82 : sy_i F5 82 = f := (eI (p2' 82 (by decide) (by decide))).trans (j82'.trans k82)
  have m82 : (sy_i F5 82).toInt.toNat = n := by rw [n82]; exact hn.symm
  have m82b : 0 ≤ (sy_i F5 82).toInt ∧ (sy_i F5 82).toInt ≤ 6 := by rw [n82]; omega
  have m83 : sy_i F5 83 = c := (eI (p2' 83 (by decide) (by decide))).trans j83
  have m84 : (sy_i F5 84).toInt = (nrS T cur (tF T n).1 c.toInt (nbS T)).1 := by rw [zz_i p3']; exact s2
  have hnr := nr_in T cur (tF T n).1 c.toInt (nbS T)
  have hn1 : (nrS T cur (tF T n).1 c.toInt (nbS T)).1 = -2 ∨ (0 ≤ (nrS T cur (tF T n).1 c.toInt (nbS T)).1 ∧ (nrS T cur (tF T n).1 c.toInt (nbS T)).1 < nbS T) := by
    rcases hnr with h | h
    · left
      rw [h]
    · exact Or.inr ⟨h.1, h.2.1⟩
  have b84 : -2 ≤ (sy_i F5 84).toInt ∧ (sy_i F5 84).toInt ≤ 3 := by
    clear hnr
    omega
  refine j2nlf_24 (by decide) F5 X1 X2 q5.1 m82b b84 ?_ ?_
  · intro c0 F7 hb7 g7 a54 e82a j82a
    rw [m82] at a54
    have q7 : qC W2n F F7 := qq_on q5 hb7 g7 (by decide)
    have c7 := xC_q (by decide) hC q7 (by decide)
    have g7' : gC 50 (nfS T) (nbS T) F7 (upS cur 2 n 1) := gC_up g5 (by decide) rfl a54 (fun j h1 h2 h3 => g7 j (by omega) (by intro z; simp at z; exact h3 z))
    have a45f : sy_ai F7 45 = sy_ai F5 45 := nz_fa (g7 45 (by decide) (by decide))
    have hv7 := hV_e hv5 a45f
    have fv7 := fV_e fv5 a45f
    have l82 : sy_i F7 82 = f := j82a.trans n82
    have hbn := bn_of c7.2.2.1 hv7 fv7
    refine hd_calI (R := fun x F' => qC [46] F7 F' ∧ x = Int32.ofInt (hdz 0 9 (Int32.ofInt (tF T (sy_i F7 82).toInt.toNat).1 + Int32.ofInt (lwT T 4 (v45 F7))).toInt)) (nh := 82) (nv := 83) (s := 2) (s1 := 2) (d1 := 5) (M1 := jm_M20) (As := [.inl (.ref 38), .inl (.ref 20), .inr (.inl 82)]) (rest := [.inr (.inl 82), .inl (.ref 53)]) jm_ok5 rfl rfl (by decide) (by decide +kernel) (j2bo_V F7 X1 X2 c7 (by rw [l82]; exact hf)) (fun F8 F9 z hR3 u1 u2 u3 => ?_)
    obtain ⟨v1, v2⟩ := hR3
    rw [l82, ← hn, hbn] at v2
    have v1' : qC [46] F7 F8 := qC_dst v1 u1
    have q8 : qC W2n F F8 := qq_trans q7 (qq_up v1' (by decide))
    have l82b : (sy_i F8 82).toInt.toNat = n := by rw [nz_fi (u2 82 (by decide) (by decide)), l82]; exact hn.symm
    have l83 : sy_i F8 83 = z := zz_i u3
    refine j2nlf_64 (by decide) F8 X1 X2 q8.1 (by rw [nz_fi (u2 82 (by decide) (by decide)), l82]; omega) ?_
    intro F10 hb10 g10 a59
    rw [l82b, l83, v2] at a59
    refine ⟨F10, rfl, rfl, qq_on q8 hb10 g10 (by decide), ?_, hV_e (hV_e hv7 (qq_a v1' (by decide) (by decide))) (nz_fa (g10 45 (by decide) (by decide)))⟩
    unfold fallS
    rw [if_neg (by omega)]
    exact gC_up (j2ngq g7' v1' (by decide)) (by decide) rfl a59 (fun j h1 h2 h3 => g10 j (by omega) (by intro z; simp at z; exact h3 z))
  · intro c0 F7 hb7 g7 a54 a55 a61
    refine ⟨F7, rfl, rfl, qq_on q5 hb7 g7 (by decide), ?_, hV_e hv5 (nz_fa (g7 45 (by decide) (by decide)))⟩
    obtain ⟨b, hb'⟩ : ∃ b : Nat, (nrS T cur (tF T n).1 c.toInt (nbS T)).1 = b := ⟨(nrS T cur (tF T n).1 c.toInt (nbS T)).1.toNat, by omega⟩
    have m84n : (sy_i F5 84).toInt.toNat = b := by omega
    have r8 : (sy_ai F5 61).getD b 0 = cur 8 b := g5.1 8 b (by decide) (vB (Or.inr rfl) (by omega))
    have e84x : sy_i F5 84 = Int32.ofInt (b : Int) := (ofi (m84.trans hb')).symm
    rw [m82] at a54 a55
    rw [m84n, r8, m83] at a61
    rw [e84x] at a55
    unfold fallS
    rw [hb', if_pos (by omega)]
    unfold sellS
    rw [Int.toNat_natCast]
    exact gC_up3 g5 (by decide) (by decide) (by decide) (by decide) (by decide) (by decide) rfl rfl rfl a54 a55 a61 (fun j h1 h2 h3 h4 h5 => g7 j (by omega) (by intro z; simp at z; rcases z with z | z | z; exact h3 z; exact h4 z; exact h5 z))
end H2n
end
section
/-! ===== the class: an hour, whole (shape 2, n) ===== -/
section P2n
variable {Ls : Nat} {xs : Nat → Int32} {T : tX} {g : gS} {sd : Int32} (F : Nat → sy_d) (X1 X2 : List jm_c)
theorem j2nph_61h (hC : xC 18 T F) (hO : okS T g) : ∀ (m : Nat) (F1 : Nat → sy_d) (n : Nat), n + m = nfS T → qC W2n F F1 → sy_i F1 82 = sd → (sy_i F1 83).toInt = n → gC 50 (nfS T) (nbS T) F1 (p2S T sd g n) → hV T g F1 →
    hd_W Ls xs 7 jm_M3 (pV 2 X1 X2 (fun F' => qC W2n F F' ∧ gC 50 (nfS T) (nbS T) F' (hourS T sd g))) (61, sy_dL F1 [some (.inl (.ref 41)), some (.inl (.ref 20)), some (.inl (.ref 46)), some (.inr (.inl 82)), some (.inr (.inl 83))], sy_dS F1 [], sy_dh F1 X1 X2 (iv_H 2), 0, 0) := by
  have l7 : nfS T ≤ 7 := hC.2.2.1.1.1
  have enf : (sy_i F 18).toInt = (nfS T : Int) := hC.2.1.1.1
  intro m
  induction m with
  | zero =>
    intro F1 n hm hq i82 e83 hG hH
    have en : n = nfS T := by omega
    subst en
    have en1 : (sy_i F1 18).toInt = (nfS T : Int) := by rw [qq_i hq (by decide) (by decide)]; exact enf
    refine j2nph_61 (by decide) F1 X1 X2 hq.1 (by omega) ?_ ?_ ?_
    · intro c0 F2 hb gg e50 i50 a58
      refine ⟨F2, rfl, rfl, qq_on hq hb gg (by decide), ?_⟩
      have h9 : sy_i F1 50 = g 9 0 := (hG.2 0 (by decide)).trans (p2_k _ _ _ (by omega))
      refine ⟨fun a i ha hv => ?_, fun i hi => ?_⟩
      · unfold hourS
        rw [upS_o (Or.inl (by omega))]
        unfold zsS
        by_cases q : a = 6
        · subst q
          rw [if_pos rfl]
          have hi : i < 7 := by
            rcases hv with h | h | h <;> omega
          show (sy_ai F2 58).getD i 0 = 0
          rw [a58, jm_upd_at, jm_upd_at, jm_upd_at, jm_upd_at, jm_upd_at, jm_upd_at, jm_upd_at]
          match i, hi with
          | 0, _ => rfl
          | 1, _ => rfl
          | 2, _ => rfl
          | 3, _ => rfl
          | 4, _ => rfl
          | 5, _ => rfl
          | 6, _ => rfl
        · have hc := ca_in a
          have hne : 50 + ca a ≠ 58 := fun z => q (ca_inj a ha 6 (by decide) (show ca a = 8 by omega))
          rw [if_neg q, nz_fa (gg (50 + ca a) (by omega) (by intro z; simp at z; omega))]
          exact hG.1 a i ha hv
      · unfold hourS
        by_cases q : i = 0
        · subst q
          rw [upS_s]
          show sy_i F2 50 = _
          rw [i50, h9]
        · rw [upS_o (Or.inr q)]
          unfold zsS
          rw [if_neg (by decide), eI (gg (50 + i) (by omega) (by intro z; simp at z; omega))]
          exact hG.2 i hi
    · intros
      omega
    · intros
      omega
  | succ m ih =>
    intro F1 n hm hq i82 e83 hG hH
    have hn : n < nfS T := by omega
    have enn : (sy_i F1 83).toInt.toNat = n := by omega
    have en1 : (sy_i F1 18).toInt = (nfS T : Int) := by rw [qq_i hq (by decide) (by decide)]; exact enf
    have r2 : (sy_ai F1 54).getD (sy_i F1 83).toInt.toNat 0 = p2S T sd g n 2 n := by
      rw [enn]
      exact hG.1 2 n (by decide) (vF (by decide) hn)
    have hp2 : p2S T sd g (n + 1) = stS T sd g (p2S T sd g n) n := rfl
    have hs : ∀ a, a < 7 → p2S T sd g n a n = p1S T g (nfS T) a n := fun a ha => p2_s n a n (Nat.le_refl _) ha
    have h1 := p1_h (T := T) (g := g) (nfS T) n
    have how : (p2S T sd g n 2 n).toInt = 0 ↔ (g 2 n).toInt = 0 := by
      rw [hs 2 (by decide)]
      exact h1.1
    refine j2nph_61 (by decide) F1 X1 X2 hq.1 (by omega) ?_ ?_ ?_
    · intros
      omega
    · intro c0 c1 F2 hb gg e82 j82 e83' j83
      rw [r2] at c1
      have e : p2S T sd g (n + 1) = p2S T sd g n := by
        rw [hp2]
        unfold stS
        rw [if_neg (fun z => c1 (how.mpr z))]
      refine ih F2 (n + 1) (by omega) (qq_on hq hb gg (by decide)) (j82.trans i82) (by omega) ?_ (hV_e hH (nz_fa (gg 45 (by decide) (by decide))))
      rw [e]
      exact gC_eq hG (fun j h1 h2 => gg j (by omega) (by simp))
    · intro c0 c1 F2 hb gg a45 e82 j82 e83' j83 e84 j84
      rw [r2] at c1
      have h0 := how.mp c1
      have q2 : qC W2n F F2 := qq_on hq hb gg (by decide)
      rw [enn] at a45
      have hx := xX_f (xC_q (by decide) hC hq (by decide)) hn
      obtain ⟨fv, hvf⟩ := fV_set (T := T) (g := p2S T sd g n) (f := n) a45 (hG.1 1 n (by decide) (vF (by decide) hn)) hx.2.1 hx.1 (hG.1 6 n (by decide) (vF (by decide) hn)) (hG.1 5 n (by decide) (vF (by decide) hn)) (hG.1 4 n (by decide) (vF (by decide) hn))
      have hv2 := hvf hH
      have g2 : gC 50 (nfS T) (nbS T) F2 (p2S T sd g n) := gC_eq hG (fun j h1 h2 => gg j (by omega) (by intro z; simp at z; omega))
      have c2 := xC_q (by decide) hC q2 (by decide)
      have f1 : p2S T sd g n 1 n = g 1 n := (hs 1 (by decide)).trans (p1_k _ _ _ (by omega))
      have f5 : p2S T sd g n 5 n = g 5 n := p2_k _ _ _ (by omega)
      have f6 : p2S T sd g n 6 n = g 6 n := p2_k _ _ _ (by omega)
      have f4 : p2S T sd g n 4 n = g 4 n := (hs 4 (by decide)).trans (h1.2.1 h0).2
      have hfl : lwT T 2 (v45 F2) = flS T g n := by
        rw [fl_of c2.2.2.1 hv2 fv, f1, f6, f5]
        rfl
      have h9 : sy_i F1 50 = g 9 0 := (hG.2 0 (by decide)).trans (p2_k _ _ _ (by omega))
      have i84 : sy_i F2 84 = lotS sd ((16 : Int32) * g 9 0 + Int32.ofInt n) := by
        rw [j84, i82, h9, ← ofi e83]
        rfl
      refine hd_calI (R := fun x F' => qC [46] F2 F' ∧ x.toInt = lwT T 2 (v45 F2)) (nh := 82) (nv := 85) (s := 2) (s1 := 2) (d1 := 4) (M1 := jm_M21) (As := [.inl (.ref 38), .inl (.ref 20), .inl (.int 2)]) (rest := [.inr (.inl 84)]) jm_ok3 rfl rfl (by decide) (by decide +kernel) (j2tl_V F2 X1 X2 c2 (by decide) (by decide)) (fun F3 F' x hR p1 p2 p3 => ?_)
      obtain ⟨r1, rx⟩ := hR
      rw [hfl] at rx
      have r1' : qC [46] F2 F3 := qC_dst r1 p1
      have q3 : qC W2n F F3 := qq_trans q2 (qq_up r1' (by decide))
      have g3 : gC 50 (nfS T) (nbS T) F3 (p2S T sd g n) := j2ngq g2 r1' (by decide)
      have a45e : sy_ai F3 45 = sy_ai F2 45 := qq_a r1' (by decide) (by decide)
      have hv3 := hV_e hv2 a45e
      have fv3 := fV_e fv a45e
      have c3 := xC_q (by decide) hC q3 (by decide)
      have k82 : sy_i F3 82 = sd := (eI (p2 82 (by decide) (by decide))).trans (j82.trans i82)
      have k83 : (sy_i F3 83).toInt = n := by rw [nz_fi (p2 83 (by decide) (by decide)), e83']; exact e83
      have k84 : sy_i F3 84 = lotS sd ((16 : Int32) * g 9 0 + Int32.ofInt n) := (eI (p2 84 (by decide) (by decide))).trans i84
      have k85 : (sy_i F3 85).toInt = flS T g n := by rw [zz_i p3]; exact rx
      refine j2nph_114 (by decide) F3 X1 X2 q3.1 (by omega) ?_ ?_
      · intro d0 F4 hb4 g4 e82a j82a e83a j83a e84a j84a
        rw [k84, k85] at d0
        have q34 : qC [] F3 F4 := qq_mk hb4 g4 (by decide)
        have q4' : qC W2n F F4 := qq_on q3 hb4 g4 (by decide)
        have g4' : gC 50 (nfS T) (nbS T) F4 (p2S T sd g n) := j2ngq g3 q34 (by decide)
        have a45f : sy_ai F4 45 = sy_ai F3 45 := qq_a q34 (by decide) (by decide)
        have hv4 := hV_e hv3 a45f
        have fv4 := fV_e fv3 a45f
        have c4 := xC_q (by decide) hC q4' (by decide)
        have l84 : sy_i F4 84 = g 1 n := by
          rw [j84a, show (sy_i F3 83).toInt.toNat = n by omega]
          exact (g3.1 1 n (by decide) (vF (by decide) hn)).trans f1
        have hrp : lwT T 1 (v45 F4) = rpS T g n := by
          rw [rp_of c4.2.2.1 hv4 fv4, f1, f6, f5]
          rfl
        have e : p2S T sd g (n + 1) = upS (p2S T sd g n) 1 n (Int32.ofInt (hdz 0 99 (g 1 n + Int32.ofInt (rpS T g n)).toInt)) := by
          rw [hp2]
          unfold stS
          rw [if_pos h0, if_neg (Int.not_lt.mpr d0)]
        refine hd_calI (R := fun x F' => qC [46] F4 F' ∧ x.toInt = lwT T 1 (v45 F4)) (nh := 82) (nv := 85) (s := 2) (s1 := 2) (d1 := 4) (M1 := jm_M21) (As := [.inl (.ref 38), .inl (.ref 20), .inl (.int 1)]) (rest := [.inr (.inl 84), .inr (.inl 83), .inl (.ref 47)]) jm_ok3 rfl rfl (by decide) (by decide +kernel) (j2tl_V F4 X1 X2 c4 (by decide) (by decide)) (fun F5 F6 y hR2 u1 u2 u3 => ?_)
        obtain ⟨s1, s2⟩ := hR2
        rw [hrp] at s2
        have s1' : qC [46] F4 F5 := qC_dst s1 u1
        have q5 : qC W2n F F5 := qq_trans q4' (qq_up s1' (by decide))
        have g5 : gC 50 (nfS T) (nbS T) F5 (p2S T sd g n) := j2ngq g4' s1' (by decide)
        have hv5 := hV_e hv4 (qq_a s1' (by decide) (by decide))
        have m82 : sy_i F5 82 = sd := (eI (u2 82 (by decide) (by decide))).trans (j82a.trans k82)
        have m83 : (sy_i F5 83).toInt = n := by rw [nz_fi (u2 83 (by decide) (by decide)), e83a]; exact k83
        have m83n : (sy_i F5 83).toInt.toNat = n := by omega
        have m84 : sy_i F5 84 = g 1 n := (eI (u2 84 (by decide) (by decide))).trans l84
        have m85 : sy_i F5 85 = Int32.ofInt (rpS T g n) := by rw [zz_i u3]; exact (ofi s2).symm
        have fin : ∀ (v : Int32) (F7 : Nat → sy_d), iv_in F7 iv_B0 → (∀ j, j < 82 → j ∉ ([53] : List Nat) → F7 j = F5 j) → sy_ai F7 53 = jm_upd (sy_ai F5 53) (sy_i F5 83).toInt.toNat v → sy_i F7 82 = sy_i F5 82 → (sy_i F7 83).toInt = (sy_i F5 83).toInt + 1 → v = Int32.ofInt (hdz 0 99 (g 1 n + Int32.ofInt (rpS T g n)).toInt) → hd_W Ls xs 7 jm_M3 (pV 2 X1 X2 (fun F' => qC W2n F F' ∧ gC 50 (nfS T) (nbS T) F' (hourS T sd g))) (61, sy_dL F7 [some (.inl (.ref 41)), some (.inl (.ref 20)), some (.inl (.ref 46)), some (.inr (.inl 82)), some (.inr (.inl 83))], sy_dS F7 [], sy_dh F7 X1 X2 (iv_H 2), 0, 0) := fun v F7 hb7 g7 a53 x82 x83 hv => by
          refine ih F7 (n + 1) (by omega) (qq_on q5 hb7 g7 (by decide)) (x82.trans m82) (by omega) ?_ (hV_e hv5 (nz_fa (g7 45 (by decide) (by decide))))
          rw [e, ← hv]
          exact gC_up g5 (by decide) m83n a53 (fun j h1 h2 h3 => g7 j (by omega) (by intro z; simp at z; exact h3 z))
        refine j2nph_150 (by decide) F5 X1 X2 q5.1 (by omega) ?_ ?_ ?_
        · intro y0 y1 F7 hb7 g7 a53 e82b j82b e83b j83b
          rw [m84, m85] at y0 y1 a53
          refine fin _ F7 hb7 g7 a53 j82b e83b ?_
          have hz : hdz 0 99 (g 1 n + Int32.ofInt (rpS T g n)).toInt = (g 1 n + Int32.ofInt (rpS T g n)).toInt := by
            unfold hdz
            rw [if_neg (by omega), if_neg (by omega)]
          rw [hz, Int32.ofInt_toInt]
        · intro y0 y1 F7 hb7 g7 a53 e82b j82b e83b j83b
          rw [m84, m85] at y0 y1
          refine fin _ F7 hb7 g7 a53 j82b e83b ?_
          have hz : hdz 0 99 (g 1 n + Int32.ofInt (rpS T g n)).toInt = 0 := by
            unfold hdz
            split
            · rfl
            · rw [if_neg (by omega)]
              omega
          rw [hz]
          rfl
        · intro y0 F7 hb7 g7 a53 e82b j82b e83b j83b
          rw [m84, m85] at y0
          refine fin _ F7 hb7 g7 a53 j82b e83b ?_
          have hz : hdz 0 99 (g 1 n + Int32.ofInt (rpS T g n)).toInt = 99 := by
            unfold hdz
            rw [if_neg (by omega)]
            split
            · rfl
            · omega
          rw [hz]
          rfl
      · intro d0 F4 hb4 g4 e82a j82a e83a j83a
        rw [k84, k85] at d0
        have q34 : qC [] F3 F4 := qq_mk hb4 g4 (by decide)
        have q4' : qC W2n F F4 := qq_on q3 hb4 g4 (by decide)
        have g4' : gC 50 (nfS T) (nbS T) F4 (p2S T sd g n) := j2ngq g3 q34 (by decide)
        have a45f : sy_ai F4 45 = sy_ai F3 45 := qq_a q34 (by decide) (by decide)
        have hv4 := hV_e hv3 a45f
        have fv4 := fV_e fv3 a45f
        have c4 := xC_q (by decide) hC q4' (by decide)
        have l83 : (sy_i F4 83).toInt = n := by omega
        have l83n : (sy_i F4 83).toInt.toNat = n := by omega
        have e : p2S T sd g (n + 1) = fallS T (p2S T sd g n) n (Int32.ofInt (woS T g n)) (bnS T g n) := by
          rw [hp2]
          unfold stS
          rw [if_pos h0, if_pos d0]
        refine hd_calV (R := fun F' => qC W2n F4 F' ∧ gC 50 (nfS T) (nbS T) F' (fallS T (p2S T sd g n) (sy_i F4 83).toInt.toNat (Int32.ofInt (worthT T (sy_i F4 83).toInt.toNat (p2S T sd g n 1 (sy_i F4 83).toInt.toNat) (p2S T sd g n 4 (sy_i F4 83).toInt.toNat) (g 9 0) (lfS T g))) (bncT T (sy_i F4 83).toInt.toNat (p2S T sd g n 1 (sy_i F4 83).toInt.toNat) (g 9 0) (lfS T g))) ∧ hV T g F') (nh := 82) (nv := 84) (s := 2) (s1 := 2) (d1 := 6) (M1 := jm_M5) (As := [.inl (.ref 41), .inl (.ref 20), .inl (.ref 46), .inr (.inl 83)]) (rest := []) jm_ok3 rfl rfl (by decide) (by decide +kernel) (j2nlf_V F4 X1 X2 c4 g4' (okS_p2 hO n) hv4 (by omega) (by rw [l83n]; exact fv4)) (fun F5 F6 hR2 u1 u2 => ?_)
        obtain ⟨s1, s2, s3⟩ := hR2
        rw [l83n, f1, f4] at s2
        have s1' : qC W2n F4 F5 := qC_dst s1 u1
        have q5 : qC W2n F F5 := qq_trans q4' s1'
        refine j2nph_125 (by decide) F5 X1 X2 q5.1 (by rw [nz_fi (u2 83 (by decide) (by decide))]; omega) ?_
        intro F7 hb7 g7 e82b j82b e83b j83b
        refine ih F7 (n + 1) (by omega) (qq_on q5 hb7 g7 (by decide)) (j82b.trans ((eI (u2 82 (by decide) (by decide))).trans (j82a.trans k82))) (by rw [e83b, nz_fi (u2 83 (by decide) (by decide))]; omega) ?_ (hV_e s3 ((nz_fa (g7 45 (by decide) (by decide))).trans (nz_fa (u1 45 (by decide)))))
        rw [e]
        exact gC_eq s2 (fun j h1 h2 => (g7 j (by omega) (by simp)).trans (u1 j (by omega)))
theorem j2nph_24h (hC : xC 18 T F) (hO : okS T g) : ∀ (m : Nat) (F1 : Nat → sy_d) (n : Nat), n + m = nfS T → qC W2n F F1 → sy_i F1 82 = sd → (sy_i F1 83).toInt = n → gC 50 (nfS T) (nbS T) F1 (p1S T g n) → hV T g F1 →
    hd_W Ls xs 7 jm_M3 (pV 2 X1 X2 (fun F' => qC W2n F F' ∧ gC 50 (nfS T) (nbS T) F' (hourS T sd g))) (24, sy_dL F1 [some (.inl (.ref 41)), some (.inl (.ref 20)), some (.inl (.ref 46)), some (.inr (.inl 82)), some (.inr (.inl 83))], sy_dS F1 [], sy_dh F1 X1 X2 (iv_H 2), 0, 0) := by
  have l7 : nfS T ≤ 7 := hC.2.2.1.1.1
  have enf : (sy_i F 18).toInt = (nfS T : Int) := hC.2.1.1.1
  intro m
  induction m with
  | zero =>
    intro F1 n hm hq i82 e83 hG hH
    have en : n = nfS T := by omega
    subst en
    have en1 : (sy_i F1 18).toInt = (nfS T : Int) := by rw [qq_i hq (by decide) (by decide)]; exact enf
    refine j2nph_24 (by decide) F1 X1 X2 hq.1 (by omega) ?_ ?_ ?_
    · intro c0 F2 hb gg e82 j82 e83' j83
      exact j2nph_61h F X1 X2 hC hO (nfS T) F2 0 (by omega) (qq_on hq hb gg (by decide)) (j82.trans i82) e83' (gC_eq hG (fun j h1 h2 => gg j (by omega) (by simp))) (hV_e hH (nz_fa (gg 45 (by decide) (by decide))))
    · intros
      omega
    · intros
      omega
  | succ m ih =>
    intro F1 n hm hq i82 e83 hG hH
    have hn : n < nfS T := by omega
    have enn : (sy_i F1 83).toInt.toNat = n := by omega
    have en1 : (sy_i F1 18).toInt = (nfS T : Int) := by rw [qq_i hq (by decide) (by decide)]; exact enf
    have r2 : (sy_ai F1 54).getD (sy_i F1 83).toInt.toNat 0 = p1S T g n 2 n := by
      rw [enn]
      exact hG.1 2 n (by decide) (vF (by decide) hn)
    refine j2nph_24 (by decide) F1 X1 X2 hq.1 (by omega) ?_ ?_ ?_
    · intros
      omega
    · intro c0 c1 F2 hb gg e82 j82 e83' j83
      rw [r2] at c1
      have hp : p1S T g (n + 1) = p1S T g n := by
        show (if _ then _ else _) = _
        rw [if_neg c1]
      refine ih F2 (n + 1) (by omega) (qq_on hq hb gg (by decide)) (j82.trans i82) (by omega) ?_ (hV_e hH (nz_fa (gg 45 (by decide) (by decide))))
      rw [hp]
      exact gC_eq hG (fun j h1 h2 => gg j (by omega) (by simp))
    · intro c0 c1 F2 hb gg e82 j82 e83' j83
      rw [r2] at c1
      have hp : p1S T g (n + 1) = lieS T (p1S T g n) n (Int32.ofInt (woS T g n)) := by
        show (if _ then _ else _) = _
        rw [if_pos c1]
      have q12 : qC [] F1 F2 := qq_mk hb gg (by decide)
      have q2 : qC W2n F F2 := qq_on hq hb gg (by decide)
      have c2 := xC_q (by decide) hC q2 (by decide)
      have g2 : gC 50 (nfS T) (nbS T) F2 (p1S T g n) := j2ngq hG q12 (by decide)
      have hv2 := hV_e hH (qq_a q12 (by decide) (by decide))
      have l83n : (sy_i F2 83).toInt.toNat = n := by omega
      have f1 : p1S T g n 1 n = g 1 n := p1_s n 1 n (Nat.le_refl _) (by decide)
      have f4 : p1S T g n 4 n = g 4 n := p1_s n 4 n (Nat.le_refl _) (by decide)
      refine hd_calV (R := fun F' => qC W2n F2 F' ∧ gC 50 (nfS T) (nbS T) F' (lieS T (p1S T g n) (sy_i F2 83).toInt.toNat (Int32.ofInt (worthT T (sy_i F2 83).toInt.toNat (p1S T g n 1 (sy_i F2 83).toInt.toNat) (p1S T g n 4 (sy_i F2 83).toInt.toNat) (g 9 0) (lfS T g)))) ∧ hV T g F') (nh := 82) (nv := 84) (s := 2) (s1 := 2) (d1 := 5) (M1 := jm_M4) (As := [.inl (.ref 41), .inl (.ref 20), .inl (.ref 46), .inr (.inl 83)]) (rest := []) jm_ok3 rfl rfl (by decide) (by decide +kernel) (j2nsk_V F2 X1 X2 c2 g2 hv2 (by omega)) (fun F3 F' hR p1 p2 => ?_)
      obtain ⟨s1, s2, s3⟩ := hR
      rw [l83n, f1, f4] at s2
      have q3 : qC W2n F F3 := qq_trans q2 (qC_dst s1 p1)
      refine j2nph_52 (by decide) F3 X1 X2 q3.1 (by rw [nz_fi (p2 83 (by decide) (by decide))]; omega) ?_
      intro F4 hb4 g4 e82a j82a e83a j83a
      refine ih F4 (n + 1) (by omega) (qq_on q3 hb4 g4 (by decide)) (j82a.trans ((eI (p2 82 (by decide) (by decide))).trans (j82.trans i82))) (by rw [e83a, nz_fi (p2 83 (by decide) (by decide))]; omega) ?_ (hV_e s3 ((nz_fa (g4 45 (by decide) (by decide))).trans (nz_fa (p1 45 (by decide)))))
      rw [hp]
      exact gC_eq s2 (fun j h1 h2 => (g4 j (by omega) (by simp)).trans (p1 j (by omega)))
/-- an hour goes by -/
theorem j2nph_V (hC : xC 18 T F) (hG : gC 50 (nfS T) (nbS T) F g) (hO : okS T g) (sd : Int32) : jm_T Ls xs 7 jm_M3 [.ref 41, .ref 20, .ref 46, .int sd] (sy_dh F X1 X2 (iv_H 2)) 0 0 (pV 2 X1 X2 (fun F' => qC W2n F F' ∧ gC 50 (nfS T) (nbS T) F' (hourS T sd g))) := by
  have enf : (sy_i F 18).toInt = (nfS T : Int) := hC.2.1.1.1
  refine C_T (by decide) [sd] [.inl (.ref 41), .inl (.ref 20), .inl (.ref 46), .inr (.inl 82)] jm_ok3 (by decide) rfl (fun F0 k0 ki => ?_)
  have i82 : sy_i F0 82 = sd := ki 0
  refine j2nph_0 (by decide) F0 X1 X2 (hd_iveq0 hC.1 k0) ?_
  intro F1 hb gg e82 j82 e83 j83 e84 j84
  have q1 : qC [] F F1 := qq_src (qq_mk hb gg (by decide)) k0
  have c1 := xC_q (by decide) hC q1 (by decide)
  have g1 : gC 50 (nfS T) (nbS T) F1 g := j2ngq hG q1 (by decide)
  have i83 : sy_i F1 83 = g 9 0 := by rw [j83, eI (k0 50 (by decide))]; exact hG.2 0 (by decide)
  refine hd_calI (R := fun x F' => qC [] F1 F' ∧ x = ppS (mkS g (0 : Int32).toInt (nfS T))) (nh := 82) (nv := 84) (s := 2) (s1 := 2) (d1 := 2) (M1 := jm_M12) (As := [.inl (.ref 46), .inl (.int 0), .inr (.inl 84)]) (rest := [.inr (.inl 83), .inl (.ref 20), .inl (.ref 38)]) jm_ok3 rfl rfl (by decide) (by decide +kernel) (j2nhm_V F1 X1 X2 c1 g1 0 _ (by rw [e84, nz_fi (k0 18 (by decide))]; exact enf)) (fun F3 F' x hR p1 p2 p3 => ?_)
  obtain ⟨r1, r2⟩ := hR
  have r1' : qC [] F1 F3 := qC_dst r1 p1
  have q3 : qC [] F F3 := qq_trans q1 r1'
  have c3 := xC_q (by decide) hC q3 (by decide)
  have g3 : gC 50 (nfS T) (nbS T) F3 g := j2ngq g1 r1' (by decide)
  have k83 : sy_i F3 83 = g 9 0 := (eI (p2 83 (by decide) (by decide))).trans i83
  have k84 : sy_i F3 84 = lfS T g := (zz_i p3).trans r2
  refine hd_calV (R := fun F' => qC [45, 46] F3 F' ∧ v45 F' 2 = sy_i F3 83 ∧ v45 F' 8 = sy_i F3 84 ∧ v45 F' 3 = Int32.ofInt (windT T (sy_i F3 83) (sy_i F3 84))) (nh := 82) (nv := 83) (s := 2) (s1 := 2) (d1 := 5) (M1 := jm_M17) (As := [.inl (.ref 38), .inl (.ref 20), .inr (.inl 83), .inr (.inl 84)]) (rest := []) jm_ok3 rfl rfl (by decide) (by decide +kernel) (j2sh_V F3 X1 X2 c3 _ _) (fun F5 F6 hR2 u1 u2 => ?_)
  obtain ⟨s1, s2, s3, s4⟩ := hR2
  rw [k83] at s2 s4
  rw [k84] at s3 s4
  have s1' : qC [45, 46] F3 F5 := qC_dst s1 u1
  have q5 : qC W2n F F5 := qq_trans (qq_up q3 (by decide)) (qq_up s1' (by decide))
  have hv5 : hV T g F5 := hV_e ⟨s2, s3, s4⟩ (nz_fa (u1 45 (by decide)))
  have g5 : gC 50 (nfS T) (nbS T) F5 g := j2ngq g3 s1' (by decide)
  refine j2nph_21 (by decide) F5 X1 X2 q5.1 ?_
  intro F7 hb7 g7 e82a j82a e83a j83a
  exact j2nph_24h F X1 X2 hC hO (nfS T) F7 0 (by omega) (qq_on q5 hb7 g7 (by decide)) (j82a.trans ((eI (u2 82 (by decide) (by decide))).trans ((eI (p2 82 (by decide) (by decide))).trans (j82.trans i82)))) e83a (gC_eq g5 (fun j h1 h2 => g7 j (by omega) (by simp))) (hV_e hv5 (nz_fa (g7 45 (by decide) (by decide))))
end P2n
end
section
/-! ===== the class begins a text, way by way (shape 2) ===== -/
theorem j2gb_0_p0 {Ls : Nat} {xs : Nat → Int32} {d : Nat} {Q : Option Value → jm_h → Prop} (hd : 2 ≤ d) (F : Nat → sy_d) (X1 X2 : List jm_c) (hB : iv_in F iv_B0)
    (k : ∀ F1 : Nat → sy_d, (∀ j, j < 82 → j ≠ 50 ∧ j ≠ 51 ∧ j ≠ 52 ∧ j ≠ 53 ∧ j ≠ 54 ∧ j ≠ 55 ∧ j ≠ 56 ∧ j ≠ 57 ∧ j ≠ 58 ∧ j ≠ 59 ∧ j ≠ 60 ∧ j ≠ 61 → F1 j = F j) → F1 50 = .inl (.int ((0 : Int32))) → F1 51 = .inl (.int ((0 : Int32))) → F1 52 = .inl (.int ((0 : Int32))) → F1 53 = .inr (.inl (jm_cpy (sy_ai F 26) (sy_ai F 53) ((0 : Int32)).toNatClampNeg ((0 : Int32)).toNatClampNeg ((7 : Int32)).toNatClampNeg)) → F1 54 = .inr (.inl (jm_upd (jm_upd (jm_upd (jm_upd (jm_upd (jm_upd (jm_upd (sy_ai F 54) ((0 : Int32)).toNatClampNeg ((0 : Int32))) ((1 : Int32)).toNatClampNeg ((0 : Int32))) ((2 : Int32)).toNatClampNeg ((0 : Int32))) ((3 : Int32)).toNatClampNeg ((0 : Int32))) ((4 : Int32)).toNatClampNeg ((0 : Int32))) ((5 : Int32)).toNatClampNeg ((0 : Int32))) ((6 : Int32)).toNatClampNeg ((0 : Int32)))) → F1 55 = .inr (.inl (jm_upd (jm_upd (jm_upd (jm_upd (jm_upd (jm_upd (jm_upd (sy_ai F 55) ((0 : Int32)).toNatClampNeg (((-2) : Int32))) ((1 : Int32)).toNatClampNeg (((-2) : Int32))) ((2 : Int32)).toNatClampNeg (((-2) : Int32))) ((3 : Int32)).toNatClampNeg (((-2) : Int32))) ((4 : Int32)).toNatClampNeg (((-2) : Int32))) ((5 : Int32)).toNatClampNeg (((-2) : Int32))) ((6 : Int32)).toNatClampNeg (((-2) : Int32)))) → F1 56 = .inr (.inl (jm_upd (jm_upd (jm_upd (jm_upd (jm_upd (jm_upd (jm_upd (sy_ai F 56) ((0 : Int32)).toNatClampNeg ((0 : Int32))) ((1 : Int32)).toNatClampNeg ((0 : Int32))) ((2 : Int32)).toNatClampNeg ((0 : Int32))) ((3 : Int32)).toNatClampNeg ((0 : Int32))) ((4 : Int32)).toNatClampNeg ((0 : Int32))) ((5 : Int32)).toNatClampNeg ((0 : Int32))) ((6 : Int32)).toNatClampNeg ((0 : Int32)))) → F1 57 = .inr (.inl (jm_upd (jm_upd (jm_upd (jm_upd (jm_upd (jm_upd (jm_upd (sy_ai F 57) ((0 : Int32)).toNatClampNeg ((0 : Int32))) ((1 : Int32)).toNatClampNeg ((0 : Int32))) ((2 : Int32)).toNatClampNeg ((0 : Int32))) ((3 : Int32)).toNatClampNeg ((0 : Int32))) ((4 : Int32)).toNatClampNeg ((0 : Int32))) ((5 : Int32)).toNatClampNeg ((0 : Int32))) ((6 : Int32)).toNatClampNeg ((0 : Int32)))) → F1 58 = .inr (.inl (jm_upd (jm_upd (jm_upd (jm_upd (jm_upd (jm_upd (jm_upd (sy_ai F 58) ((0 : Int32)).toNatClampNeg ((0 : Int32))) ((1 : Int32)).toNatClampNeg ((0 : Int32))) ((2 : Int32)).toNatClampNeg ((0 : Int32))) ((3 : Int32)).toNatClampNeg ((0 : Int32))) ((4 : Int32)).toNatClampNeg ((0 : Int32))) ((5 : Int32)).toNatClampNeg ((0 : Int32))) ((6 : Int32)).toNatClampNeg ((0 : Int32)))) → F1 59 = .inr (.inl (jm_cpy (sy_ai F 24) (sy_ai F 59) ((0 : Int32)).toNatClampNeg ((0 : Int32)).toNatClampNeg ((7 : Int32)).toNatClampNeg)) → F1 60 = .inr (.inl (jm_cpy (sy_ai F 28) (sy_ai F 60) ((0 : Int32)).toNatClampNeg ((0 : Int32)).toNatClampNeg ((4 : Int32)).toNatClampNeg)) → F1 61 = .inr (.inl (jm_cpy (sy_ai F 30) (sy_ai F 61) ((0 : Int32)).toNatClampNeg ((0 : Int32)).toNatClampNeg ((4 : Int32)).toNatClampNeg)) → Q (none) (sy_dh F1 X1 X2 (iv_H 2))) :
    hd_W Ls xs d jm_M7 Q (0, sy_dL F [some (.inl (.ref 46)), some (.inl (.ref 20))], sy_dS F [], sy_dh F X1 X2 (iv_H 2), 0, 0) := by
  refine hd_ret (s := 2) (nv := 82) (v := none) (uh := hd_ov (iv_id 0 iv_B0) [(50, .inl (.inl (.int 0))), (51, .inl (.inl (.int 0))), (52, .inl (.inl (.int 0))), (53, .inr (.inr (.inl 82))), (54, .inr (.inr (.inl 89))), (55, .inr (.inr (.inl 96))), (56, .inr (.inr (.inl 103))), (57, .inr (.inr (.inl 110))), (58, .inr (.inr (.inl 117))), (59, .inr (.inr (.inl 118))), (60, .inr (.inr (.inl 119))), (61, .inr (.inr (.inl 120)))]) (f := true) (sp := []) (d0 := 1) (O := []) (T := [(42, [.inl (.int 0), .inl (.int 0), .inl (.int 7)], [.inr (.inl 26), .inr (.inl 53)]), (40, [.inl (.int 0), .inl (.int 0)], [.inr (.inl 54)]), (40, [.inl (.int 1), .inl (.int 0)], [.inr (.inl 83)]), (40, [.inl (.int 2), .inl (.int 0)], [.inr (.inl 84)]), (40, [.inl (.int 3), .inl (.int 0)], [.inr (.inl 85)]), (40, [.inl (.int 4), .inl (.int 0)], [.inr (.inl 86)]), (40, [.inl (.int 5), .inl (.int 0)], [.inr (.inl 87)]), (40, [.inl (.int 6), .inl (.int 0)], [.inr (.inl 88)]), (40, [.inl (.int 0), .inl (.int (-2))], [.inr (.inl 55)]), (40, [.inl (.int 1), .inl (.int (-2))], [.inr (.inl 90)]), (40, [.inl (.int 2), .inl (.int (-2))], [.inr (.inl 91)]), (40, [.inl (.int 3), .inl (.int (-2))], [.inr (.inl 92)]), (40, [.inl (.int 4), .inl (.int (-2))], [.inr (.inl 93)]), (40, [.inl (.int 5), .inl (.int (-2))], [.inr (.inl 94)]), (40, [.inl (.int 6), .inl (.int (-2))], [.inr (.inl 95)]), (40, [.inl (.int 0), .inl (.int 0)], [.inr (.inl 56)]), (40, [.inl (.int 1), .inl (.int 0)], [.inr (.inl 97)]), (40, [.inl (.int 2), .inl (.int 0)], [.inr (.inl 98)]), (40, [.inl (.int 3), .inl (.int 0)], [.inr (.inl 99)]), (40, [.inl (.int 4), .inl (.int 0)], [.inr (.inl 100)]), (40, [.inl (.int 5), .inl (.int 0)], [.inr (.inl 101)]), (40, [.inl (.int 6), .inl (.int 0)], [.inr (.inl 102)]), (40, [.inl (.int 0), .inl (.int 0)], [.inr (.inl 57)]), (40, [.inl (.int 1), .inl (.int 0)], [.inr (.inl 104)]), (40, [.inl (.int 2), .inl (.int 0)], [.inr (.inl 105)]), (40, [.inl (.int 3), .inl (.int 0)], [.inr (.inl 106)]), (40, [.inl (.int 4), .inl (.int 0)], [.inr (.inl 107)]), (40, [.inl (.int 5), .inl (.int 0)], [.inr (.inl 108)]), (40, [.inl (.int 6), .inl (.int 0)], [.inr (.inl 109)]), (40, [.inl (.int 0), .inl (.int 0)], [.inr (.inl 58)]), (40, [.inl (.int 1), .inl (.int 0)], [.inr (.inl 111)]), (40, [.inl (.int 2), .inl (.int 0)], [.inr (.inl 112)]), (40, [.inl (.int 3), .inl (.int 0)], [.inr (.inl 113)]), (40, [.inl (.int 4), .inl (.int 0)], [.inr (.inl 114)]), (40, [.inl (.int 5), .inl (.int 0)], [.inr (.inl 115)]), (40, [.inl (.int 6), .inl (.int 0)], [.inr (.inl 116)]), (42, [.inl (.int 0), .inl (.int 0), .inl (.int 7)], [.inr (.inl 24), .inr (.inl 59)]), (42, [.inl (.int 0), .inl (.int 0), .inl (.int 4)], [.inr (.inl 28), .inr (.inl 60)]), (42, [.inl (.int 0), .inl (.int 0), .inl (.int 4)], [.inr (.inl 30), .inr (.inl 61)])]) (P := []) jm_ok7 (by decide +kernel) (by decide +kernel) hd F X1 X2 (fun F' hF hs => ?_)
  have a26 := hd_ba (F := F) (F' := F') (k := 26) (hF 26 (by decide))
  have a53 := hd_ba (F := F) (F' := F') (k := 53) (hF 53 (by decide))
  have t82 : sy_da F' (.inr (.inl 82)) = .inl (jm_cpy (sy_ai F 26) (sy_ai F 53) ((0 : Int32)).toNatClampNeg ((0 : Int32)).toNatClampNeg ((7 : Int32)).toNatClampNeg) := hd_cp (hs 0 _ rfl) rfl rfl rfl a26 a53
  have a54 := hd_ba (F := F) (F' := F') (k := 54) (hF 54 (by decide))
  have t83 : sy_da F' (.inr (.inl 83)) = .inl (jm_upd (sy_ai F 54) ((0 : Int32)).toNatClampNeg ((0 : Int32))) := hd_up (hs 1 _ rfl) rfl rfl a54
  have t84 : sy_da F' (.inr (.inl 84)) = .inl (jm_upd (jm_upd (sy_ai F 54) ((0 : Int32)).toNatClampNeg ((0 : Int32))) ((1 : Int32)).toNatClampNeg ((0 : Int32))) := hd_up (hs 2 _ rfl) rfl rfl t83
  have t85 : sy_da F' (.inr (.inl 85)) = .inl (jm_upd (jm_upd (jm_upd (sy_ai F 54) ((0 : Int32)).toNatClampNeg ((0 : Int32))) ((1 : Int32)).toNatClampNeg ((0 : Int32))) ((2 : Int32)).toNatClampNeg ((0 : Int32))) := hd_up (hs 3 _ rfl) rfl rfl t84
  have t86 : sy_da F' (.inr (.inl 86)) = .inl (jm_upd (jm_upd (jm_upd (jm_upd (sy_ai F 54) ((0 : Int32)).toNatClampNeg ((0 : Int32))) ((1 : Int32)).toNatClampNeg ((0 : Int32))) ((2 : Int32)).toNatClampNeg ((0 : Int32))) ((3 : Int32)).toNatClampNeg ((0 : Int32))) := hd_up (hs 4 _ rfl) rfl rfl t85
  have t87 : sy_da F' (.inr (.inl 87)) = .inl (jm_upd (jm_upd (jm_upd (jm_upd (jm_upd (sy_ai F 54) ((0 : Int32)).toNatClampNeg ((0 : Int32))) ((1 : Int32)).toNatClampNeg ((0 : Int32))) ((2 : Int32)).toNatClampNeg ((0 : Int32))) ((3 : Int32)).toNatClampNeg ((0 : Int32))) ((4 : Int32)).toNatClampNeg ((0 : Int32))) := hd_up (hs 5 _ rfl) rfl rfl t86
  have t88 : sy_da F' (.inr (.inl 88)) = .inl (jm_upd (jm_upd (jm_upd (jm_upd (jm_upd (jm_upd (sy_ai F 54) ((0 : Int32)).toNatClampNeg ((0 : Int32))) ((1 : Int32)).toNatClampNeg ((0 : Int32))) ((2 : Int32)).toNatClampNeg ((0 : Int32))) ((3 : Int32)).toNatClampNeg ((0 : Int32))) ((4 : Int32)).toNatClampNeg ((0 : Int32))) ((5 : Int32)).toNatClampNeg ((0 : Int32))) := hd_up (hs 6 _ rfl) rfl rfl t87
  have t89 : sy_da F' (.inr (.inl 89)) = .inl (jm_upd (jm_upd (jm_upd (jm_upd (jm_upd (jm_upd (jm_upd (sy_ai F 54) ((0 : Int32)).toNatClampNeg ((0 : Int32))) ((1 : Int32)).toNatClampNeg ((0 : Int32))) ((2 : Int32)).toNatClampNeg ((0 : Int32))) ((3 : Int32)).toNatClampNeg ((0 : Int32))) ((4 : Int32)).toNatClampNeg ((0 : Int32))) ((5 : Int32)).toNatClampNeg ((0 : Int32))) ((6 : Int32)).toNatClampNeg ((0 : Int32))) := hd_up (hs 7 _ rfl) rfl rfl t88
  have a55 := hd_ba (F := F) (F' := F') (k := 55) (hF 55 (by decide))
  have t90 : sy_da F' (.inr (.inl 90)) = .inl (jm_upd (sy_ai F 55) ((0 : Int32)).toNatClampNeg (((-2) : Int32))) := hd_up (hs 8 _ rfl) rfl rfl a55
  have t91 : sy_da F' (.inr (.inl 91)) = .inl (jm_upd (jm_upd (sy_ai F 55) ((0 : Int32)).toNatClampNeg (((-2) : Int32))) ((1 : Int32)).toNatClampNeg (((-2) : Int32))) := hd_up (hs 9 _ rfl) rfl rfl t90
  have t92 : sy_da F' (.inr (.inl 92)) = .inl (jm_upd (jm_upd (jm_upd (sy_ai F 55) ((0 : Int32)).toNatClampNeg (((-2) : Int32))) ((1 : Int32)).toNatClampNeg (((-2) : Int32))) ((2 : Int32)).toNatClampNeg (((-2) : Int32))) := hd_up (hs 10 _ rfl) rfl rfl t91
  have t93 : sy_da F' (.inr (.inl 93)) = .inl (jm_upd (jm_upd (jm_upd (jm_upd (sy_ai F 55) ((0 : Int32)).toNatClampNeg (((-2) : Int32))) ((1 : Int32)).toNatClampNeg (((-2) : Int32))) ((2 : Int32)).toNatClampNeg (((-2) : Int32))) ((3 : Int32)).toNatClampNeg (((-2) : Int32))) := hd_up (hs 11 _ rfl) rfl rfl t92
  have t94 : sy_da F' (.inr (.inl 94)) = .inl (jm_upd (jm_upd (jm_upd (jm_upd (jm_upd (sy_ai F 55) ((0 : Int32)).toNatClampNeg (((-2) : Int32))) ((1 : Int32)).toNatClampNeg (((-2) : Int32))) ((2 : Int32)).toNatClampNeg (((-2) : Int32))) ((3 : Int32)).toNatClampNeg (((-2) : Int32))) ((4 : Int32)).toNatClampNeg (((-2) : Int32))) := hd_up (hs 12 _ rfl) rfl rfl t93
  have t95 : sy_da F' (.inr (.inl 95)) = .inl (jm_upd (jm_upd (jm_upd (jm_upd (jm_upd (jm_upd (sy_ai F 55) ((0 : Int32)).toNatClampNeg (((-2) : Int32))) ((1 : Int32)).toNatClampNeg (((-2) : Int32))) ((2 : Int32)).toNatClampNeg (((-2) : Int32))) ((3 : Int32)).toNatClampNeg (((-2) : Int32))) ((4 : Int32)).toNatClampNeg (((-2) : Int32))) ((5 : Int32)).toNatClampNeg (((-2) : Int32))) := hd_up (hs 13 _ rfl) rfl rfl t94
  have t96 : sy_da F' (.inr (.inl 96)) = .inl (jm_upd (jm_upd (jm_upd (jm_upd (jm_upd (jm_upd (jm_upd (sy_ai F 55) ((0 : Int32)).toNatClampNeg (((-2) : Int32))) ((1 : Int32)).toNatClampNeg (((-2) : Int32))) ((2 : Int32)).toNatClampNeg (((-2) : Int32))) ((3 : Int32)).toNatClampNeg (((-2) : Int32))) ((4 : Int32)).toNatClampNeg (((-2) : Int32))) ((5 : Int32)).toNatClampNeg (((-2) : Int32))) ((6 : Int32)).toNatClampNeg (((-2) : Int32))) := hd_up (hs 14 _ rfl) rfl rfl t95
  have a56 := hd_ba (F := F) (F' := F') (k := 56) (hF 56 (by decide))
  have t97 : sy_da F' (.inr (.inl 97)) = .inl (jm_upd (sy_ai F 56) ((0 : Int32)).toNatClampNeg ((0 : Int32))) := hd_up (hs 15 _ rfl) rfl rfl a56
  have t98 : sy_da F' (.inr (.inl 98)) = .inl (jm_upd (jm_upd (sy_ai F 56) ((0 : Int32)).toNatClampNeg ((0 : Int32))) ((1 : Int32)).toNatClampNeg ((0 : Int32))) := hd_up (hs 16 _ rfl) rfl rfl t97
  have t99 : sy_da F' (.inr (.inl 99)) = .inl (jm_upd (jm_upd (jm_upd (sy_ai F 56) ((0 : Int32)).toNatClampNeg ((0 : Int32))) ((1 : Int32)).toNatClampNeg ((0 : Int32))) ((2 : Int32)).toNatClampNeg ((0 : Int32))) := hd_up (hs 17 _ rfl) rfl rfl t98
  have t100 : sy_da F' (.inr (.inl 100)) = .inl (jm_upd (jm_upd (jm_upd (jm_upd (sy_ai F 56) ((0 : Int32)).toNatClampNeg ((0 : Int32))) ((1 : Int32)).toNatClampNeg ((0 : Int32))) ((2 : Int32)).toNatClampNeg ((0 : Int32))) ((3 : Int32)).toNatClampNeg ((0 : Int32))) := hd_up (hs 18 _ rfl) rfl rfl t99
  have t101 : sy_da F' (.inr (.inl 101)) = .inl (jm_upd (jm_upd (jm_upd (jm_upd (jm_upd (sy_ai F 56) ((0 : Int32)).toNatClampNeg ((0 : Int32))) ((1 : Int32)).toNatClampNeg ((0 : Int32))) ((2 : Int32)).toNatClampNeg ((0 : Int32))) ((3 : Int32)).toNatClampNeg ((0 : Int32))) ((4 : Int32)).toNatClampNeg ((0 : Int32))) := hd_up (hs 19 _ rfl) rfl rfl t100
  have t102 : sy_da F' (.inr (.inl 102)) = .inl (jm_upd (jm_upd (jm_upd (jm_upd (jm_upd (jm_upd (sy_ai F 56) ((0 : Int32)).toNatClampNeg ((0 : Int32))) ((1 : Int32)).toNatClampNeg ((0 : Int32))) ((2 : Int32)).toNatClampNeg ((0 : Int32))) ((3 : Int32)).toNatClampNeg ((0 : Int32))) ((4 : Int32)).toNatClampNeg ((0 : Int32))) ((5 : Int32)).toNatClampNeg ((0 : Int32))) := hd_up (hs 20 _ rfl) rfl rfl t101
  have t103 : sy_da F' (.inr (.inl 103)) = .inl (jm_upd (jm_upd (jm_upd (jm_upd (jm_upd (jm_upd (jm_upd (sy_ai F 56) ((0 : Int32)).toNatClampNeg ((0 : Int32))) ((1 : Int32)).toNatClampNeg ((0 : Int32))) ((2 : Int32)).toNatClampNeg ((0 : Int32))) ((3 : Int32)).toNatClampNeg ((0 : Int32))) ((4 : Int32)).toNatClampNeg ((0 : Int32))) ((5 : Int32)).toNatClampNeg ((0 : Int32))) ((6 : Int32)).toNatClampNeg ((0 : Int32))) := hd_up (hs 21 _ rfl) rfl rfl t102
  have a57 := hd_ba (F := F) (F' := F') (k := 57) (hF 57 (by decide))
  have t104 : sy_da F' (.inr (.inl 104)) = .inl (jm_upd (sy_ai F 57) ((0 : Int32)).toNatClampNeg ((0 : Int32))) := hd_up (hs 22 _ rfl) rfl rfl a57
  have t105 : sy_da F' (.inr (.inl 105)) = .inl (jm_upd (jm_upd (sy_ai F 57) ((0 : Int32)).toNatClampNeg ((0 : Int32))) ((1 : Int32)).toNatClampNeg ((0 : Int32))) := hd_up (hs 23 _ rfl) rfl rfl t104
  have t106 : sy_da F' (.inr (.inl 106)) = .inl (jm_upd (jm_upd (jm_upd (sy_ai F 57) ((0 : Int32)).toNatClampNeg ((0 : Int32))) ((1 : Int32)).toNatClampNeg ((0 : Int32))) ((2 : Int32)).toNatClampNeg ((0 : Int32))) := hd_up (hs 24 _ rfl) rfl rfl t105
  have t107 : sy_da F' (.inr (.inl 107)) = .inl (jm_upd (jm_upd (jm_upd (jm_upd (sy_ai F 57) ((0 : Int32)).toNatClampNeg ((0 : Int32))) ((1 : Int32)).toNatClampNeg ((0 : Int32))) ((2 : Int32)).toNatClampNeg ((0 : Int32))) ((3 : Int32)).toNatClampNeg ((0 : Int32))) := hd_up (hs 25 _ rfl) rfl rfl t106
  have t108 : sy_da F' (.inr (.inl 108)) = .inl (jm_upd (jm_upd (jm_upd (jm_upd (jm_upd (sy_ai F 57) ((0 : Int32)).toNatClampNeg ((0 : Int32))) ((1 : Int32)).toNatClampNeg ((0 : Int32))) ((2 : Int32)).toNatClampNeg ((0 : Int32))) ((3 : Int32)).toNatClampNeg ((0 : Int32))) ((4 : Int32)).toNatClampNeg ((0 : Int32))) := hd_up (hs 26 _ rfl) rfl rfl t107
  have t109 : sy_da F' (.inr (.inl 109)) = .inl (jm_upd (jm_upd (jm_upd (jm_upd (jm_upd (jm_upd (sy_ai F 57) ((0 : Int32)).toNatClampNeg ((0 : Int32))) ((1 : Int32)).toNatClampNeg ((0 : Int32))) ((2 : Int32)).toNatClampNeg ((0 : Int32))) ((3 : Int32)).toNatClampNeg ((0 : Int32))) ((4 : Int32)).toNatClampNeg ((0 : Int32))) ((5 : Int32)).toNatClampNeg ((0 : Int32))) := hd_up (hs 27 _ rfl) rfl rfl t108
  have t110 : sy_da F' (.inr (.inl 110)) = .inl (jm_upd (jm_upd (jm_upd (jm_upd (jm_upd (jm_upd (jm_upd (sy_ai F 57) ((0 : Int32)).toNatClampNeg ((0 : Int32))) ((1 : Int32)).toNatClampNeg ((0 : Int32))) ((2 : Int32)).toNatClampNeg ((0 : Int32))) ((3 : Int32)).toNatClampNeg ((0 : Int32))) ((4 : Int32)).toNatClampNeg ((0 : Int32))) ((5 : Int32)).toNatClampNeg ((0 : Int32))) ((6 : Int32)).toNatClampNeg ((0 : Int32))) := hd_up (hs 28 _ rfl) rfl rfl t109
  have a58 := hd_ba (F := F) (F' := F') (k := 58) (hF 58 (by decide))
  have t111 : sy_da F' (.inr (.inl 111)) = .inl (jm_upd (sy_ai F 58) ((0 : Int32)).toNatClampNeg ((0 : Int32))) := hd_up (hs 29 _ rfl) rfl rfl a58
  have t112 : sy_da F' (.inr (.inl 112)) = .inl (jm_upd (jm_upd (sy_ai F 58) ((0 : Int32)).toNatClampNeg ((0 : Int32))) ((1 : Int32)).toNatClampNeg ((0 : Int32))) := hd_up (hs 30 _ rfl) rfl rfl t111
  have t113 : sy_da F' (.inr (.inl 113)) = .inl (jm_upd (jm_upd (jm_upd (sy_ai F 58) ((0 : Int32)).toNatClampNeg ((0 : Int32))) ((1 : Int32)).toNatClampNeg ((0 : Int32))) ((2 : Int32)).toNatClampNeg ((0 : Int32))) := hd_up (hs 31 _ rfl) rfl rfl t112
  have t114 : sy_da F' (.inr (.inl 114)) = .inl (jm_upd (jm_upd (jm_upd (jm_upd (sy_ai F 58) ((0 : Int32)).toNatClampNeg ((0 : Int32))) ((1 : Int32)).toNatClampNeg ((0 : Int32))) ((2 : Int32)).toNatClampNeg ((0 : Int32))) ((3 : Int32)).toNatClampNeg ((0 : Int32))) := hd_up (hs 32 _ rfl) rfl rfl t113
  have t115 : sy_da F' (.inr (.inl 115)) = .inl (jm_upd (jm_upd (jm_upd (jm_upd (jm_upd (sy_ai F 58) ((0 : Int32)).toNatClampNeg ((0 : Int32))) ((1 : Int32)).toNatClampNeg ((0 : Int32))) ((2 : Int32)).toNatClampNeg ((0 : Int32))) ((3 : Int32)).toNatClampNeg ((0 : Int32))) ((4 : Int32)).toNatClampNeg ((0 : Int32))) := hd_up (hs 33 _ rfl) rfl rfl t114
  have t116 : sy_da F' (.inr (.inl 116)) = .inl (jm_upd (jm_upd (jm_upd (jm_upd (jm_upd (jm_upd (sy_ai F 58) ((0 : Int32)).toNatClampNeg ((0 : Int32))) ((1 : Int32)).toNatClampNeg ((0 : Int32))) ((2 : Int32)).toNatClampNeg ((0 : Int32))) ((3 : Int32)).toNatClampNeg ((0 : Int32))) ((4 : Int32)).toNatClampNeg ((0 : Int32))) ((5 : Int32)).toNatClampNeg ((0 : Int32))) := hd_up (hs 34 _ rfl) rfl rfl t115
  have t117 : sy_da F' (.inr (.inl 117)) = .inl (jm_upd (jm_upd (jm_upd (jm_upd (jm_upd (jm_upd (jm_upd (sy_ai F 58) ((0 : Int32)).toNatClampNeg ((0 : Int32))) ((1 : Int32)).toNatClampNeg ((0 : Int32))) ((2 : Int32)).toNatClampNeg ((0 : Int32))) ((3 : Int32)).toNatClampNeg ((0 : Int32))) ((4 : Int32)).toNatClampNeg ((0 : Int32))) ((5 : Int32)).toNatClampNeg ((0 : Int32))) ((6 : Int32)).toNatClampNeg ((0 : Int32))) := hd_up (hs 35 _ rfl) rfl rfl t116
  have a24 := hd_ba (F := F) (F' := F') (k := 24) (hF 24 (by decide))
  have a59 := hd_ba (F := F) (F' := F') (k := 59) (hF 59 (by decide))
  have t118 : sy_da F' (.inr (.inl 118)) = .inl (jm_cpy (sy_ai F 24) (sy_ai F 59) ((0 : Int32)).toNatClampNeg ((0 : Int32)).toNatClampNeg ((7 : Int32)).toNatClampNeg) := hd_cp (hs 36 _ rfl) rfl rfl rfl a24 a59
  have a28 := hd_ba (F := F) (F' := F') (k := 28) (hF 28 (by decide))
  have a60 := hd_ba (F := F) (F' := F') (k := 60) (hF 60 (by decide))
  have t119 : sy_da F' (.inr (.inl 119)) = .inl (jm_cpy (sy_ai F 28) (sy_ai F 60) ((0 : Int32)).toNatClampNeg ((0 : Int32)).toNatClampNeg ((4 : Int32)).toNatClampNeg) := hd_cp (hs 37 _ rfl) rfl rfl rfl a28 a60
  have a30 := hd_ba (F := F) (F' := F') (k := 30) (hF 30 (by decide))
  have a61 := hd_ba (F := F) (F' := F') (k := 61) (hF 61 (by decide))
  have t120 : sy_da F' (.inr (.inl 120)) = .inl (jm_cpy (sy_ai F 30) (sy_ai F 61) ((0 : Int32)).toNatClampNeg ((0 : Int32)).toNatClampNeg ((4 : Int32)).toNatClampNeg) := hd_cp (hs 38 _ rfl) rfl rfl rfl a30 a61
  have hB' : iv_in F' iv_B0 := iv_in_eq hB (fun j hj => hF j (Nat.lt_of_lt_of_le hj (by decide +kernel)))
  refine ⟨fun _ h => absurd h List.not_mem_nil, ?_⟩
  refine k _ ?_ ?_ ?_ ?_ ?_ ?_ ?_ ?_ ?_ ?_ ?_ ?_ ?_
  · exact fun j hj hn => (hd_keep hB' (Nat.lt_of_lt_of_le hj (by decide +kernel)) (by simp; omega)).trans (hF j (Nat.lt_of_lt_of_le hj (by decide)))
  · exact hd_gi (x := .inl (.int 0)) (by decide +kernel) rfl
  · exact hd_gi (x := .inl (.int 0)) (by decide +kernel) rfl
  · exact hd_gi (x := .inl (.int 0)) (by decide +kernel) rfl
  · exact hd_ga (a := .inr (.inl 82)) (by decide +kernel) t82
  · exact hd_ga (a := .inr (.inl 89)) (by decide +kernel) t89
  · exact hd_ga (a := .inr (.inl 96)) (by decide +kernel) t96
  · exact hd_ga (a := .inr (.inl 103)) (by decide +kernel) t103
  · exact hd_ga (a := .inr (.inl 110)) (by decide +kernel) t110
  · exact hd_ga (a := .inr (.inl 117)) (by decide +kernel) t117
  · exact hd_ga (a := .inr (.inl 118)) (by decide +kernel) t118
  · exact hd_ga (a := .inr (.inl 119)) (by decide +kernel) t119
  · exact hd_ga (a := .inr (.inl 120)) (by decide +kernel) t120
theorem j2gb_0 {Ls : Nat} {xs : Nat → Int32} {d : Nat} {Q : Option Value → jm_h → Prop} (hd : 2 ≤ d) (F : Nat → sy_d) (X1 X2 : List jm_c) (hB : iv_in F iv_B0)
    (k0 : ∀ F1 : Nat → sy_d, iv_in F1 iv_B0 → (∀ j, j < 82 → j ∉ ([50, 51, 52, 53, 54, 55, 56, 57, 58, 59, 60, 61] : List Nat) → F1 j = F j) → (sy_i F1 50).toInt = 0 → sy_i F1 50 = (0 : Int32) → (sy_i F1 51).toInt = 0 → sy_i F1 51 = (0 : Int32) → (sy_i F1 52).toInt = 0 → sy_i F1 52 = (0 : Int32) → sy_ai F1 53 = jm_cpy (sy_ai F 26) (sy_ai F 53) (0 : Int).toNat (0 : Int).toNat (7 : Int).toNat → sy_ai F1 54 = jm_upd (jm_upd (jm_upd (jm_upd (jm_upd (jm_upd (jm_upd (sy_ai F 54) (0 : Int).toNat ((0 : Int32))) (1 : Int).toNat ((0 : Int32))) (2 : Int).toNat ((0 : Int32))) (3 : Int).toNat ((0 : Int32))) (4 : Int).toNat ((0 : Int32))) (5 : Int).toNat ((0 : Int32))) (6 : Int).toNat ((0 : Int32)) → sy_ai F1 55 = jm_upd (jm_upd (jm_upd (jm_upd (jm_upd (jm_upd (jm_upd (sy_ai F 55) (0 : Int).toNat (((-2) : Int32))) (1 : Int).toNat (((-2) : Int32))) (2 : Int).toNat (((-2) : Int32))) (3 : Int).toNat (((-2) : Int32))) (4 : Int).toNat (((-2) : Int32))) (5 : Int).toNat (((-2) : Int32))) (6 : Int).toNat (((-2) : Int32)) → sy_ai F1 56 = jm_upd (jm_upd (jm_upd (jm_upd (jm_upd (jm_upd (jm_upd (sy_ai F 56) (0 : Int).toNat ((0 : Int32))) (1 : Int).toNat ((0 : Int32))) (2 : Int).toNat ((0 : Int32))) (3 : Int).toNat ((0 : Int32))) (4 : Int).toNat ((0 : Int32))) (5 : Int).toNat ((0 : Int32))) (6 : Int).toNat ((0 : Int32)) → sy_ai F1 57 = jm_upd (jm_upd (jm_upd (jm_upd (jm_upd (jm_upd (jm_upd (sy_ai F 57) (0 : Int).toNat ((0 : Int32))) (1 : Int).toNat ((0 : Int32))) (2 : Int).toNat ((0 : Int32))) (3 : Int).toNat ((0 : Int32))) (4 : Int).toNat ((0 : Int32))) (5 : Int).toNat ((0 : Int32))) (6 : Int).toNat ((0 : Int32)) → sy_ai F1 58 = jm_upd (jm_upd (jm_upd (jm_upd (jm_upd (jm_upd (jm_upd (sy_ai F 58) (0 : Int).toNat ((0 : Int32))) (1 : Int).toNat ((0 : Int32))) (2 : Int).toNat ((0 : Int32))) (3 : Int).toNat ((0 : Int32))) (4 : Int).toNat ((0 : Int32))) (5 : Int).toNat ((0 : Int32))) (6 : Int).toNat ((0 : Int32)) → sy_ai F1 59 = jm_cpy (sy_ai F 24) (sy_ai F 59) (0 : Int).toNat (0 : Int).toNat (7 : Int).toNat → sy_ai F1 60 = jm_cpy (sy_ai F 28) (sy_ai F 60) (0 : Int).toNat (0 : Int).toNat (4 : Int).toNat → sy_ai F1 61 = jm_cpy (sy_ai F 30) (sy_ai F 61) (0 : Int).toNat (0 : Int).toNat (4 : Int).toNat → Q (none) (sy_dh F1 X1 X2 (iv_H 2))) :
    hd_W Ls xs d jm_M7 Q (0, sy_dL F [some (.inl (.ref 46)), some (.inl (.ref 20))], sy_dS F [], sy_dh F X1 X2 (iv_H 2), 0, 0) := by
  have w82 : jm_cpy (sy_ai F 26) (sy_ai F 53) ((0 : Int32)).toNatClampNeg ((0 : Int32)).toNatClampNeg ((7 : Int32)).toNatClampNeg = jm_cpy (sy_ai F 26) (sy_ai F 53) (0 : Int).toNat (0 : Int).toNat (7 : Int).toNat := by simp only [nz_c, (by decide : ((0 : Int32)).toInt = 0), (by decide : ((7 : Int32)).toInt = 7)]
  have w89 : jm_upd (jm_upd (jm_upd (jm_upd (jm_upd (jm_upd (jm_upd (sy_ai F 54) ((0 : Int32)).toNatClampNeg ((0 : Int32))) ((1 : Int32)).toNatClampNeg ((0 : Int32))) ((2 : Int32)).toNatClampNeg ((0 : Int32))) ((3 : Int32)).toNatClampNeg ((0 : Int32))) ((4 : Int32)).toNatClampNeg ((0 : Int32))) ((5 : Int32)).toNatClampNeg ((0 : Int32))) ((6 : Int32)).toNatClampNeg ((0 : Int32)) = jm_upd (jm_upd (jm_upd (jm_upd (jm_upd (jm_upd (jm_upd (sy_ai F 54) (0 : Int).toNat ((0 : Int32))) (1 : Int).toNat ((0 : Int32))) (2 : Int).toNat ((0 : Int32))) (3 : Int).toNat ((0 : Int32))) (4 : Int).toNat ((0 : Int32))) (5 : Int).toNat ((0 : Int32))) (6 : Int).toNat ((0 : Int32)) := by simp only [nz_c, (by decide : ((0 : Int32)).toInt = 0), (by decide : ((1 : Int32)).toInt = 1), (by decide : ((2 : Int32)).toInt = 2), (by decide : ((3 : Int32)).toInt = 3), (by decide : ((4 : Int32)).toInt = 4), (by decide : ((5 : Int32)).toInt = 5), (by decide : ((6 : Int32)).toInt = 6)]
  have w96 : jm_upd (jm_upd (jm_upd (jm_upd (jm_upd (jm_upd (jm_upd (sy_ai F 55) ((0 : Int32)).toNatClampNeg (((-2) : Int32))) ((1 : Int32)).toNatClampNeg (((-2) : Int32))) ((2 : Int32)).toNatClampNeg (((-2) : Int32))) ((3 : Int32)).toNatClampNeg (((-2) : Int32))) ((4 : Int32)).toNatClampNeg (((-2) : Int32))) ((5 : Int32)).toNatClampNeg (((-2) : Int32))) ((6 : Int32)).toNatClampNeg (((-2) : Int32)) = jm_upd (jm_upd (jm_upd (jm_upd (jm_upd (jm_upd (jm_upd (sy_ai F 55) (0 : Int).toNat (((-2) : Int32))) (1 : Int).toNat (((-2) : Int32))) (2 : Int).toNat (((-2) : Int32))) (3 : Int).toNat (((-2) : Int32))) (4 : Int).toNat (((-2) : Int32))) (5 : Int).toNat (((-2) : Int32))) (6 : Int).toNat (((-2) : Int32)) := by simp only [nz_c, (by decide : (((-2) : Int32)).toInt = (-2 : Int)), (by decide : ((0 : Int32)).toInt = 0), (by decide : ((1 : Int32)).toInt = 1), (by decide : ((2 : Int32)).toInt = 2), (by decide : ((3 : Int32)).toInt = 3), (by decide : ((4 : Int32)).toInt = 4), (by decide : ((5 : Int32)).toInt = 5), (by decide : ((6 : Int32)).toInt = 6)]
  have w103 : jm_upd (jm_upd (jm_upd (jm_upd (jm_upd (jm_upd (jm_upd (sy_ai F 56) ((0 : Int32)).toNatClampNeg ((0 : Int32))) ((1 : Int32)).toNatClampNeg ((0 : Int32))) ((2 : Int32)).toNatClampNeg ((0 : Int32))) ((3 : Int32)).toNatClampNeg ((0 : Int32))) ((4 : Int32)).toNatClampNeg ((0 : Int32))) ((5 : Int32)).toNatClampNeg ((0 : Int32))) ((6 : Int32)).toNatClampNeg ((0 : Int32)) = jm_upd (jm_upd (jm_upd (jm_upd (jm_upd (jm_upd (jm_upd (sy_ai F 56) (0 : Int).toNat ((0 : Int32))) (1 : Int).toNat ((0 : Int32))) (2 : Int).toNat ((0 : Int32))) (3 : Int).toNat ((0 : Int32))) (4 : Int).toNat ((0 : Int32))) (5 : Int).toNat ((0 : Int32))) (6 : Int).toNat ((0 : Int32)) := by simp only [nz_c, (by decide : ((0 : Int32)).toInt = 0), (by decide : ((1 : Int32)).toInt = 1), (by decide : ((2 : Int32)).toInt = 2), (by decide : ((3 : Int32)).toInt = 3), (by decide : ((4 : Int32)).toInt = 4), (by decide : ((5 : Int32)).toInt = 5), (by decide : ((6 : Int32)).toInt = 6)]
  have w110 : jm_upd (jm_upd (jm_upd (jm_upd (jm_upd (jm_upd (jm_upd (sy_ai F 57) ((0 : Int32)).toNatClampNeg ((0 : Int32))) ((1 : Int32)).toNatClampNeg ((0 : Int32))) ((2 : Int32)).toNatClampNeg ((0 : Int32))) ((3 : Int32)).toNatClampNeg ((0 : Int32))) ((4 : Int32)).toNatClampNeg ((0 : Int32))) ((5 : Int32)).toNatClampNeg ((0 : Int32))) ((6 : Int32)).toNatClampNeg ((0 : Int32)) = jm_upd (jm_upd (jm_upd (jm_upd (jm_upd (jm_upd (jm_upd (sy_ai F 57) (0 : Int).toNat ((0 : Int32))) (1 : Int).toNat ((0 : Int32))) (2 : Int).toNat ((0 : Int32))) (3 : Int).toNat ((0 : Int32))) (4 : Int).toNat ((0 : Int32))) (5 : Int).toNat ((0 : Int32))) (6 : Int).toNat ((0 : Int32)) := by simp only [nz_c, (by decide : ((0 : Int32)).toInt = 0), (by decide : ((1 : Int32)).toInt = 1), (by decide : ((2 : Int32)).toInt = 2), (by decide : ((3 : Int32)).toInt = 3), (by decide : ((4 : Int32)).toInt = 4), (by decide : ((5 : Int32)).toInt = 5), (by decide : ((6 : Int32)).toInt = 6)]
  have w117 : jm_upd (jm_upd (jm_upd (jm_upd (jm_upd (jm_upd (jm_upd (sy_ai F 58) ((0 : Int32)).toNatClampNeg ((0 : Int32))) ((1 : Int32)).toNatClampNeg ((0 : Int32))) ((2 : Int32)).toNatClampNeg ((0 : Int32))) ((3 : Int32)).toNatClampNeg ((0 : Int32))) ((4 : Int32)).toNatClampNeg ((0 : Int32))) ((5 : Int32)).toNatClampNeg ((0 : Int32))) ((6 : Int32)).toNatClampNeg ((0 : Int32)) = jm_upd (jm_upd (jm_upd (jm_upd (jm_upd (jm_upd (jm_upd (sy_ai F 58) (0 : Int).toNat ((0 : Int32))) (1 : Int).toNat ((0 : Int32))) (2 : Int).toNat ((0 : Int32))) (3 : Int).toNat ((0 : Int32))) (4 : Int).toNat ((0 : Int32))) (5 : Int).toNat ((0 : Int32))) (6 : Int).toNat ((0 : Int32)) := by simp only [nz_c, (by decide : ((0 : Int32)).toInt = 0), (by decide : ((1 : Int32)).toInt = 1), (by decide : ((2 : Int32)).toInt = 2), (by decide : ((3 : Int32)).toInt = 3), (by decide : ((4 : Int32)).toInt = 4), (by decide : ((5 : Int32)).toInt = 5), (by decide : ((6 : Int32)).toInt = 6)]
  have w118 : jm_cpy (sy_ai F 24) (sy_ai F 59) ((0 : Int32)).toNatClampNeg ((0 : Int32)).toNatClampNeg ((7 : Int32)).toNatClampNeg = jm_cpy (sy_ai F 24) (sy_ai F 59) (0 : Int).toNat (0 : Int).toNat (7 : Int).toNat := by simp only [nz_c, (by decide : ((0 : Int32)).toInt = 0), (by decide : ((7 : Int32)).toInt = 7)]
  have w119 : jm_cpy (sy_ai F 28) (sy_ai F 60) ((0 : Int32)).toNatClampNeg ((0 : Int32)).toNatClampNeg ((4 : Int32)).toNatClampNeg = jm_cpy (sy_ai F 28) (sy_ai F 60) (0 : Int).toNat (0 : Int).toNat (4 : Int).toNat := by simp only [nz_c, (by decide : ((0 : Int32)).toInt = 0), (by decide : ((4 : Int32)).toInt = 4)]
  have w120 : jm_cpy (sy_ai F 30) (sy_ai F 61) ((0 : Int32)).toNatClampNeg ((0 : Int32)).toNatClampNeg ((4 : Int32)).toNatClampNeg = jm_cpy (sy_ai F 30) (sy_ai F 61) (0 : Int).toNat (0 : Int).toNat (4 : Int).toNat := by simp only [nz_c, (by decide : ((0 : Int32)).toInt = 0), (by decide : ((4 : Int32)).toInt = 4)]
  exact j2gb_0_p0 hd F X1 X2 hB  (fun F1 g e50 e51 e52 e53 e54 e55 e56 e57 e58 e59 e60 e61 => k0 F1 (nz_in0 hB [50, 51, 52, 53, 54, 55, 56, 57, 58, 59, 60, 61] (fun j hj hn => g j hj (by simp only [List.mem_cons, List.not_mem_nil, or_false, not_or] at hn; omega)) (List.forall_mem_cons.mpr ⟨fun t ht => (Option.some.inj ht) ▸ (nz_hz e50), List.forall_mem_cons.mpr ⟨fun t ht => (Option.some.inj ht) ▸ (nz_hz e51), List.forall_mem_cons.mpr ⟨fun t ht => (Option.some.inj ht) ▸ (nz_hz e52), List.forall_mem_cons.mpr ⟨fun t ht => (Option.some.inj ht) ▸ (nz_hz2 e53), List.forall_mem_cons.mpr ⟨fun t ht => (Option.some.inj ht) ▸ (nz_hz2 e54), List.forall_mem_cons.mpr ⟨fun t ht => (Option.some.inj ht) ▸ (nz_hz2 e55), List.forall_mem_cons.mpr ⟨fun t ht => (Option.some.inj ht) ▸ (nz_hz2 e56), List.forall_mem_cons.mpr ⟨fun t ht => (Option.some.inj ht) ▸ (nz_hz2 e57), List.forall_mem_cons.mpr ⟨fun t ht => (Option.some.inj ht) ▸ (nz_hz2 e58), List.forall_mem_cons.mpr ⟨fun t ht => (Option.some.inj ht) ▸ (nz_hz2 e59), List.forall_mem_cons.mpr ⟨fun t ht => (Option.some.inj ht) ▸ (nz_hz2 e60), List.forall_mem_cons.mpr ⟨fun t ht => (Option.some.inj ht) ▸ (nz_hz2 e61), List.forall_mem_nil _⟩⟩⟩⟩⟩⟩⟩⟩⟩⟩⟩⟩)) (fun j hj hn => g j hj (by simp only [List.mem_cons, List.not_mem_nil, or_false, not_or] at hn; omega)) ((congrArg Int32.toInt (zz_i e50)).trans (by decide : ((0 : Int32)).toInt = 0)) ((zz_i e50).trans (rfl : (0 : Int32) = (0 : Int32))) ((congrArg Int32.toInt (zz_i e51)).trans (by decide : ((0 : Int32)).toInt = 0)) ((zz_i e51).trans (rfl : (0 : Int32) = (0 : Int32))) ((congrArg Int32.toInt (zz_i e52)).trans (by decide : ((0 : Int32)).toInt = 0)) ((zz_i e52).trans (rfl : (0 : Int32) = (0 : Int32))) ((zz_ai e53).trans w82) ((zz_ai e54).trans w89) ((zz_ai e55).trans w96) ((zz_ai e56).trans w103) ((zz_ai e57).trans w110) ((zz_ai e58).trans w117) ((zz_ai e59).trans w118) ((zz_ai e60).trans w119) ((zz_ai e61).trans w120))
theorem j2sr_0_p0 {Ls : Nat} {xs : Nat → Int32} {d : Nat} {Q : Option Value → jm_h → Prop} (hd : 1 ≤ d) (F : Nat → sy_d) (X1 X2 : List jm_c) (hB : iv_in F iv_B0)
    (k : ∀ F1 : Nat → sy_d, (∀ j, j < 82 → True → F1 j = F j) → F1 82 = .inl (.int (sy_i F 18)) → hd_W Ls xs d jm_M19 Q (7, sy_dL F1 [some (.inl (.ref 38)), some (.inl (.ref 20)), none], sy_dS F1 [.inr (.inl 82), .inl (.int 0), .inl (.ref 20), .inl (.ref 38)], sy_dh F1 X1 X2 (iv_H 2), 0, 0)) :
    hd_W Ls xs d jm_M19 Q (0, sy_dL F [some (.inl (.ref 38)), some (.inl (.ref 20)), none], sy_dS F [], sy_dh F X1 X2 (iv_H 2), 0, 0) := by
  refine hd_run (s := 2) (nv := 82) (pc := 7) (L := [some (.inl (.ref 38)), some (.inl (.ref 20)), none]) (S := [.inr (.inl 82), .inl (.int 0), .inl (.ref 20), .inl (.ref 38)]) (uh := hd_ov (iv_id 0 iv_B0) []) (ul := [.inl (.inr (.inl 18))]) (f := true) (sp := [7]) (d0 := 0) (O := []) (T := []) (P := []) jm_ok19 (by decide +kernel) (by decide +kernel) hd F X1 X2 (fun F' hF hs => ?_)
  have b18 := hd_b (F := F) (F' := F') (k := 18) (hF 18 (by decide))
  have hB' : iv_in F' iv_B0 := iv_in_eq hB (fun j hj => hF j (Nat.lt_of_lt_of_le hj (by decide +kernel)))
  refine ⟨fun _ h => absurd h List.not_mem_nil, ?_⟩
  refine k _ ?_ ?_
  · exact fun j hj _ => (hd_keep hB' (Nat.lt_of_lt_of_le hj (by decide +kernel)) (by simp)).trans (hF j (Nat.lt_of_lt_of_le hj (by decide)))
  · exact hd_gi (x := .inr (.inl 18)) (by decide +kernel) b18
theorem j2sr_0 {Ls : Nat} {xs : Nat → Int32} {d : Nat} {Q : Option Value → jm_h → Prop} (hd : 1 ≤ d) (F : Nat → sy_d) (X1 X2 : List jm_c) (hB : iv_in F iv_B0)
    (k0 : ∀ F1 : Nat → sy_d, iv_in F1 iv_B0 → (∀ j, j < 82 → j ∉ ([] : List Nat) → F1 j = F j) → (sy_i F1 82).toInt = (sy_i F 18).toInt → sy_i F1 82 = sy_i F 18 → hd_W Ls xs d jm_M19 Q (7, sy_dL F1 [some (.inl (.ref 38)), some (.inl (.ref 20)), none], sy_dS F1 [.inr (.inl 82), .inl (.int 0), .inl (.ref 20), .inl (.ref 38)], sy_dh F1 X1 X2 (iv_H 2), 0, 0)) :
    hd_W Ls xs d jm_M19 Q (0, sy_dL F [some (.inl (.ref 38)), some (.inl (.ref 20)), none], sy_dS F [], sy_dh F X1 X2 (iv_H 2), 0, 0) := by
  have c18 := nz_bx hB (k := 18) (lo := 0) (hi := 7) rfl
  exact j2sr_0_p0 hd F X1 X2 hB  (fun F1 g e82 => k0 F1 (nz_in0 hB [] (fun j hj hn => g j hj (by simp only [List.mem_cons, List.not_mem_nil, or_false, not_or] at hn; exact trivial)) (List.forall_mem_nil _)) (fun j hj hn => g j hj (by simp only [List.mem_cons, List.not_mem_nil, or_false, not_or] at hn; exact trivial)) ((congrArg Int32.toInt (zz_i e82)).trans (rfl : (sy_i F 18).toInt = (sy_i F 18).toInt)) ((zz_i e82).trans (rfl : sy_i F 18 = sy_i F 18)))
theorem j2sr_10_p0 {Ls : Nat} {xs : Nat → Int32} {d : Nat} {Q : Option Value → jm_h → Prop} (hd : 1 ≤ d) (F : Nat → sy_d) (X1 X2 : List jm_c) (hB : iv_in F iv_B0)
    (k : ∀ F1 : Nat → sy_d, (∀ j, j < 82 → True → F1 j = F j) → F1 82 = .inl (.int ((0 : Int32))) → hd_W Ls xs d jm_M19 Q (12, sy_dL F1 [some (.inl (.ref 38)), some (.inl (.ref 20)), some (.inr (.inl 82))], sy_dS F1 [], sy_dh F1 X1 X2 (iv_H 2), 0, 0)) :
    hd_W Ls xs d jm_M19 Q (10, sy_dL F [some (.inl (.ref 38)), some (.inl (.ref 20)), none], sy_dS F [], sy_dh F X1 X2 (iv_H 2), 0, 0) := by
  refine hd_run (s := 2) (nv := 82) (pc := 12) (L := [some (.inl (.ref 38)), some (.inl (.ref 20)), some (.inr (.inl 82))]) (S := []) (uh := hd_ov (iv_id 0 iv_B0) []) (ul := [.inl (.inl (.int 0))]) (f := false) (sp := [12]) (d0 := 0) (O := []) (T := []) (P := []) jm_ok19 (by decide +kernel) (by decide +kernel) hd F X1 X2 (fun F' hF hs => ?_)
  have hB' : iv_in F' iv_B0 := iv_in_eq hB (fun j hj => hF j (Nat.lt_of_lt_of_le hj (by decide +kernel)))
  refine ⟨fun _ h => absurd h List.not_mem_nil, ?_⟩
  refine k _ ?_ ?_
  · exact fun j hj _ => (hd_keep hB' (Nat.lt_of_lt_of_le hj (by decide +kernel)) (by simp)).trans (hF j (Nat.lt_of_lt_of_le hj (by decide)))
  · exact hd_gi (x := .inl (.int 0)) (by decide +kernel) rfl
theorem j2sr_10 {Ls : Nat} {xs : Nat → Int32} {d : Nat} {Q : Option Value → jm_h → Prop} (hd : 1 ≤ d) (F : Nat → sy_d) (X1 X2 : List jm_c) (hB : iv_in F iv_B0)
    (k0 : ∀ F1 : Nat → sy_d, iv_in F1 iv_B0 → (∀ j, j < 82 → j ∉ ([] : List Nat) → F1 j = F j) → (sy_i F1 82).toInt = 0 → sy_i F1 82 = (0 : Int32) → hd_W Ls xs d jm_M19 Q (12, sy_dL F1 [some (.inl (.ref 38)), some (.inl (.ref 20)), some (.inr (.inl 82))], sy_dS F1 [], sy_dh F1 X1 X2 (iv_H 2), 0, 0)) :
    hd_W Ls xs d jm_M19 Q (10, sy_dL F [some (.inl (.ref 38)), some (.inl (.ref 20)), none], sy_dS F [], sy_dh F X1 X2 (iv_H 2), 0, 0) := by
  exact j2sr_10_p0 hd F X1 X2 hB  (fun F1 g e82 => k0 F1 (nz_in0 hB [] (fun j hj hn => g j hj (by simp only [List.mem_cons, List.not_mem_nil, or_false, not_or] at hn; exact trivial)) (List.forall_mem_nil _)) (fun j hj hn => g j hj (by simp only [List.mem_cons, List.not_mem_nil, or_false, not_or] at hn; exact trivial)) ((congrArg Int32.toInt (zz_i e82)).trans (by decide : ((0 : Int32)).toInt = 0)) ((zz_i e82).trans (rfl : (0 : Int32) = (0 : Int32))))
theorem j2sr_12_p0 {Ls : Nat} {xs : Nat → Int32} {d : Nat} {Q : Option Value → jm_h → Prop} (hd : 1 ≤ d) (F : Nat → sy_d) (X1 X2 : List jm_c) (hB : iv_in F iv_B0)
    (h0 : (sy_i F 18).toInt ≤ (sy_i F 82).toInt)
    (k : ∀ F1 : Nat → sy_d, (∀ j, j < 82 → True → F1 j = F j) → Q (none) (sy_dh F1 X1 X2 (iv_H 2))) :
    hd_W Ls xs d jm_M19 Q (12, sy_dL F [some (.inl (.ref 38)), some (.inl (.ref 20)), some (.inr (.inl 82))], sy_dS F [], sy_dh F X1 X2 (iv_H 2), 0, 0) := by
  refine hd_ret (s := 2) (nv := 83) (v := none) (uh := hd_ov (iv_id 0 iv_B0) []) (f := true) (sp := [64]) (d0 := 0) (O := [true]) (T := []) (P := [(4, .inr (.inl 18), .inr (.inl 82))]) jm_ok19 (by decide +kernel) (by decide +kernel) hd F X1 X2 (fun F' hF hs => ?_)
  have b18 := hd_b (F := F) (F' := F') (k := 18) (hF 18 (by decide))
  have b82 := hd_b (F := F) (F' := F') (k := 82) (hF 82 (by decide))
  have hB' : iv_in F' iv_B0 := iv_in_eq hB (fun j hj => hF j (Nat.lt_of_lt_of_le hj (by decide +kernel)))
  refine ⟨List.forall_mem_cons.mpr ⟨hd_p4 b18 b82 h0, fun _ h => absurd h List.not_mem_nil⟩, ?_⟩
  refine k _ ?_
  · exact fun j hj _ => (hd_keep hB' (Nat.lt_of_lt_of_le hj (by decide +kernel)) (by simp)).trans (hF j (Nat.lt_of_lt_of_le hj (by decide)))
theorem j2sr_12_p1 {Ls : Nat} {xs : Nat → Int32} {d : Nat} {Q : Option Value → jm_h → Prop} (hd : 1 ≤ d) (F : Nat → sy_d) (X1 X2 : List jm_c) (hB : iv_in F iv_B0)
    (h0 : (sy_i F 82).toInt < (sy_i F 18).toInt)
    (h1 : 0 ≤ (sy_i F 82).toInt ∧ (sy_i F 82).toInt < 7)
    (h2 : 0 ≤ (sy_i F 82).toInt ∧ (sy_i F 82).toInt < 7)
    (h3 : 0 ≤ (sy_i F 82).toInt ∧ (sy_i F 82).toInt < 7)
    (k : ∀ F1 : Nat → sy_d, (∀ j, j < 82 → j ≠ 45 → F1 j = F j) → F1 45 = .inr (.inl (jm_upd (jm_upd (jm_upd (sy_ai F 45) ((0 : Int32)).toNatClampNeg ((sy_ai F 26).getD (sy_i F 82).toNatClampNeg 0)) ((1 : Int32)).toNatClampNeg ((sy_ai F 25).getD (sy_i F 82).toNatClampNeg 0)) ((4 : Int32)).toNatClampNeg ((sy_ai F 24).getD (sy_i F 82).toNatClampNeg 0))) → F1 82 = .inl (.int (sy_i F 82)) → hd_W Ls xs d jm_M19 Q (64, sy_dL F1 [some (.inl (.ref 38)), some (.inl (.ref 20)), some (.inr (.inl 82))], sy_dS F1 [.inr (.inl 82), .inl (.ref 20), .inl (.ref 38), .inr (.inl 82), .inl (.ref 24)], sy_dh F1 X1 X2 (iv_H 2), 0, 0)) :
    hd_W Ls xs d jm_M19 Q (12, sy_dL F [some (.inl (.ref 38)), some (.inl (.ref 20)), some (.inr (.inl 82))], sy_dS F [], sy_dh F X1 X2 (iv_H 2), 0, 0) := by
  refine hd_run (s := 2) (nv := 83) (pc := 64) (L := [some (.inl (.ref 38)), some (.inl (.ref 20)), some (.inr (.inl 82))]) (S := [.inr (.inl 82), .inl (.ref 20), .inl (.ref 38), .inr (.inl 82), .inl (.ref 24)]) (uh := hd_ov (iv_id 0 iv_B0) [(45, .inr (.inr (.inl 88)))]) (ul := [.inl (.inr (.inl 82))]) (f := true) (sp := [64]) (d0 := 0) (O := [false]) (T := [(30, [.inr (.inl 82)], [.inr (.inl 26)]), (40, [.inl (.int 0), .inr (.inl 83)], [.inr (.inl 45)]), (30, [.inr (.inl 82)], [.inr (.inl 25)]), (40, [.inl (.int 1), .inr (.inl 85)], [.inr (.inl 84)]), (30, [.inr (.inl 82)], [.inr (.inl 24)]), (40, [.inl (.int 4), .inr (.inl 87)], [.inr (.inl 86)])]) (P := [(5, .inr (.inl 18), .inr (.inl 82)), (6, .inr (.inl 82), .inl (.ref 7)), (6, .inr (.inl 82), .inl (.ref 7)), (6, .inr (.inl 82), .inl (.ref 7))]) jm_ok19 (by decide +kernel) (by decide +kernel) hd F X1 X2 (fun F' hF hs => ?_)
  have b18 := hd_b (F := F) (F' := F') (k := 18) (hF 18 (by decide))
  have b82 := hd_b (F := F) (F' := F') (k := 82) (hF 82 (by decide))
  have a24 := hd_ba (F := F) (F' := F') (k := 24) (hF 24 (by decide))
  have t87 : sy_dv F' (.inr (.inl 87)) = .int ((sy_ai F 24).getD (sy_i F 82).toNatClampNeg 0) := hd_rd (hs 4 _ rfl) b82 a24
  have a25 := hd_ba (F := F) (F' := F') (k := 25) (hF 25 (by decide))
  have t85 : sy_dv F' (.inr (.inl 85)) = .int ((sy_ai F 25).getD (sy_i F 82).toNatClampNeg 0) := hd_rd (hs 2 _ rfl) b82 a25
  have a26 := hd_ba (F := F) (F' := F') (k := 26) (hF 26 (by decide))
  have t83 : sy_dv F' (.inr (.inl 83)) = .int ((sy_ai F 26).getD (sy_i F 82).toNatClampNeg 0) := hd_rd (hs 0 _ rfl) b82 a26
  have a45 := hd_ba (F := F) (F' := F') (k := 45) (hF 45 (by decide))
  have t84 : sy_da F' (.inr (.inl 84)) = .inl (jm_upd (sy_ai F 45) ((0 : Int32)).toNatClampNeg ((sy_ai F 26).getD (sy_i F 82).toNatClampNeg 0)) := hd_up (hs 1 _ rfl) rfl t83 a45
  have t86 : sy_da F' (.inr (.inl 86)) = .inl (jm_upd (jm_upd (sy_ai F 45) ((0 : Int32)).toNatClampNeg ((sy_ai F 26).getD (sy_i F 82).toNatClampNeg 0)) ((1 : Int32)).toNatClampNeg ((sy_ai F 25).getD (sy_i F 82).toNatClampNeg 0)) := hd_up (hs 3 _ rfl) rfl t85 t84
  have t88 : sy_da F' (.inr (.inl 88)) = .inl (jm_upd (jm_upd (jm_upd (sy_ai F 45) ((0 : Int32)).toNatClampNeg ((sy_ai F 26).getD (sy_i F 82).toNatClampNeg 0)) ((1 : Int32)).toNatClampNeg ((sy_ai F 25).getD (sy_i F 82).toNatClampNeg 0)) ((4 : Int32)).toNatClampNeg ((sy_ai F 24).getD (sy_i F 82).toNatClampNeg 0)) := hd_up (hs 5 _ rfl) rfl t87 t86
  have hB' : iv_in F' iv_B0 := iv_in_eq hB (fun j hj => hF j (Nat.lt_of_lt_of_le hj (by decide +kernel)))
  refine ⟨List.forall_mem_cons.mpr ⟨hd_p5 b18 b82 h0, List.forall_mem_cons.mpr ⟨hd_pb b82 (by first | exact h1 | exact h1), List.forall_mem_cons.mpr ⟨hd_pb b82 (by first | exact h2 | exact h2), List.forall_mem_cons.mpr ⟨hd_pb b82 (by first | exact h3 | exact h3), fun _ h => absurd h List.not_mem_nil⟩⟩⟩⟩, ?_⟩
  refine k _ ?_ ?_ ?_
  · exact fun j hj hn => (hd_keep hB' (Nat.lt_of_lt_of_le hj (by decide +kernel)) (by simp; omega)).trans (hF j (Nat.lt_of_lt_of_le hj (by decide)))
  · exact hd_ga (a := .inr (.inl 88)) (by decide +kernel) t88
  · exact hd_gi (x := .inr (.inl 82)) (by decide +kernel) b82
theorem j2sr_12 {Ls : Nat} {xs : Nat → Int32} {d : Nat} {Q : Option Value → jm_h → Prop} (hd : 1 ≤ d) (F : Nat → sy_d) (X1 X2 : List jm_c) (hB : iv_in F iv_B0)
    (a82 : 0 ≤ (sy_i F 82).toInt ∧ (sy_i F 82).toInt ≤ 7)
    (k0 : (sy_i F 18).toInt ≤ (sy_i F 82).toInt → ∀ F1 : Nat → sy_d, iv_in F1 iv_B0 → (∀ j, j < 82 → j ∉ ([] : List Nat) → F1 j = F j) → Q (none) (sy_dh F1 X1 X2 (iv_H 2)))
    (k1 : (sy_i F 82).toInt < (sy_i F 18).toInt → ∀ F1 : Nat → sy_d, iv_in F1 iv_B0 → (∀ j, j < 82 → j ∉ ([45] : List Nat) → F1 j = F j) → sy_ai F1 45 = jm_upd (jm_upd (jm_upd (sy_ai F 45) (0 : Int).toNat ((sy_ai F 26).getD ((sy_i F 82).toInt).toNat 0)) (1 : Int).toNat ((sy_ai F 25).getD ((sy_i F 82).toInt).toNat 0)) (4 : Int).toNat ((sy_ai F 24).getD ((sy_i F 82).toInt).toNat 0) → (sy_i F1 82).toInt = (sy_i F 82).toInt → sy_i F1 82 = sy_i F 82 → hd_W Ls xs d jm_M19 Q (64, sy_dL F1 [some (.inl (.ref 38)), some (.inl (.ref 20)), some (.inr (.inl 82))], sy_dS F1 [.inr (.inl 82), .inl (.ref 20), .inl (.ref 38), .inr (.inl 82), .inl (.ref 24)], sy_dh F1 X1 X2 (iv_H 2), 0, 0)) :
    hd_W Ls xs d jm_M19 Q (12, sy_dL F [some (.inl (.ref 38)), some (.inl (.ref 20)), some (.inr (.inl 82))], sy_dS F [], sy_dh F X1 X2 (iv_H 2), 0, 0) := by
  by_cases g0 : (sy_i F 18).toInt ≤ (sy_i F 82).toInt
  · have c18 := nz_bx hB (k := 18) (lo := 0) (hi := 7) rfl
    exact j2sr_12_p0 hd F X1 X2 hB (by first | exact g0 | (simp only [nz_c]; exact g0)) (fun F1 g  => k0 g0 F1 (nz_in0 hB [] (fun j hj hn => g j hj (by simp only [List.mem_cons, List.not_mem_nil, or_false, not_or] at hn; exact trivial)) (List.forall_mem_nil _)) (fun j hj hn => g j hj (by simp only [List.mem_cons, List.not_mem_nil, or_false, not_or] at hn; exact trivial)) )
  replace g0 : (sy_i F 82).toInt < (sy_i F 18).toInt := by omega
  have c18 := nz_bx hB (k := 18) (lo := 0) (hi := 7) rfl
  have w88 : jm_upd (jm_upd (jm_upd (sy_ai F 45) ((0 : Int32)).toNatClampNeg ((sy_ai F 26).getD (sy_i F 82).toNatClampNeg 0)) ((1 : Int32)).toNatClampNeg ((sy_ai F 25).getD (sy_i F 82).toNatClampNeg 0)) ((4 : Int32)).toNatClampNeg ((sy_ai F 24).getD (sy_i F 82).toNatClampNeg 0) = jm_upd (jm_upd (jm_upd (sy_ai F 45) (0 : Int).toNat ((sy_ai F 26).getD ((sy_i F 82).toInt).toNat 0)) (1 : Int).toNat ((sy_ai F 25).getD ((sy_i F 82).toInt).toNat 0)) (4 : Int).toNat ((sy_ai F 24).getD ((sy_i F 82).toInt).toNat 0) := by simp only [nz_c, (by decide : ((0 : Int32)).toInt = 0), (by decide : ((1 : Int32)).toInt = 1), (by decide : ((4 : Int32)).toInt = 4)]
  exact j2sr_12_p1 hd F X1 X2 hB (by first | exact g0 | (simp only [nz_c]; exact g0)) (by first | exact ⟨by omega, by omega⟩ | (simp only [nz_c]; exact ⟨by omega, by omega⟩)) (by first | exact ⟨by omega, by omega⟩ | (simp only [nz_c]; exact ⟨by omega, by omega⟩)) (by first | exact ⟨by omega, by omega⟩ | (simp only [nz_c]; exact ⟨by omega, by omega⟩)) (fun F1 g e45 e82 => k1 g0 F1 (nz_in0 hB [45] (fun j hj hn => g j hj (by simp only [List.mem_cons, List.not_mem_nil, or_false, not_or] at hn; omega)) (List.forall_mem_cons.mpr ⟨fun t ht => (Option.some.inj ht) ▸ (nz_hz2 e45), List.forall_mem_nil _⟩)) (fun j hj hn => g j hj (by simp only [List.mem_cons, List.not_mem_nil, or_false, not_or] at hn; omega)) ((zz_ai e45).trans w88) ((congrArg Int32.toInt (zz_i e82)).trans (rfl : (sy_i F 82).toInt = (sy_i F 82).toInt)) ((zz_i e82).trans (rfl : sy_i F 82 = sy_i F 82)))
theorem j2sr_67_p0 {Ls : Nat} {xs : Nat → Int32} {d : Nat} {Q : Option Value → jm_h → Prop} (hd : 1 ≤ d) (F : Nat → sy_d) (X1 X2 : List jm_c) (hB : iv_in F iv_B0)
    (h0 : 0 ≤ (sy_i F 82).toInt ∧ (sy_i F 82).toInt < 7)
    (k : ∀ F1 : Nat → sy_d, (∀ j, j < 82 → j ≠ 27 → F1 j = F j) → F1 27 = .inr (.inl (jm_upd (sy_ai F 27) (sy_i F 82).toNatClampNeg (sy_i F 83))) → F1 82 = .inl (.int ((sy_i F 82) + ((1 : Int32)))) → hd_W Ls xs d jm_M19 Q (12, sy_dL F1 [some (.inl (.ref 38)), some (.inl (.ref 20)), some (.inr (.inl 82))], sy_dS F1 [], sy_dh F1 X1 X2 (iv_H 2), 0, 0)) :
    hd_W Ls xs d jm_M19 Q (67, sy_dL F [some (.inl (.ref 38)), some (.inl (.ref 20)), some (.inr (.inl 82))], sy_dS F [.inr (.inl 83), .inr (.inl 82), .inl (.ref 24)], sy_dh F X1 X2 (iv_H 2), 0, 0) := by
  refine hd_run (s := 2) (nv := 84) (pc := 12) (L := [some (.inl (.ref 38)), some (.inl (.ref 20)), some (.inr (.inl 82))]) (S := []) (uh := hd_ov (iv_id 0 iv_B0) [(27, .inr (.inr (.inl 84)))]) (ul := [.inl (.inr (.inl 85))]) (f := false) (sp := [12]) (d0 := 0) (O := []) (T := [(40, [.inr (.inl 82), .inr (.inl 83)], [.inr (.inl 27)]), (0, [.inr (.inl 82), .inl (.int 1)], [])]) (P := [(6, .inr (.inl 82), .inl (.ref 7))]) jm_ok19 (by decide +kernel) (by decide +kernel) hd F X1 X2 (fun F' hF hs => ?_)
  have b82 := hd_b (F := F) (F' := F') (k := 82) (hF 82 (by decide))
  have b83 := hd_b (F := F) (F' := F') (k := 83) (hF 83 (by decide))
  have a27 := hd_ba (F := F) (F' := F') (k := 27) (hF 27 (by decide))
  have t84 : sy_da F' (.inr (.inl 84)) = .inl (jm_upd (sy_ai F 27) (sy_i F 82).toNatClampNeg (sy_i F 83)) := hd_up (hs 0 _ rfl) b82 b83 a27
  have t85 : sy_dv F' (.inr (.inl 85)) = .int ((sy_i F 82) + ((1 : Int32))) := hd_o (hs 1 _ rfl) b82 rfl rfl
  have hB' : iv_in F' iv_B0 := iv_in_eq hB (fun j hj => hF j (Nat.lt_of_lt_of_le hj (by decide +kernel)))
  refine ⟨List.forall_mem_cons.mpr ⟨hd_pb b82 (by first | exact h0 | exact h0), fun _ h => absurd h List.not_mem_nil⟩, ?_⟩
  refine k _ ?_ ?_ ?_
  · exact fun j hj hn => (hd_keep hB' (Nat.lt_of_lt_of_le hj (by decide +kernel)) (by simp; omega)).trans (hF j (Nat.lt_of_lt_of_le hj (by decide)))
  · exact hd_ga (a := .inr (.inl 84)) (by decide +kernel) t84
  · exact hd_gi (x := .inr (.inl 85)) (by decide +kernel) t85
theorem j2sr_67 {Ls : Nat} {xs : Nat → Int32} {d : Nat} {Q : Option Value → jm_h → Prop} (hd : 1 ≤ d) (F : Nat → sy_d) (X1 X2 : List jm_c) (hB : iv_in F iv_B0)
    (a82 : 0 ≤ (sy_i F 82).toInt ∧ (sy_i F 82).toInt ≤ 6)
    (k0 : ∀ F1 : Nat → sy_d, iv_in F1 iv_B0 → (∀ j, j < 82 → j ∉ ([27] : List Nat) → F1 j = F j) → sy_ai F1 27 = jm_upd (sy_ai F 27) ((sy_i F 82).toInt).toNat (sy_i F 83) → (sy_i F1 82).toInt = ((sy_i F 82).toInt + 1) → sy_i F1 82 = (sy_i F 82) + ((1 : Int32)) → hd_W Ls xs d jm_M19 Q (12, sy_dL F1 [some (.inl (.ref 38)), some (.inl (.ref 20)), some (.inr (.inl 82))], sy_dS F1 [], sy_dh F1 X1 X2 (iv_H 2), 0, 0)) :
    hd_W Ls xs d jm_M19 Q (67, sy_dL F [some (.inl (.ref 38)), some (.inl (.ref 20)), some (.inr (.inl 82))], sy_dS F [.inr (.inl 83), .inr (.inl 82), .inl (.ref 24)], sy_dh F X1 X2 (iv_H 2), 0, 0) := by
  have w84 : jm_upd (sy_ai F 27) (sy_i F 82).toNatClampNeg (sy_i F 83) = jm_upd (sy_ai F 27) ((sy_i F 82).toInt).toNat (sy_i F 83) := by simp only [nz_c]
  have n85 : nzI ((sy_i F 82) + ((1 : Int32))) (((sy_i F 82).toInt + 1)) := nz_add (rfl : (sy_i F 82).toInt = (sy_i F 82).toInt) (by decide : ((1 : Int32)).toInt = 1) (by omega) (by omega)
  exact j2sr_67_p0 hd F X1 X2 hB (by first | exact ⟨by omega, by omega⟩ | (simp only [nz_c]; exact ⟨by omega, by omega⟩)) (fun F1 g e27 e82 => k0 F1 (nz_in0 hB [27] (fun j hj hn => g j hj (by simp only [List.mem_cons, List.not_mem_nil, or_false, not_or] at hn; omega)) (List.forall_mem_cons.mpr ⟨fun t ht => (Option.some.inj ht) ▸ (nz_hz2 e27), List.forall_mem_nil _⟩)) (fun j hj hn => g j hj (by simp only [List.mem_cons, List.not_mem_nil, or_false, not_or] at hn; omega)) ((zz_ai e27).trans w84) ((congrArg Int32.toInt (zz_i e82)).trans (nzE n85)) ((zz_i e82).trans (rfl : (sy_i F 82) + ((1 : Int32)) = (sy_i F 82) + ((1 : Int32)))))
theorem j2be_0_p0 {Ls : Nat} {xs : Nat → Int32} {d : Nat} {Q : Option Value → jm_h → Prop} (hd : 1 ≤ d) (F : Nat → sy_d) (X1 X2 : List jm_c) (hB : iv_in F iv_B0)
    (k : ∀ F1 : Nat → sy_d, (∀ j, j < 82 → True → F1 j = F j) → hd_W Ls xs d jm_M117 Q (8, sy_dL F1 [some (.inl (.ref 8)), none], sy_dS F1 [.inl (.ref 20), .inl (.ref 46)], sy_dh F1 X1 X2 (iv_H 2), 0, 0)) :
    hd_W Ls xs d jm_M117 Q (0, sy_dL F [some (.inl (.ref 8)), none], sy_dS F [], sy_dh F X1 X2 (iv_H 2), 0, 0) := by
  refine hd_run (s := 2) (nv := 82) (pc := 8) (L := [some (.inl (.ref 8)), none]) (S := [.inl (.ref 20), .inl (.ref 46)]) (uh := hd_ov (iv_id 0 iv_B0) []) (ul := []) (f := true) (sp := [8]) (d0 := 0) (O := []) (T := []) (P := []) jm_ok117 (by decide +kernel) (by decide +kernel) hd F X1 X2 (fun F' hF hs => ?_)
  have hB' : iv_in F' iv_B0 := iv_in_eq hB (fun j hj => hF j (Nat.lt_of_lt_of_le hj (by decide +kernel)))
  refine ⟨fun _ h => absurd h List.not_mem_nil, ?_⟩
  refine k _ ?_
  · exact fun j hj _ => (hd_keep hB' (Nat.lt_of_lt_of_le hj (by decide +kernel)) (by simp)).trans (hF j (Nat.lt_of_lt_of_le hj (by decide)))
theorem j2be_0 {Ls : Nat} {xs : Nat → Int32} {d : Nat} {Q : Option Value → jm_h → Prop} (hd : 1 ≤ d) (F : Nat → sy_d) (X1 X2 : List jm_c) (hB : iv_in F iv_B0)
    (k0 : ∀ F1 : Nat → sy_d, iv_in F1 iv_B0 → (∀ j, j < 82 → j ∉ ([] : List Nat) → F1 j = F j) → hd_W Ls xs d jm_M117 Q (8, sy_dL F1 [some (.inl (.ref 8)), none], sy_dS F1 [.inl (.ref 20), .inl (.ref 46)], sy_dh F1 X1 X2 (iv_H 2), 0, 0)) :
    hd_W Ls xs d jm_M117 Q (0, sy_dL F [some (.inl (.ref 8)), none], sy_dS F [], sy_dh F X1 X2 (iv_H 2), 0, 0) := by
  exact j2be_0_p0 hd F X1 X2 hB  (fun F1 g  => k0 F1 (nz_in0 hB [] (fun j hj hn => g j hj (by simp only [List.mem_cons, List.not_mem_nil, or_false, not_or] at hn; exact trivial)) (List.forall_mem_nil _)) (fun j hj hn => g j hj (by simp only [List.mem_cons, List.not_mem_nil, or_false, not_or] at hn; exact trivial)) )
theorem j2be_11_p0 {Ls : Nat} {xs : Nat → Int32} {d : Nat} {Q : Option Value → jm_h → Prop} (hd : 1 ≤ d) (F : Nat → sy_d) (X1 X2 : List jm_c) (hB : iv_in F iv_B0)
    (k : ∀ F1 : Nat → sy_d, (∀ j, j < 82 → True → F1 j = F j) → hd_W Ls xs d jm_M117 Q (19, sy_dL F1 [some (.inl (.ref 8)), none], sy_dS F1 [.inl (.ref 20), .inl (.ref 38)], sy_dh F1 X1 X2 (iv_H 2), 0, 0)) :
    hd_W Ls xs d jm_M117 Q (11, sy_dL F [some (.inl (.ref 8)), none], sy_dS F [], sy_dh F X1 X2 (iv_H 2), 0, 0) := by
  refine hd_run (s := 2) (nv := 82) (pc := 19) (L := [some (.inl (.ref 8)), none]) (S := [.inl (.ref 20), .inl (.ref 38)]) (uh := hd_ov (iv_id 0 iv_B0) []) (ul := []) (f := false) (sp := [19]) (d0 := 0) (O := []) (T := []) (P := []) jm_ok117 (by decide +kernel) (by decide +kernel) hd F X1 X2 (fun F' hF hs => ?_)
  have hB' : iv_in F' iv_B0 := iv_in_eq hB (fun j hj => hF j (Nat.lt_of_lt_of_le hj (by decide +kernel)))
  refine ⟨fun _ h => absurd h List.not_mem_nil, ?_⟩
  refine k _ ?_
  · exact fun j hj _ => (hd_keep hB' (Nat.lt_of_lt_of_le hj (by decide +kernel)) (by simp)).trans (hF j (Nat.lt_of_lt_of_le hj (by decide)))
theorem j2be_11 {Ls : Nat} {xs : Nat → Int32} {d : Nat} {Q : Option Value → jm_h → Prop} (hd : 1 ≤ d) (F : Nat → sy_d) (X1 X2 : List jm_c) (hB : iv_in F iv_B0)
    (k0 : ∀ F1 : Nat → sy_d, iv_in F1 iv_B0 → (∀ j, j < 82 → j ∉ ([] : List Nat) → F1 j = F j) → hd_W Ls xs d jm_M117 Q (19, sy_dL F1 [some (.inl (.ref 8)), none], sy_dS F1 [.inl (.ref 20), .inl (.ref 38)], sy_dh F1 X1 X2 (iv_H 2), 0, 0)) :
    hd_W Ls xs d jm_M117 Q (11, sy_dL F [some (.inl (.ref 8)), none], sy_dS F [], sy_dh F X1 X2 (iv_H 2), 0, 0) := by
  exact j2be_11_p0 hd F X1 X2 hB  (fun F1 g  => k0 F1 (nz_in0 hB [] (fun j hj hn => g j hj (by simp only [List.mem_cons, List.not_mem_nil, or_false, not_or] at hn; exact trivial)) (List.forall_mem_nil _)) (fun j hj hn => g j hj (by simp only [List.mem_cons, List.not_mem_nil, or_false, not_or] at hn; exact trivial)) )
theorem j2be_22_p0 {Ls : Nat} {xs : Nat → Int32} {d : Nat} {Q : Option Value → jm_h → Prop} (hd : 2 ≤ d) (F : Nat → sy_d) (X1 X2 : List jm_c) (hB : iv_in F iv_B0)
    (k : ∀ F1 : Nat → sy_d, (∀ j, j < 82 → j ≠ 74 ∧ j ≠ 75 → F1 j = F j) → F1 74 = .inl (.int ((0 : Int32))) → F1 75 = .inl (.int ((0 : Int32))) → hd_W Ls xs d jm_M117 Q (34, sy_dL F1 [some (.inl (.ref 8)), none], sy_dS F1 [.inl (.int 0), .inl (.ref 68)], sy_dh F1 X1 X2 (iv_H 2), 0, 0)) :
    hd_W Ls xs d jm_M117 Q (22, sy_dL F [some (.inl (.ref 8)), none], sy_dS F [], sy_dh F X1 X2 (iv_H 2), 0, 0) := by
  refine hd_run (s := 2) (nv := 82) (pc := 34) (L := [some (.inl (.ref 8)), none]) (S := [.inl (.int 0), .inl (.ref 68)]) (uh := hd_ov (iv_id 0 iv_B0) [(74, .inl (.inl (.int 0))), (75, .inl (.inl (.int 0)))]) (ul := []) (f := false) (sp := [34]) (d0 := 1) (O := []) (T := []) (P := []) jm_ok117 (by decide +kernel) (by decide +kernel) hd F X1 X2 (fun F' hF hs => ?_)
  have hB' : iv_in F' iv_B0 := iv_in_eq hB (fun j hj => hF j (Nat.lt_of_lt_of_le hj (by decide +kernel)))
  refine ⟨fun _ h => absurd h List.not_mem_nil, ?_⟩
  refine k _ ?_ ?_ ?_
  · exact fun j hj hn => (hd_keep hB' (Nat.lt_of_lt_of_le hj (by decide +kernel)) (by simp; omega)).trans (hF j (Nat.lt_of_lt_of_le hj (by decide)))
  · exact hd_gi (x := .inl (.int 0)) (by decide +kernel) rfl
  · exact hd_gi (x := .inl (.int 0)) (by decide +kernel) rfl
theorem j2be_22 {Ls : Nat} {xs : Nat → Int32} {d : Nat} {Q : Option Value → jm_h → Prop} (hd : 2 ≤ d) (F : Nat → sy_d) (X1 X2 : List jm_c) (hB : iv_in F iv_B0)
    (k0 : ∀ F1 : Nat → sy_d, iv_in F1 iv_B0 → (∀ j, j < 82 → j ∉ ([74, 75] : List Nat) → F1 j = F j) → (sy_i F1 74).toInt = 0 → sy_i F1 74 = (0 : Int32) → (sy_i F1 75).toInt = 0 → sy_i F1 75 = (0 : Int32) → hd_W Ls xs d jm_M117 Q (34, sy_dL F1 [some (.inl (.ref 8)), none], sy_dS F1 [.inl (.int 0), .inl (.ref 68)], sy_dh F1 X1 X2 (iv_H 2), 0, 0)) :
    hd_W Ls xs d jm_M117 Q (22, sy_dL F [some (.inl (.ref 8)), none], sy_dS F [], sy_dh F X1 X2 (iv_H 2), 0, 0) := by
  exact j2be_22_p0 hd F X1 X2 hB  (fun F1 g e74 e75 => k0 F1 (nz_in0 hB [74, 75] (fun j hj hn => g j hj (by simp only [List.mem_cons, List.not_mem_nil, or_false, not_or] at hn; omega)) (List.forall_mem_cons.mpr ⟨fun t ht => (Option.some.inj ht) ▸ (nz_hi e74 (by decide : ((0 : Int32)).toInt = 0) (by omega) (by omega)), List.forall_mem_cons.mpr ⟨fun t ht => (Option.some.inj ht) ▸ (nz_hi e75 (by decide : ((0 : Int32)).toInt = 0) (by omega) (by omega)), List.forall_mem_nil _⟩⟩)) (fun j hj hn => g j hj (by simp only [List.mem_cons, List.not_mem_nil, or_false, not_or] at hn; omega)) ((congrArg Int32.toInt (zz_i e74)).trans (by decide : ((0 : Int32)).toInt = 0)) ((zz_i e74).trans (rfl : (0 : Int32) = (0 : Int32))) ((congrArg Int32.toInt (zz_i e75)).trans (by decide : ((0 : Int32)).toInt = 0)) ((zz_i e75).trans (rfl : (0 : Int32) = (0 : Int32))))
theorem j2be_37_p0 {Ls : Nat} {xs : Nat → Int32} {d : Nat} {Q : Option Value → jm_h → Prop} (hd : 1 ≤ d) (F : Nat → sy_d) (X1 X2 : List jm_c) (hB : iv_in F iv_B0)
    (k : ∀ F1 : Nat → sy_d, (∀ j, j < 82 → j ≠ 78 ∧ j ≠ 79 → F1 j = F j) → F1 78 = .inr (.inl (jm_upd (jm_upd (jm_upd (sy_ai F 78) ((0 : Int32)).toNatClampNeg ((0 : Int32))) ((1 : Int32)).toNatClampNeg ((0 : Int32))) ((2 : Int32)).toNatClampNeg ((0 : Int32)))) → F1 79 = .inl (.int ((0 : Int32))) → Q (none) (sy_dh F1 X1 X2 (iv_H 2))) :
    hd_W Ls xs d jm_M117 Q (37, sy_dL F [some (.inl (.ref 8)), none], sy_dS F [], sy_dh F X1 X2 (iv_H 2), 0, 0) := by
  refine hd_ret (s := 2) (nv := 82) (v := none) (uh := hd_ov (iv_id 0 iv_B0) [(78, .inr (.inr (.inl 84))), (79, .inl (.inl (.int 0)))]) (f := false) (sp := []) (d0 := 0) (O := []) (T := [(40, [.inl (.int 0), .inl (.int 0)], [.inr (.inl 78)]), (40, [.inl (.int 1), .inl (.int 0)], [.inr (.inl 82)]), (40, [.inl (.int 2), .inl (.int 0)], [.inr (.inl 83)])]) (P := []) jm_ok117 (by decide +kernel) (by decide +kernel) hd F X1 X2 (fun F' hF hs => ?_)
  have a78 := hd_ba (F := F) (F' := F') (k := 78) (hF 78 (by decide))
  have t82 : sy_da F' (.inr (.inl 82)) = .inl (jm_upd (sy_ai F 78) ((0 : Int32)).toNatClampNeg ((0 : Int32))) := hd_up (hs 0 _ rfl) rfl rfl a78
  have t83 : sy_da F' (.inr (.inl 83)) = .inl (jm_upd (jm_upd (sy_ai F 78) ((0 : Int32)).toNatClampNeg ((0 : Int32))) ((1 : Int32)).toNatClampNeg ((0 : Int32))) := hd_up (hs 1 _ rfl) rfl rfl t82
  have t84 : sy_da F' (.inr (.inl 84)) = .inl (jm_upd (jm_upd (jm_upd (sy_ai F 78) ((0 : Int32)).toNatClampNeg ((0 : Int32))) ((1 : Int32)).toNatClampNeg ((0 : Int32))) ((2 : Int32)).toNatClampNeg ((0 : Int32))) := hd_up (hs 2 _ rfl) rfl rfl t83
  have hB' : iv_in F' iv_B0 := iv_in_eq hB (fun j hj => hF j (Nat.lt_of_lt_of_le hj (by decide +kernel)))
  refine ⟨fun _ h => absurd h List.not_mem_nil, ?_⟩
  refine k _ ?_ ?_ ?_
  · exact fun j hj hn => (hd_keep hB' (Nat.lt_of_lt_of_le hj (by decide +kernel)) (by simp; omega)).trans (hF j (Nat.lt_of_lt_of_le hj (by decide)))
  · exact hd_ga (a := .inr (.inl 84)) (by decide +kernel) t84
  · exact hd_gi (x := .inl (.int 0)) (by decide +kernel) rfl
theorem j2be_37 {Ls : Nat} {xs : Nat → Int32} {d : Nat} {Q : Option Value → jm_h → Prop} (hd : 1 ≤ d) (F : Nat → sy_d) (X1 X2 : List jm_c) (hB : iv_in F iv_B0)
    (k0 : ∀ F1 : Nat → sy_d, iv_in F1 iv_B0 → (∀ j, j < 82 → j ∉ ([78, 79] : List Nat) → F1 j = F j) → sy_ai F1 78 = jm_upd (jm_upd (jm_upd (sy_ai F 78) (0 : Int).toNat ((0 : Int32))) (1 : Int).toNat ((0 : Int32))) (2 : Int).toNat ((0 : Int32)) → (sy_i F1 79).toInt = 0 → sy_i F1 79 = (0 : Int32) → Q (none) (sy_dh F1 X1 X2 (iv_H 2))) :
    hd_W Ls xs d jm_M117 Q (37, sy_dL F [some (.inl (.ref 8)), none], sy_dS F [], sy_dh F X1 X2 (iv_H 2), 0, 0) := by
  have w84 : jm_upd (jm_upd (jm_upd (sy_ai F 78) ((0 : Int32)).toNatClampNeg ((0 : Int32))) ((1 : Int32)).toNatClampNeg ((0 : Int32))) ((2 : Int32)).toNatClampNeg ((0 : Int32)) = jm_upd (jm_upd (jm_upd (sy_ai F 78) (0 : Int).toNat ((0 : Int32))) (1 : Int).toNat ((0 : Int32))) (2 : Int).toNat ((0 : Int32)) := by simp only [nz_c, (by decide : ((0 : Int32)).toInt = 0), (by decide : ((1 : Int32)).toInt = 1), (by decide : ((2 : Int32)).toInt = 2)]
  exact j2be_37_p0 hd F X1 X2 hB  (fun F1 g e78 e79 => k0 F1 (nz_in0 hB [78, 79] (fun j hj hn => g j hj (by simp only [List.mem_cons, List.not_mem_nil, or_false, not_or] at hn; omega)) (List.forall_mem_cons.mpr ⟨fun t ht => (Option.some.inj ht) ▸ (nz_hA e78 (nz_up (nz_up (nz_up (nz_ba hB (k := 78) (lo := 0) (hi := 1) rfl) (by decide : ((0 : Int32)).toInt = 0) (by omega) (by omega)) (by decide : ((0 : Int32)).toInt = 0) (by omega) (by omega)) (by decide : ((0 : Int32)).toInt = 0) (by omega) (by omega))), List.forall_mem_cons.mpr ⟨fun t ht => (Option.some.inj ht) ▸ (nz_hi e79 (by decide : ((0 : Int32)).toInt = 0) (by omega) (by omega)), List.forall_mem_nil _⟩⟩)) (fun j hj hn => g j hj (by simp only [List.mem_cons, List.not_mem_nil, or_false, not_or] at hn; omega)) ((zz_ai e78).trans w84) ((congrArg Int32.toInt (zz_i e79)).trans (by decide : ((0 : Int32)).toInt = 0)) ((zz_i e79).trans (rfl : (0 : Int32) = (0 : Int32))))
end
section
/-! ===== the class begins a text (shape 2) ===== -/
section BG2
variable {Ls : Nat} {xs : Nat → Int32} {T : tX} (F : Nat → sy_d) (X1 X2 : List jm_c)
theorem j2gb_V (hC : xC 18 T F) : jm_T Ls xs 2 jm_M7 [.ref 46, .ref 20] (sy_dh F X1 X2 (iv_H 2)) 0 0 (pV 2 X1 X2 (fun F' => qC [50, 51, 52, 53, 54, 55, 56, 57, 58, 59, 60, 61] F F' ∧ gC 50 (nfS T) (nbS T) F' (begS T))) := by
  have l7 : nfS T ≤ 7 := hC.2.2.1.1.1
  have l4 : nbS T ≤ 4 := hC.2.2.1.1.2.1
  refine hd_T (As := [.inl (.ref 46), .inl (.ref 20)]) jm_ok7 (by decide) (j2gb_0 (by decide) F X1 X2 hC.1 ?_)
  intro F1 hb gg e50 i50 e51 i51 e52 i52 a53 a54 a55 a56 a57 a58 a59 a60 a61
  refine ⟨F1, rfl, rfl, qq_mk hb gg (by decide), ⟨nine9 (p := fun a => ∀ i, a ≤ 8 → vlS (nfS T) (nbS T) a i → (sy_ai F1 (50 + ca a)).getD i 0 = begS T a i) ?_ ?_ ?_ ?_ ?_ ?_ ?_ ?_ ?_ |> fun h a i ha hv => h a ha i ha hv, fun i hi => ?_⟩⟩
  · intro i _ hv
    obtain ⟨h1, h2⟩ := vF7 l7 (by decide) hv
    show (sy_ai F1 59).getD i 0 = _
    rw [a59]
    exact cpy_at.trans ((if_pos h1).trans (xX_f hC h2).1)
  · intro i _ hv
    obtain ⟨h1, h2⟩ := vF7 l7 (by decide) hv
    show (sy_ai F1 53).getD i 0 = _
    rw [a53]
    exact cpy_at.trans ((if_pos h1).trans (xX_f hC h2).2.2)
  · intro i _ hv
    show (sy_ai F1 54).getD i 0 = _
    rw [a54]
    exact fil7 (vF7 l7 (by decide) hv).1
  · intro i _ hv
    show (sy_ai F1 55).getD i 0 = _
    rw [a55]
    exact fil7 (vF7 l7 (by decide) hv).1
  · intro i _ hv
    show (sy_ai F1 56).getD i 0 = _
    rw [a56]
    exact fil7 (vF7 l7 (by decide) hv).1
  · intro i _ hv
    show (sy_ai F1 57).getD i 0 = _
    rw [a57]
    exact fil7 (vF7 l7 (by decide) hv).1
  · intro i _ hv
    show (sy_ai F1 58).getD i 0 = _
    rw [a58]
    exact fil7 (vF7 l7 (by decide) hv).1
  · intro i _ hv
    obtain ⟨h1, h2⟩ := vB4 l4 (by decide) hv
    show (sy_ai F1 60).getD i 0 = _
    rw [a60]
    exact cpy_at.trans ((if_pos h1).trans (xX_b hC h2).1)
  · intro i _ hv
    obtain ⟨h1, h2⟩ := vB4 l4 (by decide) hv
    show (sy_ai F1 61).getD i 0 = _
    rw [a61]
    exact cpy_at.trans ((if_pos h1).trans (xX_b hC h2).2.2)
  · match i, hi with
    | 0, _ => exact i50
    | 1, _ => exact i51
    | 2, _ => exact i52
theorem j2sr_L (hC : xC 18 T F) : ∀ (m : Nat) (F1 : Nat → sy_d) (n : Nat), n + m = nfS T → qC [45, 46, 27] F F1 → (sy_i F1 82).toInt = n → v45 F1 2 = 0 → v45 F1 8 = Int32.ofInt (nfS T) → (∀ f, f < n → (sy_ai F1 27).getD f 0 = rsS T f) →
    hd_W Ls xs 6 jm_M19 (pV 2 X1 X2 (fun F' => qC [45, 46, 27] F F' ∧ rstC 18 T F')) (12, sy_dL F1 [some (.inl (.ref 38)), some (.inl (.ref 20)), some (.inr (.inl 82))], sy_dS F1 [], sy_dh F1 X1 X2 (iv_H 2), 0, 0) := by
  have l7 : nfS T ≤ 7 := hC.2.2.1.1.1
  have enf : (sy_i F 18).toInt = (nfS T : Int) := hC.2.1.1.1
  intro m
  induction m with
  | zero =>
    intro F1 n hm hq e82 v2 v8 hr
    have en1 : (sy_i F1 18).toInt = (nfS T : Int) := by rw [qq_i hq (by decide) (by decide)]; exact enf
    refine j2sr_12 (by decide) F1 X1 X2 hq.1 (by omega) ?_ ?_
    · intro c0 F2 hb gg
      refine ⟨F2, rfl, rfl, qq_on hq hb gg (by decide), fun f hf => ?_⟩
      show (sy_ai F2 27).getD f 0 = _
      rw [nz_fa (gg 27 (by decide) (by decide))]
      exact hr f (by omega)
    · intros
      omega
  | succ m ih =>
    intro F1 n hm hq e82 v2 v8 hr
    have hn : n < nfS T := by omega
    have enn : (sy_i F1 82).toInt.toNat = n := by omega
    have en1 : (sy_i F1 18).toInt = (nfS T : Int) := by rw [qq_i hq (by decide) (by decide)]; exact enf
    refine j2sr_12 (by decide) F1 X1 X2 hq.1 (by omega) ?_ ?_
    · intros
      omega
    · intro c0 F2 hb gg a45 e82' j82
      rw [enn] at a45
      have q2 : qC [45, 46, 27] F F2 := qq_on hq hb gg (by decide)
      have c1 := xC_q (by decide) hC hq (by decide)
      have c2 := xC_q (by decide) hC q2 (by decide)
      obtain ⟨x1, x2, x3⟩ := xX_f c1 hn
      rw [show (sy_ai F1 24).getD n 0 = _ from x1, show (sy_ai F1 25).getD n 0 = _ from x2, show (sy_ai F1 26).getD n 0 = _ from x3] at a45
      have key : ∀ j : Nat, v45 F2 j = if j = (4 : Int).toNat then Int32.ofInt (tF T n).1 else if j = (1 : Int).toNat then Int32.ofInt (tF T n).2.1 else if j = (0 : Int).toNat then Int32.ofInt (tF T n).2.2 else v45 F1 j := fun j => by
        show (sy_ai F2 45).getD j 0 = _
        rw [a45, jm_upd_at, jm_upd_at, jm_upd_at]
        rfl
      have hbn : lwT T 4 (v45 F2) = bncT T n (Int32.ofInt (tF T n).2.2) 0 (Int32.ofInt (nfS T)) := lwT_cg hC.2.2.1 (nine9 (fun _ => (key 0).trans rfl) (fun _ => (key 1).trans rfl) (fun _ => (key 2).trans v2) (fun t => absurd t (by decide)) (fun _ => (key 4).trans rfl) (fun t => absurd t (by decide)) (fun t => absurd t (by decide)) (fun t => absurd t (by decide)) (fun _ => (key 8).trans v8))
      have en2 : (sy_i F2 82).toInt.toNat = n := by omega
      refine hd_calI (R := fun x F' => qC [46] F2 F' ∧ x = Int32.ofInt (hdz 0 9 (Int32.ofInt (tF T (sy_i F2 82).toInt.toNat).1 + Int32.ofInt (lwT T 4 (v45 F2))).toInt)) (nh := 82) (nv := 83) (s := 2) (s1 := 2) (d1 := 5) (M1 := jm_M20) (As := [.inl (.ref 38), .inl (.ref 20), .inr (.inl 82)]) (rest := [.inr (.inl 82), .inl (.ref 24)]) jm_ok19 rfl rfl (by decide) (by decide +kernel) (j2bo_V F2 X1 X2 c2 (by omega)) (fun F3 F' x hR p1 p2 p3 => ?_)
      obtain ⟨r1, r2⟩ := hR
      rw [en2, hbn] at r2
      have r1' : qC [46] F2 F3 := qC_dst r1 p1
      have q3 : qC [45, 46, 27] F F3 := qq_trans q2 (qq_up r1' (by decide))
      have k82 : (sy_i F3 82).toInt = n := by rw [nz_fi (p2 82 (by decide) (by decide))]; omega
      have ev : v45 F3 = v45 F2 := by unfold v45; rw [qq_a r1' (by decide) (by decide)]
      refine j2sr_67 (by decide) F3 X1 X2 q3.1 (by omega) ?_
      intro F4 hb4 g4 a12 e82a j82a
      have ev4 : v45 F4 = v45 F2 := by rw [← ev]; unfold v45; rw [nz_fa (g4 45 (by decide) (by decide))]
      refine ih F4 (n + 1) (by omega) (qq_on q3 hb4 g4 (by decide)) (by omega) (by rw [ev4]; exact (key 2).trans v2) (by rw [ev4]; exact (key 8).trans v8) (fun f hf => ?_)
      rw [a12, jm_upd_at, show (sy_i F3 82).toInt.toNat = n by omega]
      by_cases z : f = n
      · rw [if_pos z, zz_i p3, r2, z]
        rfl
      · rw [if_neg z, qq_a r1' (by decide) (by decide), nz_fa (gg 27 (by decide) (by decide))]
        exact hr f (by omega)
theorem j2sr_V (hC : xC 18 T F) : jm_T Ls xs 6 jm_M19 [.ref 38, .ref 20] (sy_dh F X1 X2 (iv_H 2)) 0 0 (pV 2 X1 X2 (fun F' => qC [45, 46, 27] F F' ∧ rstC 18 T F')) := by
  have enf : (sy_i F 18).toInt = (nfS T : Int) := hC.2.1.1.1
  refine C_T (by decide) [] [.inl (.ref 38), .inl (.ref 20)] jm_ok19 (by decide) rfl (fun F0 k0 ki => ?_)
  refine j2sr_0 (by decide) F0 X1 X2 (hd_iveq0 hC.1 k0) ?_
  intro F1 hb gg e82 j82
  have q1 : qC [] F F1 := qq_src (qq_mk hb gg (by decide)) k0
  have i82 : sy_i F1 82 = Int32.ofInt (nfS T) := by rw [j82, eI (k0 18 (by decide))]; exact (ofi enf).symm
  refine hd_calV (R := fun F' => qC [45, 46] F1 F' ∧ v45 F' 2 = 0 ∧ v45 F' 8 = sy_i F1 82 ∧ v45 F' 3 = Int32.ofInt (windT T 0 (sy_i F1 82))) (nh := 82) (nv := 82) (s := 2) (s1 := 2) (d1 := 5) (M1 := jm_M17) (As := [.inl (.ref 38), .inl (.ref 20), .inl (.int 0), .inr (.inl 82)]) (rest := []) jm_ok19 rfl rfl (by decide) (by decide +kernel) (j2sh_V F1 X1 X2 (xC_q (by decide) hC q1 (by decide)) _ _) (fun F3 F' hR p1 p2 => ?_)
  obtain ⟨s1, s2, s3, -⟩ := hR
  rw [i82] at s3
  have q3 : qC [45, 46, 27] F F3 := qq_trans (qq_up q1 (by decide)) (qq_up (qC_dst s1 p1) (by decide))
  have ev3 : v45 F3 = v45 F' := by unfold v45; rw [nz_fa (p1 45 (by decide))]
  refine j2sr_10 (by decide) F3 X1 X2 q3.1 ?_
  intro F4 hb4 g4 e82a j82a
  have ev4 : v45 F4 = v45 F' := by rw [← ev3]; unfold v45; rw [nz_fa (g4 45 (by decide) (by decide))]
  exact j2sr_L F X1 X2 hC (nfS T) F4 0 (by omega) (qq_on q3 hb4 g4 (by decide)) e82a (by rw [ev4]; exact s2) (by rw [ev4]; exact s3) (fun f hf => absurd hf (by omega))
abbrev jw2_BE : List Nat := [45, 46, 27, 50, 51, 52, 53, 54, 55, 56, 57, 58, 59, 60, 61, 74, 75, 77, 78, 79]
theorem j2be_V (hC : xC 18 T F) (hJ : jx_ok F) : jm_T Ls xs 8 jm_M117 [.ref 8] (sy_dh F X1 X2 (iv_H 2)) 0 0 (pV 2 X1 X2 (fun F' => qC jw2_BE F F' ∧ gC 50 (nfS T) (nbS T) F' (begS T) ∧ rstC 18 T F' ∧ (sy_i F' 75).toInt = 0 ∧ (sy_i F' 74).toInt = 0 ∧ (sy_i F' 79).toInt = 0 ∧ ∀ j, j < 3 → (sy_ai F' 78).getD j 0 = 0)) := by
  refine hd_T (As := [.inl (.ref 8)]) jm_ok117 (by decide) (j2be_0 (by decide) F X1 X2 hC.1 ?_)
  intro F1 hb gg
  have q1 : qC [] F F1 := qq_mk hb gg (by decide)
  refine hd_calV (R := fun F' => qC [50, 51, 52, 53, 54, 55, 56, 57, 58, 59, 60, 61] F1 F' ∧ gC 50 (nfS T) (nbS T) F' (begS T)) (nh := 82) (nv := 82) (s := 2) (s1 := 2) (d1 := 2) (M1 := jm_M7) (As := [.inl (.ref 46), .inl (.ref 20)]) (rest := []) jm_ok117 rfl rfl (by decide) (by decide +kernel) (j2gb_V F1 X1 X2 (xC_q (by decide) hC q1 (by decide))) (fun F3 F' hR p1 p2 => ?_)
  obtain ⟨r1, r2⟩ := hR
  have q3 : qC jw2_BE F F3 := qq_trans (qq_up q1 (by decide)) (qq_up (qC_dst r1 p1) (by decide))
  have g3 : gC 50 (nfS T) (nbS T) F3 (begS T) := gC_eq r2 (fun j h1 h2 => p1 j (by omega))
  refine j2be_11 (by decide) F3 X1 X2 q3.1 ?_
  intro F4 hb4 g4
  have q4' : qC jw2_BE F F4 := qq_on q3 hb4 g4 (by decide)
  refine hd_calV (R := fun F' => qC [45, 46, 27] F4 F' ∧ rstC 18 T F') (nh := 82) (nv := 82) (s := 2) (s1 := 2) (d1 := 6) (M1 := jm_M19) (As := [.inl (.ref 38), .inl (.ref 20)]) (rest := []) jm_ok117 rfl rfl (by decide) (by decide +kernel) (j2sr_V F4 X1 X2 (xC_q (by decide) hC q4' (by decide))) (fun F5 F6 hR2 u1 u2 => ?_)
  obtain ⟨s1, s2⟩ := hR2
  have s1' : qC [45, 46, 27] F4 F5 := qC_dst s1 u1
  have q5 : qC jw2_BE F F5 := qq_trans q4' (qq_up s1' (by decide))
  have g5 : gC 50 (nfS T) (nbS T) F5 (begS T) := gC_eq g3 (fun j h1 h2 => (s1'.2 j (by omega) (by intro z; simp at z; omega)).trans (g4 j (by omega) (by simp)))
  refine j2be_22 (by decide) F5 X1 X2 q5.1 ?_
  intro F7 hb7 g7 e74 i74 e75 i75
  have q7 : qC jw2_BE F F7 := qq_on q5 hb7 g7 (by decide)
  have j7 : jx_ok F7 := jx_ok_eq (q7.2 39 (by decide) (by decide)) (q7.2 41 (by decide) (by decide)) hJ
  refine hd_calV (R := fun F' => iv_in F' iv_B0 ∧ (∀ j, j < 82 → ([77] : List Nat).contains j = false → F' j = F7 j) ∧ jx_ok F') (nh := 82) (nv := 82) (s := 2) (s1 := 2) (d1 := 1) (M1 := jm_M254) (As := [.inl (.ref 68), .inl (.int 0)]) (rest := []) jm_ok117 rfl rfl (by decide) (by decide +kernel) (jm_T_mono (oct_c (n := 254) (A := [.inl (.ref 68), .inr (.inl 82)]) (E := iv_B0 ++ [(0, 0, 0)]) ok_2_254_68 rfl (by decide) F7 (fun _ => .inl (.int 0)) X1 X2 rfl (iv_app rfl (iv_in_eq q7.1 (fun j hj => ny_lt j hj)) ⟨⟨rfl, by decide, by decide⟩, trivial⟩) j7) (fun v G h => by obtain ⟨F', h1, h2, h3, h4, h5⟩ := h; exact ⟨F', h1, h2, h3, h4, h5⟩)) (fun F8 F9 hR3 w1 w2 => ?_)
  obtain ⟨v1, v2, v3⟩ := hR3
  have q8' : qC [77] F7 F8 := qC_dst ⟨v1, fun j hj hn => v2 j hj (by simpa using hn)⟩ w1
  have q8 : qC jw2_BE F F8 := qq_trans q7 (qq_up q8' (by decide))
  refine j2be_37 (by decide) F8 X1 X2 q8.1 ?_
  intro F10 hb10 g10 a78 e79 i79
  have f10 : ∀ j, j < 82 → j ∉ ([77, 78, 79] : List Nat) → F10 j = F7 j := fun j hj hn => (g10 j hj (by intro z; apply hn; simp at z ⊢; omega)).trans (q8'.2 j hj (by intro z; apply hn; simp at z ⊢; omega))
  refine ⟨F10, rfl, rfl, qq_on q8 hb10 g10 (by decide), gC_eq g5 (fun j h1 h2 => (f10 j (by omega) (by intro z; simp at z; omega)).trans (g7 j (by omega) (by intro z; simp at z; omega))), fun f hf => ?_, ?_, ?_, e79, fun j hj => ?_⟩
  · show (sy_ai F10 27).getD f 0 = _
    rw [nz_fa (f10 27 (by decide) (by decide)), nz_fa (g7 27 (by decide) (by decide)), nz_fa (u1 27 (by decide))]
    exact s2 f hf
  · rw [nz_fi (f10 75 (by decide) (by decide))]
    exact e75
  · rw [nz_fi (f10 74 (by decide) (by decide))]
    exact e74
  · rw [a78, jm_upd_at, jm_upd_at, jm_upd_at]
    match j, hj with
    | 0, _ => rfl
    | 1, _ => rfl
    | 2, _ => rfl
end BG2
end
section
/-! ===== the class: a law worked out, way by way (shape 3) ===== -/
theorem j3wo_0_p0 {Ls : Nat} {xs : Nat → Int32} {d : Nat} {Q : Option Value → jm_h → Prop} (hd : 1 ≤ d) (F : Nat → sy_d) (X1 X2 : List jm_c) (hB : iv_in F iv_B0)
    (k : ∀ F1 : Nat → sy_d, (∀ j, j < 82 → True → F1 j = F j) → F1 82 = .inl (.int (sy_i F 82)) → F1 83 = .inl (.int ((0 : Int32))) → F1 84 = .inl (.int ((0 : Int32))) → hd_W Ls xs d jm_M22 Q (8, sy_dL F1 [some (.inl (.ref 38)), some (.inl (.ref 20)), none, some (.inr (.inl 82)), some (.inr (.inl 83)), some (.inr (.inl 84)), none], sy_dS F1 [], sy_dh F1 X1 X2 (iv_H 3), 0, 0)) :
    hd_W Ls xs d jm_M22 Q (0, sy_dL F [some (.inl (.ref 38)), some (.inl (.ref 20)), some (.inr (.inl 82)), none, none, none, none], sy_dS F [], sy_dh F X1 X2 (iv_H 3), 0, 0) := by
  refine hd_run (s := 3) (nv := 83) (pc := 8) (L := [some (.inl (.ref 38)), some (.inl (.ref 20)), none, some (.inr (.inl 82)), some (.inr (.inl 83)), some (.inr (.inl 84)), none]) (S := []) (uh := hd_ov (iv_id 0 iv_B0) []) (ul := [.inl (.inr (.inl 82)), .inl (.inl (.int 0)), .inl (.inl (.int 0))]) (f := true) (sp := [8]) (d0 := 0) (O := []) (T := []) (P := []) jm_ok22 (by decide +kernel) (by decide +kernel) hd F X1 X2 (fun F' hF hs => ?_)
  have b82 := hd_b (F := F) (F' := F') (k := 82) (hF 82 (by decide))
  have hB' : iv_in F' iv_B0 := iv_in_eq hB (fun j hj => hF j (Nat.lt_of_lt_of_le hj (by decide +kernel)))
  refine ⟨fun _ h => absurd h List.not_mem_nil, ?_⟩
  refine k _ ?_ ?_ ?_ ?_
  · exact fun j hj _ => (hd_keep hB' (Nat.lt_of_lt_of_le hj (by decide +kernel)) (by simp)).trans (hF j (Nat.lt_of_lt_of_le hj (by decide)))
  · exact hd_gi (x := .inr (.inl 82)) (by decide +kernel) b82
  · exact hd_gi (x := .inl (.int 0)) (by decide +kernel) rfl
  · exact hd_gi (x := .inl (.int 0)) (by decide +kernel) rfl
theorem j3wo_0 {Ls : Nat} {xs : Nat → Int32} {d : Nat} {Q : Option Value → jm_h → Prop} (hd : 1 ≤ d) (F : Nat → sy_d) (X1 X2 : List jm_c) (hB : iv_in F iv_B0)
    (k0 : ∀ F1 : Nat → sy_d, iv_in F1 iv_B0 → (∀ j, j < 82 → j ∉ ([] : List Nat) → F1 j = F j) → (sy_i F1 82).toInt = (sy_i F 82).toInt → sy_i F1 82 = sy_i F 82 → (sy_i F1 83).toInt = 0 → sy_i F1 83 = (0 : Int32) → (sy_i F1 84).toInt = 0 → sy_i F1 84 = (0 : Int32) → hd_W Ls xs d jm_M22 Q (8, sy_dL F1 [some (.inl (.ref 38)), some (.inl (.ref 20)), none, some (.inr (.inl 82)), some (.inr (.inl 83)), some (.inr (.inl 84)), none], sy_dS F1 [], sy_dh F1 X1 X2 (iv_H 3), 0, 0)) :
    hd_W Ls xs d jm_M22 Q (0, sy_dL F [some (.inl (.ref 38)), some (.inl (.ref 20)), some (.inr (.inl 82)), none, none, none, none], sy_dS F [], sy_dh F X1 X2 (iv_H 3), 0, 0) := by
  exact j3wo_0_p0 hd F X1 X2 hB  (fun F1 g e82 e83 e84 => k0 F1 (nz_in0 hB [] (fun j hj hn => g j hj (by simp only [List.mem_cons, List.not_mem_nil, or_false, not_or] at hn; exact trivial)) (List.forall_mem_nil _)) (fun j hj hn => g j hj (by simp only [List.mem_cons, List.not_mem_nil, or_false, not_or] at hn; exact trivial)) ((congrArg Int32.toInt (zz_i e82)).trans (rfl : (sy_i F 82).toInt = (sy_i F 82).toInt)) ((zz_i e82).trans (rfl : sy_i F 82 = sy_i F 82)) ((congrArg Int32.toInt (zz_i e83)).trans (by decide : ((0 : Int32)).toInt = 0)) ((zz_i e83).trans (rfl : (0 : Int32) = (0 : Int32))) ((congrArg Int32.toInt (zz_i e84)).trans (by decide : ((0 : Int32)).toInt = 0)) ((zz_i e84).trans (rfl : (0 : Int32) = (0 : Int32))))
theorem j3wo_8_p0 {Ls : Nat} {xs : Nat → Int32} {d : Nat} {Q : Option Value → jm_h → Prop} (hd : 2 ≤ d) (F : Nat → sy_d) (X1 X2 : List jm_c) (hB : iv_in F iv_B0)
    (h0 : 512 ≤ (sy_i F 84).toInt)
    (k : ∀ F1 : Nat → sy_d, (∀ j, j < 82 → True → F1 j = F j) → Q (some (.int ((0 : Int32)))) (sy_dh F1 X1 X2 (iv_H 3))) :
    hd_W Ls xs d jm_M22 Q (8, sy_dL F [some (.inl (.ref 38)), some (.inl (.ref 20)), none, some (.inr (.inl 82)), some (.inr (.inl 83)), some (.inr (.inl 84)), none], sy_dS F [], sy_dh F X1 X2 (iv_H 3), 0, 0) := by
  refine hd_ret (s := 3) (nv := 85) (v := some (.inl (.int 0))) (uh := hd_ov (iv_id 0 iv_B0) []) (f := true) (sp := [8]) (d0 := 1) (O := [true]) (T := []) (P := [(4, .inl (.int 512), .inr (.inl 84))]) jm_ok22 (by decide +kernel) (by decide +kernel) hd F X1 X2 (fun F' hF hs => ?_)
  have b84 := hd_b (F := F) (F' := F') (k := 84) (hF 84 (by decide))
  have hB' : iv_in F' iv_B0 := iv_in_eq hB (fun j hj => hF j (Nat.lt_of_lt_of_le hj (by decide +kernel)))
  refine ⟨List.forall_mem_cons.mpr ⟨hd_p4 rfl b84 (by have hc : ((512) : Int32).toInt = 512 := (by decide); omega), fun _ h => absurd h List.not_mem_nil⟩, ?_⟩
  refine k _ ?_
  · exact fun j hj _ => (hd_keep hB' (Nat.lt_of_lt_of_le hj (by decide +kernel)) (by simp)).trans (hF j (Nat.lt_of_lt_of_le hj (by decide)))
theorem j3wo_8_p1 {Ls : Nat} {xs : Nat → Int32} {d : Nat} {Q : Option Value → jm_h → Prop} (hd : 2 ≤ d) (F : Nat → sy_d) (X1 X2 : List jm_c) (hB : iv_in F iv_B0)
    (h0 : (sy_i F 84).toInt < 512)
    (h1 : 0 ≤ (sy_i F 82).toInt)
    (h2 : ((sy_i F 82) + ((1 : Int32))).toInt < 512)
    (h3 : 0 ≤ (sy_i F 82).toInt ∧ (sy_i F 82).toInt < 512)
    (h4 : ((sy_ai F 32).getD (sy_i F 82).toNatClampNeg 0).toInt < (-9))
    (h5 : ((sy_ai F 32).getD (sy_i F 82).toNatClampNeg 0).toInt ≠ (-14))
    (h6 : 2 ≤ (sy_i F 83).toInt)
    (h7 : ((sy_ai F 32).getD (sy_i F 82).toNatClampNeg 0).toInt ≠ (-15))
    (h8 : ((sy_ai F 32).getD (sy_i F 82).toNatClampNeg 0).toInt ≠ (-13))
    (h9 : 0 ≤ (((sy_i F 83) + (((-1) : Int32))) - ((1 : Int32))).toInt ∧ (((sy_i F 83) + (((-1) : Int32))) - ((1 : Int32))).toInt < 32)
    (h10 : 0 ≤ ((sy_i F 83) + (((-1) : Int32))).toInt ∧ ((sy_i F 83) + (((-1) : Int32))).toInt < 32)
    (h11 : ((sy_ai F 32).getD (sy_i F 82).toNatClampNeg 0).toInt < (-12))
    (h12 : ((sy_ai F 46).getD ((sy_i F 83) + (((-1) : Int32))).toNatClampNeg 0).toInt ≠ 0)
    (h13 : ((sy_ai F 46).getD ((sy_i F 83) + (((-1) : Int32))).toNatClampNeg 0).toInt ≠ 0)
    (h14 : 0 ≤ (((sy_i F 83) + (((-1) : Int32))) - ((1 : Int32))).toInt ∧ (((sy_i F 83) + (((-1) : Int32))) - ((1 : Int32))).toInt < 32)
    (k : ∀ F1 : Nat → sy_d, (∀ j, j < 82 → j ≠ 46 → F1 j = F j) → F1 46 = .inr (.inl (jm_upd (sy_ai F 46) (((sy_i F 83) + (((-1) : Int32))) - ((1 : Int32))).toNatClampNeg (((sy_ai F 46).getD (((sy_i F 83) + (((-1) : Int32))) - ((1 : Int32))).toNatClampNeg 0) / ((sy_ai F 46).getD ((sy_i F 83) + (((-1) : Int32))).toNatClampNeg 0)))) → F1 82 = .inl (.int ((sy_i F 82) + ((1 : Int32)))) → F1 83 = .inl (.int ((sy_i F 83) + (((-1) : Int32)))) → F1 84 = .inl (.int ((sy_i F 84) + ((1 : Int32)))) → hd_W Ls xs d jm_M22 Q (8, sy_dL F1 [some (.inl (.ref 38)), some (.inl (.ref 20)), none, some (.inr (.inl 82)), some (.inr (.inl 83)), some (.inr (.inl 84)), none], sy_dS F1 [], sy_dh F1 X1 X2 (iv_H 3), 0, 0)) :
    hd_W Ls xs d jm_M22 Q (8, sy_dL F [some (.inl (.ref 38)), some (.inl (.ref 20)), none, some (.inr (.inl 82)), some (.inr (.inl 83)), some (.inr (.inl 84)), none], sy_dS F [], sy_dh F X1 X2 (iv_H 3), 0, 0) := by
  refine hd_run (s := 3) (nv := 85) (pc := 8) (L := [some (.inl (.ref 38)), some (.inl (.ref 20)), none, some (.inr (.inl 82)), some (.inr (.inl 83)), some (.inr (.inl 84)), none]) (S := []) (uh := hd_ov (iv_id 0 iv_B0) [(46, .inr (.inr (.inl 94)))]) (ul := [.inl (.inr (.inl 87)), .inl (.inr (.inl 88)), .inl (.inr (.inl 95))]) (f := true) (sp := [8]) (d0 := 1) (O := [false, false, true, true, true, true, true, true, true, true, true]) (T := [(0, [.inr (.inl 82), .inl (.int 1)], []), (30, [.inr (.inl 82)], [.inr (.inl 32)]), (0, [.inr (.inl 82), .inl (.int 1)], []), (0, [.inr (.inl 83), .inl (.int (-1))], []), (1, [.inr (.inl 88), .inl (.int 1)], []), (1, [.inr (.inl 88), .inl (.int 1)], []), (30, [.inr (.inl 90)], [.inr (.inl 46)]), (30, [.inr (.inl 88)], [.inr (.inl 46)]), (9, [.inr (.inl 91), .inr (.inl 92)], []), (40, [.inr (.inl 89), .inr (.inl 93)], [.inr (.inl 46)]), (0, [.inr (.inl 84), .inl (.int 1)], [])]) (P := [(5, .inl (.int 512), .inr (.inl 84)), (3, .inr (.inl 82), .inl (.int 0)), (2, .inr (.inl 85), .inl (.int 512)), (6, .inr (.inl 82), .inl (.ref 512)), (2, .inr (.inl 86), .inl (.int (-9))), (1, .inr (.inl 86), .inl (.int (-14))), (4, .inl (.int 2), .inr (.inl 83)), (1, .inr (.inl 86), .inl (.int (-15))), (1, .inr (.inl 86), .inl (.int (-13))), (6, .inr (.inl 90), .inl (.ref 32)), (6, .inr (.inl 88), .inl (.ref 32)), (2, .inr (.inl 86), .inl (.int (-12))), (1, .inr (.inl 92), .inl (.int 0)), (1, .inr (.inl 92), .inl (.int 0)), (6, .inr (.inl 89), .inl (.ref 32))]) jm_ok22 (by decide +kernel) (by decide +kernel) hd F X1 X2 (fun F' hF hs => ?_)
  have b84 := hd_b (F := F) (F' := F') (k := 84) (hF 84 (by decide))
  have b82 := hd_b (F := F) (F' := F') (k := 82) (hF 82 (by decide))
  have t85 : sy_dv F' (.inr (.inl 85)) = .int ((sy_i F 82) + ((1 : Int32))) := hd_o (hs 0 _ rfl) b82 rfl rfl
  have a32 := hd_ba (F := F) (F' := F') (k := 32) (hF 32 (by decide))
  have t86 : sy_dv F' (.inr (.inl 86)) = .int ((sy_ai F 32).getD (sy_i F 82).toNatClampNeg 0) := hd_rd (hs 1 _ rfl) b82 a32
  have b83 := hd_b (F := F) (F' := F') (k := 83) (hF 83 (by decide))
  have t88 : sy_dv F' (.inr (.inl 88)) = .int ((sy_i F 83) + (((-1) : Int32))) := hd_o (hs 3 _ rfl) b83 rfl rfl
  have t90 : sy_dv F' (.inr (.inl 90)) = .int (((sy_i F 83) + (((-1) : Int32))) - ((1 : Int32))) := hd_o (hs 5 _ rfl) t88 rfl rfl
  have a46 := hd_ba (F := F) (F' := F') (k := 46) (hF 46 (by decide))
  have t92 : sy_dv F' (.inr (.inl 92)) = .int ((sy_ai F 46).getD ((sy_i F 83) + (((-1) : Int32))).toNatClampNeg 0) := hd_rd (hs 7 _ rfl) t88 a46
  have t89 : sy_dv F' (.inr (.inl 89)) = .int (((sy_i F 83) + (((-1) : Int32))) - ((1 : Int32))) := hd_o (hs 4 _ rfl) t88 rfl rfl
  have t91 : sy_dv F' (.inr (.inl 91)) = .int ((sy_ai F 46).getD (((sy_i F 83) + (((-1) : Int32))) - ((1 : Int32))).toNatClampNeg 0) := hd_rd (hs 6 _ rfl) t90 a46
  have t93 : sy_dv F' (.inr (.inl 93)) = .int (((sy_ai F 46).getD (((sy_i F 83) + (((-1) : Int32))) - ((1 : Int32))).toNatClampNeg 0) / ((sy_ai F 46).getD ((sy_i F 83) + (((-1) : Int32))).toNatClampNeg 0)) := hd_o (hs 8 _ rfl) t91 t92 rfl
  have t94 : sy_da F' (.inr (.inl 94)) = .inl (jm_upd (sy_ai F 46) (((sy_i F 83) + (((-1) : Int32))) - ((1 : Int32))).toNatClampNeg (((sy_ai F 46).getD (((sy_i F 83) + (((-1) : Int32))) - ((1 : Int32))).toNatClampNeg 0) / ((sy_ai F 46).getD ((sy_i F 83) + (((-1) : Int32))).toNatClampNeg 0))) := hd_up (hs 9 _ rfl) t89 t93 a46
  have t87 : sy_dv F' (.inr (.inl 87)) = .int ((sy_i F 82) + ((1 : Int32))) := hd_o (hs 2 _ rfl) b82 rfl rfl
  have t95 : sy_dv F' (.inr (.inl 95)) = .int ((sy_i F 84) + ((1 : Int32))) := hd_o (hs 10 _ rfl) b84 rfl rfl
  have hB' : iv_in F' iv_B0 := iv_in_eq hB (fun j hj => hF j (Nat.lt_of_lt_of_le hj (by decide +kernel)))
  refine ⟨List.forall_mem_cons.mpr ⟨hd_p5 rfl b84 (by have hc : ((512) : Int32).toInt = 512 := (by decide); omega), List.forall_mem_cons.mpr ⟨hd_p3 b82 rfl (by have hc : ((0) : Int32).toInt = 0 := (by decide); omega), List.forall_mem_cons.mpr ⟨hd_p2 t85 rfl (by have hc : ((512) : Int32).toInt = 512 := (by decide); omega), List.forall_mem_cons.mpr ⟨hd_pb b82 (by first | exact h3 | exact h3), List.forall_mem_cons.mpr ⟨hd_p2 t86 rfl (by have hc : (((-9)) : Int32).toInt = (-9) := (by decide); omega), List.forall_mem_cons.mpr ⟨hd_p1 t86 rfl (by have hc : (((-14)) : Int32).toInt = (-14) := (by decide); omega), List.forall_mem_cons.mpr ⟨hd_p4 rfl b83 (by have hc : ((2) : Int32).toInt = 2 := (by decide); omega), List.forall_mem_cons.mpr ⟨hd_p1 t86 rfl (by have hc : (((-15)) : Int32).toInt = (-15) := (by decide); omega), List.forall_mem_cons.mpr ⟨hd_p1 t86 rfl (by have hc : (((-13)) : Int32).toInt = (-13) := (by decide); omega), List.forall_mem_cons.mpr ⟨hd_pb t90 (by first | exact h9 | exact h9), List.forall_mem_cons.mpr ⟨hd_pb t88 (by first | exact h10 | exact h10), List.forall_mem_cons.mpr ⟨hd_p2 t86 rfl (by have hc : (((-12)) : Int32).toInt = (-12) := (by decide); omega), List.forall_mem_cons.mpr ⟨hd_p1 t92 rfl (by have hc : ((0) : Int32).toInt = 0 := (by decide); omega), List.forall_mem_cons.mpr ⟨hd_p1 t92 rfl (by have hc : ((0) : Int32).toInt = 0 := (by decide); omega), List.forall_mem_cons.mpr ⟨hd_pb t89 (by first | exact h14 | exact h14), fun _ h => absurd h List.not_mem_nil⟩⟩⟩⟩⟩⟩⟩⟩⟩⟩⟩⟩⟩⟩⟩, ?_⟩
  refine k _ ?_ ?_ ?_ ?_ ?_
  · exact fun j hj hn => (hd_keep hB' (Nat.lt_of_lt_of_le hj (by decide +kernel)) (by simp; omega)).trans (hF j (Nat.lt_of_lt_of_le hj (by decide)))
  · exact hd_ga (a := .inr (.inl 94)) (by decide +kernel) t94
  · exact hd_gi (x := .inr (.inl 87)) (by decide +kernel) t87
  · exact hd_gi (x := .inr (.inl 88)) (by decide +kernel) t88
  · exact hd_gi (x := .inr (.inl 95)) (by decide +kernel) t95
theorem j3wo_8_p2 {Ls : Nat} {xs : Nat → Int32} {d : Nat} {Q : Option Value → jm_h → Prop} (hd : 2 ≤ d) (F : Nat → sy_d) (X1 X2 : List jm_c) (hB : iv_in F iv_B0)
    (h0 : (sy_i F 84).toInt < 512)
    (h1 : 0 ≤ (sy_i F 82).toInt)
    (h2 : ((sy_i F 82) + ((1 : Int32))).toInt < 512)
    (h3 : 0 ≤ (sy_i F 82).toInt ∧ (sy_i F 82).toInt < 512)
    (h4 : ((sy_ai F 32).getD (sy_i F 82).toNatClampNeg 0).toInt < (-9))
    (h5 : ((sy_ai F 32).getD (sy_i F 82).toNatClampNeg 0).toInt ≠ (-14))
    (h6 : 2 ≤ (sy_i F 83).toInt)
    (h7 : ((sy_ai F 32).getD (sy_i F 82).toNatClampNeg 0).toInt ≠ (-15))
    (h8 : ((sy_ai F 32).getD (sy_i F 82).toNatClampNeg 0).toInt ≠ (-13))
    (h9 : 0 ≤ (((sy_i F 83) + (((-1) : Int32))) - ((1 : Int32))).toInt ∧ (((sy_i F 83) + (((-1) : Int32))) - ((1 : Int32))).toInt < 32)
    (h10 : 0 ≤ ((sy_i F 83) + (((-1) : Int32))).toInt ∧ ((sy_i F 83) + (((-1) : Int32))).toInt < 32)
    (h11 : ((sy_ai F 32).getD (sy_i F 82).toNatClampNeg 0).toInt < (-12))
    (h12 : ((sy_ai F 46).getD ((sy_i F 83) + (((-1) : Int32))).toNatClampNeg 0).toInt = 0)
    (h13 : 0 ≤ (((sy_i F 83) + (((-1) : Int32))) - ((1 : Int32))).toInt ∧ (((sy_i F 83) + (((-1) : Int32))) - ((1 : Int32))).toInt < 32)
    (k : ∀ F1 : Nat → sy_d, (∀ j, j < 82 → j ≠ 46 → F1 j = F j) → F1 46 = .inr (.inl (jm_upd (sy_ai F 46) (((sy_i F 83) + (((-1) : Int32))) - ((1 : Int32))).toNatClampNeg ((0 : Int32)))) → F1 82 = .inl (.int ((sy_i F 82) + ((1 : Int32)))) → F1 83 = .inl (.int ((sy_i F 83) + (((-1) : Int32)))) → F1 84 = .inl (.int ((sy_i F 84) + ((1 : Int32)))) → hd_W Ls xs d jm_M22 Q (8, sy_dL F1 [some (.inl (.ref 38)), some (.inl (.ref 20)), none, some (.inr (.inl 82)), some (.inr (.inl 83)), some (.inr (.inl 84)), none], sy_dS F1 [], sy_dh F1 X1 X2 (iv_H 3), 0, 0)) :
    hd_W Ls xs d jm_M22 Q (8, sy_dL F [some (.inl (.ref 38)), some (.inl (.ref 20)), none, some (.inr (.inl 82)), some (.inr (.inl 83)), some (.inr (.inl 84)), none], sy_dS F [], sy_dh F X1 X2 (iv_H 3), 0, 0) := by
  refine hd_run (s := 3) (nv := 85) (pc := 8) (L := [some (.inl (.ref 38)), some (.inl (.ref 20)), none, some (.inr (.inl 82)), some (.inr (.inl 83)), some (.inr (.inl 84)), none]) (S := []) (uh := hd_ov (iv_id 0 iv_B0) [(46, .inr (.inr (.inl 93)))]) (ul := [.inl (.inr (.inl 87)), .inl (.inr (.inl 88)), .inl (.inr (.inl 94))]) (f := true) (sp := [8]) (d0 := 1) (O := [false, false, true, true, true, true, true, true, true, true, false]) (T := [(0, [.inr (.inl 82), .inl (.int 1)], []), (30, [.inr (.inl 82)], [.inr (.inl 32)]), (0, [.inr (.inl 82), .inl (.int 1)], []), (0, [.inr (.inl 83), .inl (.int (-1))], []), (1, [.inr (.inl 88), .inl (.int 1)], []), (1, [.inr (.inl 88), .inl (.int 1)], []), (30, [.inr (.inl 90)], [.inr (.inl 46)]), (30, [.inr (.inl 88)], [.inr (.inl 46)]), (40, [.inr (.inl 89), .inl (.int 0)], [.inr (.inl 46)]), (0, [.inr (.inl 84), .inl (.int 1)], [])]) (P := [(5, .inl (.int 512), .inr (.inl 84)), (3, .inr (.inl 82), .inl (.int 0)), (2, .inr (.inl 85), .inl (.int 512)), (6, .inr (.inl 82), .inl (.ref 512)), (2, .inr (.inl 86), .inl (.int (-9))), (1, .inr (.inl 86), .inl (.int (-14))), (4, .inl (.int 2), .inr (.inl 83)), (1, .inr (.inl 86), .inl (.int (-15))), (1, .inr (.inl 86), .inl (.int (-13))), (6, .inr (.inl 90), .inl (.ref 32)), (6, .inr (.inl 88), .inl (.ref 32)), (2, .inr (.inl 86), .inl (.int (-12))), (0, .inr (.inl 92), .inl (.int 0)), (6, .inr (.inl 89), .inl (.ref 32))]) jm_ok22 (by decide +kernel) (by decide +kernel) hd F X1 X2 (fun F' hF hs => ?_)
  have b84 := hd_b (F := F) (F' := F') (k := 84) (hF 84 (by decide))
  have b82 := hd_b (F := F) (F' := F') (k := 82) (hF 82 (by decide))
  have t85 : sy_dv F' (.inr (.inl 85)) = .int ((sy_i F 82) + ((1 : Int32))) := hd_o (hs 0 _ rfl) b82 rfl rfl
  have a32 := hd_ba (F := F) (F' := F') (k := 32) (hF 32 (by decide))
  have t86 : sy_dv F' (.inr (.inl 86)) = .int ((sy_ai F 32).getD (sy_i F 82).toNatClampNeg 0) := hd_rd (hs 1 _ rfl) b82 a32
  have b83 := hd_b (F := F) (F' := F') (k := 83) (hF 83 (by decide))
  have t88 : sy_dv F' (.inr (.inl 88)) = .int ((sy_i F 83) + (((-1) : Int32))) := hd_o (hs 3 _ rfl) b83 rfl rfl
  have t90 : sy_dv F' (.inr (.inl 90)) = .int (((sy_i F 83) + (((-1) : Int32))) - ((1 : Int32))) := hd_o (hs 5 _ rfl) t88 rfl rfl
  have a46 := hd_ba (F := F) (F' := F') (k := 46) (hF 46 (by decide))
  have t92 : sy_dv F' (.inr (.inl 92)) = .int ((sy_ai F 46).getD ((sy_i F 83) + (((-1) : Int32))).toNatClampNeg 0) := hd_rd (hs 7 _ rfl) t88 a46
  have t89 : sy_dv F' (.inr (.inl 89)) = .int (((sy_i F 83) + (((-1) : Int32))) - ((1 : Int32))) := hd_o (hs 4 _ rfl) t88 rfl rfl
  have t93 : sy_da F' (.inr (.inl 93)) = .inl (jm_upd (sy_ai F 46) (((sy_i F 83) + (((-1) : Int32))) - ((1 : Int32))).toNatClampNeg ((0 : Int32))) := hd_up (hs 8 _ rfl) t89 rfl a46
  have t87 : sy_dv F' (.inr (.inl 87)) = .int ((sy_i F 82) + ((1 : Int32))) := hd_o (hs 2 _ rfl) b82 rfl rfl
  have t94 : sy_dv F' (.inr (.inl 94)) = .int ((sy_i F 84) + ((1 : Int32))) := hd_o (hs 9 _ rfl) b84 rfl rfl
  have hB' : iv_in F' iv_B0 := iv_in_eq hB (fun j hj => hF j (Nat.lt_of_lt_of_le hj (by decide +kernel)))
  refine ⟨List.forall_mem_cons.mpr ⟨hd_p5 rfl b84 (by have hc : ((512) : Int32).toInt = 512 := (by decide); omega), List.forall_mem_cons.mpr ⟨hd_p3 b82 rfl (by have hc : ((0) : Int32).toInt = 0 := (by decide); omega), List.forall_mem_cons.mpr ⟨hd_p2 t85 rfl (by have hc : ((512) : Int32).toInt = 512 := (by decide); omega), List.forall_mem_cons.mpr ⟨hd_pb b82 (by first | exact h3 | exact h3), List.forall_mem_cons.mpr ⟨hd_p2 t86 rfl (by have hc : (((-9)) : Int32).toInt = (-9) := (by decide); omega), List.forall_mem_cons.mpr ⟨hd_p1 t86 rfl (by have hc : (((-14)) : Int32).toInt = (-14) := (by decide); omega), List.forall_mem_cons.mpr ⟨hd_p4 rfl b83 (by have hc : ((2) : Int32).toInt = 2 := (by decide); omega), List.forall_mem_cons.mpr ⟨hd_p1 t86 rfl (by have hc : (((-15)) : Int32).toInt = (-15) := (by decide); omega), List.forall_mem_cons.mpr ⟨hd_p1 t86 rfl (by have hc : (((-13)) : Int32).toInt = (-13) := (by decide); omega), List.forall_mem_cons.mpr ⟨hd_pb t90 (by first | exact h9 | exact h9), List.forall_mem_cons.mpr ⟨hd_pb t88 (by first | exact h10 | exact h10), List.forall_mem_cons.mpr ⟨hd_p2 t86 rfl (by have hc : (((-12)) : Int32).toInt = (-12) := (by decide); omega), List.forall_mem_cons.mpr ⟨hd_p0 t92 rfl (by have hc : ((0) : Int32).toInt = 0 := (by decide); omega), List.forall_mem_cons.mpr ⟨hd_pb t89 (by first | exact h13 | exact h13), fun _ h => absurd h List.not_mem_nil⟩⟩⟩⟩⟩⟩⟩⟩⟩⟩⟩⟩⟩⟩, ?_⟩
  refine k _ ?_ ?_ ?_ ?_ ?_
  · exact fun j hj hn => (hd_keep hB' (Nat.lt_of_lt_of_le hj (by decide +kernel)) (by simp; omega)).trans (hF j (Nat.lt_of_lt_of_le hj (by decide)))
  · exact hd_ga (a := .inr (.inl 93)) (by decide +kernel) t93
  · exact hd_gi (x := .inr (.inl 87)) (by decide +kernel) t87
  · exact hd_gi (x := .inr (.inl 88)) (by decide +kernel) t88
  · exact hd_gi (x := .inr (.inl 94)) (by decide +kernel) t94
theorem j3wo_8_p3 {Ls : Nat} {xs : Nat → Int32} {d : Nat} {Q : Option Value → jm_h → Prop} (hd : 2 ≤ d) (F : Nat → sy_d) (X1 X2 : List jm_c) (hB : iv_in F iv_B0)
    (h0 : (sy_i F 84).toInt < 512)
    (h1 : 0 ≤ (sy_i F 82).toInt)
    (h2 : ((sy_i F 82) + ((1 : Int32))).toInt < 512)
    (h3 : 0 ≤ (sy_i F 82).toInt ∧ (sy_i F 82).toInt < 512)
    (h4 : ((sy_ai F 32).getD (sy_i F 82).toNatClampNeg 0).toInt < (-9))
    (h5 : ((sy_ai F 32).getD (sy_i F 82).toNatClampNeg 0).toInt ≠ (-14))
    (h6 : 2 ≤ (sy_i F 83).toInt)
    (h7 : ((sy_ai F 32).getD (sy_i F 82).toNatClampNeg 0).toInt ≠ (-15))
    (h8 : ((sy_ai F 32).getD (sy_i F 82).toNatClampNeg 0).toInt ≠ (-13))
    (h9 : 0 ≤ (((sy_i F 83) + (((-1) : Int32))) - ((1 : Int32))).toInt ∧ (((sy_i F 83) + (((-1) : Int32))) - ((1 : Int32))).toInt < 32)
    (h10 : 0 ≤ ((sy_i F 83) + (((-1) : Int32))).toInt ∧ ((sy_i F 83) + (((-1) : Int32))).toInt < 32)
    (h11 : ((sy_ai F 32).getD (sy_i F 82).toNatClampNeg 0).toInt = (-12))
    (h12 : 0 ≤ (((sy_i F 83) + (((-1) : Int32))) - ((1 : Int32))).toInt ∧ (((sy_i F 83) + (((-1) : Int32))) - ((1 : Int32))).toInt < 32)
    (k : ∀ F1 : Nat → sy_d, (∀ j, j < 82 → j ≠ 46 → F1 j = F j) → F1 46 = .inr (.inl (jm_upd (sy_ai F 46) (((sy_i F 83) + (((-1) : Int32))) - ((1 : Int32))).toNatClampNeg (((sy_ai F 46).getD (((sy_i F 83) + (((-1) : Int32))) - ((1 : Int32))).toNatClampNeg 0) * ((sy_ai F 46).getD ((sy_i F 83) + (((-1) : Int32))).toNatClampNeg 0)))) → F1 82 = .inl (.int ((sy_i F 82) + ((1 : Int32)))) → F1 83 = .inl (.int ((sy_i F 83) + (((-1) : Int32)))) → F1 84 = .inl (.int ((sy_i F 84) + ((1 : Int32)))) → hd_W Ls xs d jm_M22 Q (8, sy_dL F1 [some (.inl (.ref 38)), some (.inl (.ref 20)), none, some (.inr (.inl 82)), some (.inr (.inl 83)), some (.inr (.inl 84)), none], sy_dS F1 [], sy_dh F1 X1 X2 (iv_H 3), 0, 0)) :
    hd_W Ls xs d jm_M22 Q (8, sy_dL F [some (.inl (.ref 38)), some (.inl (.ref 20)), none, some (.inr (.inl 82)), some (.inr (.inl 83)), some (.inr (.inl 84)), none], sy_dS F [], sy_dh F X1 X2 (iv_H 3), 0, 0) := by
  refine hd_run (s := 3) (nv := 85) (pc := 8) (L := [some (.inl (.ref 38)), some (.inl (.ref 20)), none, some (.inr (.inl 82)), some (.inr (.inl 83)), some (.inr (.inl 84)), none]) (S := []) (uh := hd_ov (iv_id 0 iv_B0) [(46, .inr (.inr (.inl 94)))]) (ul := [.inl (.inr (.inl 87)), .inl (.inr (.inl 88)), .inl (.inr (.inl 95))]) (f := true) (sp := [8]) (d0 := 1) (O := [false, false, true, true, true, true, true, true, false, true]) (T := [(0, [.inr (.inl 82), .inl (.int 1)], []), (30, [.inr (.inl 82)], [.inr (.inl 32)]), (0, [.inr (.inl 82), .inl (.int 1)], []), (0, [.inr (.inl 83), .inl (.int (-1))], []), (1, [.inr (.inl 88), .inl (.int 1)], []), (1, [.inr (.inl 88), .inl (.int 1)], []), (30, [.inr (.inl 90)], [.inr (.inl 46)]), (30, [.inr (.inl 88)], [.inr (.inl 46)]), (2, [.inr (.inl 91), .inr (.inl 92)], []), (40, [.inr (.inl 89), .inr (.inl 93)], [.inr (.inl 46)]), (0, [.inr (.inl 84), .inl (.int 1)], [])]) (P := [(5, .inl (.int 512), .inr (.inl 84)), (3, .inr (.inl 82), .inl (.int 0)), (2, .inr (.inl 85), .inl (.int 512)), (6, .inr (.inl 82), .inl (.ref 512)), (2, .inr (.inl 86), .inl (.int (-9))), (1, .inr (.inl 86), .inl (.int (-14))), (4, .inl (.int 2), .inr (.inl 83)), (1, .inr (.inl 86), .inl (.int (-15))), (1, .inr (.inl 86), .inl (.int (-13))), (6, .inr (.inl 90), .inl (.ref 32)), (6, .inr (.inl 88), .inl (.ref 32)), (0, .inr (.inl 86), .inl (.int (-12))), (6, .inr (.inl 89), .inl (.ref 32))]) jm_ok22 (by decide +kernel) (by decide +kernel) hd F X1 X2 (fun F' hF hs => ?_)
  have b84 := hd_b (F := F) (F' := F') (k := 84) (hF 84 (by decide))
  have b82 := hd_b (F := F) (F' := F') (k := 82) (hF 82 (by decide))
  have t85 : sy_dv F' (.inr (.inl 85)) = .int ((sy_i F 82) + ((1 : Int32))) := hd_o (hs 0 _ rfl) b82 rfl rfl
  have a32 := hd_ba (F := F) (F' := F') (k := 32) (hF 32 (by decide))
  have t86 : sy_dv F' (.inr (.inl 86)) = .int ((sy_ai F 32).getD (sy_i F 82).toNatClampNeg 0) := hd_rd (hs 1 _ rfl) b82 a32
  have b83 := hd_b (F := F) (F' := F') (k := 83) (hF 83 (by decide))
  have t88 : sy_dv F' (.inr (.inl 88)) = .int ((sy_i F 83) + (((-1) : Int32))) := hd_o (hs 3 _ rfl) b83 rfl rfl
  have t90 : sy_dv F' (.inr (.inl 90)) = .int (((sy_i F 83) + (((-1) : Int32))) - ((1 : Int32))) := hd_o (hs 5 _ rfl) t88 rfl rfl
  have t89 : sy_dv F' (.inr (.inl 89)) = .int (((sy_i F 83) + (((-1) : Int32))) - ((1 : Int32))) := hd_o (hs 4 _ rfl) t88 rfl rfl
  have a46 := hd_ba (F := F) (F' := F') (k := 46) (hF 46 (by decide))
  have t91 : sy_dv F' (.inr (.inl 91)) = .int ((sy_ai F 46).getD (((sy_i F 83) + (((-1) : Int32))) - ((1 : Int32))).toNatClampNeg 0) := hd_rd (hs 6 _ rfl) t90 a46
  have t92 : sy_dv F' (.inr (.inl 92)) = .int ((sy_ai F 46).getD ((sy_i F 83) + (((-1) : Int32))).toNatClampNeg 0) := hd_rd (hs 7 _ rfl) t88 a46
  have t93 : sy_dv F' (.inr (.inl 93)) = .int (((sy_ai F 46).getD (((sy_i F 83) + (((-1) : Int32))) - ((1 : Int32))).toNatClampNeg 0) * ((sy_ai F 46).getD ((sy_i F 83) + (((-1) : Int32))).toNatClampNeg 0)) := hd_o (hs 8 _ rfl) t91 t92 rfl
  have t94 : sy_da F' (.inr (.inl 94)) = .inl (jm_upd (sy_ai F 46) (((sy_i F 83) + (((-1) : Int32))) - ((1 : Int32))).toNatClampNeg (((sy_ai F 46).getD (((sy_i F 83) + (((-1) : Int32))) - ((1 : Int32))).toNatClampNeg 0) * ((sy_ai F 46).getD ((sy_i F 83) + (((-1) : Int32))).toNatClampNeg 0))) := hd_up (hs 9 _ rfl) t89 t93 a46
  have t87 : sy_dv F' (.inr (.inl 87)) = .int ((sy_i F 82) + ((1 : Int32))) := hd_o (hs 2 _ rfl) b82 rfl rfl
  have t95 : sy_dv F' (.inr (.inl 95)) = .int ((sy_i F 84) + ((1 : Int32))) := hd_o (hs 10 _ rfl) b84 rfl rfl
  have hB' : iv_in F' iv_B0 := iv_in_eq hB (fun j hj => hF j (Nat.lt_of_lt_of_le hj (by decide +kernel)))
  refine ⟨List.forall_mem_cons.mpr ⟨hd_p5 rfl b84 (by have hc : ((512) : Int32).toInt = 512 := (by decide); omega), List.forall_mem_cons.mpr ⟨hd_p3 b82 rfl (by have hc : ((0) : Int32).toInt = 0 := (by decide); omega), List.forall_mem_cons.mpr ⟨hd_p2 t85 rfl (by have hc : ((512) : Int32).toInt = 512 := (by decide); omega), List.forall_mem_cons.mpr ⟨hd_pb b82 (by first | exact h3 | exact h3), List.forall_mem_cons.mpr ⟨hd_p2 t86 rfl (by have hc : (((-9)) : Int32).toInt = (-9) := (by decide); omega), List.forall_mem_cons.mpr ⟨hd_p1 t86 rfl (by have hc : (((-14)) : Int32).toInt = (-14) := (by decide); omega), List.forall_mem_cons.mpr ⟨hd_p4 rfl b83 (by have hc : ((2) : Int32).toInt = 2 := (by decide); omega), List.forall_mem_cons.mpr ⟨hd_p1 t86 rfl (by have hc : (((-15)) : Int32).toInt = (-15) := (by decide); omega), List.forall_mem_cons.mpr ⟨hd_p1 t86 rfl (by have hc : (((-13)) : Int32).toInt = (-13) := (by decide); omega), List.forall_mem_cons.mpr ⟨hd_pb t90 (by first | exact h9 | exact h9), List.forall_mem_cons.mpr ⟨hd_pb t88 (by first | exact h10 | exact h10), List.forall_mem_cons.mpr ⟨hd_p0 t86 rfl (by have hc : (((-12)) : Int32).toInt = (-12) := (by decide); omega), List.forall_mem_cons.mpr ⟨hd_pb t89 (by first | exact h12 | exact h12), fun _ h => absurd h List.not_mem_nil⟩⟩⟩⟩⟩⟩⟩⟩⟩⟩⟩⟩⟩, ?_⟩
  refine k _ ?_ ?_ ?_ ?_ ?_
  · exact fun j hj hn => (hd_keep hB' (Nat.lt_of_lt_of_le hj (by decide +kernel)) (by simp; omega)).trans (hF j (Nat.lt_of_lt_of_le hj (by decide)))
  · exact hd_ga (a := .inr (.inl 94)) (by decide +kernel) t94
  · exact hd_gi (x := .inr (.inl 87)) (by decide +kernel) t87
  · exact hd_gi (x := .inr (.inl 88)) (by decide +kernel) t88
  · exact hd_gi (x := .inr (.inl 95)) (by decide +kernel) t95
theorem j3wo_8_p4 {Ls : Nat} {xs : Nat → Int32} {d : Nat} {Q : Option Value → jm_h → Prop} (hd : 2 ≤ d) (F : Nat → sy_d) (X1 X2 : List jm_c) (hB : iv_in F iv_B0)
    (h0 : (sy_i F 84).toInt < 512)
    (h1 : 0 ≤ (sy_i F 82).toInt)
    (h2 : ((sy_i F 82) + ((1 : Int32))).toInt < 512)
    (h3 : 0 ≤ (sy_i F 82).toInt ∧ (sy_i F 82).toInt < 512)
    (h4 : ((sy_ai F 32).getD (sy_i F 82).toNatClampNeg 0).toInt < (-9))
    (h5 : ((sy_ai F 32).getD (sy_i F 82).toNatClampNeg 0).toInt ≠ (-14))
    (h6 : 2 ≤ (sy_i F 83).toInt)
    (h7 : ((sy_ai F 32).getD (sy_i F 82).toNatClampNeg 0).toInt ≠ (-15))
    (h8 : ((sy_ai F 32).getD (sy_i F 82).toNatClampNeg 0).toInt ≠ (-13))
    (h9 : 0 ≤ (((sy_i F 83) + (((-1) : Int32))) - ((1 : Int32))).toInt ∧ (((sy_i F 83) + (((-1) : Int32))) - ((1 : Int32))).toInt < 32)
    (h10 : 0 ≤ ((sy_i F 83) + (((-1) : Int32))).toInt ∧ ((sy_i F 83) + (((-1) : Int32))).toInt < 32)
    (h11 : ((sy_ai F 32).getD (sy_i F 82).toNatClampNeg 0).toInt = (-11))
    (h12 : 0 ≤ (((sy_i F 83) + (((-1) : Int32))) - ((1 : Int32))).toInt ∧ (((sy_i F 83) + (((-1) : Int32))) - ((1 : Int32))).toInt < 32)
    (k : ∀ F1 : Nat → sy_d, (∀ j, j < 82 → j ≠ 46 → F1 j = F j) → F1 46 = .inr (.inl (jm_upd (sy_ai F 46) (((sy_i F 83) + (((-1) : Int32))) - ((1 : Int32))).toNatClampNeg (((sy_ai F 46).getD (((sy_i F 83) + (((-1) : Int32))) - ((1 : Int32))).toNatClampNeg 0) - ((sy_ai F 46).getD ((sy_i F 83) + (((-1) : Int32))).toNatClampNeg 0)))) → F1 82 = .inl (.int ((sy_i F 82) + ((1 : Int32)))) → F1 83 = .inl (.int ((sy_i F 83) + (((-1) : Int32)))) → F1 84 = .inl (.int ((sy_i F 84) + ((1 : Int32)))) → hd_W Ls xs d jm_M22 Q (8, sy_dL F1 [some (.inl (.ref 38)), some (.inl (.ref 20)), none, some (.inr (.inl 82)), some (.inr (.inl 83)), some (.inr (.inl 84)), none], sy_dS F1 [], sy_dh F1 X1 X2 (iv_H 3), 0, 0)) :
    hd_W Ls xs d jm_M22 Q (8, sy_dL F [some (.inl (.ref 38)), some (.inl (.ref 20)), none, some (.inr (.inl 82)), some (.inr (.inl 83)), some (.inr (.inl 84)), none], sy_dS F [], sy_dh F X1 X2 (iv_H 3), 0, 0) := by
  refine hd_run (s := 3) (nv := 85) (pc := 8) (L := [some (.inl (.ref 38)), some (.inl (.ref 20)), none, some (.inr (.inl 82)), some (.inr (.inl 83)), some (.inr (.inl 84)), none]) (S := []) (uh := hd_ov (iv_id 0 iv_B0) [(46, .inr (.inr (.inl 94)))]) (ul := [.inl (.inr (.inl 87)), .inl (.inr (.inl 88)), .inl (.inr (.inl 95))]) (f := true) (sp := [8]) (d0 := 1) (O := [false, false, true, true, true, true, true, true, false, false, true]) (T := [(0, [.inr (.inl 82), .inl (.int 1)], []), (30, [.inr (.inl 82)], [.inr (.inl 32)]), (0, [.inr (.inl 82), .inl (.int 1)], []), (0, [.inr (.inl 83), .inl (.int (-1))], []), (1, [.inr (.inl 88), .inl (.int 1)], []), (1, [.inr (.inl 88), .inl (.int 1)], []), (30, [.inr (.inl 90)], [.inr (.inl 46)]), (30, [.inr (.inl 88)], [.inr (.inl 46)]), (1, [.inr (.inl 91), .inr (.inl 92)], []), (40, [.inr (.inl 89), .inr (.inl 93)], [.inr (.inl 46)]), (0, [.inr (.inl 84), .inl (.int 1)], [])]) (P := [(5, .inl (.int 512), .inr (.inl 84)), (3, .inr (.inl 82), .inl (.int 0)), (2, .inr (.inl 85), .inl (.int 512)), (6, .inr (.inl 82), .inl (.ref 512)), (2, .inr (.inl 86), .inl (.int (-9))), (1, .inr (.inl 86), .inl (.int (-14))), (4, .inl (.int 2), .inr (.inl 83)), (1, .inr (.inl 86), .inl (.int (-15))), (1, .inr (.inl 86), .inl (.int (-13))), (6, .inr (.inl 90), .inl (.ref 32)), (6, .inr (.inl 88), .inl (.ref 32)), (0, .inr (.inl 86), .inl (.int (-11))), (6, .inr (.inl 89), .inl (.ref 32))]) jm_ok22 (by decide +kernel) (by decide +kernel) hd F X1 X2 (fun F' hF hs => ?_)
  have b84 := hd_b (F := F) (F' := F') (k := 84) (hF 84 (by decide))
  have b82 := hd_b (F := F) (F' := F') (k := 82) (hF 82 (by decide))
  have t85 : sy_dv F' (.inr (.inl 85)) = .int ((sy_i F 82) + ((1 : Int32))) := hd_o (hs 0 _ rfl) b82 rfl rfl
  have a32 := hd_ba (F := F) (F' := F') (k := 32) (hF 32 (by decide))
  have t86 : sy_dv F' (.inr (.inl 86)) = .int ((sy_ai F 32).getD (sy_i F 82).toNatClampNeg 0) := hd_rd (hs 1 _ rfl) b82 a32
  have b83 := hd_b (F := F) (F' := F') (k := 83) (hF 83 (by decide))
  have t88 : sy_dv F' (.inr (.inl 88)) = .int ((sy_i F 83) + (((-1) : Int32))) := hd_o (hs 3 _ rfl) b83 rfl rfl
  have t90 : sy_dv F' (.inr (.inl 90)) = .int (((sy_i F 83) + (((-1) : Int32))) - ((1 : Int32))) := hd_o (hs 5 _ rfl) t88 rfl rfl
  have t89 : sy_dv F' (.inr (.inl 89)) = .int (((sy_i F 83) + (((-1) : Int32))) - ((1 : Int32))) := hd_o (hs 4 _ rfl) t88 rfl rfl
  have a46 := hd_ba (F := F) (F' := F') (k := 46) (hF 46 (by decide))
  have t91 : sy_dv F' (.inr (.inl 91)) = .int ((sy_ai F 46).getD (((sy_i F 83) + (((-1) : Int32))) - ((1 : Int32))).toNatClampNeg 0) := hd_rd (hs 6 _ rfl) t90 a46
  have t92 : sy_dv F' (.inr (.inl 92)) = .int ((sy_ai F 46).getD ((sy_i F 83) + (((-1) : Int32))).toNatClampNeg 0) := hd_rd (hs 7 _ rfl) t88 a46
  have t93 : sy_dv F' (.inr (.inl 93)) = .int (((sy_ai F 46).getD (((sy_i F 83) + (((-1) : Int32))) - ((1 : Int32))).toNatClampNeg 0) - ((sy_ai F 46).getD ((sy_i F 83) + (((-1) : Int32))).toNatClampNeg 0)) := hd_o (hs 8 _ rfl) t91 t92 rfl
  have t94 : sy_da F' (.inr (.inl 94)) = .inl (jm_upd (sy_ai F 46) (((sy_i F 83) + (((-1) : Int32))) - ((1 : Int32))).toNatClampNeg (((sy_ai F 46).getD (((sy_i F 83) + (((-1) : Int32))) - ((1 : Int32))).toNatClampNeg 0) - ((sy_ai F 46).getD ((sy_i F 83) + (((-1) : Int32))).toNatClampNeg 0))) := hd_up (hs 9 _ rfl) t89 t93 a46
  have t87 : sy_dv F' (.inr (.inl 87)) = .int ((sy_i F 82) + ((1 : Int32))) := hd_o (hs 2 _ rfl) b82 rfl rfl
  have t95 : sy_dv F' (.inr (.inl 95)) = .int ((sy_i F 84) + ((1 : Int32))) := hd_o (hs 10 _ rfl) b84 rfl rfl
  have hB' : iv_in F' iv_B0 := iv_in_eq hB (fun j hj => hF j (Nat.lt_of_lt_of_le hj (by decide +kernel)))
  refine ⟨List.forall_mem_cons.mpr ⟨hd_p5 rfl b84 (by have hc : ((512) : Int32).toInt = 512 := (by decide); omega), List.forall_mem_cons.mpr ⟨hd_p3 b82 rfl (by have hc : ((0) : Int32).toInt = 0 := (by decide); omega), List.forall_mem_cons.mpr ⟨hd_p2 t85 rfl (by have hc : ((512) : Int32).toInt = 512 := (by decide); omega), List.forall_mem_cons.mpr ⟨hd_pb b82 (by first | exact h3 | exact h3), List.forall_mem_cons.mpr ⟨hd_p2 t86 rfl (by have hc : (((-9)) : Int32).toInt = (-9) := (by decide); omega), List.forall_mem_cons.mpr ⟨hd_p1 t86 rfl (by have hc : (((-14)) : Int32).toInt = (-14) := (by decide); omega), List.forall_mem_cons.mpr ⟨hd_p4 rfl b83 (by have hc : ((2) : Int32).toInt = 2 := (by decide); omega), List.forall_mem_cons.mpr ⟨hd_p1 t86 rfl (by have hc : (((-15)) : Int32).toInt = (-15) := (by decide); omega), List.forall_mem_cons.mpr ⟨hd_p1 t86 rfl (by have hc : (((-13)) : Int32).toInt = (-13) := (by decide); omega), List.forall_mem_cons.mpr ⟨hd_pb t90 (by first | exact h9 | exact h9), List.forall_mem_cons.mpr ⟨hd_pb t88 (by first | exact h10 | exact h10), List.forall_mem_cons.mpr ⟨hd_p0 t86 rfl (by have hc : (((-11)) : Int32).toInt = (-11) := (by decide); omega), List.forall_mem_cons.mpr ⟨hd_pb t89 (by first | exact h12 | exact h12), fun _ h => absurd h List.not_mem_nil⟩⟩⟩⟩⟩⟩⟩⟩⟩⟩⟩⟩⟩, ?_⟩
  refine k _ ?_ ?_ ?_ ?_ ?_
  · exact fun j hj hn => (hd_keep hB' (Nat.lt_of_lt_of_le hj (by decide +kernel)) (by simp; omega)).trans (hF j (Nat.lt_of_lt_of_le hj (by decide)))
  · exact hd_ga (a := .inr (.inl 94)) (by decide +kernel) t94
  · exact hd_gi (x := .inr (.inl 87)) (by decide +kernel) t87
  · exact hd_gi (x := .inr (.inl 88)) (by decide +kernel) t88
  · exact hd_gi (x := .inr (.inl 95)) (by decide +kernel) t95
theorem j3wo_8_p5 {Ls : Nat} {xs : Nat → Int32} {d : Nat} {Q : Option Value → jm_h → Prop} (hd : 2 ≤ d) (F : Nat → sy_d) (X1 X2 : List jm_c) (hB : iv_in F iv_B0)
    (h0 : (sy_i F 84).toInt < 512)
    (h1 : 0 ≤ (sy_i F 82).toInt)
    (h2 : ((sy_i F 82) + ((1 : Int32))).toInt < 512)
    (h3 : 0 ≤ (sy_i F 82).toInt ∧ (sy_i F 82).toInt < 512)
    (h4 : ((sy_ai F 32).getD (sy_i F 82).toNatClampNeg 0).toInt < (-9))
    (h5 : ((sy_ai F 32).getD (sy_i F 82).toNatClampNeg 0).toInt ≠ (-14))
    (h6 : 2 ≤ (sy_i F 83).toInt)
    (h7 : ((sy_ai F 32).getD (sy_i F 82).toNatClampNeg 0).toInt ≠ (-15))
    (h8 : ((sy_ai F 32).getD (sy_i F 82).toNatClampNeg 0).toInt ≠ (-13))
    (h9 : 0 ≤ (((sy_i F 83) + (((-1) : Int32))) - ((1 : Int32))).toInt ∧ (((sy_i F 83) + (((-1) : Int32))) - ((1 : Int32))).toInt < 32)
    (h10 : 0 ≤ ((sy_i F 83) + (((-1) : Int32))).toInt ∧ ((sy_i F 83) + (((-1) : Int32))).toInt < 32)
    (h11 : ((sy_ai F 32).getD (sy_i F 82).toNatClampNeg 0).toInt = (-10))
    (h12 : 0 ≤ (((sy_i F 83) + (((-1) : Int32))) - ((1 : Int32))).toInt ∧ (((sy_i F 83) + (((-1) : Int32))) - ((1 : Int32))).toInt < 32)
    (k : ∀ F1 : Nat → sy_d, (∀ j, j < 82 → j ≠ 46 → F1 j = F j) → F1 46 = .inr (.inl (jm_upd (sy_ai F 46) (((sy_i F 83) + (((-1) : Int32))) - ((1 : Int32))).toNatClampNeg (((sy_ai F 46).getD (((sy_i F 83) + (((-1) : Int32))) - ((1 : Int32))).toNatClampNeg 0) + ((sy_ai F 46).getD ((sy_i F 83) + (((-1) : Int32))).toNatClampNeg 0)))) → F1 82 = .inl (.int ((sy_i F 82) + ((1 : Int32)))) → F1 83 = .inl (.int ((sy_i F 83) + (((-1) : Int32)))) → F1 84 = .inl (.int ((sy_i F 84) + ((1 : Int32)))) → hd_W Ls xs d jm_M22 Q (8, sy_dL F1 [some (.inl (.ref 38)), some (.inl (.ref 20)), none, some (.inr (.inl 82)), some (.inr (.inl 83)), some (.inr (.inl 84)), none], sy_dS F1 [], sy_dh F1 X1 X2 (iv_H 3), 0, 0)) :
    hd_W Ls xs d jm_M22 Q (8, sy_dL F [some (.inl (.ref 38)), some (.inl (.ref 20)), none, some (.inr (.inl 82)), some (.inr (.inl 83)), some (.inr (.inl 84)), none], sy_dS F [], sy_dh F X1 X2 (iv_H 3), 0, 0) := by
  refine hd_run (s := 3) (nv := 85) (pc := 8) (L := [some (.inl (.ref 38)), some (.inl (.ref 20)), none, some (.inr (.inl 82)), some (.inr (.inl 83)), some (.inr (.inl 84)), none]) (S := []) (uh := hd_ov (iv_id 0 iv_B0) [(46, .inr (.inr (.inl 94)))]) (ul := [.inl (.inr (.inl 87)), .inl (.inr (.inl 88)), .inl (.inr (.inl 95))]) (f := true) (sp := [8]) (d0 := 1) (O := [false, false, true, true, true, true, true, true, false, false, false, true]) (T := [(0, [.inr (.inl 82), .inl (.int 1)], []), (30, [.inr (.inl 82)], [.inr (.inl 32)]), (0, [.inr (.inl 82), .inl (.int 1)], []), (0, [.inr (.inl 83), .inl (.int (-1))], []), (1, [.inr (.inl 88), .inl (.int 1)], []), (1, [.inr (.inl 88), .inl (.int 1)], []), (30, [.inr (.inl 90)], [.inr (.inl 46)]), (30, [.inr (.inl 88)], [.inr (.inl 46)]), (0, [.inr (.inl 91), .inr (.inl 92)], []), (40, [.inr (.inl 89), .inr (.inl 93)], [.inr (.inl 46)]), (0, [.inr (.inl 84), .inl (.int 1)], [])]) (P := [(5, .inl (.int 512), .inr (.inl 84)), (3, .inr (.inl 82), .inl (.int 0)), (2, .inr (.inl 85), .inl (.int 512)), (6, .inr (.inl 82), .inl (.ref 512)), (2, .inr (.inl 86), .inl (.int (-9))), (1, .inr (.inl 86), .inl (.int (-14))), (4, .inl (.int 2), .inr (.inl 83)), (1, .inr (.inl 86), .inl (.int (-15))), (1, .inr (.inl 86), .inl (.int (-13))), (6, .inr (.inl 90), .inl (.ref 32)), (6, .inr (.inl 88), .inl (.ref 32)), (0, .inr (.inl 86), .inl (.int (-10))), (6, .inr (.inl 89), .inl (.ref 32))]) jm_ok22 (by decide +kernel) (by decide +kernel) hd F X1 X2 (fun F' hF hs => ?_)
  have b84 := hd_b (F := F) (F' := F') (k := 84) (hF 84 (by decide))
  have b82 := hd_b (F := F) (F' := F') (k := 82) (hF 82 (by decide))
  have t85 : sy_dv F' (.inr (.inl 85)) = .int ((sy_i F 82) + ((1 : Int32))) := hd_o (hs 0 _ rfl) b82 rfl rfl
  have a32 := hd_ba (F := F) (F' := F') (k := 32) (hF 32 (by decide))
  have t86 : sy_dv F' (.inr (.inl 86)) = .int ((sy_ai F 32).getD (sy_i F 82).toNatClampNeg 0) := hd_rd (hs 1 _ rfl) b82 a32
  have b83 := hd_b (F := F) (F' := F') (k := 83) (hF 83 (by decide))
  have t88 : sy_dv F' (.inr (.inl 88)) = .int ((sy_i F 83) + (((-1) : Int32))) := hd_o (hs 3 _ rfl) b83 rfl rfl
  have t90 : sy_dv F' (.inr (.inl 90)) = .int (((sy_i F 83) + (((-1) : Int32))) - ((1 : Int32))) := hd_o (hs 5 _ rfl) t88 rfl rfl
  have t89 : sy_dv F' (.inr (.inl 89)) = .int (((sy_i F 83) + (((-1) : Int32))) - ((1 : Int32))) := hd_o (hs 4 _ rfl) t88 rfl rfl
  have a46 := hd_ba (F := F) (F' := F') (k := 46) (hF 46 (by decide))
  have t91 : sy_dv F' (.inr (.inl 91)) = .int ((sy_ai F 46).getD (((sy_i F 83) + (((-1) : Int32))) - ((1 : Int32))).toNatClampNeg 0) := hd_rd (hs 6 _ rfl) t90 a46
  have t92 : sy_dv F' (.inr (.inl 92)) = .int ((sy_ai F 46).getD ((sy_i F 83) + (((-1) : Int32))).toNatClampNeg 0) := hd_rd (hs 7 _ rfl) t88 a46
  have t93 : sy_dv F' (.inr (.inl 93)) = .int (((sy_ai F 46).getD (((sy_i F 83) + (((-1) : Int32))) - ((1 : Int32))).toNatClampNeg 0) + ((sy_ai F 46).getD ((sy_i F 83) + (((-1) : Int32))).toNatClampNeg 0)) := hd_o (hs 8 _ rfl) t91 t92 rfl
  have t94 : sy_da F' (.inr (.inl 94)) = .inl (jm_upd (sy_ai F 46) (((sy_i F 83) + (((-1) : Int32))) - ((1 : Int32))).toNatClampNeg (((sy_ai F 46).getD (((sy_i F 83) + (((-1) : Int32))) - ((1 : Int32))).toNatClampNeg 0) + ((sy_ai F 46).getD ((sy_i F 83) + (((-1) : Int32))).toNatClampNeg 0))) := hd_up (hs 9 _ rfl) t89 t93 a46
  have t87 : sy_dv F' (.inr (.inl 87)) = .int ((sy_i F 82) + ((1 : Int32))) := hd_o (hs 2 _ rfl) b82 rfl rfl
  have t95 : sy_dv F' (.inr (.inl 95)) = .int ((sy_i F 84) + ((1 : Int32))) := hd_o (hs 10 _ rfl) b84 rfl rfl
  have hB' : iv_in F' iv_B0 := iv_in_eq hB (fun j hj => hF j (Nat.lt_of_lt_of_le hj (by decide +kernel)))
  refine ⟨List.forall_mem_cons.mpr ⟨hd_p5 rfl b84 (by have hc : ((512) : Int32).toInt = 512 := (by decide); omega), List.forall_mem_cons.mpr ⟨hd_p3 b82 rfl (by have hc : ((0) : Int32).toInt = 0 := (by decide); omega), List.forall_mem_cons.mpr ⟨hd_p2 t85 rfl (by have hc : ((512) : Int32).toInt = 512 := (by decide); omega), List.forall_mem_cons.mpr ⟨hd_pb b82 (by first | exact h3 | exact h3), List.forall_mem_cons.mpr ⟨hd_p2 t86 rfl (by have hc : (((-9)) : Int32).toInt = (-9) := (by decide); omega), List.forall_mem_cons.mpr ⟨hd_p1 t86 rfl (by have hc : (((-14)) : Int32).toInt = (-14) := (by decide); omega), List.forall_mem_cons.mpr ⟨hd_p4 rfl b83 (by have hc : ((2) : Int32).toInt = 2 := (by decide); omega), List.forall_mem_cons.mpr ⟨hd_p1 t86 rfl (by have hc : (((-15)) : Int32).toInt = (-15) := (by decide); omega), List.forall_mem_cons.mpr ⟨hd_p1 t86 rfl (by have hc : (((-13)) : Int32).toInt = (-13) := (by decide); omega), List.forall_mem_cons.mpr ⟨hd_pb t90 (by first | exact h9 | exact h9), List.forall_mem_cons.mpr ⟨hd_pb t88 (by first | exact h10 | exact h10), List.forall_mem_cons.mpr ⟨hd_p0 t86 rfl (by have hc : (((-10)) : Int32).toInt = (-10) := (by decide); omega), List.forall_mem_cons.mpr ⟨hd_pb t89 (by first | exact h12 | exact h12), fun _ h => absurd h List.not_mem_nil⟩⟩⟩⟩⟩⟩⟩⟩⟩⟩⟩⟩⟩, ?_⟩
  refine k _ ?_ ?_ ?_ ?_ ?_
  · exact fun j hj hn => (hd_keep hB' (Nat.lt_of_lt_of_le hj (by decide +kernel)) (by simp; omega)).trans (hF j (Nat.lt_of_lt_of_le hj (by decide)))
  · exact hd_ga (a := .inr (.inl 94)) (by decide +kernel) t94
  · exact hd_gi (x := .inr (.inl 87)) (by decide +kernel) t87
  · exact hd_gi (x := .inr (.inl 88)) (by decide +kernel) t88
  · exact hd_gi (x := .inr (.inl 95)) (by decide +kernel) t95
theorem j3wo_8_p6 {Ls : Nat} {xs : Nat → Int32} {d : Nat} {Q : Option Value → jm_h → Prop} (hd : 2 ≤ d) (F : Nat → sy_d) (X1 X2 : List jm_c) (hB : iv_in F iv_B0)
    (h0 : (sy_i F 84).toInt < 512)
    (h1 : 0 ≤ (sy_i F 82).toInt)
    (h2 : ((sy_i F 82) + ((1 : Int32))).toInt < 512)
    (h3 : 0 ≤ (sy_i F 82).toInt ∧ (sy_i F 82).toInt < 512)
    (h4 : ((sy_ai F 32).getD (sy_i F 82).toNatClampNeg 0).toInt < (-9))
    (h5 : ((sy_ai F 32).getD (sy_i F 82).toNatClampNeg 0).toInt ≠ (-14))
    (h6 : 2 ≤ (sy_i F 83).toInt)
    (h7 : ((sy_ai F 32).getD (sy_i F 82).toNatClampNeg 0).toInt ≠ (-15))
    (h8 : ((sy_ai F 32).getD (sy_i F 82).toNatClampNeg 0).toInt = (-13))
    (h9 : 0 ≤ ((sy_i F 83) - ((1 : Int32))).toInt ∧ ((sy_i F 83) - ((1 : Int32))).toInt < 32)
    (h10 : ((sy_ai F 46).getD ((sy_i F 83) - ((1 : Int32))).toNatClampNeg 0).toInt ≠ 0)
    (h11 : 0 ≤ (((sy_i F 83) + (((-1) : Int32))) - ((1 : Int32))).toInt ∧ (((sy_i F 83) + (((-1) : Int32))) - ((1 : Int32))).toInt < 32)
    (h12 : 0 ≤ ((sy_i F 83) + (((-1) : Int32))).toInt ∧ ((sy_i F 83) + (((-1) : Int32))).toInt < 32)
    (h13 : ((sy_ai F 32).getD (sy_i F 82).toNatClampNeg 0).toInt < (-12))
    (h14 : ((sy_ai F 46).getD ((sy_i F 83) + (((-1) : Int32))).toNatClampNeg 0).toInt ≠ 0)
    (h15 : ((sy_ai F 46).getD ((sy_i F 83) + (((-1) : Int32))).toNatClampNeg 0).toInt ≠ 0)
    (h16 : 0 ≤ (((sy_i F 83) + (((-1) : Int32))) - ((1 : Int32))).toInt ∧ (((sy_i F 83) + (((-1) : Int32))) - ((1 : Int32))).toInt < 32)
    (k : ∀ F1 : Nat → sy_d, (∀ j, j < 82 → j ≠ 46 → F1 j = F j) → F1 46 = .inr (.inl (jm_upd (sy_ai F 46) (((sy_i F 83) + (((-1) : Int32))) - ((1 : Int32))).toNatClampNeg (((sy_ai F 46).getD (((sy_i F 83) + (((-1) : Int32))) - ((1 : Int32))).toNatClampNeg 0) / ((sy_ai F 46).getD ((sy_i F 83) + (((-1) : Int32))).toNatClampNeg 0)))) → F1 82 = .inl (.int ((sy_i F 82) + ((1 : Int32)))) → F1 83 = .inl (.int ((sy_i F 83) + (((-1) : Int32)))) → F1 84 = .inl (.int ((sy_i F 84) + ((1 : Int32)))) → hd_W Ls xs d jm_M22 Q (8, sy_dL F1 [some (.inl (.ref 38)), some (.inl (.ref 20)), none, some (.inr (.inl 82)), some (.inr (.inl 83)), some (.inr (.inl 84)), none], sy_dS F1 [], sy_dh F1 X1 X2 (iv_H 3), 0, 0)) :
    hd_W Ls xs d jm_M22 Q (8, sy_dL F [some (.inl (.ref 38)), some (.inl (.ref 20)), none, some (.inr (.inl 82)), some (.inr (.inl 83)), some (.inr (.inl 84)), none], sy_dS F [], sy_dh F X1 X2 (iv_H 3), 0, 0) := by
  refine hd_run (s := 3) (nv := 85) (pc := 8) (L := [some (.inl (.ref 38)), some (.inl (.ref 20)), none, some (.inr (.inl 82)), some (.inr (.inl 83)), some (.inr (.inl 84)), none]) (S := []) (uh := hd_ov (iv_id 0 iv_B0) [(46, .inr (.inr (.inl 96)))]) (ul := [.inl (.inr (.inl 87)), .inl (.inr (.inl 90)), .inl (.inr (.inl 97))]) (f := true) (sp := [8]) (d0 := 1) (O := [false, false, true, true, true, true, true, false, true, true, true, true]) (T := [(0, [.inr (.inl 82), .inl (.int 1)], []), (30, [.inr (.inl 82)], [.inr (.inl 32)]), (0, [.inr (.inl 82), .inl (.int 1)], []), (1, [.inr (.inl 83), .inl (.int 1)], []), (30, [.inr (.inl 88)], [.inr (.inl 46)]), (0, [.inr (.inl 83), .inl (.int (-1))], []), (1, [.inr (.inl 90), .inl (.int 1)], []), (1, [.inr (.inl 90), .inl (.int 1)], []), (30, [.inr (.inl 92)], [.inr (.inl 46)]), (30, [.inr (.inl 90)], [.inr (.inl 46)]), (9, [.inr (.inl 93), .inr (.inl 94)], []), (40, [.inr (.inl 91), .inr (.inl 95)], [.inr (.inl 46)]), (0, [.inr (.inl 84), .inl (.int 1)], [])]) (P := [(5, .inl (.int 512), .inr (.inl 84)), (3, .inr (.inl 82), .inl (.int 0)), (2, .inr (.inl 85), .inl (.int 512)), (6, .inr (.inl 82), .inl (.ref 512)), (2, .inr (.inl 86), .inl (.int (-9))), (1, .inr (.inl 86), .inl (.int (-14))), (4, .inl (.int 2), .inr (.inl 83)), (1, .inr (.inl 86), .inl (.int (-15))), (0, .inr (.inl 86), .inl (.int (-13))), (6, .inr (.inl 88), .inl (.ref 32)), (1, .inr (.inl 89), .inl (.int 0)), (6, .inr (.inl 92), .inl (.ref 32)), (6, .inr (.inl 90), .inl (.ref 32)), (2, .inr (.inl 86), .inl (.int (-12))), (1, .inr (.inl 94), .inl (.int 0)), (1, .inr (.inl 94), .inl (.int 0)), (6, .inr (.inl 91), .inl (.ref 32))]) jm_ok22 (by decide +kernel) (by decide +kernel) hd F X1 X2 (fun F' hF hs => ?_)
  have b84 := hd_b (F := F) (F' := F') (k := 84) (hF 84 (by decide))
  have b82 := hd_b (F := F) (F' := F') (k := 82) (hF 82 (by decide))
  have t85 : sy_dv F' (.inr (.inl 85)) = .int ((sy_i F 82) + ((1 : Int32))) := hd_o (hs 0 _ rfl) b82 rfl rfl
  have a32 := hd_ba (F := F) (F' := F') (k := 32) (hF 32 (by decide))
  have t86 : sy_dv F' (.inr (.inl 86)) = .int ((sy_ai F 32).getD (sy_i F 82).toNatClampNeg 0) := hd_rd (hs 1 _ rfl) b82 a32
  have b83 := hd_b (F := F) (F' := F') (k := 83) (hF 83 (by decide))
  have t88 : sy_dv F' (.inr (.inl 88)) = .int ((sy_i F 83) - ((1 : Int32))) := hd_o (hs 3 _ rfl) b83 rfl rfl
  have a46 := hd_ba (F := F) (F' := F') (k := 46) (hF 46 (by decide))
  have t89 : sy_dv F' (.inr (.inl 89)) = .int ((sy_ai F 46).getD ((sy_i F 83) - ((1 : Int32))).toNatClampNeg 0) := hd_rd (hs 4 _ rfl) t88 a46
  have t90 : sy_dv F' (.inr (.inl 90)) = .int ((sy_i F 83) + (((-1) : Int32))) := hd_o (hs 5 _ rfl) b83 rfl rfl
  have t92 : sy_dv F' (.inr (.inl 92)) = .int (((sy_i F 83) + (((-1) : Int32))) - ((1 : Int32))) := hd_o (hs 7 _ rfl) t90 rfl rfl
  have t94 : sy_dv F' (.inr (.inl 94)) = .int ((sy_ai F 46).getD ((sy_i F 83) + (((-1) : Int32))).toNatClampNeg 0) := hd_rd (hs 9 _ rfl) t90 a46
  have t91 : sy_dv F' (.inr (.inl 91)) = .int (((sy_i F 83) + (((-1) : Int32))) - ((1 : Int32))) := hd_o (hs 6 _ rfl) t90 rfl rfl
  have t93 : sy_dv F' (.inr (.inl 93)) = .int ((sy_ai F 46).getD (((sy_i F 83) + (((-1) : Int32))) - ((1 : Int32))).toNatClampNeg 0) := hd_rd (hs 8 _ rfl) t92 a46
  have t95 : sy_dv F' (.inr (.inl 95)) = .int (((sy_ai F 46).getD (((sy_i F 83) + (((-1) : Int32))) - ((1 : Int32))).toNatClampNeg 0) / ((sy_ai F 46).getD ((sy_i F 83) + (((-1) : Int32))).toNatClampNeg 0)) := hd_o (hs 10 _ rfl) t93 t94 rfl
  have t96 : sy_da F' (.inr (.inl 96)) = .inl (jm_upd (sy_ai F 46) (((sy_i F 83) + (((-1) : Int32))) - ((1 : Int32))).toNatClampNeg (((sy_ai F 46).getD (((sy_i F 83) + (((-1) : Int32))) - ((1 : Int32))).toNatClampNeg 0) / ((sy_ai F 46).getD ((sy_i F 83) + (((-1) : Int32))).toNatClampNeg 0))) := hd_up (hs 11 _ rfl) t91 t95 a46
  have t87 : sy_dv F' (.inr (.inl 87)) = .int ((sy_i F 82) + ((1 : Int32))) := hd_o (hs 2 _ rfl) b82 rfl rfl
  have t97 : sy_dv F' (.inr (.inl 97)) = .int ((sy_i F 84) + ((1 : Int32))) := hd_o (hs 12 _ rfl) b84 rfl rfl
  have hB' : iv_in F' iv_B0 := iv_in_eq hB (fun j hj => hF j (Nat.lt_of_lt_of_le hj (by decide +kernel)))
  refine ⟨List.forall_mem_cons.mpr ⟨hd_p5 rfl b84 (by have hc : ((512) : Int32).toInt = 512 := (by decide); omega), List.forall_mem_cons.mpr ⟨hd_p3 b82 rfl (by have hc : ((0) : Int32).toInt = 0 := (by decide); omega), List.forall_mem_cons.mpr ⟨hd_p2 t85 rfl (by have hc : ((512) : Int32).toInt = 512 := (by decide); omega), List.forall_mem_cons.mpr ⟨hd_pb b82 (by first | exact h3 | exact h3), List.forall_mem_cons.mpr ⟨hd_p2 t86 rfl (by have hc : (((-9)) : Int32).toInt = (-9) := (by decide); omega), List.forall_mem_cons.mpr ⟨hd_p1 t86 rfl (by have hc : (((-14)) : Int32).toInt = (-14) := (by decide); omega), List.forall_mem_cons.mpr ⟨hd_p4 rfl b83 (by have hc : ((2) : Int32).toInt = 2 := (by decide); omega), List.forall_mem_cons.mpr ⟨hd_p1 t86 rfl (by have hc : (((-15)) : Int32).toInt = (-15) := (by decide); omega), List.forall_mem_cons.mpr ⟨hd_p0 t86 rfl (by have hc : (((-13)) : Int32).toInt = (-13) := (by decide); omega), List.forall_mem_cons.mpr ⟨hd_pb t88 (by first | exact h9 | exact h9), List.forall_mem_cons.mpr ⟨hd_p1 t89 rfl (by have hc : ((0) : Int32).toInt = 0 := (by decide); omega), List.forall_mem_cons.mpr ⟨hd_pb t92 (by first | exact h11 | exact h11), List.forall_mem_cons.mpr ⟨hd_pb t90 (by first | exact h12 | exact h12), List.forall_mem_cons.mpr ⟨hd_p2 t86 rfl (by have hc : (((-12)) : Int32).toInt = (-12) := (by decide); omega), List.forall_mem_cons.mpr ⟨hd_p1 t94 rfl (by have hc : ((0) : Int32).toInt = 0 := (by decide); omega), List.forall_mem_cons.mpr ⟨hd_p1 t94 rfl (by have hc : ((0) : Int32).toInt = 0 := (by decide); omega), List.forall_mem_cons.mpr ⟨hd_pb t91 (by first | exact h16 | exact h16), fun _ h => absurd h List.not_mem_nil⟩⟩⟩⟩⟩⟩⟩⟩⟩⟩⟩⟩⟩⟩⟩⟩⟩, ?_⟩
  refine k _ ?_ ?_ ?_ ?_ ?_
  · exact fun j hj hn => (hd_keep hB' (Nat.lt_of_lt_of_le hj (by decide +kernel)) (by simp; omega)).trans (hF j (Nat.lt_of_lt_of_le hj (by decide)))
  · exact hd_ga (a := .inr (.inl 96)) (by decide +kernel) t96
  · exact hd_gi (x := .inr (.inl 87)) (by decide +kernel) t87
  · exact hd_gi (x := .inr (.inl 90)) (by decide +kernel) t90
  · exact hd_gi (x := .inr (.inl 97)) (by decide +kernel) t97
theorem j3wo_8_p7 {Ls : Nat} {xs : Nat → Int32} {d : Nat} {Q : Option Value → jm_h → Prop} (hd : 2 ≤ d) (F : Nat → sy_d) (X1 X2 : List jm_c) (hB : iv_in F iv_B0)
    (h0 : (sy_i F 84).toInt < 512)
    (h1 : 0 ≤ (sy_i F 82).toInt)
    (h2 : ((sy_i F 82) + ((1 : Int32))).toInt < 512)
    (h3 : 0 ≤ (sy_i F 82).toInt ∧ (sy_i F 82).toInt < 512)
    (h4 : ((sy_ai F 32).getD (sy_i F 82).toNatClampNeg 0).toInt < (-9))
    (h5 : ((sy_ai F 32).getD (sy_i F 82).toNatClampNeg 0).toInt ≠ (-14))
    (h6 : 2 ≤ (sy_i F 83).toInt)
    (h7 : ((sy_ai F 32).getD (sy_i F 82).toNatClampNeg 0).toInt ≠ (-15))
    (h8 : ((sy_ai F 32).getD (sy_i F 82).toNatClampNeg 0).toInt = (-13))
    (h9 : 0 ≤ ((sy_i F 83) - ((1 : Int32))).toInt ∧ ((sy_i F 83) - ((1 : Int32))).toInt < 32)
    (h10 : ((sy_ai F 46).getD ((sy_i F 83) - ((1 : Int32))).toNatClampNeg 0).toInt ≠ 0)
    (h11 : 0 ≤ (((sy_i F 83) + (((-1) : Int32))) - ((1 : Int32))).toInt ∧ (((sy_i F 83) + (((-1) : Int32))) - ((1 : Int32))).toInt < 32)
    (h12 : 0 ≤ ((sy_i F 83) + (((-1) : Int32))).toInt ∧ ((sy_i F 83) + (((-1) : Int32))).toInt < 32)
    (h13 : ((sy_ai F 32).getD (sy_i F 82).toNatClampNeg 0).toInt < (-12))
    (h14 : ((sy_ai F 46).getD ((sy_i F 83) + (((-1) : Int32))).toNatClampNeg 0).toInt = 0)
    (h15 : 0 ≤ (((sy_i F 83) + (((-1) : Int32))) - ((1 : Int32))).toInt ∧ (((sy_i F 83) + (((-1) : Int32))) - ((1 : Int32))).toInt < 32)
    (k : ∀ F1 : Nat → sy_d, (∀ j, j < 82 → j ≠ 46 → F1 j = F j) → F1 46 = .inr (.inl (jm_upd (sy_ai F 46) (((sy_i F 83) + (((-1) : Int32))) - ((1 : Int32))).toNatClampNeg ((0 : Int32)))) → F1 82 = .inl (.int ((sy_i F 82) + ((1 : Int32)))) → F1 83 = .inl (.int ((sy_i F 83) + (((-1) : Int32)))) → F1 84 = .inl (.int ((sy_i F 84) + ((1 : Int32)))) → hd_W Ls xs d jm_M22 Q (8, sy_dL F1 [some (.inl (.ref 38)), some (.inl (.ref 20)), none, some (.inr (.inl 82)), some (.inr (.inl 83)), some (.inr (.inl 84)), none], sy_dS F1 [], sy_dh F1 X1 X2 (iv_H 3), 0, 0)) :
    hd_W Ls xs d jm_M22 Q (8, sy_dL F [some (.inl (.ref 38)), some (.inl (.ref 20)), none, some (.inr (.inl 82)), some (.inr (.inl 83)), some (.inr (.inl 84)), none], sy_dS F [], sy_dh F X1 X2 (iv_H 3), 0, 0) := by
  refine hd_run (s := 3) (nv := 85) (pc := 8) (L := [some (.inl (.ref 38)), some (.inl (.ref 20)), none, some (.inr (.inl 82)), some (.inr (.inl 83)), some (.inr (.inl 84)), none]) (S := []) (uh := hd_ov (iv_id 0 iv_B0) [(46, .inr (.inr (.inl 95)))]) (ul := [.inl (.inr (.inl 87)), .inl (.inr (.inl 90)), .inl (.inr (.inl 96))]) (f := true) (sp := [8]) (d0 := 1) (O := [false, false, true, true, true, true, true, false, true, true, true, false]) (T := [(0, [.inr (.inl 82), .inl (.int 1)], []), (30, [.inr (.inl 82)], [.inr (.inl 32)]), (0, [.inr (.inl 82), .inl (.int 1)], []), (1, [.inr (.inl 83), .inl (.int 1)], []), (30, [.inr (.inl 88)], [.inr (.inl 46)]), (0, [.inr (.inl 83), .inl (.int (-1))], []), (1, [.inr (.inl 90), .inl (.int 1)], []), (1, [.inr (.inl 90), .inl (.int 1)], []), (30, [.inr (.inl 92)], [.inr (.inl 46)]), (30, [.inr (.inl 90)], [.inr (.inl 46)]), (40, [.inr (.inl 91), .inl (.int 0)], [.inr (.inl 46)]), (0, [.inr (.inl 84), .inl (.int 1)], [])]) (P := [(5, .inl (.int 512), .inr (.inl 84)), (3, .inr (.inl 82), .inl (.int 0)), (2, .inr (.inl 85), .inl (.int 512)), (6, .inr (.inl 82), .inl (.ref 512)), (2, .inr (.inl 86), .inl (.int (-9))), (1, .inr (.inl 86), .inl (.int (-14))), (4, .inl (.int 2), .inr (.inl 83)), (1, .inr (.inl 86), .inl (.int (-15))), (0, .inr (.inl 86), .inl (.int (-13))), (6, .inr (.inl 88), .inl (.ref 32)), (1, .inr (.inl 89), .inl (.int 0)), (6, .inr (.inl 92), .inl (.ref 32)), (6, .inr (.inl 90), .inl (.ref 32)), (2, .inr (.inl 86), .inl (.int (-12))), (0, .inr (.inl 94), .inl (.int 0)), (6, .inr (.inl 91), .inl (.ref 32))]) jm_ok22 (by decide +kernel) (by decide +kernel) hd F X1 X2 (fun F' hF hs => ?_)
  have b84 := hd_b (F := F) (F' := F') (k := 84) (hF 84 (by decide))
  have b82 := hd_b (F := F) (F' := F') (k := 82) (hF 82 (by decide))
  have t85 : sy_dv F' (.inr (.inl 85)) = .int ((sy_i F 82) + ((1 : Int32))) := hd_o (hs 0 _ rfl) b82 rfl rfl
  have a32 := hd_ba (F := F) (F' := F') (k := 32) (hF 32 (by decide))
  have t86 : sy_dv F' (.inr (.inl 86)) = .int ((sy_ai F 32).getD (sy_i F 82).toNatClampNeg 0) := hd_rd (hs 1 _ rfl) b82 a32
  have b83 := hd_b (F := F) (F' := F') (k := 83) (hF 83 (by decide))
  have t88 : sy_dv F' (.inr (.inl 88)) = .int ((sy_i F 83) - ((1 : Int32))) := hd_o (hs 3 _ rfl) b83 rfl rfl
  have a46 := hd_ba (F := F) (F' := F') (k := 46) (hF 46 (by decide))
  have t89 : sy_dv F' (.inr (.inl 89)) = .int ((sy_ai F 46).getD ((sy_i F 83) - ((1 : Int32))).toNatClampNeg 0) := hd_rd (hs 4 _ rfl) t88 a46
  have t90 : sy_dv F' (.inr (.inl 90)) = .int ((sy_i F 83) + (((-1) : Int32))) := hd_o (hs 5 _ rfl) b83 rfl rfl
  have t92 : sy_dv F' (.inr (.inl 92)) = .int (((sy_i F 83) + (((-1) : Int32))) - ((1 : Int32))) := hd_o (hs 7 _ rfl) t90 rfl rfl
  have t94 : sy_dv F' (.inr (.inl 94)) = .int ((sy_ai F 46).getD ((sy_i F 83) + (((-1) : Int32))).toNatClampNeg 0) := hd_rd (hs 9 _ rfl) t90 a46
  have t91 : sy_dv F' (.inr (.inl 91)) = .int (((sy_i F 83) + (((-1) : Int32))) - ((1 : Int32))) := hd_o (hs 6 _ rfl) t90 rfl rfl
  have t95 : sy_da F' (.inr (.inl 95)) = .inl (jm_upd (sy_ai F 46) (((sy_i F 83) + (((-1) : Int32))) - ((1 : Int32))).toNatClampNeg ((0 : Int32))) := hd_up (hs 10 _ rfl) t91 rfl a46
  have t87 : sy_dv F' (.inr (.inl 87)) = .int ((sy_i F 82) + ((1 : Int32))) := hd_o (hs 2 _ rfl) b82 rfl rfl
  have t96 : sy_dv F' (.inr (.inl 96)) = .int ((sy_i F 84) + ((1 : Int32))) := hd_o (hs 11 _ rfl) b84 rfl rfl
  have hB' : iv_in F' iv_B0 := iv_in_eq hB (fun j hj => hF j (Nat.lt_of_lt_of_le hj (by decide +kernel)))
  refine ⟨List.forall_mem_cons.mpr ⟨hd_p5 rfl b84 (by have hc : ((512) : Int32).toInt = 512 := (by decide); omega), List.forall_mem_cons.mpr ⟨hd_p3 b82 rfl (by have hc : ((0) : Int32).toInt = 0 := (by decide); omega), List.forall_mem_cons.mpr ⟨hd_p2 t85 rfl (by have hc : ((512) : Int32).toInt = 512 := (by decide); omega), List.forall_mem_cons.mpr ⟨hd_pb b82 (by first | exact h3 | exact h3), List.forall_mem_cons.mpr ⟨hd_p2 t86 rfl (by have hc : (((-9)) : Int32).toInt = (-9) := (by decide); omega), List.forall_mem_cons.mpr ⟨hd_p1 t86 rfl (by have hc : (((-14)) : Int32).toInt = (-14) := (by decide); omega), List.forall_mem_cons.mpr ⟨hd_p4 rfl b83 (by have hc : ((2) : Int32).toInt = 2 := (by decide); omega), List.forall_mem_cons.mpr ⟨hd_p1 t86 rfl (by have hc : (((-15)) : Int32).toInt = (-15) := (by decide); omega), List.forall_mem_cons.mpr ⟨hd_p0 t86 rfl (by have hc : (((-13)) : Int32).toInt = (-13) := (by decide); omega), List.forall_mem_cons.mpr ⟨hd_pb t88 (by first | exact h9 | exact h9), List.forall_mem_cons.mpr ⟨hd_p1 t89 rfl (by have hc : ((0) : Int32).toInt = 0 := (by decide); omega), List.forall_mem_cons.mpr ⟨hd_pb t92 (by first | exact h11 | exact h11), List.forall_mem_cons.mpr ⟨hd_pb t90 (by first | exact h12 | exact h12), List.forall_mem_cons.mpr ⟨hd_p2 t86 rfl (by have hc : (((-12)) : Int32).toInt = (-12) := (by decide); omega), List.forall_mem_cons.mpr ⟨hd_p0 t94 rfl (by have hc : ((0) : Int32).toInt = 0 := (by decide); omega), List.forall_mem_cons.mpr ⟨hd_pb t91 (by first | exact h15 | exact h15), fun _ h => absurd h List.not_mem_nil⟩⟩⟩⟩⟩⟩⟩⟩⟩⟩⟩⟩⟩⟩⟩⟩, ?_⟩
  refine k _ ?_ ?_ ?_ ?_ ?_
  · exact fun j hj hn => (hd_keep hB' (Nat.lt_of_lt_of_le hj (by decide +kernel)) (by simp; omega)).trans (hF j (Nat.lt_of_lt_of_le hj (by decide)))
  · exact hd_ga (a := .inr (.inl 95)) (by decide +kernel) t95
  · exact hd_gi (x := .inr (.inl 87)) (by decide +kernel) t87
  · exact hd_gi (x := .inr (.inl 90)) (by decide +kernel) t90
  · exact hd_gi (x := .inr (.inl 96)) (by decide +kernel) t96
theorem j3wo_8_p8 {Ls : Nat} {xs : Nat → Int32} {d : Nat} {Q : Option Value → jm_h → Prop} (hd : 2 ≤ d) (F : Nat → sy_d) (X1 X2 : List jm_c) (hB : iv_in F iv_B0)
    (h0 : (sy_i F 84).toInt < 512)
    (h1 : 0 ≤ (sy_i F 82).toInt)
    (h2 : ((sy_i F 82) + ((1 : Int32))).toInt < 512)
    (h3 : 0 ≤ (sy_i F 82).toInt ∧ (sy_i F 82).toInt < 512)
    (h4 : ((sy_ai F 32).getD (sy_i F 82).toNatClampNeg 0).toInt < (-9))
    (h5 : ((sy_ai F 32).getD (sy_i F 82).toNatClampNeg 0).toInt ≠ (-14))
    (h6 : 2 ≤ (sy_i F 83).toInt)
    (h7 : ((sy_ai F 32).getD (sy_i F 82).toNatClampNeg 0).toInt ≠ (-15))
    (h8 : ((sy_ai F 32).getD (sy_i F 82).toNatClampNeg 0).toInt = (-13))
    (h9 : 0 ≤ ((sy_i F 83) - ((1 : Int32))).toInt ∧ ((sy_i F 83) - ((1 : Int32))).toInt < 32)
    (h10 : ((sy_ai F 46).getD ((sy_i F 83) - ((1 : Int32))).toNatClampNeg 0).toInt = 0)
    (k : ∀ F1 : Nat → sy_d, (∀ j, j < 82 → True → F1 j = F j) → Q (some (.int ((0 : Int32)))) (sy_dh F1 X1 X2 (iv_H 3))) :
    hd_W Ls xs d jm_M22 Q (8, sy_dL F [some (.inl (.ref 38)), some (.inl (.ref 20)), none, some (.inr (.inl 82)), some (.inr (.inl 83)), some (.inr (.inl 84)), none], sy_dS F [], sy_dh F X1 X2 (iv_H 3), 0, 0) := by
  refine hd_ret (s := 3) (nv := 85) (v := some (.inl (.int 0))) (uh := hd_ov (iv_id 0 iv_B0) []) (f := true) (sp := [8]) (d0 := 1) (O := [false, false, true, true, true, true, true, false, false]) (T := [(0, [.inr (.inl 82), .inl (.int 1)], []), (30, [.inr (.inl 82)], [.inr (.inl 32)]), (0, [.inr (.inl 82), .inl (.int 1)], []), (1, [.inr (.inl 83), .inl (.int 1)], []), (30, [.inr (.inl 88)], [.inr (.inl 46)])]) (P := [(5, .inl (.int 512), .inr (.inl 84)), (3, .inr (.inl 82), .inl (.int 0)), (2, .inr (.inl 85), .inl (.int 512)), (6, .inr (.inl 82), .inl (.ref 512)), (2, .inr (.inl 86), .inl (.int (-9))), (1, .inr (.inl 86), .inl (.int (-14))), (4, .inl (.int 2), .inr (.inl 83)), (1, .inr (.inl 86), .inl (.int (-15))), (0, .inr (.inl 86), .inl (.int (-13))), (6, .inr (.inl 88), .inl (.ref 32)), (0, .inr (.inl 89), .inl (.int 0))]) jm_ok22 (by decide +kernel) (by decide +kernel) hd F X1 X2 (fun F' hF hs => ?_)
  have b84 := hd_b (F := F) (F' := F') (k := 84) (hF 84 (by decide))
  have b82 := hd_b (F := F) (F' := F') (k := 82) (hF 82 (by decide))
  have t85 : sy_dv F' (.inr (.inl 85)) = .int ((sy_i F 82) + ((1 : Int32))) := hd_o (hs 0 _ rfl) b82 rfl rfl
  have a32 := hd_ba (F := F) (F' := F') (k := 32) (hF 32 (by decide))
  have t86 : sy_dv F' (.inr (.inl 86)) = .int ((sy_ai F 32).getD (sy_i F 82).toNatClampNeg 0) := hd_rd (hs 1 _ rfl) b82 a32
  have b83 := hd_b (F := F) (F' := F') (k := 83) (hF 83 (by decide))
  have t88 : sy_dv F' (.inr (.inl 88)) = .int ((sy_i F 83) - ((1 : Int32))) := hd_o (hs 3 _ rfl) b83 rfl rfl
  have a46 := hd_ba (F := F) (F' := F') (k := 46) (hF 46 (by decide))
  have t89 : sy_dv F' (.inr (.inl 89)) = .int ((sy_ai F 46).getD ((sy_i F 83) - ((1 : Int32))).toNatClampNeg 0) := hd_rd (hs 4 _ rfl) t88 a46
  have hB' : iv_in F' iv_B0 := iv_in_eq hB (fun j hj => hF j (Nat.lt_of_lt_of_le hj (by decide +kernel)))
  refine ⟨List.forall_mem_cons.mpr ⟨hd_p5 rfl b84 (by have hc : ((512) : Int32).toInt = 512 := (by decide); omega), List.forall_mem_cons.mpr ⟨hd_p3 b82 rfl (by have hc : ((0) : Int32).toInt = 0 := (by decide); omega), List.forall_mem_cons.mpr ⟨hd_p2 t85 rfl (by have hc : ((512) : Int32).toInt = 512 := (by decide); omega), List.forall_mem_cons.mpr ⟨hd_pb b82 (by first | exact h3 | exact h3), List.forall_mem_cons.mpr ⟨hd_p2 t86 rfl (by have hc : (((-9)) : Int32).toInt = (-9) := (by decide); omega), List.forall_mem_cons.mpr ⟨hd_p1 t86 rfl (by have hc : (((-14)) : Int32).toInt = (-14) := (by decide); omega), List.forall_mem_cons.mpr ⟨hd_p4 rfl b83 (by have hc : ((2) : Int32).toInt = 2 := (by decide); omega), List.forall_mem_cons.mpr ⟨hd_p1 t86 rfl (by have hc : (((-15)) : Int32).toInt = (-15) := (by decide); omega), List.forall_mem_cons.mpr ⟨hd_p0 t86 rfl (by have hc : (((-13)) : Int32).toInt = (-13) := (by decide); omega), List.forall_mem_cons.mpr ⟨hd_pb t88 (by first | exact h9 | exact h9), List.forall_mem_cons.mpr ⟨hd_p0 t89 rfl (by have hc : ((0) : Int32).toInt = 0 := (by decide); omega), fun _ h => absurd h List.not_mem_nil⟩⟩⟩⟩⟩⟩⟩⟩⟩⟩⟩, ?_⟩
  refine k _ ?_
  · exact fun j hj _ => (hd_keep hB' (Nat.lt_of_lt_of_le hj (by decide +kernel)) (by simp)).trans (hF j (Nat.lt_of_lt_of_le hj (by decide)))
theorem j3wo_8_p9 {Ls : Nat} {xs : Nat → Int32} {d : Nat} {Q : Option Value → jm_h → Prop} (hd : 2 ≤ d) (F : Nat → sy_d) (X1 X2 : List jm_c) (hB : iv_in F iv_B0)
    (h0 : (sy_i F 84).toInt < 512)
    (h1 : 0 ≤ (sy_i F 82).toInt)
    (h2 : ((sy_i F 82) + ((1 : Int32))).toInt < 512)
    (h3 : 0 ≤ (sy_i F 82).toInt ∧ (sy_i F 82).toInt < 512)
    (h4 : ((sy_ai F 32).getD (sy_i F 82).toNatClampNeg 0).toInt < (-9))
    (h5 : ((sy_ai F 32).getD (sy_i F 82).toNatClampNeg 0).toInt ≠ (-14))
    (h6 : 2 ≤ (sy_i F 83).toInt)
    (h7 : ((sy_ai F 32).getD (sy_i F 82).toNatClampNeg 0).toInt = (-15))
    (h8 : 0 ≤ ((sy_i F 83) + (((-2) : Int32))).toInt ∧ ((sy_i F 83) + (((-2) : Int32))).toInt < 32)
    (h9 : 0 ≤ (((sy_i F 83) + (((-2) : Int32))) + ((1 : Int32))).toInt ∧ (((sy_i F 83) + (((-2) : Int32))) + ((1 : Int32))).toInt < 32)
    (h10 : ((sy_ai F 46).getD (((sy_i F 83) + (((-2) : Int32))) + ((1 : Int32))).toNatClampNeg 0).toInt ≤ ((sy_ai F 46).getD ((sy_i F 83) + (((-2) : Int32))).toNatClampNeg 0).toInt)
    (h11 : 0 ≤ ((sy_i F 82) + ((1 : Int32))).toInt ∧ ((sy_i F 82) + ((1 : Int32))).toInt < 512)
    (k : ∀ F1 : Nat → sy_d, (∀ j, j < 82 → True → F1 j = F j) → F1 82 = .inl (.int ((sy_ai F 32).getD ((sy_i F 82) + ((1 : Int32))).toNatClampNeg 0)) → F1 83 = .inl (.int ((sy_i F 83) + (((-2) : Int32)))) → F1 84 = .inl (.int ((sy_i F 84) + ((1 : Int32)))) → hd_W Ls xs d jm_M22 Q (8, sy_dL F1 [some (.inl (.ref 38)), some (.inl (.ref 20)), none, some (.inr (.inl 82)), some (.inr (.inl 83)), some (.inr (.inl 84)), none], sy_dS F1 [], sy_dh F1 X1 X2 (iv_H 3), 0, 0)) :
    hd_W Ls xs d jm_M22 Q (8, sy_dL F [some (.inl (.ref 38)), some (.inl (.ref 20)), none, some (.inr (.inl 82)), some (.inr (.inl 83)), some (.inr (.inl 84)), none], sy_dS F [], sy_dh F X1 X2 (iv_H 3), 0, 0) := by
  refine hd_run (s := 3) (nv := 85) (pc := 8) (L := [some (.inl (.ref 38)), some (.inl (.ref 20)), none, some (.inr (.inl 82)), some (.inr (.inl 83)), some (.inr (.inl 84)), none]) (S := []) (uh := hd_ov (iv_id 0 iv_B0) []) (ul := [.inl (.inr (.inl 92)), .inl (.inr (.inl 88)), .inl (.inr (.inl 93))]) (f := true) (sp := [8]) (d0 := 1) (O := [false, false, true, true, true, true, false, true]) (T := [(0, [.inr (.inl 82), .inl (.int 1)], []), (30, [.inr (.inl 82)], [.inr (.inl 32)]), (0, [.inr (.inl 82), .inl (.int 1)], []), (0, [.inr (.inl 83), .inl (.int (-2))], []), (30, [.inr (.inl 88)], [.inr (.inl 46)]), (0, [.inr (.inl 88), .inl (.int 1)], []), (30, [.inr (.inl 90)], [.inr (.inl 46)]), (30, [.inr (.inl 87)], [.inr (.inl 32)]), (0, [.inr (.inl 84), .inl (.int 1)], [])]) (P := [(5, .inl (.int 512), .inr (.inl 84)), (3, .inr (.inl 82), .inl (.int 0)), (2, .inr (.inl 85), .inl (.int 512)), (6, .inr (.inl 82), .inl (.ref 512)), (2, .inr (.inl 86), .inl (.int (-9))), (1, .inr (.inl 86), .inl (.int (-14))), (4, .inl (.int 2), .inr (.inl 83)), (0, .inr (.inl 86), .inl (.int (-15))), (6, .inr (.inl 88), .inl (.ref 32)), (6, .inr (.inl 90), .inl (.ref 32)), (4, .inr (.inl 91), .inr (.inl 89)), (6, .inr (.inl 87), .inl (.ref 512))]) jm_ok22 (by decide +kernel) (by decide +kernel) hd F X1 X2 (fun F' hF hs => ?_)
  have b84 := hd_b (F := F) (F' := F') (k := 84) (hF 84 (by decide))
  have b82 := hd_b (F := F) (F' := F') (k := 82) (hF 82 (by decide))
  have t85 : sy_dv F' (.inr (.inl 85)) = .int ((sy_i F 82) + ((1 : Int32))) := hd_o (hs 0 _ rfl) b82 rfl rfl
  have a32 := hd_ba (F := F) (F' := F') (k := 32) (hF 32 (by decide))
  have t86 : sy_dv F' (.inr (.inl 86)) = .int ((sy_ai F 32).getD (sy_i F 82).toNatClampNeg 0) := hd_rd (hs 1 _ rfl) b82 a32
  have b83 := hd_b (F := F) (F' := F') (k := 83) (hF 83 (by decide))
  have t88 : sy_dv F' (.inr (.inl 88)) = .int ((sy_i F 83) + (((-2) : Int32))) := hd_o (hs 3 _ rfl) b83 rfl rfl
  have t90 : sy_dv F' (.inr (.inl 90)) = .int (((sy_i F 83) + (((-2) : Int32))) + ((1 : Int32))) := hd_o (hs 5 _ rfl) t88 rfl rfl
  have a46 := hd_ba (F := F) (F' := F') (k := 46) (hF 46 (by decide))
  have t91 : sy_dv F' (.inr (.inl 91)) = .int ((sy_ai F 46).getD (((sy_i F 83) + (((-2) : Int32))) + ((1 : Int32))).toNatClampNeg 0) := hd_rd (hs 6 _ rfl) t90 a46
  have t89 : sy_dv F' (.inr (.inl 89)) = .int ((sy_ai F 46).getD ((sy_i F 83) + (((-2) : Int32))).toNatClampNeg 0) := hd_rd (hs 4 _ rfl) t88 a46
  have t87 : sy_dv F' (.inr (.inl 87)) = .int ((sy_i F 82) + ((1 : Int32))) := hd_o (hs 2 _ rfl) b82 rfl rfl
  have t92 : sy_dv F' (.inr (.inl 92)) = .int ((sy_ai F 32).getD ((sy_i F 82) + ((1 : Int32))).toNatClampNeg 0) := hd_rd (hs 7 _ rfl) t87 a32
  have t93 : sy_dv F' (.inr (.inl 93)) = .int ((sy_i F 84) + ((1 : Int32))) := hd_o (hs 8 _ rfl) b84 rfl rfl
  have hB' : iv_in F' iv_B0 := iv_in_eq hB (fun j hj => hF j (Nat.lt_of_lt_of_le hj (by decide +kernel)))
  refine ⟨List.forall_mem_cons.mpr ⟨hd_p5 rfl b84 (by have hc : ((512) : Int32).toInt = 512 := (by decide); omega), List.forall_mem_cons.mpr ⟨hd_p3 b82 rfl (by have hc : ((0) : Int32).toInt = 0 := (by decide); omega), List.forall_mem_cons.mpr ⟨hd_p2 t85 rfl (by have hc : ((512) : Int32).toInt = 512 := (by decide); omega), List.forall_mem_cons.mpr ⟨hd_pb b82 (by first | exact h3 | exact h3), List.forall_mem_cons.mpr ⟨hd_p2 t86 rfl (by have hc : (((-9)) : Int32).toInt = (-9) := (by decide); omega), List.forall_mem_cons.mpr ⟨hd_p1 t86 rfl (by have hc : (((-14)) : Int32).toInt = (-14) := (by decide); omega), List.forall_mem_cons.mpr ⟨hd_p4 rfl b83 (by have hc : ((2) : Int32).toInt = 2 := (by decide); omega), List.forall_mem_cons.mpr ⟨hd_p0 t86 rfl (by have hc : (((-15)) : Int32).toInt = (-15) := (by decide); omega), List.forall_mem_cons.mpr ⟨hd_pb t88 (by first | exact h8 | exact h8), List.forall_mem_cons.mpr ⟨hd_pb t90 (by first | exact h9 | exact h9), List.forall_mem_cons.mpr ⟨hd_p4 t91 t89 h10, List.forall_mem_cons.mpr ⟨hd_pb t87 (by first | exact h11 | exact h11), fun _ h => absurd h List.not_mem_nil⟩⟩⟩⟩⟩⟩⟩⟩⟩⟩⟩⟩, ?_⟩
  refine k _ ?_ ?_ ?_ ?_
  · exact fun j hj _ => (hd_keep hB' (Nat.lt_of_lt_of_le hj (by decide +kernel)) (by simp)).trans (hF j (Nat.lt_of_lt_of_le hj (by decide)))
  · exact hd_gi (x := .inr (.inl 92)) (by decide +kernel) t92
  · exact hd_gi (x := .inr (.inl 88)) (by decide +kernel) t88
  · exact hd_gi (x := .inr (.inl 93)) (by decide +kernel) t93
theorem j3wo_8_p10 {Ls : Nat} {xs : Nat → Int32} {d : Nat} {Q : Option Value → jm_h → Prop} (hd : 2 ≤ d) (F : Nat → sy_d) (X1 X2 : List jm_c) (hB : iv_in F iv_B0)
    (h0 : (sy_i F 84).toInt < 512)
    (h1 : 0 ≤ (sy_i F 82).toInt)
    (h2 : ((sy_i F 82) + ((1 : Int32))).toInt < 512)
    (h3 : 0 ≤ (sy_i F 82).toInt ∧ (sy_i F 82).toInt < 512)
    (h4 : ((sy_ai F 32).getD (sy_i F 82).toNatClampNeg 0).toInt < (-9))
    (h5 : ((sy_ai F 32).getD (sy_i F 82).toNatClampNeg 0).toInt ≠ (-14))
    (h6 : 2 ≤ (sy_i F 83).toInt)
    (h7 : ((sy_ai F 32).getD (sy_i F 82).toNatClampNeg 0).toInt = (-15))
    (h8 : 0 ≤ ((sy_i F 83) + (((-2) : Int32))).toInt ∧ ((sy_i F 83) + (((-2) : Int32))).toInt < 32)
    (h9 : 0 ≤ (((sy_i F 83) + (((-2) : Int32))) + ((1 : Int32))).toInt ∧ (((sy_i F 83) + (((-2) : Int32))) + ((1 : Int32))).toInt < 32)
    (h10 : ((sy_ai F 46).getD ((sy_i F 83) + (((-2) : Int32))).toNatClampNeg 0).toInt < ((sy_ai F 46).getD (((sy_i F 83) + (((-2) : Int32))) + ((1 : Int32))).toNatClampNeg 0).toInt)
    (k : ∀ F1 : Nat → sy_d, (∀ j, j < 82 → True → F1 j = F j) → F1 82 = .inl (.int (((sy_i F 82) + ((1 : Int32))) + ((1 : Int32)))) → F1 83 = .inl (.int ((sy_i F 83) + (((-2) : Int32)))) → F1 84 = .inl (.int ((sy_i F 84) + ((1 : Int32)))) → hd_W Ls xs d jm_M22 Q (8, sy_dL F1 [some (.inl (.ref 38)), some (.inl (.ref 20)), none, some (.inr (.inl 82)), some (.inr (.inl 83)), some (.inr (.inl 84)), none], sy_dS F1 [], sy_dh F1 X1 X2 (iv_H 3), 0, 0)) :
    hd_W Ls xs d jm_M22 Q (8, sy_dL F [some (.inl (.ref 38)), some (.inl (.ref 20)), none, some (.inr (.inl 82)), some (.inr (.inl 83)), some (.inr (.inl 84)), none], sy_dS F [], sy_dh F X1 X2 (iv_H 3), 0, 0) := by
  refine hd_run (s := 3) (nv := 85) (pc := 8) (L := [some (.inl (.ref 38)), some (.inl (.ref 20)), none, some (.inr (.inl 82)), some (.inr (.inl 83)), some (.inr (.inl 84)), none]) (S := []) (uh := hd_ov (iv_id 0 iv_B0) []) (ul := [.inl (.inr (.inl 92)), .inl (.inr (.inl 88)), .inl (.inr (.inl 93))]) (f := true) (sp := [8]) (d0 := 1) (O := [false, false, true, true, true, true, false, false]) (T := [(0, [.inr (.inl 82), .inl (.int 1)], []), (30, [.inr (.inl 82)], [.inr (.inl 32)]), (0, [.inr (.inl 82), .inl (.int 1)], []), (0, [.inr (.inl 83), .inl (.int (-2))], []), (30, [.inr (.inl 88)], [.inr (.inl 46)]), (0, [.inr (.inl 88), .inl (.int 1)], []), (30, [.inr (.inl 90)], [.inr (.inl 46)]), (0, [.inr (.inl 87), .inl (.int 1)], []), (0, [.inr (.inl 84), .inl (.int 1)], [])]) (P := [(5, .inl (.int 512), .inr (.inl 84)), (3, .inr (.inl 82), .inl (.int 0)), (2, .inr (.inl 85), .inl (.int 512)), (6, .inr (.inl 82), .inl (.ref 512)), (2, .inr (.inl 86), .inl (.int (-9))), (1, .inr (.inl 86), .inl (.int (-14))), (4, .inl (.int 2), .inr (.inl 83)), (0, .inr (.inl 86), .inl (.int (-15))), (6, .inr (.inl 88), .inl (.ref 32)), (6, .inr (.inl 90), .inl (.ref 32)), (5, .inr (.inl 91), .inr (.inl 89))]) jm_ok22 (by decide +kernel) (by decide +kernel) hd F X1 X2 (fun F' hF hs => ?_)
  have b84 := hd_b (F := F) (F' := F') (k := 84) (hF 84 (by decide))
  have b82 := hd_b (F := F) (F' := F') (k := 82) (hF 82 (by decide))
  have t85 : sy_dv F' (.inr (.inl 85)) = .int ((sy_i F 82) + ((1 : Int32))) := hd_o (hs 0 _ rfl) b82 rfl rfl
  have a32 := hd_ba (F := F) (F' := F') (k := 32) (hF 32 (by decide))
  have t86 : sy_dv F' (.inr (.inl 86)) = .int ((sy_ai F 32).getD (sy_i F 82).toNatClampNeg 0) := hd_rd (hs 1 _ rfl) b82 a32
  have b83 := hd_b (F := F) (F' := F') (k := 83) (hF 83 (by decide))
  have t88 : sy_dv F' (.inr (.inl 88)) = .int ((sy_i F 83) + (((-2) : Int32))) := hd_o (hs 3 _ rfl) b83 rfl rfl
  have t90 : sy_dv F' (.inr (.inl 90)) = .int (((sy_i F 83) + (((-2) : Int32))) + ((1 : Int32))) := hd_o (hs 5 _ rfl) t88 rfl rfl
  have a46 := hd_ba (F := F) (F' := F') (k := 46) (hF 46 (by decide))
  have t91 : sy_dv F' (.inr (.inl 91)) = .int ((sy_ai F 46).getD (((sy_i F 83) + (((-2) : Int32))) + ((1 : Int32))).toNatClampNeg 0) := hd_rd (hs 6 _ rfl) t90 a46
  have t89 : sy_dv F' (.inr (.inl 89)) = .int ((sy_ai F 46).getD ((sy_i F 83) + (((-2) : Int32))).toNatClampNeg 0) := hd_rd (hs 4 _ rfl) t88 a46
  have t87 : sy_dv F' (.inr (.inl 87)) = .int ((sy_i F 82) + ((1 : Int32))) := hd_o (hs 2 _ rfl) b82 rfl rfl
  have t92 : sy_dv F' (.inr (.inl 92)) = .int (((sy_i F 82) + ((1 : Int32))) + ((1 : Int32))) := hd_o (hs 7 _ rfl) t87 rfl rfl
  have t93 : sy_dv F' (.inr (.inl 93)) = .int ((sy_i F 84) + ((1 : Int32))) := hd_o (hs 8 _ rfl) b84 rfl rfl
  have hB' : iv_in F' iv_B0 := iv_in_eq hB (fun j hj => hF j (Nat.lt_of_lt_of_le hj (by decide +kernel)))
  refine ⟨List.forall_mem_cons.mpr ⟨hd_p5 rfl b84 (by have hc : ((512) : Int32).toInt = 512 := (by decide); omega), List.forall_mem_cons.mpr ⟨hd_p3 b82 rfl (by have hc : ((0) : Int32).toInt = 0 := (by decide); omega), List.forall_mem_cons.mpr ⟨hd_p2 t85 rfl (by have hc : ((512) : Int32).toInt = 512 := (by decide); omega), List.forall_mem_cons.mpr ⟨hd_pb b82 (by first | exact h3 | exact h3), List.forall_mem_cons.mpr ⟨hd_p2 t86 rfl (by have hc : (((-9)) : Int32).toInt = (-9) := (by decide); omega), List.forall_mem_cons.mpr ⟨hd_p1 t86 rfl (by have hc : (((-14)) : Int32).toInt = (-14) := (by decide); omega), List.forall_mem_cons.mpr ⟨hd_p4 rfl b83 (by have hc : ((2) : Int32).toInt = 2 := (by decide); omega), List.forall_mem_cons.mpr ⟨hd_p0 t86 rfl (by have hc : (((-15)) : Int32).toInt = (-15) := (by decide); omega), List.forall_mem_cons.mpr ⟨hd_pb t88 (by first | exact h8 | exact h8), List.forall_mem_cons.mpr ⟨hd_pb t90 (by first | exact h9 | exact h9), List.forall_mem_cons.mpr ⟨hd_p5 t91 t89 h10, fun _ h => absurd h List.not_mem_nil⟩⟩⟩⟩⟩⟩⟩⟩⟩⟩⟩, ?_⟩
  refine k _ ?_ ?_ ?_ ?_
  · exact fun j hj _ => (hd_keep hB' (Nat.lt_of_lt_of_le hj (by decide +kernel)) (by simp)).trans (hF j (Nat.lt_of_lt_of_le hj (by decide)))
  · exact hd_gi (x := .inr (.inl 92)) (by decide +kernel) t92
  · exact hd_gi (x := .inr (.inl 88)) (by decide +kernel) t88
  · exact hd_gi (x := .inr (.inl 93)) (by decide +kernel) t93
theorem j3wo_8_p11 {Ls : Nat} {xs : Nat → Int32} {d : Nat} {Q : Option Value → jm_h → Prop} (hd : 2 ≤ d) (F : Nat → sy_d) (X1 X2 : List jm_c) (hB : iv_in F iv_B0)
    (h0 : (sy_i F 84).toInt < 512)
    (h1 : 0 ≤ (sy_i F 82).toInt)
    (h2 : ((sy_i F 82) + ((1 : Int32))).toInt < 512)
    (h3 : 0 ≤ (sy_i F 82).toInt ∧ (sy_i F 82).toInt < 512)
    (h4 : ((sy_ai F 32).getD (sy_i F 82).toNatClampNeg 0).toInt < (-9))
    (h5 : ((sy_ai F 32).getD (sy_i F 82).toNatClampNeg 0).toInt ≠ (-14))
    (h6 : (sy_i F 83).toInt < 2)
    (k : ∀ F1 : Nat → sy_d, (∀ j, j < 82 → True → F1 j = F j) → Q (some (.int ((0 : Int32)))) (sy_dh F1 X1 X2 (iv_H 3))) :
    hd_W Ls xs d jm_M22 Q (8, sy_dL F [some (.inl (.ref 38)), some (.inl (.ref 20)), none, some (.inr (.inl 82)), some (.inr (.inl 83)), some (.inr (.inl 84)), none], sy_dS F [], sy_dh F X1 X2 (iv_H 3), 0, 0) := by
  refine hd_ret (s := 3) (nv := 85) (v := some (.inl (.int 0))) (uh := hd_ov (iv_id 0 iv_B0) []) (f := true) (sp := [8]) (d0 := 1) (O := [false, false, true, true, true, false]) (T := [(0, [.inr (.inl 82), .inl (.int 1)], []), (30, [.inr (.inl 82)], [.inr (.inl 32)]), (0, [.inr (.inl 82), .inl (.int 1)], [])]) (P := [(5, .inl (.int 512), .inr (.inl 84)), (3, .inr (.inl 82), .inl (.int 0)), (2, .inr (.inl 85), .inl (.int 512)), (6, .inr (.inl 82), .inl (.ref 512)), (2, .inr (.inl 86), .inl (.int (-9))), (1, .inr (.inl 86), .inl (.int (-14))), (5, .inl (.int 2), .inr (.inl 83))]) jm_ok22 (by decide +kernel) (by decide +kernel) hd F X1 X2 (fun F' hF hs => ?_)
  have b84 := hd_b (F := F) (F' := F') (k := 84) (hF 84 (by decide))
  have b82 := hd_b (F := F) (F' := F') (k := 82) (hF 82 (by decide))
  have t85 : sy_dv F' (.inr (.inl 85)) = .int ((sy_i F 82) + ((1 : Int32))) := hd_o (hs 0 _ rfl) b82 rfl rfl
  have a32 := hd_ba (F := F) (F' := F') (k := 32) (hF 32 (by decide))
  have t86 : sy_dv F' (.inr (.inl 86)) = .int ((sy_ai F 32).getD (sy_i F 82).toNatClampNeg 0) := hd_rd (hs 1 _ rfl) b82 a32
  have b83 := hd_b (F := F) (F' := F') (k := 83) (hF 83 (by decide))
  have hB' : iv_in F' iv_B0 := iv_in_eq hB (fun j hj => hF j (Nat.lt_of_lt_of_le hj (by decide +kernel)))
  refine ⟨List.forall_mem_cons.mpr ⟨hd_p5 rfl b84 (by have hc : ((512) : Int32).toInt = 512 := (by decide); omega), List.forall_mem_cons.mpr ⟨hd_p3 b82 rfl (by have hc : ((0) : Int32).toInt = 0 := (by decide); omega), List.forall_mem_cons.mpr ⟨hd_p2 t85 rfl (by have hc : ((512) : Int32).toInt = 512 := (by decide); omega), List.forall_mem_cons.mpr ⟨hd_pb b82 (by first | exact h3 | exact h3), List.forall_mem_cons.mpr ⟨hd_p2 t86 rfl (by have hc : (((-9)) : Int32).toInt = (-9) := (by decide); omega), List.forall_mem_cons.mpr ⟨hd_p1 t86 rfl (by have hc : (((-14)) : Int32).toInt = (-14) := (by decide); omega), List.forall_mem_cons.mpr ⟨hd_p5 rfl b83 (by have hc : ((2) : Int32).toInt = 2 := (by decide); omega), fun _ h => absurd h List.not_mem_nil⟩⟩⟩⟩⟩⟩⟩, ?_⟩
  refine k _ ?_
  · exact fun j hj _ => (hd_keep hB' (Nat.lt_of_lt_of_le hj (by decide +kernel)) (by simp)).trans (hF j (Nat.lt_of_lt_of_le hj (by decide)))
theorem j3wo_8_p12 {Ls : Nat} {xs : Nat → Int32} {d : Nat} {Q : Option Value → jm_h → Prop} (hd : 2 ≤ d) (F : Nat → sy_d) (X1 X2 : List jm_c) (hB : iv_in F iv_B0)
    (h0 : (sy_i F 84).toInt < 512)
    (h1 : 0 ≤ (sy_i F 82).toInt)
    (h2 : ((sy_i F 82) + ((1 : Int32))).toInt < 512)
    (h3 : 0 ≤ (sy_i F 82).toInt ∧ (sy_i F 82).toInt < 512)
    (h4 : ((sy_ai F 32).getD (sy_i F 82).toNatClampNeg 0).toInt < (-9))
    (h5 : ((sy_ai F 32).getD (sy_i F 82).toNatClampNeg 0).toInt = (-14))
    (h6 : (sy_i F 83).toInt < 1)
    (k : ∀ F1 : Nat → sy_d, (∀ j, j < 82 → True → F1 j = F j) → Q (some (.int ((0 : Int32)))) (sy_dh F1 X1 X2 (iv_H 3))) :
    hd_W Ls xs d jm_M22 Q (8, sy_dL F [some (.inl (.ref 38)), some (.inl (.ref 20)), none, some (.inr (.inl 82)), some (.inr (.inl 83)), some (.inr (.inl 84)), none], sy_dS F [], sy_dh F X1 X2 (iv_H 3), 0, 0) := by
  refine hd_ret (s := 3) (nv := 85) (v := some (.inl (.int 0))) (uh := hd_ov (iv_id 0 iv_B0) []) (f := true) (sp := [8]) (d0 := 1) (O := [false, false, true, true, false, true]) (T := [(0, [.inr (.inl 82), .inl (.int 1)], []), (30, [.inr (.inl 82)], [.inr (.inl 32)]), (0, [.inr (.inl 82), .inl (.int 1)], [])]) (P := [(5, .inl (.int 512), .inr (.inl 84)), (3, .inr (.inl 82), .inl (.int 0)), (2, .inr (.inl 85), .inl (.int 512)), (6, .inr (.inl 82), .inl (.ref 512)), (2, .inr (.inl 86), .inl (.int (-9))), (0, .inr (.inl 86), .inl (.int (-14))), (2, .inr (.inl 83), .inl (.int 1))]) jm_ok22 (by decide +kernel) (by decide +kernel) hd F X1 X2 (fun F' hF hs => ?_)
  have b84 := hd_b (F := F) (F' := F') (k := 84) (hF 84 (by decide))
  have b82 := hd_b (F := F) (F' := F') (k := 82) (hF 82 (by decide))
  have t85 : sy_dv F' (.inr (.inl 85)) = .int ((sy_i F 82) + ((1 : Int32))) := hd_o (hs 0 _ rfl) b82 rfl rfl
  have a32 := hd_ba (F := F) (F' := F') (k := 32) (hF 32 (by decide))
  have t86 : sy_dv F' (.inr (.inl 86)) = .int ((sy_ai F 32).getD (sy_i F 82).toNatClampNeg 0) := hd_rd (hs 1 _ rfl) b82 a32
  have b83 := hd_b (F := F) (F' := F') (k := 83) (hF 83 (by decide))
  have hB' : iv_in F' iv_B0 := iv_in_eq hB (fun j hj => hF j (Nat.lt_of_lt_of_le hj (by decide +kernel)))
  refine ⟨List.forall_mem_cons.mpr ⟨hd_p5 rfl b84 (by have hc : ((512) : Int32).toInt = 512 := (by decide); omega), List.forall_mem_cons.mpr ⟨hd_p3 b82 rfl (by have hc : ((0) : Int32).toInt = 0 := (by decide); omega), List.forall_mem_cons.mpr ⟨hd_p2 t85 rfl (by have hc : ((512) : Int32).toInt = 512 := (by decide); omega), List.forall_mem_cons.mpr ⟨hd_pb b82 (by first | exact h3 | exact h3), List.forall_mem_cons.mpr ⟨hd_p2 t86 rfl (by have hc : (((-9)) : Int32).toInt = (-9) := (by decide); omega), List.forall_mem_cons.mpr ⟨hd_p0 t86 rfl (by have hc : (((-14)) : Int32).toInt = (-14) := (by decide); omega), List.forall_mem_cons.mpr ⟨hd_p2 b83 rfl (by have hc : ((1) : Int32).toInt = 1 := (by decide); omega), fun _ h => absurd h List.not_mem_nil⟩⟩⟩⟩⟩⟩⟩, ?_⟩
  refine k _ ?_
  · exact fun j hj _ => (hd_keep hB' (Nat.lt_of_lt_of_le hj (by decide +kernel)) (by simp)).trans (hF j (Nat.lt_of_lt_of_le hj (by decide)))
theorem j3wo_8_p13 {Ls : Nat} {xs : Nat → Int32} {d : Nat} {Q : Option Value → jm_h → Prop} (hd : 2 ≤ d) (F : Nat → sy_d) (X1 X2 : List jm_c) (hB : iv_in F iv_B0)
    (h0 : (sy_i F 84).toInt < 512)
    (h1 : 0 ≤ (sy_i F 82).toInt)
    (h2 : ((sy_i F 82) + ((1 : Int32))).toInt < 512)
    (h3 : 0 ≤ (sy_i F 82).toInt ∧ (sy_i F 82).toInt < 512)
    (h4 : ((sy_ai F 32).getD (sy_i F 82).toNatClampNeg 0).toInt < (-9))
    (h5 : ((sy_ai F 32).getD (sy_i F 82).toNatClampNeg 0).toInt = (-14))
    (h6 : 1 ≤ (sy_i F 83).toInt)
    (h7 : 0 ≤ ((sy_i F 83) - ((1 : Int32))).toInt ∧ ((sy_i F 83) - ((1 : Int32))).toInt < 32)
    (k : ∀ F1 : Nat → sy_d, (∀ j, j < 82 → True → F1 j = F j) → Q (some (.int ((sy_ai F 46).getD ((sy_i F 83) - ((1 : Int32))).toNatClampNeg 0))) (sy_dh F1 X1 X2 (iv_H 3))) :
    hd_W Ls xs d jm_M22 Q (8, sy_dL F [some (.inl (.ref 38)), some (.inl (.ref 20)), none, some (.inr (.inl 82)), some (.inr (.inl 83)), some (.inr (.inl 84)), none], sy_dS F [], sy_dh F X1 X2 (iv_H 3), 0, 0) := by
  refine hd_ret (s := 3) (nv := 85) (v := some (.inr (.inl 89))) (uh := hd_ov (iv_id 0 iv_B0) []) (f := true) (sp := [8]) (d0 := 1) (O := [false, false, true, true, false, false]) (T := [(0, [.inr (.inl 82), .inl (.int 1)], []), (30, [.inr (.inl 82)], [.inr (.inl 32)]), (0, [.inr (.inl 82), .inl (.int 1)], []), (1, [.inr (.inl 83), .inl (.int 1)], []), (30, [.inr (.inl 88)], [.inr (.inl 46)])]) (P := [(5, .inl (.int 512), .inr (.inl 84)), (3, .inr (.inl 82), .inl (.int 0)), (2, .inr (.inl 85), .inl (.int 512)), (6, .inr (.inl 82), .inl (.ref 512)), (2, .inr (.inl 86), .inl (.int (-9))), (0, .inr (.inl 86), .inl (.int (-14))), (3, .inr (.inl 83), .inl (.int 1)), (6, .inr (.inl 88), .inl (.ref 32))]) jm_ok22 (by decide +kernel) (by decide +kernel) hd F X1 X2 (fun F' hF hs => ?_)
  have b84 := hd_b (F := F) (F' := F') (k := 84) (hF 84 (by decide))
  have b82 := hd_b (F := F) (F' := F') (k := 82) (hF 82 (by decide))
  have t85 : sy_dv F' (.inr (.inl 85)) = .int ((sy_i F 82) + ((1 : Int32))) := hd_o (hs 0 _ rfl) b82 rfl rfl
  have a32 := hd_ba (F := F) (F' := F') (k := 32) (hF 32 (by decide))
  have t86 : sy_dv F' (.inr (.inl 86)) = .int ((sy_ai F 32).getD (sy_i F 82).toNatClampNeg 0) := hd_rd (hs 1 _ rfl) b82 a32
  have b83 := hd_b (F := F) (F' := F') (k := 83) (hF 83 (by decide))
  have t88 : sy_dv F' (.inr (.inl 88)) = .int ((sy_i F 83) - ((1 : Int32))) := hd_o (hs 3 _ rfl) b83 rfl rfl
  have a46 := hd_ba (F := F) (F' := F') (k := 46) (hF 46 (by decide))
  have t89 : sy_dv F' (.inr (.inl 89)) = .int ((sy_ai F 46).getD ((sy_i F 83) - ((1 : Int32))).toNatClampNeg 0) := hd_rd (hs 4 _ rfl) t88 a46
  have hB' : iv_in F' iv_B0 := iv_in_eq hB (fun j hj => hF j (Nat.lt_of_lt_of_le hj (by decide +kernel)))
  have hk := k (sy_cm F' (hd_ov (iv_id 0 iv_B0) [] ++ [])) (fun j hj _ => (hd_keep hB' (Nat.lt_of_lt_of_le hj (by decide +kernel)) (by simp)).trans (hF j (Nat.lt_of_lt_of_le hj (by decide))))
  refine ⟨List.forall_mem_cons.mpr ⟨hd_p5 rfl b84 (by have hc : ((512) : Int32).toInt = 512 := (by decide); omega), List.forall_mem_cons.mpr ⟨hd_p3 b82 rfl (by have hc : ((0) : Int32).toInt = 0 := (by decide); omega), List.forall_mem_cons.mpr ⟨hd_p2 t85 rfl (by have hc : ((512) : Int32).toInt = 512 := (by decide); omega), List.forall_mem_cons.mpr ⟨hd_pb b82 (by first | exact h3 | exact h3), List.forall_mem_cons.mpr ⟨hd_p2 t86 rfl (by have hc : (((-9)) : Int32).toInt = (-9) := (by decide); omega), List.forall_mem_cons.mpr ⟨hd_p0 t86 rfl (by have hc : (((-14)) : Int32).toInt = (-14) := (by decide); omega), List.forall_mem_cons.mpr ⟨hd_p3 b83 rfl (by have hc : ((1) : Int32).toInt = 1 := (by decide); omega), List.forall_mem_cons.mpr ⟨hd_pb t88 (by first | exact h7 | exact h7), fun _ h => absurd h List.not_mem_nil⟩⟩⟩⟩⟩⟩⟩⟩, ?_⟩
  show Q (some (sy_dv F' (.inr (.inl 89)))) _
  rw [t89]
  exact hk
theorem j3wo_8_p14 {Ls : Nat} {xs : Nat → Int32} {d : Nat} {Q : Option Value → jm_h → Prop} (hd : 2 ≤ d) (F : Nat → sy_d) (X1 X2 : List jm_c) (hB : iv_in F iv_B0)
    (h0 : (sy_i F 84).toInt < 512)
    (h1 : 0 ≤ (sy_i F 82).toInt)
    (h2 : ((sy_i F 82) + ((1 : Int32))).toInt < 512)
    (h3 : 0 ≤ (sy_i F 82).toInt ∧ (sy_i F 82).toInt < 512)
    (h4 : (-9) ≤ ((sy_ai F 32).getD (sy_i F 82).toNatClampNeg 0).toInt)
    (h5 : (sy_i F 83).toInt < 32)
    (h6 : ((sy_ai F 32).getD (sy_i F 82).toNatClampNeg 0).toInt < 0)
    (h7 : 0 ≤ ((((-1) : Int32)) - ((sy_ai F 32).getD (sy_i F 82).toNatClampNeg 0)).toInt ∧ ((((-1) : Int32)) - ((sy_ai F 32).getD (sy_i F 82).toNatClampNeg 0)).toInt < 9)
    (h8 : 0 ≤ (sy_i F 83).toInt ∧ (sy_i F 83).toInt < 32)
    (k : ∀ F1 : Nat → sy_d, (∀ j, j < 82 → j ≠ 46 → F1 j = F j) → F1 46 = .inr (.inl (jm_upd (sy_ai F 46) (sy_i F 83).toNatClampNeg ((sy_ai F 45).getD ((((-1) : Int32)) - ((sy_ai F 32).getD (sy_i F 82).toNatClampNeg 0)).toNatClampNeg 0))) → F1 82 = .inl (.int ((sy_i F 82) + ((1 : Int32)))) → F1 83 = .inl (.int ((sy_i F 83) + ((1 : Int32)))) → F1 84 = .inl (.int ((sy_i F 84) + ((1 : Int32)))) → hd_W Ls xs d jm_M22 Q (8, sy_dL F1 [some (.inl (.ref 38)), some (.inl (.ref 20)), none, some (.inr (.inl 82)), some (.inr (.inl 83)), some (.inr (.inl 84)), none], sy_dS F1 [], sy_dh F1 X1 X2 (iv_H 3), 0, 0)) :
    hd_W Ls xs d jm_M22 Q (8, sy_dL F [some (.inl (.ref 38)), some (.inl (.ref 20)), none, some (.inr (.inl 82)), some (.inr (.inl 83)), some (.inr (.inl 84)), none], sy_dS F [], sy_dh F X1 X2 (iv_H 3), 0, 0) := by
  refine hd_run (s := 3) (nv := 85) (pc := 8) (L := [some (.inl (.ref 38)), some (.inl (.ref 20)), none, some (.inr (.inl 82)), some (.inr (.inl 83)), some (.inr (.inl 84)), none]) (S := []) (uh := hd_ov (iv_id 0 iv_B0) [(46, .inr (.inr (.inl 90)))]) (ul := [.inl (.inr (.inl 87)), .inl (.inr (.inl 91)), .inl (.inr (.inl 92))]) (f := true) (sp := [8]) (d0 := 1) (O := [false, false, true, false, true, true]) (T := [(0, [.inr (.inl 82), .inl (.int 1)], []), (30, [.inr (.inl 82)], [.inr (.inl 32)]), (0, [.inr (.inl 82), .inl (.int 1)], []), (1, [.inl (.int (-1)), .inr (.inl 86)], []), (30, [.inr (.inl 88)], [.inr (.inl 45)]), (40, [.inr (.inl 83), .inr (.inl 89)], [.inr (.inl 46)]), (0, [.inr (.inl 83), .inl (.int 1)], []), (0, [.inr (.inl 84), .inl (.int 1)], [])]) (P := [(5, .inl (.int 512), .inr (.inl 84)), (3, .inr (.inl 82), .inl (.int 0)), (2, .inr (.inl 85), .inl (.int 512)), (6, .inr (.inl 82), .inl (.ref 512)), (3, .inr (.inl 86), .inl (.int (-9))), (2, .inr (.inl 83), .inl (.int 32)), (2, .inr (.inl 86), .inl (.int 0)), (6, .inr (.inl 88), .inl (.ref 9)), (6, .inr (.inl 83), .inl (.ref 32))]) jm_ok22 (by decide +kernel) (by decide +kernel) hd F X1 X2 (fun F' hF hs => ?_)
  have b84 := hd_b (F := F) (F' := F') (k := 84) (hF 84 (by decide))
  have b82 := hd_b (F := F) (F' := F') (k := 82) (hF 82 (by decide))
  have t85 : sy_dv F' (.inr (.inl 85)) = .int ((sy_i F 82) + ((1 : Int32))) := hd_o (hs 0 _ rfl) b82 rfl rfl
  have a32 := hd_ba (F := F) (F' := F') (k := 32) (hF 32 (by decide))
  have t86 : sy_dv F' (.inr (.inl 86)) = .int ((sy_ai F 32).getD (sy_i F 82).toNatClampNeg 0) := hd_rd (hs 1 _ rfl) b82 a32
  have b83 := hd_b (F := F) (F' := F') (k := 83) (hF 83 (by decide))
  have t88 : sy_dv F' (.inr (.inl 88)) = .int ((((-1) : Int32)) - ((sy_ai F 32).getD (sy_i F 82).toNatClampNeg 0)) := hd_o (hs 3 _ rfl) rfl t86 rfl
  have a45 := hd_ba (F := F) (F' := F') (k := 45) (hF 45 (by decide))
  have t89 : sy_dv F' (.inr (.inl 89)) = .int ((sy_ai F 45).getD ((((-1) : Int32)) - ((sy_ai F 32).getD (sy_i F 82).toNatClampNeg 0)).toNatClampNeg 0) := hd_rd (hs 4 _ rfl) t88 a45
  have a46 := hd_ba (F := F) (F' := F') (k := 46) (hF 46 (by decide))
  have t90 : sy_da F' (.inr (.inl 90)) = .inl (jm_upd (sy_ai F 46) (sy_i F 83).toNatClampNeg ((sy_ai F 45).getD ((((-1) : Int32)) - ((sy_ai F 32).getD (sy_i F 82).toNatClampNeg 0)).toNatClampNeg 0)) := hd_up (hs 5 _ rfl) b83 t89 a46
  have t87 : sy_dv F' (.inr (.inl 87)) = .int ((sy_i F 82) + ((1 : Int32))) := hd_o (hs 2 _ rfl) b82 rfl rfl
  have t91 : sy_dv F' (.inr (.inl 91)) = .int ((sy_i F 83) + ((1 : Int32))) := hd_o (hs 6 _ rfl) b83 rfl rfl
  have t92 : sy_dv F' (.inr (.inl 92)) = .int ((sy_i F 84) + ((1 : Int32))) := hd_o (hs 7 _ rfl) b84 rfl rfl
  have hB' : iv_in F' iv_B0 := iv_in_eq hB (fun j hj => hF j (Nat.lt_of_lt_of_le hj (by decide +kernel)))
  refine ⟨List.forall_mem_cons.mpr ⟨hd_p5 rfl b84 (by have hc : ((512) : Int32).toInt = 512 := (by decide); omega), List.forall_mem_cons.mpr ⟨hd_p3 b82 rfl (by have hc : ((0) : Int32).toInt = 0 := (by decide); omega), List.forall_mem_cons.mpr ⟨hd_p2 t85 rfl (by have hc : ((512) : Int32).toInt = 512 := (by decide); omega), List.forall_mem_cons.mpr ⟨hd_pb b82 (by first | exact h3 | exact h3), List.forall_mem_cons.mpr ⟨hd_p3 t86 rfl (by have hc : (((-9)) : Int32).toInt = (-9) := (by decide); omega), List.forall_mem_cons.mpr ⟨hd_p2 b83 rfl (by have hc : ((32) : Int32).toInt = 32 := (by decide); omega), List.forall_mem_cons.mpr ⟨hd_p2 t86 rfl (by have hc : ((0) : Int32).toInt = 0 := (by decide); omega), List.forall_mem_cons.mpr ⟨hd_pb t88 (by first | exact h7 | exact h7), List.forall_mem_cons.mpr ⟨hd_pb b83 (by first | exact h8 | exact h8), fun _ h => absurd h List.not_mem_nil⟩⟩⟩⟩⟩⟩⟩⟩⟩, ?_⟩
  refine k _ ?_ ?_ ?_ ?_ ?_
  · exact fun j hj hn => (hd_keep hB' (Nat.lt_of_lt_of_le hj (by decide +kernel)) (by simp; omega)).trans (hF j (Nat.lt_of_lt_of_le hj (by decide)))
  · exact hd_ga (a := .inr (.inl 90)) (by decide +kernel) t90
  · exact hd_gi (x := .inr (.inl 87)) (by decide +kernel) t87
  · exact hd_gi (x := .inr (.inl 91)) (by decide +kernel) t91
  · exact hd_gi (x := .inr (.inl 92)) (by decide +kernel) t92
theorem j3wo_8_p15 {Ls : Nat} {xs : Nat → Int32} {d : Nat} {Q : Option Value → jm_h → Prop} (hd : 2 ≤ d) (F : Nat → sy_d) (X1 X2 : List jm_c) (hB : iv_in F iv_B0)
    (h0 : (sy_i F 84).toInt < 512)
    (h1 : 0 ≤ (sy_i F 82).toInt)
    (h2 : ((sy_i F 82) + ((1 : Int32))).toInt < 512)
    (h3 : 0 ≤ (sy_i F 82).toInt ∧ (sy_i F 82).toInt < 512)
    (h4 : (-9) ≤ ((sy_ai F 32).getD (sy_i F 82).toNatClampNeg 0).toInt)
    (h5 : (sy_i F 83).toInt < 32)
    (h6 : 0 ≤ ((sy_ai F 32).getD (sy_i F 82).toNatClampNeg 0).toInt)
    (h7 : 0 ≤ (sy_i F 83).toInt ∧ (sy_i F 83).toInt < 32)
    (k : ∀ F1 : Nat → sy_d, (∀ j, j < 82 → j ≠ 46 → F1 j = F j) → F1 46 = .inr (.inl (jm_upd (sy_ai F 46) (sy_i F 83).toNatClampNeg ((sy_ai F 32).getD (sy_i F 82).toNatClampNeg 0))) → F1 82 = .inl (.int ((sy_i F 82) + ((1 : Int32)))) → F1 83 = .inl (.int ((sy_i F 83) + ((1 : Int32)))) → F1 84 = .inl (.int ((sy_i F 84) + ((1 : Int32)))) → hd_W Ls xs d jm_M22 Q (8, sy_dL F1 [some (.inl (.ref 38)), some (.inl (.ref 20)), none, some (.inr (.inl 82)), some (.inr (.inl 83)), some (.inr (.inl 84)), none], sy_dS F1 [], sy_dh F1 X1 X2 (iv_H 3), 0, 0)) :
    hd_W Ls xs d jm_M22 Q (8, sy_dL F [some (.inl (.ref 38)), some (.inl (.ref 20)), none, some (.inr (.inl 82)), some (.inr (.inl 83)), some (.inr (.inl 84)), none], sy_dS F [], sy_dh F X1 X2 (iv_H 3), 0, 0) := by
  refine hd_run (s := 3) (nv := 85) (pc := 8) (L := [some (.inl (.ref 38)), some (.inl (.ref 20)), none, some (.inr (.inl 82)), some (.inr (.inl 83)), some (.inr (.inl 84)), none]) (S := []) (uh := hd_ov (iv_id 0 iv_B0) [(46, .inr (.inr (.inl 88)))]) (ul := [.inl (.inr (.inl 87)), .inl (.inr (.inl 89)), .inl (.inr (.inl 90))]) (f := true) (sp := [8]) (d0 := 1) (O := [false, false, true, false, true, false]) (T := [(0, [.inr (.inl 82), .inl (.int 1)], []), (30, [.inr (.inl 82)], [.inr (.inl 32)]), (0, [.inr (.inl 82), .inl (.int 1)], []), (40, [.inr (.inl 83), .inr (.inl 86)], [.inr (.inl 46)]), (0, [.inr (.inl 83), .inl (.int 1)], []), (0, [.inr (.inl 84), .inl (.int 1)], [])]) (P := [(5, .inl (.int 512), .inr (.inl 84)), (3, .inr (.inl 82), .inl (.int 0)), (2, .inr (.inl 85), .inl (.int 512)), (6, .inr (.inl 82), .inl (.ref 512)), (3, .inr (.inl 86), .inl (.int (-9))), (2, .inr (.inl 83), .inl (.int 32)), (3, .inr (.inl 86), .inl (.int 0)), (6, .inr (.inl 83), .inl (.ref 32))]) jm_ok22 (by decide +kernel) (by decide +kernel) hd F X1 X2 (fun F' hF hs => ?_)
  have b84 := hd_b (F := F) (F' := F') (k := 84) (hF 84 (by decide))
  have b82 := hd_b (F := F) (F' := F') (k := 82) (hF 82 (by decide))
  have t85 : sy_dv F' (.inr (.inl 85)) = .int ((sy_i F 82) + ((1 : Int32))) := hd_o (hs 0 _ rfl) b82 rfl rfl
  have a32 := hd_ba (F := F) (F' := F') (k := 32) (hF 32 (by decide))
  have t86 : sy_dv F' (.inr (.inl 86)) = .int ((sy_ai F 32).getD (sy_i F 82).toNatClampNeg 0) := hd_rd (hs 1 _ rfl) b82 a32
  have b83 := hd_b (F := F) (F' := F') (k := 83) (hF 83 (by decide))
  have a46 := hd_ba (F := F) (F' := F') (k := 46) (hF 46 (by decide))
  have t88 : sy_da F' (.inr (.inl 88)) = .inl (jm_upd (sy_ai F 46) (sy_i F 83).toNatClampNeg ((sy_ai F 32).getD (sy_i F 82).toNatClampNeg 0)) := hd_up (hs 3 _ rfl) b83 t86 a46
  have t87 : sy_dv F' (.inr (.inl 87)) = .int ((sy_i F 82) + ((1 : Int32))) := hd_o (hs 2 _ rfl) b82 rfl rfl
  have t89 : sy_dv F' (.inr (.inl 89)) = .int ((sy_i F 83) + ((1 : Int32))) := hd_o (hs 4 _ rfl) b83 rfl rfl
  have t90 : sy_dv F' (.inr (.inl 90)) = .int ((sy_i F 84) + ((1 : Int32))) := hd_o (hs 5 _ rfl) b84 rfl rfl
  have hB' : iv_in F' iv_B0 := iv_in_eq hB (fun j hj => hF j (Nat.lt_of_lt_of_le hj (by decide +kernel)))
  refine ⟨List.forall_mem_cons.mpr ⟨hd_p5 rfl b84 (by have hc : ((512) : Int32).toInt = 512 := (by decide); omega), List.forall_mem_cons.mpr ⟨hd_p3 b82 rfl (by have hc : ((0) : Int32).toInt = 0 := (by decide); omega), List.forall_mem_cons.mpr ⟨hd_p2 t85 rfl (by have hc : ((512) : Int32).toInt = 512 := (by decide); omega), List.forall_mem_cons.mpr ⟨hd_pb b82 (by first | exact h3 | exact h3), List.forall_mem_cons.mpr ⟨hd_p3 t86 rfl (by have hc : (((-9)) : Int32).toInt = (-9) := (by decide); omega), List.forall_mem_cons.mpr ⟨hd_p2 b83 rfl (by have hc : ((32) : Int32).toInt = 32 := (by decide); omega), List.forall_mem_cons.mpr ⟨hd_p3 t86 rfl (by have hc : ((0) : Int32).toInt = 0 := (by decide); omega), List.forall_mem_cons.mpr ⟨hd_pb b83 (by first | exact h7 | exact h7), fun _ h => absurd h List.not_mem_nil⟩⟩⟩⟩⟩⟩⟩⟩, ?_⟩
  refine k _ ?_ ?_ ?_ ?_ ?_
  · exact fun j hj hn => (hd_keep hB' (Nat.lt_of_lt_of_le hj (by decide +kernel)) (by simp; omega)).trans (hF j (Nat.lt_of_lt_of_le hj (by decide)))
  · exact hd_ga (a := .inr (.inl 88)) (by decide +kernel) t88
  · exact hd_gi (x := .inr (.inl 87)) (by decide +kernel) t87
  · exact hd_gi (x := .inr (.inl 89)) (by decide +kernel) t89
  · exact hd_gi (x := .inr (.inl 90)) (by decide +kernel) t90
theorem j3wo_8_p16 {Ls : Nat} {xs : Nat → Int32} {d : Nat} {Q : Option Value → jm_h → Prop} (hd : 2 ≤ d) (F : Nat → sy_d) (X1 X2 : List jm_c) (hB : iv_in F iv_B0)
    (h0 : (sy_i F 84).toInt < 512)
    (h1 : 0 ≤ (sy_i F 82).toInt)
    (h2 : ((sy_i F 82) + ((1 : Int32))).toInt < 512)
    (h3 : 0 ≤ (sy_i F 82).toInt ∧ (sy_i F 82).toInt < 512)
    (h4 : (-9) ≤ ((sy_ai F 32).getD (sy_i F 82).toNatClampNeg 0).toInt)
    (h5 : 32 ≤ (sy_i F 83).toInt)
    (k : ∀ F1 : Nat → sy_d, (∀ j, j < 82 → True → F1 j = F j) → Q (some (.int ((0 : Int32)))) (sy_dh F1 X1 X2 (iv_H 3))) :
    hd_W Ls xs d jm_M22 Q (8, sy_dL F [some (.inl (.ref 38)), some (.inl (.ref 20)), none, some (.inr (.inl 82)), some (.inr (.inl 83)), some (.inr (.inl 84)), none], sy_dS F [], sy_dh F X1 X2 (iv_H 3), 0, 0) := by
  refine hd_ret (s := 3) (nv := 85) (v := some (.inl (.int 0))) (uh := hd_ov (iv_id 0 iv_B0) []) (f := true) (sp := [8]) (d0 := 1) (O := [false, false, true, false, false]) (T := [(0, [.inr (.inl 82), .inl (.int 1)], []), (30, [.inr (.inl 82)], [.inr (.inl 32)]), (0, [.inr (.inl 82), .inl (.int 1)], [])]) (P := [(5, .inl (.int 512), .inr (.inl 84)), (3, .inr (.inl 82), .inl (.int 0)), (2, .inr (.inl 85), .inl (.int 512)), (6, .inr (.inl 82), .inl (.ref 512)), (3, .inr (.inl 86), .inl (.int (-9))), (3, .inr (.inl 83), .inl (.int 32))]) jm_ok22 (by decide +kernel) (by decide +kernel) hd F X1 X2 (fun F' hF hs => ?_)
  have b84 := hd_b (F := F) (F' := F') (k := 84) (hF 84 (by decide))
  have b82 := hd_b (F := F) (F' := F') (k := 82) (hF 82 (by decide))
  have t85 : sy_dv F' (.inr (.inl 85)) = .int ((sy_i F 82) + ((1 : Int32))) := hd_o (hs 0 _ rfl) b82 rfl rfl
  have a32 := hd_ba (F := F) (F' := F') (k := 32) (hF 32 (by decide))
  have t86 : sy_dv F' (.inr (.inl 86)) = .int ((sy_ai F 32).getD (sy_i F 82).toNatClampNeg 0) := hd_rd (hs 1 _ rfl) b82 a32
  have b83 := hd_b (F := F) (F' := F') (k := 83) (hF 83 (by decide))
  have hB' : iv_in F' iv_B0 := iv_in_eq hB (fun j hj => hF j (Nat.lt_of_lt_of_le hj (by decide +kernel)))
  refine ⟨List.forall_mem_cons.mpr ⟨hd_p5 rfl b84 (by have hc : ((512) : Int32).toInt = 512 := (by decide); omega), List.forall_mem_cons.mpr ⟨hd_p3 b82 rfl (by have hc : ((0) : Int32).toInt = 0 := (by decide); omega), List.forall_mem_cons.mpr ⟨hd_p2 t85 rfl (by have hc : ((512) : Int32).toInt = 512 := (by decide); omega), List.forall_mem_cons.mpr ⟨hd_pb b82 (by first | exact h3 | exact h3), List.forall_mem_cons.mpr ⟨hd_p3 t86 rfl (by have hc : (((-9)) : Int32).toInt = (-9) := (by decide); omega), List.forall_mem_cons.mpr ⟨hd_p3 b83 rfl (by have hc : ((32) : Int32).toInt = 32 := (by decide); omega), fun _ h => absurd h List.not_mem_nil⟩⟩⟩⟩⟩⟩, ?_⟩
  refine k _ ?_
  · exact fun j hj _ => (hd_keep hB' (Nat.lt_of_lt_of_le hj (by decide +kernel)) (by simp)).trans (hF j (Nat.lt_of_lt_of_le hj (by decide)))
theorem j3wo_8_p17 {Ls : Nat} {xs : Nat → Int32} {d : Nat} {Q : Option Value → jm_h → Prop} (hd : 2 ≤ d) (F : Nat → sy_d) (X1 X2 : List jm_c) (hB : iv_in F iv_B0)
    (h0 : (sy_i F 84).toInt < 512)
    (h1 : 0 ≤ (sy_i F 82).toInt)
    (h2 : 512 ≤ ((sy_i F 82) + ((1 : Int32))).toInt)
    (k : ∀ F1 : Nat → sy_d, (∀ j, j < 82 → True → F1 j = F j) → Q (some (.int ((0 : Int32)))) (sy_dh F1 X1 X2 (iv_H 3))) :
    hd_W Ls xs d jm_M22 Q (8, sy_dL F [some (.inl (.ref 38)), some (.inl (.ref 20)), none, some (.inr (.inl 82)), some (.inr (.inl 83)), some (.inr (.inl 84)), none], sy_dS F [], sy_dh F X1 X2 (iv_H 3), 0, 0) := by
  refine hd_ret (s := 3) (nv := 85) (v := some (.inl (.int 0))) (uh := hd_ov (iv_id 0 iv_B0) []) (f := true) (sp := [8]) (d0 := 1) (O := [false, false, false]) (T := [(0, [.inr (.inl 82), .inl (.int 1)], [])]) (P := [(5, .inl (.int 512), .inr (.inl 84)), (3, .inr (.inl 82), .inl (.int 0)), (3, .inr (.inl 85), .inl (.int 512))]) jm_ok22 (by decide +kernel) (by decide +kernel) hd F X1 X2 (fun F' hF hs => ?_)
  have b84 := hd_b (F := F) (F' := F') (k := 84) (hF 84 (by decide))
  have b82 := hd_b (F := F) (F' := F') (k := 82) (hF 82 (by decide))
  have t85 : sy_dv F' (.inr (.inl 85)) = .int ((sy_i F 82) + ((1 : Int32))) := hd_o (hs 0 _ rfl) b82 rfl rfl
  have hB' : iv_in F' iv_B0 := iv_in_eq hB (fun j hj => hF j (Nat.lt_of_lt_of_le hj (by decide +kernel)))
  refine ⟨List.forall_mem_cons.mpr ⟨hd_p5 rfl b84 (by have hc : ((512) : Int32).toInt = 512 := (by decide); omega), List.forall_mem_cons.mpr ⟨hd_p3 b82 rfl (by have hc : ((0) : Int32).toInt = 0 := (by decide); omega), List.forall_mem_cons.mpr ⟨hd_p3 t85 rfl (by have hc : ((512) : Int32).toInt = 512 := (by decide); omega), fun _ h => absurd h List.not_mem_nil⟩⟩⟩, ?_⟩
  refine k _ ?_
  · exact fun j hj _ => (hd_keep hB' (Nat.lt_of_lt_of_le hj (by decide +kernel)) (by simp)).trans (hF j (Nat.lt_of_lt_of_le hj (by decide)))
theorem j3wo_8 {Ls : Nat} {xs : Nat → Int32} {d : Nat} {Q : Option Value → jm_h → Prop} (hd : 2 ≤ d) (F : Nat → sy_d) (X1 X2 : List jm_c) (hB : iv_in F iv_B0)
    (a82 : 0 ≤ (sy_i F 82).toInt ∧ (sy_i F 82).toInt ≤ 512)
    (a83 : 0 ≤ (sy_i F 83).toInt ∧ (sy_i F 83).toInt ≤ 32)
    (a84 : 0 ≤ (sy_i F 84).toInt ∧ (sy_i F 84).toInt ≤ 512)
    (k0 : 512 ≤ (sy_i F 84).toInt → ∀ F1 : Nat → sy_d, iv_in F1 iv_B0 → (∀ j, j < 82 → j ∉ ([] : List Nat) → F1 j = F j) → Q (some (.int ((0 : Int32)))) (sy_dh F1 X1 X2 (iv_H 3)))
    (k1 : (sy_i F 84).toInt < 512 → 0 ≤ (sy_i F 82).toInt → ((sy_i F 82).toInt + 1) < 512 → ((sy_ai F 32).getD ((sy_i F 82).toInt).toNat 0).toInt < (-9 : Int) → ((sy_ai F 32).getD ((sy_i F 82).toInt).toNat 0).toInt ≠ (-14 : Int) → 2 ≤ (sy_i F 83).toInt → ((sy_ai F 32).getD ((sy_i F 82).toInt).toNat 0).toInt ≠ (-15 : Int) → ((sy_ai F 32).getD ((sy_i F 82).toInt).toNat 0).toInt ≠ (-13 : Int) → ((sy_ai F 32).getD ((sy_i F 82).toInt).toNat 0).toInt < (-12 : Int) → ((sy_ai F 46).getD (((sy_i F 83).toInt + (-1 : Int))).toNat 0).toInt ≠ 0 → ∀ F1 : Nat → sy_d, iv_in F1 iv_B0 → (∀ j, j < 82 → j ∉ ([46] : List Nat) → F1 j = F j) → sy_ai F1 46 = jm_upd (sy_ai F 46) ((((sy_i F 83).toInt + (-1 : Int)) - 1)).toNat (((sy_ai F 46).getD ((((sy_i F 83).toInt + (-1 : Int)) - 1)).toNat 0) / ((sy_ai F 46).getD (((sy_i F 83).toInt + (-1 : Int))).toNat 0)) → (sy_i F1 82).toInt = ((sy_i F 82).toInt + 1) → sy_i F1 82 = (sy_i F 82) + ((1 : Int32)) → (sy_i F1 83).toInt = ((sy_i F 83).toInt + (-1 : Int)) → sy_i F1 83 = (sy_i F 83) + (((-1) : Int32)) → (sy_i F1 84).toInt = ((sy_i F 84).toInt + 1) → sy_i F1 84 = (sy_i F 84) + ((1 : Int32)) → hd_W Ls xs d jm_M22 Q (8, sy_dL F1 [some (.inl (.ref 38)), some (.inl (.ref 20)), none, some (.inr (.inl 82)), some (.inr (.inl 83)), some (.inr (.inl 84)), none], sy_dS F1 [], sy_dh F1 X1 X2 (iv_H 3), 0, 0))
    (k2 : (sy_i F 84).toInt < 512 → 0 ≤ (sy_i F 82).toInt → ((sy_i F 82).toInt + 1) < 512 → ((sy_ai F 32).getD ((sy_i F 82).toInt).toNat 0).toInt < (-9 : Int) → ((sy_ai F 32).getD ((sy_i F 82).toInt).toNat 0).toInt ≠ (-14 : Int) → 2 ≤ (sy_i F 83).toInt → ((sy_ai F 32).getD ((sy_i F 82).toInt).toNat 0).toInt ≠ (-15 : Int) → ((sy_ai F 32).getD ((sy_i F 82).toInt).toNat 0).toInt ≠ (-13 : Int) → ((sy_ai F 32).getD ((sy_i F 82).toInt).toNat 0).toInt < (-12 : Int) → ((sy_ai F 46).getD (((sy_i F 83).toInt + (-1 : Int))).toNat 0).toInt = 0 → ∀ F1 : Nat → sy_d, iv_in F1 iv_B0 → (∀ j, j < 82 → j ∉ ([46] : List Nat) → F1 j = F j) → sy_ai F1 46 = jm_upd (sy_ai F 46) ((((sy_i F 83).toInt + (-1 : Int)) - 1)).toNat ((0 : Int32)) → (sy_i F1 82).toInt = ((sy_i F 82).toInt + 1) → sy_i F1 82 = (sy_i F 82) + ((1 : Int32)) → (sy_i F1 83).toInt = ((sy_i F 83).toInt + (-1 : Int)) → sy_i F1 83 = (sy_i F 83) + (((-1) : Int32)) → (sy_i F1 84).toInt = ((sy_i F 84).toInt + 1) → sy_i F1 84 = (sy_i F 84) + ((1 : Int32)) → hd_W Ls xs d jm_M22 Q (8, sy_dL F1 [some (.inl (.ref 38)), some (.inl (.ref 20)), none, some (.inr (.inl 82)), some (.inr (.inl 83)), some (.inr (.inl 84)), none], sy_dS F1 [], sy_dh F1 X1 X2 (iv_H 3), 0, 0))
    (k3 : (sy_i F 84).toInt < 512 → 0 ≤ (sy_i F 82).toInt → ((sy_i F 82).toInt + 1) < 512 → ((sy_ai F 32).getD ((sy_i F 82).toInt).toNat 0).toInt < (-9 : Int) → ((sy_ai F 32).getD ((sy_i F 82).toInt).toNat 0).toInt ≠ (-14 : Int) → 2 ≤ (sy_i F 83).toInt → ((sy_ai F 32).getD ((sy_i F 82).toInt).toNat 0).toInt ≠ (-15 : Int) → ((sy_ai F 32).getD ((sy_i F 82).toInt).toNat 0).toInt ≠ (-13 : Int) → ((sy_ai F 32).getD ((sy_i F 82).toInt).toNat 0).toInt = (-12 : Int) → ∀ F1 : Nat → sy_d, iv_in F1 iv_B0 → (∀ j, j < 82 → j ∉ ([46] : List Nat) → F1 j = F j) → sy_ai F1 46 = jm_upd (sy_ai F 46) ((((sy_i F 83).toInt + (-1 : Int)) - 1)).toNat (((sy_ai F 46).getD ((((sy_i F 83).toInt + (-1 : Int)) - 1)).toNat 0) * ((sy_ai F 46).getD (((sy_i F 83).toInt + (-1 : Int))).toNat 0)) → (sy_i F1 82).toInt = ((sy_i F 82).toInt + 1) → sy_i F1 82 = (sy_i F 82) + ((1 : Int32)) → (sy_i F1 83).toInt = ((sy_i F 83).toInt + (-1 : Int)) → sy_i F1 83 = (sy_i F 83) + (((-1) : Int32)) → (sy_i F1 84).toInt = ((sy_i F 84).toInt + 1) → sy_i F1 84 = (sy_i F 84) + ((1 : Int32)) → hd_W Ls xs d jm_M22 Q (8, sy_dL F1 [some (.inl (.ref 38)), some (.inl (.ref 20)), none, some (.inr (.inl 82)), some (.inr (.inl 83)), some (.inr (.inl 84)), none], sy_dS F1 [], sy_dh F1 X1 X2 (iv_H 3), 0, 0))
    (k4 : (sy_i F 84).toInt < 512 → 0 ≤ (sy_i F 82).toInt → ((sy_i F 82).toInt + 1) < 512 → ((sy_ai F 32).getD ((sy_i F 82).toInt).toNat 0).toInt < (-9 : Int) → ((sy_ai F 32).getD ((sy_i F 82).toInt).toNat 0).toInt ≠ (-14 : Int) → 2 ≤ (sy_i F 83).toInt → ((sy_ai F 32).getD ((sy_i F 82).toInt).toNat 0).toInt ≠ (-15 : Int) → ((sy_ai F 32).getD ((sy_i F 82).toInt).toNat 0).toInt ≠ (-13 : Int) → ((sy_ai F 32).getD ((sy_i F 82).toInt).toNat 0).toInt = (-11 : Int) → ∀ F1 : Nat → sy_d, iv_in F1 iv_B0 → (∀ j, j < 82 → j ∉ ([46] : List Nat) → F1 j = F j) → sy_ai F1 46 = jm_upd (sy_ai F 46) ((((sy_i F 83).toInt + (-1 : Int)) - 1)).toNat (((sy_ai F 46).getD ((((sy_i F 83).toInt + (-1 : Int)) - 1)).toNat 0) - ((sy_ai F 46).getD (((sy_i F 83).toInt + (-1 : Int))).toNat 0)) → (sy_i F1 82).toInt = ((sy_i F 82).toInt + 1) → sy_i F1 82 = (sy_i F 82) + ((1 : Int32)) → (sy_i F1 83).toInt = ((sy_i F 83).toInt + (-1 : Int)) → sy_i F1 83 = (sy_i F 83) + (((-1) : Int32)) → (sy_i F1 84).toInt = ((sy_i F 84).toInt + 1) → sy_i F1 84 = (sy_i F 84) + ((1 : Int32)) → hd_W Ls xs d jm_M22 Q (8, sy_dL F1 [some (.inl (.ref 38)), some (.inl (.ref 20)), none, some (.inr (.inl 82)), some (.inr (.inl 83)), some (.inr (.inl 84)), none], sy_dS F1 [], sy_dh F1 X1 X2 (iv_H 3), 0, 0))
    (k5 : (sy_i F 84).toInt < 512 → 0 ≤ (sy_i F 82).toInt → ((sy_i F 82).toInt + 1) < 512 → ((sy_ai F 32).getD ((sy_i F 82).toInt).toNat 0).toInt < (-9 : Int) → ((sy_ai F 32).getD ((sy_i F 82).toInt).toNat 0).toInt ≠ (-14 : Int) → 2 ≤ (sy_i F 83).toInt → ((sy_ai F 32).getD ((sy_i F 82).toInt).toNat 0).toInt ≠ (-15 : Int) → ((sy_ai F 32).getD ((sy_i F 82).toInt).toNat 0).toInt ≠ (-13 : Int) → ((sy_ai F 32).getD ((sy_i F 82).toInt).toNat 0).toInt = (-10 : Int) → ∀ F1 : Nat → sy_d, iv_in F1 iv_B0 → (∀ j, j < 82 → j ∉ ([46] : List Nat) → F1 j = F j) → sy_ai F1 46 = jm_upd (sy_ai F 46) ((((sy_i F 83).toInt + (-1 : Int)) - 1)).toNat (((sy_ai F 46).getD ((((sy_i F 83).toInt + (-1 : Int)) - 1)).toNat 0) + ((sy_ai F 46).getD (((sy_i F 83).toInt + (-1 : Int))).toNat 0)) → (sy_i F1 82).toInt = ((sy_i F 82).toInt + 1) → sy_i F1 82 = (sy_i F 82) + ((1 : Int32)) → (sy_i F1 83).toInt = ((sy_i F 83).toInt + (-1 : Int)) → sy_i F1 83 = (sy_i F 83) + (((-1) : Int32)) → (sy_i F1 84).toInt = ((sy_i F 84).toInt + 1) → sy_i F1 84 = (sy_i F 84) + ((1 : Int32)) → hd_W Ls xs d jm_M22 Q (8, sy_dL F1 [some (.inl (.ref 38)), some (.inl (.ref 20)), none, some (.inr (.inl 82)), some (.inr (.inl 83)), some (.inr (.inl 84)), none], sy_dS F1 [], sy_dh F1 X1 X2 (iv_H 3), 0, 0))
    (k6 : (sy_i F 84).toInt < 512 → 0 ≤ (sy_i F 82).toInt → ((sy_i F 82).toInt + 1) < 512 → ((sy_ai F 32).getD ((sy_i F 82).toInt).toNat 0).toInt < (-9 : Int) → ((sy_ai F 32).getD ((sy_i F 82).toInt).toNat 0).toInt ≠ (-14 : Int) → 2 ≤ (sy_i F 83).toInt → ((sy_ai F 32).getD ((sy_i F 82).toInt).toNat 0).toInt ≠ (-15 : Int) → ((sy_ai F 32).getD ((sy_i F 82).toInt).toNat 0).toInt = (-13 : Int) → ((sy_ai F 46).getD (((sy_i F 83).toInt - 1)).toNat 0).toInt ≠ 0 → ((sy_ai F 32).getD ((sy_i F 82).toInt).toNat 0).toInt < (-12 : Int) → ((sy_ai F 46).getD (((sy_i F 83).toInt + (-1 : Int))).toNat 0).toInt ≠ 0 → ∀ F1 : Nat → sy_d, iv_in F1 iv_B0 → (∀ j, j < 82 → j ∉ ([46] : List Nat) → F1 j = F j) → sy_ai F1 46 = jm_upd (sy_ai F 46) ((((sy_i F 83).toInt + (-1 : Int)) - 1)).toNat (((sy_ai F 46).getD ((((sy_i F 83).toInt + (-1 : Int)) - 1)).toNat 0) / ((sy_ai F 46).getD (((sy_i F 83).toInt + (-1 : Int))).toNat 0)) → (sy_i F1 82).toInt = ((sy_i F 82).toInt + 1) → sy_i F1 82 = (sy_i F 82) + ((1 : Int32)) → (sy_i F1 83).toInt = ((sy_i F 83).toInt + (-1 : Int)) → sy_i F1 83 = (sy_i F 83) + (((-1) : Int32)) → (sy_i F1 84).toInt = ((sy_i F 84).toInt + 1) → sy_i F1 84 = (sy_i F 84) + ((1 : Int32)) → hd_W Ls xs d jm_M22 Q (8, sy_dL F1 [some (.inl (.ref 38)), some (.inl (.ref 20)), none, some (.inr (.inl 82)), some (.inr (.inl 83)), some (.inr (.inl 84)), none], sy_dS F1 [], sy_dh F1 X1 X2 (iv_H 3), 0, 0))
    (k7 : (sy_i F 84).toInt < 512 → 0 ≤ (sy_i F 82).toInt → ((sy_i F 82).toInt + 1) < 512 → ((sy_ai F 32).getD ((sy_i F 82).toInt).toNat 0).toInt < (-9 : Int) → ((sy_ai F 32).getD ((sy_i F 82).toInt).toNat 0).toInt ≠ (-14 : Int) → 2 ≤ (sy_i F 83).toInt → ((sy_ai F 32).getD ((sy_i F 82).toInt).toNat 0).toInt ≠ (-15 : Int) → ((sy_ai F 32).getD ((sy_i F 82).toInt).toNat 0).toInt = (-13 : Int) → ((sy_ai F 46).getD (((sy_i F 83).toInt - 1)).toNat 0).toInt ≠ 0 → ((sy_ai F 32).getD ((sy_i F 82).toInt).toNat 0).toInt < (-12 : Int) → ((sy_ai F 46).getD (((sy_i F 83).toInt + (-1 : Int))).toNat 0).toInt = 0 → ∀ F1 : Nat → sy_d, iv_in F1 iv_B0 → (∀ j, j < 82 → j ∉ ([46] : List Nat) → F1 j = F j) → sy_ai F1 46 = jm_upd (sy_ai F 46) ((((sy_i F 83).toInt + (-1 : Int)) - 1)).toNat ((0 : Int32)) → (sy_i F1 82).toInt = ((sy_i F 82).toInt + 1) → sy_i F1 82 = (sy_i F 82) + ((1 : Int32)) → (sy_i F1 83).toInt = ((sy_i F 83).toInt + (-1 : Int)) → sy_i F1 83 = (sy_i F 83) + (((-1) : Int32)) → (sy_i F1 84).toInt = ((sy_i F 84).toInt + 1) → sy_i F1 84 = (sy_i F 84) + ((1 : Int32)) → hd_W Ls xs d jm_M22 Q (8, sy_dL F1 [some (.inl (.ref 38)), some (.inl (.ref 20)), none, some (.inr (.inl 82)), some (.inr (.inl 83)), some (.inr (.inl 84)), none], sy_dS F1 [], sy_dh F1 X1 X2 (iv_H 3), 0, 0))
    (k8 : (sy_i F 84).toInt < 512 → 0 ≤ (sy_i F 82).toInt → ((sy_i F 82).toInt + 1) < 512 → ((sy_ai F 32).getD ((sy_i F 82).toInt).toNat 0).toInt < (-9 : Int) → ((sy_ai F 32).getD ((sy_i F 82).toInt).toNat 0).toInt ≠ (-14 : Int) → 2 ≤ (sy_i F 83).toInt → ((sy_ai F 32).getD ((sy_i F 82).toInt).toNat 0).toInt ≠ (-15 : Int) → ((sy_ai F 32).getD ((sy_i F 82).toInt).toNat 0).toInt = (-13 : Int) → ((sy_ai F 46).getD (((sy_i F 83).toInt - 1)).toNat 0).toInt = 0 → ∀ F1 : Nat → sy_d, iv_in F1 iv_B0 → (∀ j, j < 82 → j ∉ ([] : List Nat) → F1 j = F j) → Q (some (.int ((0 : Int32)))) (sy_dh F1 X1 X2 (iv_H 3)))
    (k9 : (sy_i F 84).toInt < 512 → 0 ≤ (sy_i F 82).toInt → ((sy_i F 82).toInt + 1) < 512 → ((sy_ai F 32).getD ((sy_i F 82).toInt).toNat 0).toInt < (-9 : Int) → ((sy_ai F 32).getD ((sy_i F 82).toInt).toNat 0).toInt ≠ (-14 : Int) → 2 ≤ (sy_i F 83).toInt → ((sy_ai F 32).getD ((sy_i F 82).toInt).toNat 0).toInt = (-15 : Int) → ((sy_ai F 46).getD ((((sy_i F 83).toInt + (-2 : Int)) + 1)).toNat 0).toInt ≤ ((sy_ai F 46).getD (((sy_i F 83).toInt + (-2 : Int))).toNat 0).toInt → ∀ F1 : Nat → sy_d, iv_in F1 iv_B0 → (∀ j, j < 82 → j ∉ ([] : List Nat) → F1 j = F j) → (sy_i F1 82).toInt = ((sy_ai F 32).getD (((sy_i F 82).toInt + 1)).toNat 0).toInt → sy_i F1 82 = (sy_ai F 32).getD (((sy_i F 82).toInt + 1)).toNat 0 → (sy_i F1 83).toInt = ((sy_i F 83).toInt + (-2 : Int)) → sy_i F1 83 = (sy_i F 83) + (((-2) : Int32)) → (sy_i F1 84).toInt = ((sy_i F 84).toInt + 1) → sy_i F1 84 = (sy_i F 84) + ((1 : Int32)) → hd_W Ls xs d jm_M22 Q (8, sy_dL F1 [some (.inl (.ref 38)), some (.inl (.ref 20)), none, some (.inr (.inl 82)), some (.inr (.inl 83)), some (.inr (.inl 84)), none], sy_dS F1 [], sy_dh F1 X1 X2 (iv_H 3), 0, 0))
    (k10 : (sy_i F 84).toInt < 512 → 0 ≤ (sy_i F 82).toInt → ((sy_i F 82).toInt + 1) < 512 → ((sy_ai F 32).getD ((sy_i F 82).toInt).toNat 0).toInt < (-9 : Int) → ((sy_ai F 32).getD ((sy_i F 82).toInt).toNat 0).toInt ≠ (-14 : Int) → 2 ≤ (sy_i F 83).toInt → ((sy_ai F 32).getD ((sy_i F 82).toInt).toNat 0).toInt = (-15 : Int) → ((sy_ai F 46).getD (((sy_i F 83).toInt + (-2 : Int))).toNat 0).toInt < ((sy_ai F 46).getD ((((sy_i F 83).toInt + (-2 : Int)) + 1)).toNat 0).toInt → ∀ F1 : Nat → sy_d, iv_in F1 iv_B0 → (∀ j, j < 82 → j ∉ ([] : List Nat) → F1 j = F j) → (sy_i F1 82).toInt = (((sy_i F 82).toInt + 1) + 1) → sy_i F1 82 = ((sy_i F 82) + ((1 : Int32))) + ((1 : Int32)) → (sy_i F1 83).toInt = ((sy_i F 83).toInt + (-2 : Int)) → sy_i F1 83 = (sy_i F 83) + (((-2) : Int32)) → (sy_i F1 84).toInt = ((sy_i F 84).toInt + 1) → sy_i F1 84 = (sy_i F 84) + ((1 : Int32)) → hd_W Ls xs d jm_M22 Q (8, sy_dL F1 [some (.inl (.ref 38)), some (.inl (.ref 20)), none, some (.inr (.inl 82)), some (.inr (.inl 83)), some (.inr (.inl 84)), none], sy_dS F1 [], sy_dh F1 X1 X2 (iv_H 3), 0, 0))
    (k11 : (sy_i F 84).toInt < 512 → 0 ≤ (sy_i F 82).toInt → ((sy_i F 82).toInt + 1) < 512 → ((sy_ai F 32).getD ((sy_i F 82).toInt).toNat 0).toInt < (-9 : Int) → ((sy_ai F 32).getD ((sy_i F 82).toInt).toNat 0).toInt ≠ (-14 : Int) → (sy_i F 83).toInt < 2 → ∀ F1 : Nat → sy_d, iv_in F1 iv_B0 → (∀ j, j < 82 → j ∉ ([] : List Nat) → F1 j = F j) → Q (some (.int ((0 : Int32)))) (sy_dh F1 X1 X2 (iv_H 3)))
    (k12 : (sy_i F 84).toInt < 512 → 0 ≤ (sy_i F 82).toInt → ((sy_i F 82).toInt + 1) < 512 → ((sy_ai F 32).getD ((sy_i F 82).toInt).toNat 0).toInt < (-9 : Int) → ((sy_ai F 32).getD ((sy_i F 82).toInt).toNat 0).toInt = (-14 : Int) → (sy_i F 83).toInt < 1 → ∀ F1 : Nat → sy_d, iv_in F1 iv_B0 → (∀ j, j < 82 → j ∉ ([] : List Nat) → F1 j = F j) → Q (some (.int ((0 : Int32)))) (sy_dh F1 X1 X2 (iv_H 3)))
    (k13 : (sy_i F 84).toInt < 512 → 0 ≤ (sy_i F 82).toInt → ((sy_i F 82).toInt + 1) < 512 → ((sy_ai F 32).getD ((sy_i F 82).toInt).toNat 0).toInt < (-9 : Int) → ((sy_ai F 32).getD ((sy_i F 82).toInt).toNat 0).toInt = (-14 : Int) → 1 ≤ (sy_i F 83).toInt → ∀ F1 : Nat → sy_d, iv_in F1 iv_B0 → (∀ j, j < 82 → j ∉ ([] : List Nat) → F1 j = F j) → Q (some (.int ((sy_ai F 46).getD (((sy_i F 83).toInt - 1)).toNat 0))) (sy_dh F1 X1 X2 (iv_H 3)))
    (k14 : (sy_i F 84).toInt < 512 → 0 ≤ (sy_i F 82).toInt → ((sy_i F 82).toInt + 1) < 512 → (-9 : Int) ≤ ((sy_ai F 32).getD ((sy_i F 82).toInt).toNat 0).toInt → (sy_i F 83).toInt < 32 → ((sy_ai F 32).getD ((sy_i F 82).toInt).toNat 0).toInt < 0 → ∀ F1 : Nat → sy_d, iv_in F1 iv_B0 → (∀ j, j < 82 → j ∉ ([46] : List Nat) → F1 j = F j) → sy_ai F1 46 = jm_upd (sy_ai F 46) ((sy_i F 83).toInt).toNat ((sy_ai F 45).getD (((-1 : Int) - ((sy_ai F 32).getD ((sy_i F 82).toInt).toNat 0).toInt)).toNat 0) → (sy_i F1 82).toInt = ((sy_i F 82).toInt + 1) → sy_i F1 82 = (sy_i F 82) + ((1 : Int32)) → (sy_i F1 83).toInt = ((sy_i F 83).toInt + 1) → sy_i F1 83 = (sy_i F 83) + ((1 : Int32)) → (sy_i F1 84).toInt = ((sy_i F 84).toInt + 1) → sy_i F1 84 = (sy_i F 84) + ((1 : Int32)) → hd_W Ls xs d jm_M22 Q (8, sy_dL F1 [some (.inl (.ref 38)), some (.inl (.ref 20)), none, some (.inr (.inl 82)), some (.inr (.inl 83)), some (.inr (.inl 84)), none], sy_dS F1 [], sy_dh F1 X1 X2 (iv_H 3), 0, 0))
    (k15 : (sy_i F 84).toInt < 512 → 0 ≤ (sy_i F 82).toInt → ((sy_i F 82).toInt + 1) < 512 → (-9 : Int) ≤ ((sy_ai F 32).getD ((sy_i F 82).toInt).toNat 0).toInt → (sy_i F 83).toInt < 32 → 0 ≤ ((sy_ai F 32).getD ((sy_i F 82).toInt).toNat 0).toInt → ∀ F1 : Nat → sy_d, iv_in F1 iv_B0 → (∀ j, j < 82 → j ∉ ([46] : List Nat) → F1 j = F j) → sy_ai F1 46 = jm_upd (sy_ai F 46) ((sy_i F 83).toInt).toNat ((sy_ai F 32).getD ((sy_i F 82).toInt).toNat 0) → (sy_i F1 82).toInt = ((sy_i F 82).toInt + 1) → sy_i F1 82 = (sy_i F 82) + ((1 : Int32)) → (sy_i F1 83).toInt = ((sy_i F 83).toInt + 1) → sy_i F1 83 = (sy_i F 83) + ((1 : Int32)) → (sy_i F1 84).toInt = ((sy_i F 84).toInt + 1) → sy_i F1 84 = (sy_i F 84) + ((1 : Int32)) → hd_W Ls xs d jm_M22 Q (8, sy_dL F1 [some (.inl (.ref 38)), some (.inl (.ref 20)), none, some (.inr (.inl 82)), some (.inr (.inl 83)), some (.inr (.inl 84)), none], sy_dS F1 [], sy_dh F1 X1 X2 (iv_H 3), 0, 0))
    (k16 : (sy_i F 84).toInt < 512 → 0 ≤ (sy_i F 82).toInt → ((sy_i F 82).toInt + 1) < 512 → (-9 : Int) ≤ ((sy_ai F 32).getD ((sy_i F 82).toInt).toNat 0).toInt → 32 ≤ (sy_i F 83).toInt → ∀ F1 : Nat → sy_d, iv_in F1 iv_B0 → (∀ j, j < 82 → j ∉ ([] : List Nat) → F1 j = F j) → Q (some (.int ((0 : Int32)))) (sy_dh F1 X1 X2 (iv_H 3)))
    (k17 : (sy_i F 84).toInt < 512 → 0 ≤ (sy_i F 82).toInt → 512 ≤ ((sy_i F 82).toInt + 1) → ∀ F1 : Nat → sy_d, iv_in F1 iv_B0 → (∀ j, j < 82 → j ∉ ([] : List Nat) → F1 j = F j) → Q (some (.int ((0 : Int32)))) (sy_dh F1 X1 X2 (iv_H 3))) :
    hd_W Ls xs d jm_M22 Q (8, sy_dL F [some (.inl (.ref 38)), some (.inl (.ref 20)), none, some (.inr (.inl 82)), some (.inr (.inl 83)), some (.inr (.inl 84)), none], sy_dS F [], sy_dh F X1 X2 (iv_H 3), 0, 0) := by
  by_cases g0 : 512 ≤ (sy_i F 84).toInt
  · exact j3wo_8_p0 hd F X1 X2 hB (by first | exact g0 | (simp only [nz_c]; exact g0)) (fun F1 g  => k0 g0 F1 (nz_in0 hB [] (fun j hj hn => g j hj (by simp only [List.mem_cons, List.not_mem_nil, or_false, not_or] at hn; exact trivial)) (List.forall_mem_nil _)) (fun j hj hn => g j hj (by simp only [List.mem_cons, List.not_mem_nil, or_false, not_or] at hn; exact trivial)) )
  replace g0 : (sy_i F 84).toInt < 512 := by omega
  by_cases g1 : (sy_i F 82).toInt < 0
  · exfalso
    omega
  replace g1 : 0 ≤ (sy_i F 82).toInt := by omega
  by_cases g2 : ((sy_i F 82).toInt + 1) < 512
  · by_cases g3 : ((sy_ai F 32).getD ((sy_i F 82).toInt).toNat 0).toInt < (-9 : Int)
    · by_cases g4 : ((sy_ai F 32).getD ((sy_i F 82).toInt).toNat 0).toInt ≠ (-14 : Int)
      · by_cases g5 : 2 ≤ (sy_i F 83).toInt
        · by_cases g6 : ((sy_ai F 32).getD ((sy_i F 82).toInt).toNat 0).toInt ≠ (-15 : Int)
          · by_cases g7 : ((sy_ai F 32).getD ((sy_i F 82).toInt).toNat 0).toInt ≠ (-13 : Int)
            · by_cases g8 : ((sy_ai F 32).getD ((sy_i F 82).toInt).toNat 0).toInt < (-12 : Int)
              · by_cases g9 : ((sy_ai F 46).getD (((sy_i F 83).toInt + (-1 : Int))).toNat 0).toInt ≠ 0
                · have n85 : nzI ((sy_i F 82) + ((1 : Int32))) (((sy_i F 82).toInt + 1)) := nz_add (rfl : (sy_i F 82).toInt = (sy_i F 82).toInt) (by decide : ((1 : Int32)).toInt = 1) (by omega) (by omega)
                  have q86 : (sy_ai F 32).getD (sy_i F 82).toNatClampNeg 0 = (sy_ai F 32).getD ((sy_i F 82).toInt).toNat 0 := by simp only [nz_c]
                  have n86 : nzI ((sy_ai F 32).getD (sy_i F 82).toNatClampNeg 0) (((sy_ai F 32).getD ((sy_i F 82).toInt).toNat 0).toInt) := congrArg Int32.toInt q86
                  have r86 := nz_ba hB (k := 32) (lo := (-2147483648)) (hi := 2147483646) rfl ((sy_i F 82).toInt).toNat
                  have n88 : nzI ((sy_i F 83) + (((-1) : Int32))) (((sy_i F 83).toInt + (-1 : Int))) := nz_add (rfl : (sy_i F 83).toInt = (sy_i F 83).toInt) (by decide : (((-1) : Int32)).toInt = (-1 : Int)) (by omega) (by omega)
                  have n90 : nzI (((sy_i F 83) + (((-1) : Int32))) - ((1 : Int32))) ((((sy_i F 83).toInt + (-1 : Int)) - 1)) := nz_sub (nzE n88) (by decide : ((1 : Int32)).toInt = 1) (by omega) (by omega)
                  have q92 : (sy_ai F 46).getD ((sy_i F 83) + (((-1) : Int32))).toNatClampNeg 0 = (sy_ai F 46).getD (((sy_i F 83).toInt + (-1 : Int))).toNat 0 := by simp only [nz_c, (nzE n88), (by decide : (((-1) : Int32)).toInt = (-1 : Int))]
                  have n92 : nzI ((sy_ai F 46).getD ((sy_i F 83) + (((-1) : Int32))).toNatClampNeg 0) (((sy_ai F 46).getD (((sy_i F 83).toInt + (-1 : Int))).toNat 0).toInt) := congrArg Int32.toInt q92
                  have n89 : nzI (((sy_i F 83) + (((-1) : Int32))) - ((1 : Int32))) ((((sy_i F 83).toInt + (-1 : Int)) - 1)) := nz_sub (nzE n88) (by decide : ((1 : Int32)).toInt = 1) (by omega) (by omega)
                  have w94 : jm_upd (sy_ai F 46) (((sy_i F 83) + (((-1) : Int32))) - ((1 : Int32))).toNatClampNeg (((sy_ai F 46).getD (((sy_i F 83) + (((-1) : Int32))) - ((1 : Int32))).toNatClampNeg 0) / ((sy_ai F 46).getD ((sy_i F 83) + (((-1) : Int32))).toNatClampNeg 0)) = jm_upd (sy_ai F 46) ((((sy_i F 83).toInt + (-1 : Int)) - 1)).toNat (((sy_ai F 46).getD ((((sy_i F 83).toInt + (-1 : Int)) - 1)).toNat 0) / ((sy_ai F 46).getD (((sy_i F 83).toInt + (-1 : Int))).toNat 0)) := by simp only [nz_c, (nzE n88), (nzE n89), (nzE n90), (by decide : (((-1) : Int32)).toInt = (-1 : Int)), (by decide : ((1 : Int32)).toInt = 1)]
                  have n87 : nzI ((sy_i F 82) + ((1 : Int32))) (((sy_i F 82).toInt + 1)) := nz_add (rfl : (sy_i F 82).toInt = (sy_i F 82).toInt) (by decide : ((1 : Int32)).toInt = 1) (by omega) (by omega)
                  have n95 : nzI ((sy_i F 84) + ((1 : Int32))) (((sy_i F 84).toInt + 1)) := nz_add (rfl : (sy_i F 84).toInt = (sy_i F 84).toInt) (by decide : ((1 : Int32)).toInt = 1) (by omega) (by omega)
                  exact j3wo_8_p1 hd F X1 X2 hB (by first | exact g0 | (simp only [nz_c]; exact g0)) (by first | exact g1 | (simp only [nz_c]; exact g1)) (by first | (simp only [nz_c, (nzE n85)]; exact g2) | exact g2 | (rw [(nzE n85)]; exact g2)) (by first | exact ⟨by omega, by omega⟩ | (simp only [nz_c]; exact ⟨by omega, by omega⟩)) (by first | exact g3 | (simp only [nz_c]; exact g3) | (rw [(nzE n86)]; exact g3)) (by first | exact g4 | (simp only [nz_c]; exact g4) | (rw [(nzE n86)]; exact g4)) (by first | exact g5 | (simp only [nz_c]; exact g5)) (by first | exact g6 | (simp only [nz_c]; exact g6) | (rw [(nzE n86)]; exact g6)) (by first | exact g7 | (simp only [nz_c]; exact g7) | (rw [(nzE n86)]; exact g7)) (by first | (simp only [nz_c, (nzE n88), (nzE n90)]; exact ⟨by omega, by omega⟩) | exact ⟨by omega, by omega⟩ | (rw [(nzE n90)]; exact ⟨by omega, by omega⟩)) (by first | (simp only [nz_c, (nzE n88)]; exact ⟨by omega, by omega⟩) | exact ⟨by omega, by omega⟩ | (rw [(nzE n88)]; exact ⟨by omega, by omega⟩)) (by first | exact g8 | (simp only [nz_c]; exact g8) | (rw [(nzE n86)]; exact g8)) (by first | (simp only [nz_c, (nzE n88)]; exact g9) | exact g9 | (rw [(nzE n92)]; exact g9)) (by first | (simp only [nz_c, (nzE n88)]; exact g9) | exact g9 | (rw [(nzE n92)]; exact g9)) (by first | (simp only [nz_c, (nzE n88), (nzE n89)]; exact ⟨by omega, by omega⟩) | exact ⟨by omega, by omega⟩ | (rw [(nzE n89)]; exact ⟨by omega, by omega⟩)) (fun F1 g e46 e82 e83 e84 => k1 g0 g1 g2 g3 g4 g5 g6 g7 g8 g9 F1 (nz_in0 hB [46] (fun j hj hn => g j hj (by simp only [List.mem_cons, List.not_mem_nil, or_false, not_or] at hn; omega)) (List.forall_mem_cons.mpr ⟨fun t ht => (Option.some.inj ht) ▸ (nz_hz2 e46), List.forall_mem_nil _⟩)) (fun j hj hn => g j hj (by simp only [List.mem_cons, List.not_mem_nil, or_false, not_or] at hn; omega)) ((zz_ai e46).trans w94) ((congrArg Int32.toInt (zz_i e82)).trans (nzE n87)) ((zz_i e82).trans (rfl : (sy_i F 82) + ((1 : Int32)) = (sy_i F 82) + ((1 : Int32)))) ((congrArg Int32.toInt (zz_i e83)).trans (nzE n88)) ((zz_i e83).trans (rfl : (sy_i F 83) + (((-1) : Int32)) = (sy_i F 83) + (((-1) : Int32)))) ((congrArg Int32.toInt (zz_i e84)).trans (nzE n95)) ((zz_i e84).trans (rfl : (sy_i F 84) + ((1 : Int32)) = (sy_i F 84) + ((1 : Int32)))))
                replace g9 : ((sy_ai F 46).getD (((sy_i F 83).toInt + (-1 : Int))).toNat 0).toInt = 0 := by omega
                have n85 : nzI ((sy_i F 82) + ((1 : Int32))) (((sy_i F 82).toInt + 1)) := nz_add (rfl : (sy_i F 82).toInt = (sy_i F 82).toInt) (by decide : ((1 : Int32)).toInt = 1) (by omega) (by omega)
                have q86 : (sy_ai F 32).getD (sy_i F 82).toNatClampNeg 0 = (sy_ai F 32).getD ((sy_i F 82).toInt).toNat 0 := by simp only [nz_c]
                have n86 : nzI ((sy_ai F 32).getD (sy_i F 82).toNatClampNeg 0) (((sy_ai F 32).getD ((sy_i F 82).toInt).toNat 0).toInt) := congrArg Int32.toInt q86
                have r86 := nz_ba hB (k := 32) (lo := (-2147483648)) (hi := 2147483646) rfl ((sy_i F 82).toInt).toNat
                have n88 : nzI ((sy_i F 83) + (((-1) : Int32))) (((sy_i F 83).toInt + (-1 : Int))) := nz_add (rfl : (sy_i F 83).toInt = (sy_i F 83).toInt) (by decide : (((-1) : Int32)).toInt = (-1 : Int)) (by omega) (by omega)
                have n90 : nzI (((sy_i F 83) + (((-1) : Int32))) - ((1 : Int32))) ((((sy_i F 83).toInt + (-1 : Int)) - 1)) := nz_sub (nzE n88) (by decide : ((1 : Int32)).toInt = 1) (by omega) (by omega)
                have q92 : (sy_ai F 46).getD ((sy_i F 83) + (((-1) : Int32))).toNatClampNeg 0 = (sy_ai F 46).getD (((sy_i F 83).toInt + (-1 : Int))).toNat 0 := by simp only [nz_c, (nzE n88), (by decide : (((-1) : Int32)).toInt = (-1 : Int))]
                have n92 : nzI ((sy_ai F 46).getD ((sy_i F 83) + (((-1) : Int32))).toNatClampNeg 0) (((sy_ai F 46).getD (((sy_i F 83).toInt + (-1 : Int))).toNat 0).toInt) := congrArg Int32.toInt q92
                have n89 : nzI (((sy_i F 83) + (((-1) : Int32))) - ((1 : Int32))) ((((sy_i F 83).toInt + (-1 : Int)) - 1)) := nz_sub (nzE n88) (by decide : ((1 : Int32)).toInt = 1) (by omega) (by omega)
                have w93 : jm_upd (sy_ai F 46) (((sy_i F 83) + (((-1) : Int32))) - ((1 : Int32))).toNatClampNeg ((0 : Int32)) = jm_upd (sy_ai F 46) ((((sy_i F 83).toInt + (-1 : Int)) - 1)).toNat ((0 : Int32)) := by simp only [nz_c, (nzE n88), (nzE n89), (by decide : (((-1) : Int32)).toInt = (-1 : Int)), (by decide : ((0 : Int32)).toInt = 0), (by decide : ((1 : Int32)).toInt = 1)]
                have n87 : nzI ((sy_i F 82) + ((1 : Int32))) (((sy_i F 82).toInt + 1)) := nz_add (rfl : (sy_i F 82).toInt = (sy_i F 82).toInt) (by decide : ((1 : Int32)).toInt = 1) (by omega) (by omega)
                have n94 : nzI ((sy_i F 84) + ((1 : Int32))) (((sy_i F 84).toInt + 1)) := nz_add (rfl : (sy_i F 84).toInt = (sy_i F 84).toInt) (by decide : ((1 : Int32)).toInt = 1) (by omega) (by omega)
                exact j3wo_8_p2 hd F X1 X2 hB (by first | exact g0 | (simp only [nz_c]; exact g0)) (by first | exact g1 | (simp only [nz_c]; exact g1)) (by first | (simp only [nz_c, (nzE n85)]; exact g2) | exact g2 | (rw [(nzE n85)]; exact g2)) (by first | exact ⟨by omega, by omega⟩ | (simp only [nz_c]; exact ⟨by omega, by omega⟩)) (by first | exact g3 | (simp only [nz_c]; exact g3) | (rw [(nzE n86)]; exact g3)) (by first | exact g4 | (simp only [nz_c]; exact g4) | (rw [(nzE n86)]; exact g4)) (by first | exact g5 | (simp only [nz_c]; exact g5)) (by first | exact g6 | (simp only [nz_c]; exact g6) | (rw [(nzE n86)]; exact g6)) (by first | exact g7 | (simp only [nz_c]; exact g7) | (rw [(nzE n86)]; exact g7)) (by first | (simp only [nz_c, (nzE n88), (nzE n90)]; exact ⟨by omega, by omega⟩) | exact ⟨by omega, by omega⟩ | (rw [(nzE n90)]; exact ⟨by omega, by omega⟩)) (by first | (simp only [nz_c, (nzE n88)]; exact ⟨by omega, by omega⟩) | exact ⟨by omega, by omega⟩ | (rw [(nzE n88)]; exact ⟨by omega, by omega⟩)) (by first | exact g8 | (simp only [nz_c]; exact g8) | (rw [(nzE n86)]; exact g8)) (by first | (simp only [nz_c, (nzE n88)]; exact g9) | exact g9 | (rw [(nzE n92)]; exact g9)) (by first | (simp only [nz_c, (nzE n88), (nzE n89)]; exact ⟨by omega, by omega⟩) | exact ⟨by omega, by omega⟩ | (rw [(nzE n89)]; exact ⟨by omega, by omega⟩)) (fun F1 g e46 e82 e83 e84 => k2 g0 g1 g2 g3 g4 g5 g6 g7 g8 g9 F1 (nz_in0 hB [46] (fun j hj hn => g j hj (by simp only [List.mem_cons, List.not_mem_nil, or_false, not_or] at hn; omega)) (List.forall_mem_cons.mpr ⟨fun t ht => (Option.some.inj ht) ▸ (nz_hz2 e46), List.forall_mem_nil _⟩)) (fun j hj hn => g j hj (by simp only [List.mem_cons, List.not_mem_nil, or_false, not_or] at hn; omega)) ((zz_ai e46).trans w93) ((congrArg Int32.toInt (zz_i e82)).trans (nzE n87)) ((zz_i e82).trans (rfl : (sy_i F 82) + ((1 : Int32)) = (sy_i F 82) + ((1 : Int32)))) ((congrArg Int32.toInt (zz_i e83)).trans (nzE n88)) ((zz_i e83).trans (rfl : (sy_i F 83) + (((-1) : Int32)) = (sy_i F 83) + (((-1) : Int32)))) ((congrArg Int32.toInt (zz_i e84)).trans (nzE n94)) ((zz_i e84).trans (rfl : (sy_i F 84) + ((1 : Int32)) = (sy_i F 84) + ((1 : Int32)))))
              have y8_0 := g8
              clear g8
              by_cases g8 : (-10 : Int) < ((sy_ai F 32).getD ((sy_i F 82).toInt).toNat 0).toInt
              · have n85 : nzI ((sy_i F 82) + ((1 : Int32))) (((sy_i F 82).toInt + 1)) := nz_add (rfl : (sy_i F 82).toInt = (sy_i F 82).toInt) (by decide : ((1 : Int32)).toInt = 1) (by omega) (by omega)
                have q86 : (sy_ai F 32).getD (sy_i F 82).toNatClampNeg 0 = (sy_ai F 32).getD ((sy_i F 82).toInt).toNat 0 := by simp only [nz_c]
                have n86 : nzI ((sy_ai F 32).getD (sy_i F 82).toNatClampNeg 0) (((sy_ai F 32).getD ((sy_i F 82).toInt).toNat 0).toInt) := congrArg Int32.toInt q86
                have r86 := nz_ba hB (k := 32) (lo := (-2147483648)) (hi := 2147483646) rfl ((sy_i F 82).toInt).toNat
                have n88 : nzI ((sy_i F 83) + (((-1) : Int32))) (((sy_i F 83).toInt + (-1 : Int))) := nz_add (rfl : (sy_i F 83).toInt = (sy_i F 83).toInt) (by decide : (((-1) : Int32)).toInt = (-1 : Int)) (by omega) (by omega)
                have n90 : nzI (((sy_i F 83) + (((-1) : Int32))) - ((1 : Int32))) ((((sy_i F 83).toInt + (-1 : Int)) - 1)) := nz_sub (nzE n88) (by decide : ((1 : Int32)).toInt = 1) (by omega) (by omega)
                exfalso
                omega
              have y8_1 := g8
              clear g8
              by_cases g8 : ((sy_ai F 32).getD ((sy_i F 82).toInt).toNat 0).toInt = (-12 : Int)
              · have n85 : nzI ((sy_i F 82) + ((1 : Int32))) (((sy_i F 82).toInt + 1)) := nz_add (rfl : (sy_i F 82).toInt = (sy_i F 82).toInt) (by decide : ((1 : Int32)).toInt = 1) (by omega) (by omega)
                have q86 : (sy_ai F 32).getD (sy_i F 82).toNatClampNeg 0 = (sy_ai F 32).getD ((sy_i F 82).toInt).toNat 0 := by simp only [nz_c]
                have n86 : nzI ((sy_ai F 32).getD (sy_i F 82).toNatClampNeg 0) (((sy_ai F 32).getD ((sy_i F 82).toInt).toNat 0).toInt) := congrArg Int32.toInt q86
                have r86 := nz_ba hB (k := 32) (lo := (-2147483648)) (hi := 2147483646) rfl ((sy_i F 82).toInt).toNat
                have n88 : nzI ((sy_i F 83) + (((-1) : Int32))) (((sy_i F 83).toInt + (-1 : Int))) := nz_add (rfl : (sy_i F 83).toInt = (sy_i F 83).toInt) (by decide : (((-1) : Int32)).toInt = (-1 : Int)) (by omega) (by omega)
                have n90 : nzI (((sy_i F 83) + (((-1) : Int32))) - ((1 : Int32))) ((((sy_i F 83).toInt + (-1 : Int)) - 1)) := nz_sub (nzE n88) (by decide : ((1 : Int32)).toInt = 1) (by omega) (by omega)
                have n89 : nzI (((sy_i F 83) + (((-1) : Int32))) - ((1 : Int32))) ((((sy_i F 83).toInt + (-1 : Int)) - 1)) := nz_sub (nzE n88) (by decide : ((1 : Int32)).toInt = 1) (by omega) (by omega)
                have w94 : jm_upd (sy_ai F 46) (((sy_i F 83) + (((-1) : Int32))) - ((1 : Int32))).toNatClampNeg (((sy_ai F 46).getD (((sy_i F 83) + (((-1) : Int32))) - ((1 : Int32))).toNatClampNeg 0) * ((sy_ai F 46).getD ((sy_i F 83) + (((-1) : Int32))).toNatClampNeg 0)) = jm_upd (sy_ai F 46) ((((sy_i F 83).toInt + (-1 : Int)) - 1)).toNat (((sy_ai F 46).getD ((((sy_i F 83).toInt + (-1 : Int)) - 1)).toNat 0) * ((sy_ai F 46).getD (((sy_i F 83).toInt + (-1 : Int))).toNat 0)) := by simp only [nz_c, (nzE n88), (nzE n89), (nzE n90), (by decide : (((-1) : Int32)).toInt = (-1 : Int)), (by decide : ((1 : Int32)).toInt = 1)]
                have n87 : nzI ((sy_i F 82) + ((1 : Int32))) (((sy_i F 82).toInt + 1)) := nz_add (rfl : (sy_i F 82).toInt = (sy_i F 82).toInt) (by decide : ((1 : Int32)).toInt = 1) (by omega) (by omega)
                have n95 : nzI ((sy_i F 84) + ((1 : Int32))) (((sy_i F 84).toInt + 1)) := nz_add (rfl : (sy_i F 84).toInt = (sy_i F 84).toInt) (by decide : ((1 : Int32)).toInt = 1) (by omega) (by omega)
                exact j3wo_8_p3 hd F X1 X2 hB (by first | exact g0 | (simp only [nz_c]; exact g0)) (by first | exact g1 | (simp only [nz_c]; exact g1)) (by first | (simp only [nz_c, (nzE n85)]; exact g2) | exact g2 | (rw [(nzE n85)]; exact g2)) (by first | exact ⟨by omega, by omega⟩ | (simp only [nz_c]; exact ⟨by omega, by omega⟩)) (by first | exact g3 | (simp only [nz_c]; exact g3) | (rw [(nzE n86)]; exact g3)) (by first | exact g4 | (simp only [nz_c]; exact g4) | (rw [(nzE n86)]; exact g4)) (by first | exact g5 | (simp only [nz_c]; exact g5)) (by first | exact g6 | (simp only [nz_c]; exact g6) | (rw [(nzE n86)]; exact g6)) (by first | exact g7 | (simp only [nz_c]; exact g7) | (rw [(nzE n86)]; exact g7)) (by first | (simp only [nz_c, (nzE n88), (nzE n90)]; exact ⟨by omega, by omega⟩) | exact ⟨by omega, by omega⟩ | (rw [(nzE n90)]; exact ⟨by omega, by omega⟩)) (by first | (simp only [nz_c, (nzE n88)]; exact ⟨by omega, by omega⟩) | exact ⟨by omega, by omega⟩ | (rw [(nzE n88)]; exact ⟨by omega, by omega⟩)) (by first | exact g8 | (simp only [nz_c]; exact g8) | (rw [(nzE n86)]; exact g8)) (by first | (simp only [nz_c, (nzE n88), (nzE n89)]; exact ⟨by omega, by omega⟩) | exact ⟨by omega, by omega⟩ | (rw [(nzE n89)]; exact ⟨by omega, by omega⟩)) (fun F1 g e46 e82 e83 e84 => k3 g0 g1 g2 g3 g4 g5 g6 g7 g8 F1 (nz_in0 hB [46] (fun j hj hn => g j hj (by simp only [List.mem_cons, List.not_mem_nil, or_false, not_or] at hn; omega)) (List.forall_mem_cons.mpr ⟨fun t ht => (Option.some.inj ht) ▸ (nz_hz2 e46), List.forall_mem_nil _⟩)) (fun j hj hn => g j hj (by simp only [List.mem_cons, List.not_mem_nil, or_false, not_or] at hn; omega)) ((zz_ai e46).trans w94) ((congrArg Int32.toInt (zz_i e82)).trans (nzE n87)) ((zz_i e82).trans (rfl : (sy_i F 82) + ((1 : Int32)) = (sy_i F 82) + ((1 : Int32)))) ((congrArg Int32.toInt (zz_i e83)).trans (nzE n88)) ((zz_i e83).trans (rfl : (sy_i F 83) + (((-1) : Int32)) = (sy_i F 83) + (((-1) : Int32)))) ((congrArg Int32.toInt (zz_i e84)).trans (nzE n95)) ((zz_i e84).trans (rfl : (sy_i F 84) + ((1 : Int32)) = (sy_i F 84) + ((1 : Int32)))))
              have y8_2 := g8
              clear g8
              by_cases g8 : ((sy_ai F 32).getD ((sy_i F 82).toInt).toNat 0).toInt = (-11 : Int)
              · have n85 : nzI ((sy_i F 82) + ((1 : Int32))) (((sy_i F 82).toInt + 1)) := nz_add (rfl : (sy_i F 82).toInt = (sy_i F 82).toInt) (by decide : ((1 : Int32)).toInt = 1) (by omega) (by omega)
                have q86 : (sy_ai F 32).getD (sy_i F 82).toNatClampNeg 0 = (sy_ai F 32).getD ((sy_i F 82).toInt).toNat 0 := by simp only [nz_c]
                have n86 : nzI ((sy_ai F 32).getD (sy_i F 82).toNatClampNeg 0) (((sy_ai F 32).getD ((sy_i F 82).toInt).toNat 0).toInt) := congrArg Int32.toInt q86
                have r86 := nz_ba hB (k := 32) (lo := (-2147483648)) (hi := 2147483646) rfl ((sy_i F 82).toInt).toNat
                have n88 : nzI ((sy_i F 83) + (((-1) : Int32))) (((sy_i F 83).toInt + (-1 : Int))) := nz_add (rfl : (sy_i F 83).toInt = (sy_i F 83).toInt) (by decide : (((-1) : Int32)).toInt = (-1 : Int)) (by omega) (by omega)
                have n90 : nzI (((sy_i F 83) + (((-1) : Int32))) - ((1 : Int32))) ((((sy_i F 83).toInt + (-1 : Int)) - 1)) := nz_sub (nzE n88) (by decide : ((1 : Int32)).toInt = 1) (by omega) (by omega)
                have n89 : nzI (((sy_i F 83) + (((-1) : Int32))) - ((1 : Int32))) ((((sy_i F 83).toInt + (-1 : Int)) - 1)) := nz_sub (nzE n88) (by decide : ((1 : Int32)).toInt = 1) (by omega) (by omega)
                have w94 : jm_upd (sy_ai F 46) (((sy_i F 83) + (((-1) : Int32))) - ((1 : Int32))).toNatClampNeg (((sy_ai F 46).getD (((sy_i F 83) + (((-1) : Int32))) - ((1 : Int32))).toNatClampNeg 0) - ((sy_ai F 46).getD ((sy_i F 83) + (((-1) : Int32))).toNatClampNeg 0)) = jm_upd (sy_ai F 46) ((((sy_i F 83).toInt + (-1 : Int)) - 1)).toNat (((sy_ai F 46).getD ((((sy_i F 83).toInt + (-1 : Int)) - 1)).toNat 0) - ((sy_ai F 46).getD (((sy_i F 83).toInt + (-1 : Int))).toNat 0)) := by simp only [nz_c, (nzE n88), (nzE n89), (nzE n90), (by decide : (((-1) : Int32)).toInt = (-1 : Int)), (by decide : ((1 : Int32)).toInt = 1)]
                have n87 : nzI ((sy_i F 82) + ((1 : Int32))) (((sy_i F 82).toInt + 1)) := nz_add (rfl : (sy_i F 82).toInt = (sy_i F 82).toInt) (by decide : ((1 : Int32)).toInt = 1) (by omega) (by omega)
                have n95 : nzI ((sy_i F 84) + ((1 : Int32))) (((sy_i F 84).toInt + 1)) := nz_add (rfl : (sy_i F 84).toInt = (sy_i F 84).toInt) (by decide : ((1 : Int32)).toInt = 1) (by omega) (by omega)
                exact j3wo_8_p4 hd F X1 X2 hB (by first | exact g0 | (simp only [nz_c]; exact g0)) (by first | exact g1 | (simp only [nz_c]; exact g1)) (by first | (simp only [nz_c, (nzE n85)]; exact g2) | exact g2 | (rw [(nzE n85)]; exact g2)) (by first | exact ⟨by omega, by omega⟩ | (simp only [nz_c]; exact ⟨by omega, by omega⟩)) (by first | exact g3 | (simp only [nz_c]; exact g3) | (rw [(nzE n86)]; exact g3)) (by first | exact g4 | (simp only [nz_c]; exact g4) | (rw [(nzE n86)]; exact g4)) (by first | exact g5 | (simp only [nz_c]; exact g5)) (by first | exact g6 | (simp only [nz_c]; exact g6) | (rw [(nzE n86)]; exact g6)) (by first | exact g7 | (simp only [nz_c]; exact g7) | (rw [(nzE n86)]; exact g7)) (by first | (simp only [nz_c, (nzE n88), (nzE n90)]; exact ⟨by omega, by omega⟩) | exact ⟨by omega, by omega⟩ | (rw [(nzE n90)]; exact ⟨by omega, by omega⟩)) (by first | (simp only [nz_c, (nzE n88)]; exact ⟨by omega, by omega⟩) | exact ⟨by omega, by omega⟩ | (rw [(nzE n88)]; exact ⟨by omega, by omega⟩)) (by first | exact g8 | (simp only [nz_c]; exact g8) | (rw [(nzE n86)]; exact g8)) (by first | (simp only [nz_c, (nzE n88), (nzE n89)]; exact ⟨by omega, by omega⟩) | exact ⟨by omega, by omega⟩ | (rw [(nzE n89)]; exact ⟨by omega, by omega⟩)) (fun F1 g e46 e82 e83 e84 => k4 g0 g1 g2 g3 g4 g5 g6 g7 g8 F1 (nz_in0 hB [46] (fun j hj hn => g j hj (by simp only [List.mem_cons, List.not_mem_nil, or_false, not_or] at hn; omega)) (List.forall_mem_cons.mpr ⟨fun t ht => (Option.some.inj ht) ▸ (nz_hz2 e46), List.forall_mem_nil _⟩)) (fun j hj hn => g j hj (by simp only [List.mem_cons, List.not_mem_nil, or_false, not_or] at hn; omega)) ((zz_ai e46).trans w94) ((congrArg Int32.toInt (zz_i e82)).trans (nzE n87)) ((zz_i e82).trans (rfl : (sy_i F 82) + ((1 : Int32)) = (sy_i F 82) + ((1 : Int32)))) ((congrArg Int32.toInt (zz_i e83)).trans (nzE n88)) ((zz_i e83).trans (rfl : (sy_i F 83) + (((-1) : Int32)) = (sy_i F 83) + (((-1) : Int32)))) ((congrArg Int32.toInt (zz_i e84)).trans (nzE n95)) ((zz_i e84).trans (rfl : (sy_i F 84) + ((1 : Int32)) = (sy_i F 84) + ((1 : Int32)))))
              have y8_3 := g8
              clear g8
              by_cases g8 : ((sy_ai F 32).getD ((sy_i F 82).toInt).toNat 0).toInt = (-10 : Int)
              · have n85 : nzI ((sy_i F 82) + ((1 : Int32))) (((sy_i F 82).toInt + 1)) := nz_add (rfl : (sy_i F 82).toInt = (sy_i F 82).toInt) (by decide : ((1 : Int32)).toInt = 1) (by omega) (by omega)
                have q86 : (sy_ai F 32).getD (sy_i F 82).toNatClampNeg 0 = (sy_ai F 32).getD ((sy_i F 82).toInt).toNat 0 := by simp only [nz_c]
                have n86 : nzI ((sy_ai F 32).getD (sy_i F 82).toNatClampNeg 0) (((sy_ai F 32).getD ((sy_i F 82).toInt).toNat 0).toInt) := congrArg Int32.toInt q86
                have r86 := nz_ba hB (k := 32) (lo := (-2147483648)) (hi := 2147483646) rfl ((sy_i F 82).toInt).toNat
                have n88 : nzI ((sy_i F 83) + (((-1) : Int32))) (((sy_i F 83).toInt + (-1 : Int))) := nz_add (rfl : (sy_i F 83).toInt = (sy_i F 83).toInt) (by decide : (((-1) : Int32)).toInt = (-1 : Int)) (by omega) (by omega)
                have n90 : nzI (((sy_i F 83) + (((-1) : Int32))) - ((1 : Int32))) ((((sy_i F 83).toInt + (-1 : Int)) - 1)) := nz_sub (nzE n88) (by decide : ((1 : Int32)).toInt = 1) (by omega) (by omega)
                have n89 : nzI (((sy_i F 83) + (((-1) : Int32))) - ((1 : Int32))) ((((sy_i F 83).toInt + (-1 : Int)) - 1)) := nz_sub (nzE n88) (by decide : ((1 : Int32)).toInt = 1) (by omega) (by omega)
                have w94 : jm_upd (sy_ai F 46) (((sy_i F 83) + (((-1) : Int32))) - ((1 : Int32))).toNatClampNeg (((sy_ai F 46).getD (((sy_i F 83) + (((-1) : Int32))) - ((1 : Int32))).toNatClampNeg 0) + ((sy_ai F 46).getD ((sy_i F 83) + (((-1) : Int32))).toNatClampNeg 0)) = jm_upd (sy_ai F 46) ((((sy_i F 83).toInt + (-1 : Int)) - 1)).toNat (((sy_ai F 46).getD ((((sy_i F 83).toInt + (-1 : Int)) - 1)).toNat 0) + ((sy_ai F 46).getD (((sy_i F 83).toInt + (-1 : Int))).toNat 0)) := by simp only [nz_c, (nzE n88), (nzE n89), (nzE n90), (by decide : (((-1) : Int32)).toInt = (-1 : Int)), (by decide : ((1 : Int32)).toInt = 1)]
                have n87 : nzI ((sy_i F 82) + ((1 : Int32))) (((sy_i F 82).toInt + 1)) := nz_add (rfl : (sy_i F 82).toInt = (sy_i F 82).toInt) (by decide : ((1 : Int32)).toInt = 1) (by omega) (by omega)
                have n95 : nzI ((sy_i F 84) + ((1 : Int32))) (((sy_i F 84).toInt + 1)) := nz_add (rfl : (sy_i F 84).toInt = (sy_i F 84).toInt) (by decide : ((1 : Int32)).toInt = 1) (by omega) (by omega)
                exact j3wo_8_p5 hd F X1 X2 hB (by first | exact g0 | (simp only [nz_c]; exact g0)) (by first | exact g1 | (simp only [nz_c]; exact g1)) (by first | (simp only [nz_c, (nzE n85)]; exact g2) | exact g2 | (rw [(nzE n85)]; exact g2)) (by first | exact ⟨by omega, by omega⟩ | (simp only [nz_c]; exact ⟨by omega, by omega⟩)) (by first | exact g3 | (simp only [nz_c]; exact g3) | (rw [(nzE n86)]; exact g3)) (by first | exact g4 | (simp only [nz_c]; exact g4) | (rw [(nzE n86)]; exact g4)) (by first | exact g5 | (simp only [nz_c]; exact g5)) (by first | exact g6 | (simp only [nz_c]; exact g6) | (rw [(nzE n86)]; exact g6)) (by first | exact g7 | (simp only [nz_c]; exact g7) | (rw [(nzE n86)]; exact g7)) (by first | (simp only [nz_c, (nzE n88), (nzE n90)]; exact ⟨by omega, by omega⟩) | exact ⟨by omega, by omega⟩ | (rw [(nzE n90)]; exact ⟨by omega, by omega⟩)) (by first | (simp only [nz_c, (nzE n88)]; exact ⟨by omega, by omega⟩) | exact ⟨by omega, by omega⟩ | (rw [(nzE n88)]; exact ⟨by omega, by omega⟩)) (by first | exact g8 | (simp only [nz_c]; exact g8) | (rw [(nzE n86)]; exact g8)) (by first | (simp only [nz_c, (nzE n88), (nzE n89)]; exact ⟨by omega, by omega⟩) | exact ⟨by omega, by omega⟩ | (rw [(nzE n89)]; exact ⟨by omega, by omega⟩)) (fun F1 g e46 e82 e83 e84 => k5 g0 g1 g2 g3 g4 g5 g6 g7 g8 F1 (nz_in0 hB [46] (fun j hj hn => g j hj (by simp only [List.mem_cons, List.not_mem_nil, or_false, not_or] at hn; omega)) (List.forall_mem_cons.mpr ⟨fun t ht => (Option.some.inj ht) ▸ (nz_hz2 e46), List.forall_mem_nil _⟩)) (fun j hj hn => g j hj (by simp only [List.mem_cons, List.not_mem_nil, or_false, not_or] at hn; omega)) ((zz_ai e46).trans w94) ((congrArg Int32.toInt (zz_i e82)).trans (nzE n87)) ((zz_i e82).trans (rfl : (sy_i F 82) + ((1 : Int32)) = (sy_i F 82) + ((1 : Int32)))) ((congrArg Int32.toInt (zz_i e83)).trans (nzE n88)) ((zz_i e83).trans (rfl : (sy_i F 83) + (((-1) : Int32)) = (sy_i F 83) + (((-1) : Int32)))) ((congrArg Int32.toInt (zz_i e84)).trans (nzE n95)) ((zz_i e84).trans (rfl : (sy_i F 84) + ((1 : Int32)) = (sy_i F 84) + ((1 : Int32)))))
              have q86 : (sy_ai F 32).getD (sy_i F 82).toNatClampNeg 0 = (sy_ai F 32).getD ((sy_i F 82).toInt).toNat 0 := by simp only [nz_c]
              have n86 : nzI ((sy_ai F 32).getD (sy_i F 82).toNatClampNeg 0) (((sy_ai F 32).getD ((sy_i F 82).toInt).toNat 0).toInt) := congrArg Int32.toInt q86
              have r86 := nz_ba hB (k := 32) (lo := (-2147483648)) (hi := 2147483646) rfl ((sy_i F 82).toInt).toNat
              exfalso
              omega
            replace g7 : ((sy_ai F 32).getD ((sy_i F 82).toInt).toNat 0).toInt = (-13 : Int) := by omega
            by_cases g8 : ((sy_ai F 46).getD (((sy_i F 83).toInt - 1)).toNat 0).toInt ≠ 0
            · by_cases g9 : ((sy_ai F 32).getD ((sy_i F 82).toInt).toNat 0).toInt < (-12 : Int)
              · by_cases g10 : ((sy_ai F 46).getD (((sy_i F 83).toInt + (-1 : Int))).toNat 0).toInt ≠ 0
                · have n85 : nzI ((sy_i F 82) + ((1 : Int32))) (((sy_i F 82).toInt + 1)) := nz_add (rfl : (sy_i F 82).toInt = (sy_i F 82).toInt) (by decide : ((1 : Int32)).toInt = 1) (by omega) (by omega)
                  have q86 : (sy_ai F 32).getD (sy_i F 82).toNatClampNeg 0 = (sy_ai F 32).getD ((sy_i F 82).toInt).toNat 0 := by simp only [nz_c]
                  have n86 : nzI ((sy_ai F 32).getD (sy_i F 82).toNatClampNeg 0) (((sy_ai F 32).getD ((sy_i F 82).toInt).toNat 0).toInt) := congrArg Int32.toInt q86
                  have r86 := nz_ba hB (k := 32) (lo := (-2147483648)) (hi := 2147483646) rfl ((sy_i F 82).toInt).toNat
                  have n88 : nzI ((sy_i F 83) - ((1 : Int32))) (((sy_i F 83).toInt - 1)) := nz_sub (rfl : (sy_i F 83).toInt = (sy_i F 83).toInt) (by decide : ((1 : Int32)).toInt = 1) (by omega) (by omega)
                  have q89 : (sy_ai F 46).getD ((sy_i F 83) - ((1 : Int32))).toNatClampNeg 0 = (sy_ai F 46).getD (((sy_i F 83).toInt - 1)).toNat 0 := by simp only [nz_c, (nzE n88), (by decide : ((1 : Int32)).toInt = 1)]
                  have n89 : nzI ((sy_ai F 46).getD ((sy_i F 83) - ((1 : Int32))).toNatClampNeg 0) (((sy_ai F 46).getD (((sy_i F 83).toInt - 1)).toNat 0).toInt) := congrArg Int32.toInt q89
                  have n90 : nzI ((sy_i F 83) + (((-1) : Int32))) (((sy_i F 83).toInt + (-1 : Int))) := nz_add (rfl : (sy_i F 83).toInt = (sy_i F 83).toInt) (by decide : (((-1) : Int32)).toInt = (-1 : Int)) (by omega) (by omega)
                  have n92 : nzI (((sy_i F 83) + (((-1) : Int32))) - ((1 : Int32))) ((((sy_i F 83).toInt + (-1 : Int)) - 1)) := nz_sub (nzE n90) (by decide : ((1 : Int32)).toInt = 1) (by omega) (by omega)
                  have q94 : (sy_ai F 46).getD ((sy_i F 83) + (((-1) : Int32))).toNatClampNeg 0 = (sy_ai F 46).getD (((sy_i F 83).toInt + (-1 : Int))).toNat 0 := by simp only [nz_c, (nzE n90), (by decide : (((-1) : Int32)).toInt = (-1 : Int))]
                  have n94 : nzI ((sy_ai F 46).getD ((sy_i F 83) + (((-1) : Int32))).toNatClampNeg 0) (((sy_ai F 46).getD (((sy_i F 83).toInt + (-1 : Int))).toNat 0).toInt) := congrArg Int32.toInt q94
                  have n91 : nzI (((sy_i F 83) + (((-1) : Int32))) - ((1 : Int32))) ((((sy_i F 83).toInt + (-1 : Int)) - 1)) := nz_sub (nzE n90) (by decide : ((1 : Int32)).toInt = 1) (by omega) (by omega)
                  have w96 : jm_upd (sy_ai F 46) (((sy_i F 83) + (((-1) : Int32))) - ((1 : Int32))).toNatClampNeg (((sy_ai F 46).getD (((sy_i F 83) + (((-1) : Int32))) - ((1 : Int32))).toNatClampNeg 0) / ((sy_ai F 46).getD ((sy_i F 83) + (((-1) : Int32))).toNatClampNeg 0)) = jm_upd (sy_ai F 46) ((((sy_i F 83).toInt + (-1 : Int)) - 1)).toNat (((sy_ai F 46).getD ((((sy_i F 83).toInt + (-1 : Int)) - 1)).toNat 0) / ((sy_ai F 46).getD (((sy_i F 83).toInt + (-1 : Int))).toNat 0)) := by simp only [nz_c, (nzE n90), (nzE n91), (nzE n92), (by decide : (((-1) : Int32)).toInt = (-1 : Int)), (by decide : ((1 : Int32)).toInt = 1)]
                  have n87 : nzI ((sy_i F 82) + ((1 : Int32))) (((sy_i F 82).toInt + 1)) := nz_add (rfl : (sy_i F 82).toInt = (sy_i F 82).toInt) (by decide : ((1 : Int32)).toInt = 1) (by omega) (by omega)
                  have n97 : nzI ((sy_i F 84) + ((1 : Int32))) (((sy_i F 84).toInt + 1)) := nz_add (rfl : (sy_i F 84).toInt = (sy_i F 84).toInt) (by decide : ((1 : Int32)).toInt = 1) (by omega) (by omega)
                  exact j3wo_8_p6 hd F X1 X2 hB (by first | exact g0 | (simp only [nz_c]; exact g0)) (by first | exact g1 | (simp only [nz_c]; exact g1)) (by first | (simp only [nz_c, (nzE n85)]; exact g2) | exact g2 | (rw [(nzE n85)]; exact g2)) (by first | exact ⟨by omega, by omega⟩ | (simp only [nz_c]; exact ⟨by omega, by omega⟩)) (by first | exact g3 | (simp only [nz_c]; exact g3) | (rw [(nzE n86)]; exact g3)) (by first | exact g4 | (simp only [nz_c]; exact g4) | (rw [(nzE n86)]; exact g4)) (by first | exact g5 | (simp only [nz_c]; exact g5)) (by first | exact g6 | (simp only [nz_c]; exact g6) | (rw [(nzE n86)]; exact g6)) (by first | exact g7 | (simp only [nz_c]; exact g7) | (rw [(nzE n86)]; exact g7)) (by first | (simp only [nz_c, (nzE n88)]; exact ⟨by omega, by omega⟩) | exact ⟨by omega, by omega⟩ | (rw [(nzE n88)]; exact ⟨by omega, by omega⟩)) (by first | (simp only [nz_c, (nzE n88)]; exact g8) | exact g8 | (rw [(nzE n89)]; exact g8)) (by first | (simp only [nz_c, (nzE n90), (nzE n92)]; exact ⟨by omega, by omega⟩) | exact ⟨by omega, by omega⟩ | (rw [(nzE n92)]; exact ⟨by omega, by omega⟩)) (by first | (simp only [nz_c, (nzE n90)]; exact ⟨by omega, by omega⟩) | exact ⟨by omega, by omega⟩ | (rw [(nzE n90)]; exact ⟨by omega, by omega⟩)) (by first | exact g9 | (simp only [nz_c]; exact g9) | (rw [(nzE n86)]; exact g9)) (by first | (simp only [nz_c, (nzE n90)]; exact g10) | exact g10 | (rw [(nzE n94)]; exact g10)) (by first | (simp only [nz_c, (nzE n90)]; exact g10) | exact g10 | (rw [(nzE n94)]; exact g10)) (by first | (simp only [nz_c, (nzE n90), (nzE n91)]; exact ⟨by omega, by omega⟩) | exact ⟨by omega, by omega⟩ | (rw [(nzE n91)]; exact ⟨by omega, by omega⟩)) (fun F1 g e46 e82 e83 e84 => k6 g0 g1 g2 g3 g4 g5 g6 g7 g8 g9 g10 F1 (nz_in0 hB [46] (fun j hj hn => g j hj (by simp only [List.mem_cons, List.not_mem_nil, or_false, not_or] at hn; omega)) (List.forall_mem_cons.mpr ⟨fun t ht => (Option.some.inj ht) ▸ (nz_hz2 e46), List.forall_mem_nil _⟩)) (fun j hj hn => g j hj (by simp only [List.mem_cons, List.not_mem_nil, or_false, not_or] at hn; omega)) ((zz_ai e46).trans w96) ((congrArg Int32.toInt (zz_i e82)).trans (nzE n87)) ((zz_i e82).trans (rfl : (sy_i F 82) + ((1 : Int32)) = (sy_i F 82) + ((1 : Int32)))) ((congrArg Int32.toInt (zz_i e83)).trans (nzE n90)) ((zz_i e83).trans (rfl : (sy_i F 83) + (((-1) : Int32)) = (sy_i F 83) + (((-1) : Int32)))) ((congrArg Int32.toInt (zz_i e84)).trans (nzE n97)) ((zz_i e84).trans (rfl : (sy_i F 84) + ((1 : Int32)) = (sy_i F 84) + ((1 : Int32)))))
                replace g10 : ((sy_ai F 46).getD (((sy_i F 83).toInt + (-1 : Int))).toNat 0).toInt = 0 := by omega
                have n85 : nzI ((sy_i F 82) + ((1 : Int32))) (((sy_i F 82).toInt + 1)) := nz_add (rfl : (sy_i F 82).toInt = (sy_i F 82).toInt) (by decide : ((1 : Int32)).toInt = 1) (by omega) (by omega)
                have q86 : (sy_ai F 32).getD (sy_i F 82).toNatClampNeg 0 = (sy_ai F 32).getD ((sy_i F 82).toInt).toNat 0 := by simp only [nz_c]
                have n86 : nzI ((sy_ai F 32).getD (sy_i F 82).toNatClampNeg 0) (((sy_ai F 32).getD ((sy_i F 82).toInt).toNat 0).toInt) := congrArg Int32.toInt q86
                have r86 := nz_ba hB (k := 32) (lo := (-2147483648)) (hi := 2147483646) rfl ((sy_i F 82).toInt).toNat
                have n88 : nzI ((sy_i F 83) - ((1 : Int32))) (((sy_i F 83).toInt - 1)) := nz_sub (rfl : (sy_i F 83).toInt = (sy_i F 83).toInt) (by decide : ((1 : Int32)).toInt = 1) (by omega) (by omega)
                have q89 : (sy_ai F 46).getD ((sy_i F 83) - ((1 : Int32))).toNatClampNeg 0 = (sy_ai F 46).getD (((sy_i F 83).toInt - 1)).toNat 0 := by simp only [nz_c, (nzE n88), (by decide : ((1 : Int32)).toInt = 1)]
                have n89 : nzI ((sy_ai F 46).getD ((sy_i F 83) - ((1 : Int32))).toNatClampNeg 0) (((sy_ai F 46).getD (((sy_i F 83).toInt - 1)).toNat 0).toInt) := congrArg Int32.toInt q89
                have n90 : nzI ((sy_i F 83) + (((-1) : Int32))) (((sy_i F 83).toInt + (-1 : Int))) := nz_add (rfl : (sy_i F 83).toInt = (sy_i F 83).toInt) (by decide : (((-1) : Int32)).toInt = (-1 : Int)) (by omega) (by omega)
                have n92 : nzI (((sy_i F 83) + (((-1) : Int32))) - ((1 : Int32))) ((((sy_i F 83).toInt + (-1 : Int)) - 1)) := nz_sub (nzE n90) (by decide : ((1 : Int32)).toInt = 1) (by omega) (by omega)
                have q94 : (sy_ai F 46).getD ((sy_i F 83) + (((-1) : Int32))).toNatClampNeg 0 = (sy_ai F 46).getD (((sy_i F 83).toInt + (-1 : Int))).toNat 0 := by simp only [nz_c, (nzE n90), (by decide : (((-1) : Int32)).toInt = (-1 : Int))]
                have n94 : nzI ((sy_ai F 46).getD ((sy_i F 83) + (((-1) : Int32))).toNatClampNeg 0) (((sy_ai F 46).getD (((sy_i F 83).toInt + (-1 : Int))).toNat 0).toInt) := congrArg Int32.toInt q94
                have n91 : nzI (((sy_i F 83) + (((-1) : Int32))) - ((1 : Int32))) ((((sy_i F 83).toInt + (-1 : Int)) - 1)) := nz_sub (nzE n90) (by decide : ((1 : Int32)).toInt = 1) (by omega) (by omega)
                have w95 : jm_upd (sy_ai F 46) (((sy_i F 83) + (((-1) : Int32))) - ((1 : Int32))).toNatClampNeg ((0 : Int32)) = jm_upd (sy_ai F 46) ((((sy_i F 83).toInt + (-1 : Int)) - 1)).toNat ((0 : Int32)) := by simp only [nz_c, (nzE n90), (nzE n91), (by decide : (((-1) : Int32)).toInt = (-1 : Int)), (by decide : ((0 : Int32)).toInt = 0), (by decide : ((1 : Int32)).toInt = 1)]
                have n87 : nzI ((sy_i F 82) + ((1 : Int32))) (((sy_i F 82).toInt + 1)) := nz_add (rfl : (sy_i F 82).toInt = (sy_i F 82).toInt) (by decide : ((1 : Int32)).toInt = 1) (by omega) (by omega)
                have n96 : nzI ((sy_i F 84) + ((1 : Int32))) (((sy_i F 84).toInt + 1)) := nz_add (rfl : (sy_i F 84).toInt = (sy_i F 84).toInt) (by decide : ((1 : Int32)).toInt = 1) (by omega) (by omega)
                exact j3wo_8_p7 hd F X1 X2 hB (by first | exact g0 | (simp only [nz_c]; exact g0)) (by first | exact g1 | (simp only [nz_c]; exact g1)) (by first | (simp only [nz_c, (nzE n85)]; exact g2) | exact g2 | (rw [(nzE n85)]; exact g2)) (by first | exact ⟨by omega, by omega⟩ | (simp only [nz_c]; exact ⟨by omega, by omega⟩)) (by first | exact g3 | (simp only [nz_c]; exact g3) | (rw [(nzE n86)]; exact g3)) (by first | exact g4 | (simp only [nz_c]; exact g4) | (rw [(nzE n86)]; exact g4)) (by first | exact g5 | (simp only [nz_c]; exact g5)) (by first | exact g6 | (simp only [nz_c]; exact g6) | (rw [(nzE n86)]; exact g6)) (by first | exact g7 | (simp only [nz_c]; exact g7) | (rw [(nzE n86)]; exact g7)) (by first | (simp only [nz_c, (nzE n88)]; exact ⟨by omega, by omega⟩) | exact ⟨by omega, by omega⟩ | (rw [(nzE n88)]; exact ⟨by omega, by omega⟩)) (by first | (simp only [nz_c, (nzE n88)]; exact g8) | exact g8 | (rw [(nzE n89)]; exact g8)) (by first | (simp only [nz_c, (nzE n90), (nzE n92)]; exact ⟨by omega, by omega⟩) | exact ⟨by omega, by omega⟩ | (rw [(nzE n92)]; exact ⟨by omega, by omega⟩)) (by first | (simp only [nz_c, (nzE n90)]; exact ⟨by omega, by omega⟩) | exact ⟨by omega, by omega⟩ | (rw [(nzE n90)]; exact ⟨by omega, by omega⟩)) (by first | exact g9 | (simp only [nz_c]; exact g9) | (rw [(nzE n86)]; exact g9)) (by first | (simp only [nz_c, (nzE n90)]; exact g10) | exact g10 | (rw [(nzE n94)]; exact g10)) (by first | (simp only [nz_c, (nzE n90), (nzE n91)]; exact ⟨by omega, by omega⟩) | exact ⟨by omega, by omega⟩ | (rw [(nzE n91)]; exact ⟨by omega, by omega⟩)) (fun F1 g e46 e82 e83 e84 => k7 g0 g1 g2 g3 g4 g5 g6 g7 g8 g9 g10 F1 (nz_in0 hB [46] (fun j hj hn => g j hj (by simp only [List.mem_cons, List.not_mem_nil, or_false, not_or] at hn; omega)) (List.forall_mem_cons.mpr ⟨fun t ht => (Option.some.inj ht) ▸ (nz_hz2 e46), List.forall_mem_nil _⟩)) (fun j hj hn => g j hj (by simp only [List.mem_cons, List.not_mem_nil, or_false, not_or] at hn; omega)) ((zz_ai e46).trans w95) ((congrArg Int32.toInt (zz_i e82)).trans (nzE n87)) ((zz_i e82).trans (rfl : (sy_i F 82) + ((1 : Int32)) = (sy_i F 82) + ((1 : Int32)))) ((congrArg Int32.toInt (zz_i e83)).trans (nzE n90)) ((zz_i e83).trans (rfl : (sy_i F 83) + (((-1) : Int32)) = (sy_i F 83) + (((-1) : Int32)))) ((congrArg Int32.toInt (zz_i e84)).trans (nzE n96)) ((zz_i e84).trans (rfl : (sy_i F 84) + ((1 : Int32)) = (sy_i F 84) + ((1 : Int32)))))
              have y9_0 := g9
              clear g9
              by_cases g9 : (-10 : Int) < ((sy_ai F 32).getD ((sy_i F 82).toInt).toNat 0).toInt
              · have n85 : nzI ((sy_i F 82) + ((1 : Int32))) (((sy_i F 82).toInt + 1)) := nz_add (rfl : (sy_i F 82).toInt = (sy_i F 82).toInt) (by decide : ((1 : Int32)).toInt = 1) (by omega) (by omega)
                have q86 : (sy_ai F 32).getD (sy_i F 82).toNatClampNeg 0 = (sy_ai F 32).getD ((sy_i F 82).toInt).toNat 0 := by simp only [nz_c]
                have n86 : nzI ((sy_ai F 32).getD (sy_i F 82).toNatClampNeg 0) (((sy_ai F 32).getD ((sy_i F 82).toInt).toNat 0).toInt) := congrArg Int32.toInt q86
                have r86 := nz_ba hB (k := 32) (lo := (-2147483648)) (hi := 2147483646) rfl ((sy_i F 82).toInt).toNat
                have n88 : nzI ((sy_i F 83) - ((1 : Int32))) (((sy_i F 83).toInt - 1)) := nz_sub (rfl : (sy_i F 83).toInt = (sy_i F 83).toInt) (by decide : ((1 : Int32)).toInt = 1) (by omega) (by omega)
                have q89 : (sy_ai F 46).getD ((sy_i F 83) - ((1 : Int32))).toNatClampNeg 0 = (sy_ai F 46).getD (((sy_i F 83).toInt - 1)).toNat 0 := by simp only [nz_c, (nzE n88), (by decide : ((1 : Int32)).toInt = 1)]
                have n89 : nzI ((sy_ai F 46).getD ((sy_i F 83) - ((1 : Int32))).toNatClampNeg 0) (((sy_ai F 46).getD (((sy_i F 83).toInt - 1)).toNat 0).toInt) := congrArg Int32.toInt q89
                have n90 : nzI ((sy_i F 83) + (((-1) : Int32))) (((sy_i F 83).toInt + (-1 : Int))) := nz_add (rfl : (sy_i F 83).toInt = (sy_i F 83).toInt) (by decide : (((-1) : Int32)).toInt = (-1 : Int)) (by omega) (by omega)
                have n92 : nzI (((sy_i F 83) + (((-1) : Int32))) - ((1 : Int32))) ((((sy_i F 83).toInt + (-1 : Int)) - 1)) := nz_sub (nzE n90) (by decide : ((1 : Int32)).toInt = 1) (by omega) (by omega)
                exfalso
                omega
              have y9_1 := g9
              clear g9
              by_cases g9 : ((sy_ai F 32).getD ((sy_i F 82).toInt).toNat 0).toInt = (-12 : Int)
              · have n85 : nzI ((sy_i F 82) + ((1 : Int32))) (((sy_i F 82).toInt + 1)) := nz_add (rfl : (sy_i F 82).toInt = (sy_i F 82).toInt) (by decide : ((1 : Int32)).toInt = 1) (by omega) (by omega)
                have q86 : (sy_ai F 32).getD (sy_i F 82).toNatClampNeg 0 = (sy_ai F 32).getD ((sy_i F 82).toInt).toNat 0 := by simp only [nz_c]
                have n86 : nzI ((sy_ai F 32).getD (sy_i F 82).toNatClampNeg 0) (((sy_ai F 32).getD ((sy_i F 82).toInt).toNat 0).toInt) := congrArg Int32.toInt q86
                have r86 := nz_ba hB (k := 32) (lo := (-2147483648)) (hi := 2147483646) rfl ((sy_i F 82).toInt).toNat
                have n88 : nzI ((sy_i F 83) - ((1 : Int32))) (((sy_i F 83).toInt - 1)) := nz_sub (rfl : (sy_i F 83).toInt = (sy_i F 83).toInt) (by decide : ((1 : Int32)).toInt = 1) (by omega) (by omega)
                have q89 : (sy_ai F 46).getD ((sy_i F 83) - ((1 : Int32))).toNatClampNeg 0 = (sy_ai F 46).getD (((sy_i F 83).toInt - 1)).toNat 0 := by simp only [nz_c, (nzE n88), (by decide : ((1 : Int32)).toInt = 1)]
                have n89 : nzI ((sy_ai F 46).getD ((sy_i F 83) - ((1 : Int32))).toNatClampNeg 0) (((sy_ai F 46).getD (((sy_i F 83).toInt - 1)).toNat 0).toInt) := congrArg Int32.toInt q89
                have n90 : nzI ((sy_i F 83) + (((-1) : Int32))) (((sy_i F 83).toInt + (-1 : Int))) := nz_add (rfl : (sy_i F 83).toInt = (sy_i F 83).toInt) (by decide : (((-1) : Int32)).toInt = (-1 : Int)) (by omega) (by omega)
                have n92 : nzI (((sy_i F 83) + (((-1) : Int32))) - ((1 : Int32))) ((((sy_i F 83).toInt + (-1 : Int)) - 1)) := nz_sub (nzE n90) (by decide : ((1 : Int32)).toInt = 1) (by omega) (by omega)
                exfalso
                omega
              have y9_2 := g9
              clear g9
              by_cases g9 : ((sy_ai F 32).getD ((sy_i F 82).toInt).toNat 0).toInt = (-11 : Int)
              · have n85 : nzI ((sy_i F 82) + ((1 : Int32))) (((sy_i F 82).toInt + 1)) := nz_add (rfl : (sy_i F 82).toInt = (sy_i F 82).toInt) (by decide : ((1 : Int32)).toInt = 1) (by omega) (by omega)
                have q86 : (sy_ai F 32).getD (sy_i F 82).toNatClampNeg 0 = (sy_ai F 32).getD ((sy_i F 82).toInt).toNat 0 := by simp only [nz_c]
                have n86 : nzI ((sy_ai F 32).getD (sy_i F 82).toNatClampNeg 0) (((sy_ai F 32).getD ((sy_i F 82).toInt).toNat 0).toInt) := congrArg Int32.toInt q86
                have r86 := nz_ba hB (k := 32) (lo := (-2147483648)) (hi := 2147483646) rfl ((sy_i F 82).toInt).toNat
                have n88 : nzI ((sy_i F 83) - ((1 : Int32))) (((sy_i F 83).toInt - 1)) := nz_sub (rfl : (sy_i F 83).toInt = (sy_i F 83).toInt) (by decide : ((1 : Int32)).toInt = 1) (by omega) (by omega)
                have q89 : (sy_ai F 46).getD ((sy_i F 83) - ((1 : Int32))).toNatClampNeg 0 = (sy_ai F 46).getD (((sy_i F 83).toInt - 1)).toNat 0 := by simp only [nz_c, (nzE n88), (by decide : ((1 : Int32)).toInt = 1)]
                have n89 : nzI ((sy_ai F 46).getD ((sy_i F 83) - ((1 : Int32))).toNatClampNeg 0) (((sy_ai F 46).getD (((sy_i F 83).toInt - 1)).toNat 0).toInt) := congrArg Int32.toInt q89
                have n90 : nzI ((sy_i F 83) + (((-1) : Int32))) (((sy_i F 83).toInt + (-1 : Int))) := nz_add (rfl : (sy_i F 83).toInt = (sy_i F 83).toInt) (by decide : (((-1) : Int32)).toInt = (-1 : Int)) (by omega) (by omega)
                have n92 : nzI (((sy_i F 83) + (((-1) : Int32))) - ((1 : Int32))) ((((sy_i F 83).toInt + (-1 : Int)) - 1)) := nz_sub (nzE n90) (by decide : ((1 : Int32)).toInt = 1) (by omega) (by omega)
                exfalso
                omega
              have y9_3 := g9
              clear g9
              by_cases g9 : ((sy_ai F 32).getD ((sy_i F 82).toInt).toNat 0).toInt = (-10 : Int)
              · have n85 : nzI ((sy_i F 82) + ((1 : Int32))) (((sy_i F 82).toInt + 1)) := nz_add (rfl : (sy_i F 82).toInt = (sy_i F 82).toInt) (by decide : ((1 : Int32)).toInt = 1) (by omega) (by omega)
                have q86 : (sy_ai F 32).getD (sy_i F 82).toNatClampNeg 0 = (sy_ai F 32).getD ((sy_i F 82).toInt).toNat 0 := by simp only [nz_c]
                have n86 : nzI ((sy_ai F 32).getD (sy_i F 82).toNatClampNeg 0) (((sy_ai F 32).getD ((sy_i F 82).toInt).toNat 0).toInt) := congrArg Int32.toInt q86
                have r86 := nz_ba hB (k := 32) (lo := (-2147483648)) (hi := 2147483646) rfl ((sy_i F 82).toInt).toNat
                have n88 : nzI ((sy_i F 83) - ((1 : Int32))) (((sy_i F 83).toInt - 1)) := nz_sub (rfl : (sy_i F 83).toInt = (sy_i F 83).toInt) (by decide : ((1 : Int32)).toInt = 1) (by omega) (by omega)
                have q89 : (sy_ai F 46).getD ((sy_i F 83) - ((1 : Int32))).toNatClampNeg 0 = (sy_ai F 46).getD (((sy_i F 83).toInt - 1)).toNat 0 := by simp only [nz_c, (nzE n88), (by decide : ((1 : Int32)).toInt = 1)]
                have n89 : nzI ((sy_ai F 46).getD ((sy_i F 83) - ((1 : Int32))).toNatClampNeg 0) (((sy_ai F 46).getD (((sy_i F 83).toInt - 1)).toNat 0).toInt) := congrArg Int32.toInt q89
                have n90 : nzI ((sy_i F 83) + (((-1) : Int32))) (((sy_i F 83).toInt + (-1 : Int))) := nz_add (rfl : (sy_i F 83).toInt = (sy_i F 83).toInt) (by decide : (((-1) : Int32)).toInt = (-1 : Int)) (by omega) (by omega)
                have n92 : nzI (((sy_i F 83) + (((-1) : Int32))) - ((1 : Int32))) ((((sy_i F 83).toInt + (-1 : Int)) - 1)) := nz_sub (nzE n90) (by decide : ((1 : Int32)).toInt = 1) (by omega) (by omega)
                exfalso
                omega
              have q86 : (sy_ai F 32).getD (sy_i F 82).toNatClampNeg 0 = (sy_ai F 32).getD ((sy_i F 82).toInt).toNat 0 := by simp only [nz_c]
              have n86 : nzI ((sy_ai F 32).getD (sy_i F 82).toNatClampNeg 0) (((sy_ai F 32).getD ((sy_i F 82).toInt).toNat 0).toInt) := congrArg Int32.toInt q86
              have r86 := nz_ba hB (k := 32) (lo := (-2147483648)) (hi := 2147483646) rfl ((sy_i F 82).toInt).toNat
              exfalso
              omega
            replace g8 : ((sy_ai F 46).getD (((sy_i F 83).toInt - 1)).toNat 0).toInt = 0 := by omega
            have n85 : nzI ((sy_i F 82) + ((1 : Int32))) (((sy_i F 82).toInt + 1)) := nz_add (rfl : (sy_i F 82).toInt = (sy_i F 82).toInt) (by decide : ((1 : Int32)).toInt = 1) (by omega) (by omega)
            have q86 : (sy_ai F 32).getD (sy_i F 82).toNatClampNeg 0 = (sy_ai F 32).getD ((sy_i F 82).toInt).toNat 0 := by simp only [nz_c]
            have n86 : nzI ((sy_ai F 32).getD (sy_i F 82).toNatClampNeg 0) (((sy_ai F 32).getD ((sy_i F 82).toInt).toNat 0).toInt) := congrArg Int32.toInt q86
            have r86 := nz_ba hB (k := 32) (lo := (-2147483648)) (hi := 2147483646) rfl ((sy_i F 82).toInt).toNat
            have n88 : nzI ((sy_i F 83) - ((1 : Int32))) (((sy_i F 83).toInt - 1)) := nz_sub (rfl : (sy_i F 83).toInt = (sy_i F 83).toInt) (by decide : ((1 : Int32)).toInt = 1) (by omega) (by omega)
            have q89 : (sy_ai F 46).getD ((sy_i F 83) - ((1 : Int32))).toNatClampNeg 0 = (sy_ai F 46).getD (((sy_i F 83).toInt - 1)).toNat 0 := by simp only [nz_c, (nzE n88), (by decide : ((1 : Int32)).toInt = 1)]
            have n89 : nzI ((sy_ai F 46).getD ((sy_i F 83) - ((1 : Int32))).toNatClampNeg 0) (((sy_ai F 46).getD (((sy_i F 83).toInt - 1)).toNat 0).toInt) := congrArg Int32.toInt q89
            exact j3wo_8_p8 hd F X1 X2 hB (by first | exact g0 | (simp only [nz_c]; exact g0)) (by first | exact g1 | (simp only [nz_c]; exact g1)) (by first | (simp only [nz_c, (nzE n85)]; exact g2) | exact g2 | (rw [(nzE n85)]; exact g2)) (by first | exact ⟨by omega, by omega⟩ | (simp only [nz_c]; exact ⟨by omega, by omega⟩)) (by first | exact g3 | (simp only [nz_c]; exact g3) | (rw [(nzE n86)]; exact g3)) (by first | exact g4 | (simp only [nz_c]; exact g4) | (rw [(nzE n86)]; exact g4)) (by first | exact g5 | (simp only [nz_c]; exact g5)) (by first | exact g6 | (simp only [nz_c]; exact g6) | (rw [(nzE n86)]; exact g6)) (by first | exact g7 | (simp only [nz_c]; exact g7) | (rw [(nzE n86)]; exact g7)) (by first | (simp only [nz_c, (nzE n88)]; exact ⟨by omega, by omega⟩) | exact ⟨by omega, by omega⟩ | (rw [(nzE n88)]; exact ⟨by omega, by omega⟩)) (by first | (simp only [nz_c, (nzE n88)]; exact g8) | exact g8 | (rw [(nzE n89)]; exact g8)) (fun F1 g  => k8 g0 g1 g2 g3 g4 g5 g6 g7 g8 F1 (nz_in0 hB [] (fun j hj hn => g j hj (by simp only [List.mem_cons, List.not_mem_nil, or_false, not_or] at hn; exact trivial)) (List.forall_mem_nil _)) (fun j hj hn => g j hj (by simp only [List.mem_cons, List.not_mem_nil, or_false, not_or] at hn; exact trivial)) )
          replace g6 : ((sy_ai F 32).getD ((sy_i F 82).toInt).toNat 0).toInt = (-15 : Int) := by omega
          by_cases g7 : ((sy_ai F 46).getD ((((sy_i F 83).toInt + (-2 : Int)) + 1)).toNat 0).toInt ≤ ((sy_ai F 46).getD (((sy_i F 83).toInt + (-2 : Int))).toNat 0).toInt
          · have n85 : nzI ((sy_i F 82) + ((1 : Int32))) (((sy_i F 82).toInt + 1)) := nz_add (rfl : (sy_i F 82).toInt = (sy_i F 82).toInt) (by decide : ((1 : Int32)).toInt = 1) (by omega) (by omega)
            have q86 : (sy_ai F 32).getD (sy_i F 82).toNatClampNeg 0 = (sy_ai F 32).getD ((sy_i F 82).toInt).toNat 0 := by simp only [nz_c]
            have n86 : nzI ((sy_ai F 32).getD (sy_i F 82).toNatClampNeg 0) (((sy_ai F 32).getD ((sy_i F 82).toInt).toNat 0).toInt) := congrArg Int32.toInt q86
            have r86 := nz_ba hB (k := 32) (lo := (-2147483648)) (hi := 2147483646) rfl ((sy_i F 82).toInt).toNat
            have n88 : nzI ((sy_i F 83) + (((-2) : Int32))) (((sy_i F 83).toInt + (-2 : Int))) := nz_add (rfl : (sy_i F 83).toInt = (sy_i F 83).toInt) (by decide : (((-2) : Int32)).toInt = (-2 : Int)) (by omega) (by omega)
            have n90 : nzI (((sy_i F 83) + (((-2) : Int32))) + ((1 : Int32))) ((((sy_i F 83).toInt + (-2 : Int)) + 1)) := nz_add (nzE n88) (by decide : ((1 : Int32)).toInt = 1) (by omega) (by omega)
            have q91 : (sy_ai F 46).getD (((sy_i F 83) + (((-2) : Int32))) + ((1 : Int32))).toNatClampNeg 0 = (sy_ai F 46).getD ((((sy_i F 83).toInt + (-2 : Int)) + 1)).toNat 0 := by simp only [nz_c, (nzE n88), (nzE n90), (by decide : (((-2) : Int32)).toInt = (-2 : Int)), (by decide : ((1 : Int32)).toInt = 1)]
            have n91 : nzI ((sy_ai F 46).getD (((sy_i F 83) + (((-2) : Int32))) + ((1 : Int32))).toNatClampNeg 0) (((sy_ai F 46).getD ((((sy_i F 83).toInt + (-2 : Int)) + 1)).toNat 0).toInt) := congrArg Int32.toInt q91
            have q89 : (sy_ai F 46).getD ((sy_i F 83) + (((-2) : Int32))).toNatClampNeg 0 = (sy_ai F 46).getD (((sy_i F 83).toInt + (-2 : Int))).toNat 0 := by simp only [nz_c, (nzE n88), (by decide : (((-2) : Int32)).toInt = (-2 : Int))]
            have n89 : nzI ((sy_ai F 46).getD ((sy_i F 83) + (((-2) : Int32))).toNatClampNeg 0) (((sy_ai F 46).getD (((sy_i F 83).toInt + (-2 : Int))).toNat 0).toInt) := congrArg Int32.toInt q89
            have n87 : nzI ((sy_i F 82) + ((1 : Int32))) (((sy_i F 82).toInt + 1)) := nz_add (rfl : (sy_i F 82).toInt = (sy_i F 82).toInt) (by decide : ((1 : Int32)).toInt = 1) (by omega) (by omega)
            have q92 : (sy_ai F 32).getD ((sy_i F 82) + ((1 : Int32))).toNatClampNeg 0 = (sy_ai F 32).getD (((sy_i F 82).toInt + 1)).toNat 0 := by simp only [nz_c, (nzE n87), (by decide : ((1 : Int32)).toInt = 1)]
            have n92 : nzI ((sy_ai F 32).getD ((sy_i F 82) + ((1 : Int32))).toNatClampNeg 0) (((sy_ai F 32).getD (((sy_i F 82).toInt + 1)).toNat 0).toInt) := congrArg Int32.toInt q92
            have r92 := nz_ba hB (k := 32) (lo := (-2147483648)) (hi := 2147483646) rfl (((sy_i F 82).toInt + 1)).toNat
            have n93 : nzI ((sy_i F 84) + ((1 : Int32))) (((sy_i F 84).toInt + 1)) := nz_add (rfl : (sy_i F 84).toInt = (sy_i F 84).toInt) (by decide : ((1 : Int32)).toInt = 1) (by omega) (by omega)
            exact j3wo_8_p9 hd F X1 X2 hB (by first | exact g0 | (simp only [nz_c]; exact g0)) (by first | exact g1 | (simp only [nz_c]; exact g1)) (by first | (simp only [nz_c, (nzE n85)]; exact g2) | exact g2 | (rw [(nzE n85)]; exact g2)) (by first | exact ⟨by omega, by omega⟩ | (simp only [nz_c]; exact ⟨by omega, by omega⟩)) (by first | exact g3 | (simp only [nz_c]; exact g3) | (rw [(nzE n86)]; exact g3)) (by first | exact g4 | (simp only [nz_c]; exact g4) | (rw [(nzE n86)]; exact g4)) (by first | exact g5 | (simp only [nz_c]; exact g5)) (by first | exact g6 | (simp only [nz_c]; exact g6) | (rw [(nzE n86)]; exact g6)) (by first | (simp only [nz_c, (nzE n88)]; exact ⟨by omega, by omega⟩) | exact ⟨by omega, by omega⟩ | (rw [(nzE n88)]; exact ⟨by omega, by omega⟩)) (by first | (simp only [nz_c, (nzE n88), (nzE n90)]; exact ⟨by omega, by omega⟩) | exact ⟨by omega, by omega⟩ | (rw [(nzE n90)]; exact ⟨by omega, by omega⟩)) (by first | (simp only [nz_c, (nzE n88), (nzE n90)]; exact g7) | exact g7 | (rw [(nzE n91)]; exact g7) | (rw [(nzE n89)]; exact g7) | (rw [(nzE n91), (nzE n89)]; exact g7)) (by first | (simp only [nz_c, (nzE n87)]; exact ⟨by omega, by omega⟩) | exact ⟨by omega, by omega⟩ | (rw [(nzE n87)]; exact ⟨by omega, by omega⟩)) (fun F1 g e82 e83 e84 => k9 g0 g1 g2 g3 g4 g5 g6 g7 F1 (nz_in0 hB [] (fun j hj hn => g j hj (by simp only [List.mem_cons, List.not_mem_nil, or_false, not_or] at hn; exact trivial)) (List.forall_mem_nil _)) (fun j hj hn => g j hj (by simp only [List.mem_cons, List.not_mem_nil, or_false, not_or] at hn; exact trivial)) ((congrArg Int32.toInt (zz_i e82)).trans (nzE n92)) ((zz_i e82).trans q92) ((congrArg Int32.toInt (zz_i e83)).trans (nzE n88)) ((zz_i e83).trans (rfl : (sy_i F 83) + (((-2) : Int32)) = (sy_i F 83) + (((-2) : Int32)))) ((congrArg Int32.toInt (zz_i e84)).trans (nzE n93)) ((zz_i e84).trans (rfl : (sy_i F 84) + ((1 : Int32)) = (sy_i F 84) + ((1 : Int32)))))
          replace g7 : ((sy_ai F 46).getD (((sy_i F 83).toInt + (-2 : Int))).toNat 0).toInt < ((sy_ai F 46).getD ((((sy_i F 83).toInt + (-2 : Int)) + 1)).toNat 0).toInt := by omega
          have n85 : nzI ((sy_i F 82) + ((1 : Int32))) (((sy_i F 82).toInt + 1)) := nz_add (rfl : (sy_i F 82).toInt = (sy_i F 82).toInt) (by decide : ((1 : Int32)).toInt = 1) (by omega) (by omega)
          have q86 : (sy_ai F 32).getD (sy_i F 82).toNatClampNeg 0 = (sy_ai F 32).getD ((sy_i F 82).toInt).toNat 0 := by simp only [nz_c]
          have n86 : nzI ((sy_ai F 32).getD (sy_i F 82).toNatClampNeg 0) (((sy_ai F 32).getD ((sy_i F 82).toInt).toNat 0).toInt) := congrArg Int32.toInt q86
          have r86 := nz_ba hB (k := 32) (lo := (-2147483648)) (hi := 2147483646) rfl ((sy_i F 82).toInt).toNat
          have n88 : nzI ((sy_i F 83) + (((-2) : Int32))) (((sy_i F 83).toInt + (-2 : Int))) := nz_add (rfl : (sy_i F 83).toInt = (sy_i F 83).toInt) (by decide : (((-2) : Int32)).toInt = (-2 : Int)) (by omega) (by omega)
          have n90 : nzI (((sy_i F 83) + (((-2) : Int32))) + ((1 : Int32))) ((((sy_i F 83).toInt + (-2 : Int)) + 1)) := nz_add (nzE n88) (by decide : ((1 : Int32)).toInt = 1) (by omega) (by omega)
          have q91 : (sy_ai F 46).getD (((sy_i F 83) + (((-2) : Int32))) + ((1 : Int32))).toNatClampNeg 0 = (sy_ai F 46).getD ((((sy_i F 83).toInt + (-2 : Int)) + 1)).toNat 0 := by simp only [nz_c, (nzE n88), (nzE n90), (by decide : (((-2) : Int32)).toInt = (-2 : Int)), (by decide : ((1 : Int32)).toInt = 1)]
          have n91 : nzI ((sy_ai F 46).getD (((sy_i F 83) + (((-2) : Int32))) + ((1 : Int32))).toNatClampNeg 0) (((sy_ai F 46).getD ((((sy_i F 83).toInt + (-2 : Int)) + 1)).toNat 0).toInt) := congrArg Int32.toInt q91
          have q89 : (sy_ai F 46).getD ((sy_i F 83) + (((-2) : Int32))).toNatClampNeg 0 = (sy_ai F 46).getD (((sy_i F 83).toInt + (-2 : Int))).toNat 0 := by simp only [nz_c, (nzE n88), (by decide : (((-2) : Int32)).toInt = (-2 : Int))]
          have n89 : nzI ((sy_ai F 46).getD ((sy_i F 83) + (((-2) : Int32))).toNatClampNeg 0) (((sy_ai F 46).getD (((sy_i F 83).toInt + (-2 : Int))).toNat 0).toInt) := congrArg Int32.toInt q89
          have n87 : nzI ((sy_i F 82) + ((1 : Int32))) (((sy_i F 82).toInt + 1)) := nz_add (rfl : (sy_i F 82).toInt = (sy_i F 82).toInt) (by decide : ((1 : Int32)).toInt = 1) (by omega) (by omega)
          have n92 : nzI (((sy_i F 82) + ((1 : Int32))) + ((1 : Int32))) ((((sy_i F 82).toInt + 1) + 1)) := nz_add (nzE n87) (by decide : ((1 : Int32)).toInt = 1) (by omega) (by omega)
          have n93 : nzI ((sy_i F 84) + ((1 : Int32))) (((sy_i F 84).toInt + 1)) := nz_add (rfl : (sy_i F 84).toInt = (sy_i F 84).toInt) (by decide : ((1 : Int32)).toInt = 1) (by omega) (by omega)
          exact j3wo_8_p10 hd F X1 X2 hB (by first | exact g0 | (simp only [nz_c]; exact g0)) (by first | exact g1 | (simp only [nz_c]; exact g1)) (by first | (simp only [nz_c, (nzE n85)]; exact g2) | exact g2 | (rw [(nzE n85)]; exact g2)) (by first | exact ⟨by omega, by omega⟩ | (simp only [nz_c]; exact ⟨by omega, by omega⟩)) (by first | exact g3 | (simp only [nz_c]; exact g3) | (rw [(nzE n86)]; exact g3)) (by first | exact g4 | (simp only [nz_c]; exact g4) | (rw [(nzE n86)]; exact g4)) (by first | exact g5 | (simp only [nz_c]; exact g5)) (by first | exact g6 | (simp only [nz_c]; exact g6) | (rw [(nzE n86)]; exact g6)) (by first | (simp only [nz_c, (nzE n88)]; exact ⟨by omega, by omega⟩) | exact ⟨by omega, by omega⟩ | (rw [(nzE n88)]; exact ⟨by omega, by omega⟩)) (by first | (simp only [nz_c, (nzE n88), (nzE n90)]; exact ⟨by omega, by omega⟩) | exact ⟨by omega, by omega⟩ | (rw [(nzE n90)]; exact ⟨by omega, by omega⟩)) (by first | (simp only [nz_c, (nzE n88), (nzE n90)]; exact g7) | exact g7 | (rw [(nzE n91)]; exact g7) | (rw [(nzE n89)]; exact g7) | (rw [(nzE n91), (nzE n89)]; exact g7)) (fun F1 g e82 e83 e84 => k10 g0 g1 g2 g3 g4 g5 g6 g7 F1 (nz_in0 hB [] (fun j hj hn => g j hj (by simp only [List.mem_cons, List.not_mem_nil, or_false, not_or] at hn; exact trivial)) (List.forall_mem_nil _)) (fun j hj hn => g j hj (by simp only [List.mem_cons, List.not_mem_nil, or_false, not_or] at hn; exact trivial)) ((congrArg Int32.toInt (zz_i e82)).trans (nzE n92)) ((zz_i e82).trans (rfl : ((sy_i F 82) + ((1 : Int32))) + ((1 : Int32)) = ((sy_i F 82) + ((1 : Int32))) + ((1 : Int32)))) ((congrArg Int32.toInt (zz_i e83)).trans (nzE n88)) ((zz_i e83).trans (rfl : (sy_i F 83) + (((-2) : Int32)) = (sy_i F 83) + (((-2) : Int32)))) ((congrArg Int32.toInt (zz_i e84)).trans (nzE n93)) ((zz_i e84).trans (rfl : (sy_i F 84) + ((1 : Int32)) = (sy_i F 84) + ((1 : Int32)))))
        replace g5 : (sy_i F 83).toInt < 2 := by omega
        have n85 : nzI ((sy_i F 82) + ((1 : Int32))) (((sy_i F 82).toInt + 1)) := nz_add (rfl : (sy_i F 82).toInt = (sy_i F 82).toInt) (by decide : ((1 : Int32)).toInt = 1) (by omega) (by omega)
        have q86 : (sy_ai F 32).getD (sy_i F 82).toNatClampNeg 0 = (sy_ai F 32).getD ((sy_i F 82).toInt).toNat 0 := by simp only [nz_c]
        have n86 : nzI ((sy_ai F 32).getD (sy_i F 82).toNatClampNeg 0) (((sy_ai F 32).getD ((sy_i F 82).toInt).toNat 0).toInt) := congrArg Int32.toInt q86
        have r86 := nz_ba hB (k := 32) (lo := (-2147483648)) (hi := 2147483646) rfl ((sy_i F 82).toInt).toNat
        exact j3wo_8_p11 hd F X1 X2 hB (by first | exact g0 | (simp only [nz_c]; exact g0)) (by first | exact g1 | (simp only [nz_c]; exact g1)) (by first | (simp only [nz_c, (nzE n85)]; exact g2) | exact g2 | (rw [(nzE n85)]; exact g2)) (by first | exact ⟨by omega, by omega⟩ | (simp only [nz_c]; exact ⟨by omega, by omega⟩)) (by first | exact g3 | (simp only [nz_c]; exact g3) | (rw [(nzE n86)]; exact g3)) (by first | exact g4 | (simp only [nz_c]; exact g4) | (rw [(nzE n86)]; exact g4)) (by first | exact g5 | (simp only [nz_c]; exact g5)) (fun F1 g  => k11 g0 g1 g2 g3 g4 g5 F1 (nz_in0 hB [] (fun j hj hn => g j hj (by simp only [List.mem_cons, List.not_mem_nil, or_false, not_or] at hn; exact trivial)) (List.forall_mem_nil _)) (fun j hj hn => g j hj (by simp only [List.mem_cons, List.not_mem_nil, or_false, not_or] at hn; exact trivial)) )
      replace g4 : ((sy_ai F 32).getD ((sy_i F 82).toInt).toNat 0).toInt = (-14 : Int) := by omega
      by_cases g5 : (sy_i F 83).toInt < 1
      · have n85 : nzI ((sy_i F 82) + ((1 : Int32))) (((sy_i F 82).toInt + 1)) := nz_add (rfl : (sy_i F 82).toInt = (sy_i F 82).toInt) (by decide : ((1 : Int32)).toInt = 1) (by omega) (by omega)
        have q86 : (sy_ai F 32).getD (sy_i F 82).toNatClampNeg 0 = (sy_ai F 32).getD ((sy_i F 82).toInt).toNat 0 := by simp only [nz_c]
        have n86 : nzI ((sy_ai F 32).getD (sy_i F 82).toNatClampNeg 0) (((sy_ai F 32).getD ((sy_i F 82).toInt).toNat 0).toInt) := congrArg Int32.toInt q86
        have r86 := nz_ba hB (k := 32) (lo := (-2147483648)) (hi := 2147483646) rfl ((sy_i F 82).toInt).toNat
        exact j3wo_8_p12 hd F X1 X2 hB (by first | exact g0 | (simp only [nz_c]; exact g0)) (by first | exact g1 | (simp only [nz_c]; exact g1)) (by first | (simp only [nz_c, (nzE n85)]; exact g2) | exact g2 | (rw [(nzE n85)]; exact g2)) (by first | exact ⟨by omega, by omega⟩ | (simp only [nz_c]; exact ⟨by omega, by omega⟩)) (by first | exact g3 | (simp only [nz_c]; exact g3) | (rw [(nzE n86)]; exact g3)) (by first | exact g4 | (simp only [nz_c]; exact g4) | (rw [(nzE n86)]; exact g4)) (by first | exact g5 | (simp only [nz_c]; exact g5)) (fun F1 g  => k12 g0 g1 g2 g3 g4 g5 F1 (nz_in0 hB [] (fun j hj hn => g j hj (by simp only [List.mem_cons, List.not_mem_nil, or_false, not_or] at hn; exact trivial)) (List.forall_mem_nil _)) (fun j hj hn => g j hj (by simp only [List.mem_cons, List.not_mem_nil, or_false, not_or] at hn; exact trivial)) )
      replace g5 : 1 ≤ (sy_i F 83).toInt := by omega
      have n85 : nzI ((sy_i F 82) + ((1 : Int32))) (((sy_i F 82).toInt + 1)) := nz_add (rfl : (sy_i F 82).toInt = (sy_i F 82).toInt) (by decide : ((1 : Int32)).toInt = 1) (by omega) (by omega)
      have q86 : (sy_ai F 32).getD (sy_i F 82).toNatClampNeg 0 = (sy_ai F 32).getD ((sy_i F 82).toInt).toNat 0 := by simp only [nz_c]
      have n86 : nzI ((sy_ai F 32).getD (sy_i F 82).toNatClampNeg 0) (((sy_ai F 32).getD ((sy_i F 82).toInt).toNat 0).toInt) := congrArg Int32.toInt q86
      have r86 := nz_ba hB (k := 32) (lo := (-2147483648)) (hi := 2147483646) rfl ((sy_i F 82).toInt).toNat
      have n88 : nzI ((sy_i F 83) - ((1 : Int32))) (((sy_i F 83).toInt - 1)) := nz_sub (rfl : (sy_i F 83).toInt = (sy_i F 83).toInt) (by decide : ((1 : Int32)).toInt = 1) (by omega) (by omega)
      have q89 : (sy_ai F 46).getD ((sy_i F 83) - ((1 : Int32))).toNatClampNeg 0 = (sy_ai F 46).getD (((sy_i F 83).toInt - 1)).toNat 0 := by simp only [nz_c, (nzE n88), (by decide : ((1 : Int32)).toInt = 1)]
      exact j3wo_8_p13 hd F X1 X2 hB (by first | exact g0 | (simp only [nz_c]; exact g0)) (by first | exact g1 | (simp only [nz_c]; exact g1)) (by first | (simp only [nz_c, (nzE n85)]; exact g2) | exact g2 | (rw [(nzE n85)]; exact g2)) (by first | exact ⟨by omega, by omega⟩ | (simp only [nz_c]; exact ⟨by omega, by omega⟩)) (by first | exact g3 | (simp only [nz_c]; exact g3) | (rw [(nzE n86)]; exact g3)) (by first | exact g4 | (simp only [nz_c]; exact g4) | (rw [(nzE n86)]; exact g4)) (by first | exact g5 | (simp only [nz_c]; exact g5)) (by first | (simp only [nz_c, (nzE n88)]; exact ⟨by omega, by omega⟩) | exact ⟨by omega, by omega⟩ | (rw [(nzE n88)]; exact ⟨by omega, by omega⟩)) (fun F1 g  => by rw [q89]; exact k13 g0 g1 g2 g3 g4 g5 F1 (nz_in0 hB [] (fun j hj hn => g j hj (by simp only [List.mem_cons, List.not_mem_nil, or_false, not_or] at hn; exact trivial)) (List.forall_mem_nil _)) (fun j hj hn => g j hj (by simp only [List.mem_cons, List.not_mem_nil, or_false, not_or] at hn; exact trivial)) )
    replace g3 : (-9 : Int) ≤ ((sy_ai F 32).getD ((sy_i F 82).toInt).toNat 0).toInt := by omega
    by_cases g4 : (sy_i F 83).toInt < 32
    · by_cases g5 : ((sy_ai F 32).getD ((sy_i F 82).toInt).toNat 0).toInt < 0
      · have n85 : nzI ((sy_i F 82) + ((1 : Int32))) (((sy_i F 82).toInt + 1)) := nz_add (rfl : (sy_i F 82).toInt = (sy_i F 82).toInt) (by decide : ((1 : Int32)).toInt = 1) (by omega) (by omega)
        have q86 : (sy_ai F 32).getD (sy_i F 82).toNatClampNeg 0 = (sy_ai F 32).getD ((sy_i F 82).toInt).toNat 0 := by simp only [nz_c]
        have n86 : nzI ((sy_ai F 32).getD (sy_i F 82).toNatClampNeg 0) (((sy_ai F 32).getD ((sy_i F 82).toInt).toNat 0).toInt) := congrArg Int32.toInt q86
        have r86 := nz_ba hB (k := 32) (lo := (-2147483648)) (hi := 2147483646) rfl ((sy_i F 82).toInt).toNat
        have n88 : nzI ((((-1) : Int32)) - ((sy_ai F 32).getD (sy_i F 82).toNatClampNeg 0)) (((-1 : Int) - ((sy_ai F 32).getD ((sy_i F 82).toInt).toNat 0).toInt)) := nz_sub (by decide : (((-1) : Int32)).toInt = (-1 : Int)) (nzE n86) (by omega) (by omega)
        have q88 : (((-1) : Int32)) - ((sy_ai F 32).getD (sy_i F 82).toNatClampNeg 0) = (((-1) : Int32)) - ((sy_ai F 32).getD ((sy_i F 82).toInt).toNat 0) := by simp only [nz_c, (nzE n88), (by decide : (((-1) : Int32)).toInt = (-1 : Int))]
        have m88 : nzI ((((-1) : Int32)) - ((sy_ai F 32).getD ((sy_i F 82).toInt).toNat 0)) (((-1 : Int) - ((sy_ai F 32).getD ((sy_i F 82).toInt).toNat 0).toInt)) := (congrArg Int32.toInt q88.symm).trans (nzE n88)
        have w90 : jm_upd (sy_ai F 46) (sy_i F 83).toNatClampNeg ((sy_ai F 45).getD ((((-1) : Int32)) - ((sy_ai F 32).getD (sy_i F 82).toNatClampNeg 0)).toNatClampNeg 0) = jm_upd (sy_ai F 46) ((sy_i F 83).toInt).toNat ((sy_ai F 45).getD (((-1 : Int) - ((sy_ai F 32).getD ((sy_i F 82).toInt).toNat 0).toInt)).toNat 0) := by simp only [nz_c, (nzE n88), (nzE m88), (by decide : (((-1) : Int32)).toInt = (-1 : Int))]
        have n87 : nzI ((sy_i F 82) + ((1 : Int32))) (((sy_i F 82).toInt + 1)) := nz_add (rfl : (sy_i F 82).toInt = (sy_i F 82).toInt) (by decide : ((1 : Int32)).toInt = 1) (by omega) (by omega)
        have n91 : nzI ((sy_i F 83) + ((1 : Int32))) (((sy_i F 83).toInt + 1)) := nz_add (rfl : (sy_i F 83).toInt = (sy_i F 83).toInt) (by decide : ((1 : Int32)).toInt = 1) (by omega) (by omega)
        have n92 : nzI ((sy_i F 84) + ((1 : Int32))) (((sy_i F 84).toInt + 1)) := nz_add (rfl : (sy_i F 84).toInt = (sy_i F 84).toInt) (by decide : ((1 : Int32)).toInt = 1) (by omega) (by omega)
        exact j3wo_8_p14 hd F X1 X2 hB (by first | exact g0 | (simp only [nz_c]; exact g0)) (by first | exact g1 | (simp only [nz_c]; exact g1)) (by first | (simp only [nz_c, (nzE n85)]; exact g2) | exact g2 | (rw [(nzE n85)]; exact g2)) (by first | exact ⟨by omega, by omega⟩ | (simp only [nz_c]; exact ⟨by omega, by omega⟩)) (by first | exact g3 | (simp only [nz_c]; exact g3) | (rw [(nzE n86)]; exact g3)) (by first | exact g4 | (simp only [nz_c]; exact g4)) (by first | exact g5 | (simp only [nz_c]; exact g5) | (rw [(nzE n86)]; exact g5)) (by first | (simp only [nz_c, (nzE n88), (nzE m88)]; exact ⟨by omega, by omega⟩) | exact ⟨by omega, by omega⟩ | (rw [(nzE n88)]; exact ⟨by omega, by omega⟩)) (by first | exact ⟨by omega, by omega⟩ | (simp only [nz_c]; exact ⟨by omega, by omega⟩)) (fun F1 g e46 e82 e83 e84 => k14 g0 g1 g2 g3 g4 g5 F1 (nz_in0 hB [46] (fun j hj hn => g j hj (by simp only [List.mem_cons, List.not_mem_nil, or_false, not_or] at hn; omega)) (List.forall_mem_cons.mpr ⟨fun t ht => (Option.some.inj ht) ▸ (nz_hz2 e46), List.forall_mem_nil _⟩)) (fun j hj hn => g j hj (by simp only [List.mem_cons, List.not_mem_nil, or_false, not_or] at hn; omega)) ((zz_ai e46).trans w90) ((congrArg Int32.toInt (zz_i e82)).trans (nzE n87)) ((zz_i e82).trans (rfl : (sy_i F 82) + ((1 : Int32)) = (sy_i F 82) + ((1 : Int32)))) ((congrArg Int32.toInt (zz_i e83)).trans (nzE n91)) ((zz_i e83).trans (rfl : (sy_i F 83) + ((1 : Int32)) = (sy_i F 83) + ((1 : Int32)))) ((congrArg Int32.toInt (zz_i e84)).trans (nzE n92)) ((zz_i e84).trans (rfl : (sy_i F 84) + ((1 : Int32)) = (sy_i F 84) + ((1 : Int32)))))
      replace g5 : 0 ≤ ((sy_ai F 32).getD ((sy_i F 82).toInt).toNat 0).toInt := by omega
      have n85 : nzI ((sy_i F 82) + ((1 : Int32))) (((sy_i F 82).toInt + 1)) := nz_add (rfl : (sy_i F 82).toInt = (sy_i F 82).toInt) (by decide : ((1 : Int32)).toInt = 1) (by omega) (by omega)
      have q86 : (sy_ai F 32).getD (sy_i F 82).toNatClampNeg 0 = (sy_ai F 32).getD ((sy_i F 82).toInt).toNat 0 := by simp only [nz_c]
      have n86 : nzI ((sy_ai F 32).getD (sy_i F 82).toNatClampNeg 0) (((sy_ai F 32).getD ((sy_i F 82).toInt).toNat 0).toInt) := congrArg Int32.toInt q86
      have r86 := nz_ba hB (k := 32) (lo := (-2147483648)) (hi := 2147483646) rfl ((sy_i F 82).toInt).toNat
      have w88 : jm_upd (sy_ai F 46) (sy_i F 83).toNatClampNeg ((sy_ai F 32).getD (sy_i F 82).toNatClampNeg 0) = jm_upd (sy_ai F 46) ((sy_i F 83).toInt).toNat ((sy_ai F 32).getD ((sy_i F 82).toInt).toNat 0) := by simp only [nz_c]
      have n87 : nzI ((sy_i F 82) + ((1 : Int32))) (((sy_i F 82).toInt + 1)) := nz_add (rfl : (sy_i F 82).toInt = (sy_i F 82).toInt) (by decide : ((1 : Int32)).toInt = 1) (by omega) (by omega)
      have n89 : nzI ((sy_i F 83) + ((1 : Int32))) (((sy_i F 83).toInt + 1)) := nz_add (rfl : (sy_i F 83).toInt = (sy_i F 83).toInt) (by decide : ((1 : Int32)).toInt = 1) (by omega) (by omega)
      have n90 : nzI ((sy_i F 84) + ((1 : Int32))) (((sy_i F 84).toInt + 1)) := nz_add (rfl : (sy_i F 84).toInt = (sy_i F 84).toInt) (by decide : ((1 : Int32)).toInt = 1) (by omega) (by omega)
      exact j3wo_8_p15 hd F X1 X2 hB (by first | exact g0 | (simp only [nz_c]; exact g0)) (by first | exact g1 | (simp only [nz_c]; exact g1)) (by first | (simp only [nz_c, (nzE n85)]; exact g2) | exact g2 | (rw [(nzE n85)]; exact g2)) (by first | exact ⟨by omega, by omega⟩ | (simp only [nz_c]; exact ⟨by omega, by omega⟩)) (by first | exact g3 | (simp only [nz_c]; exact g3) | (rw [(nzE n86)]; exact g3)) (by first | exact g4 | (simp only [nz_c]; exact g4)) (by first | exact g5 | (simp only [nz_c]; exact g5) | (rw [(nzE n86)]; exact g5)) (by first | exact ⟨by omega, by omega⟩ | (simp only [nz_c]; exact ⟨by omega, by omega⟩)) (fun F1 g e46 e82 e83 e84 => k15 g0 g1 g2 g3 g4 g5 F1 (nz_in0 hB [46] (fun j hj hn => g j hj (by simp only [List.mem_cons, List.not_mem_nil, or_false, not_or] at hn; omega)) (List.forall_mem_cons.mpr ⟨fun t ht => (Option.some.inj ht) ▸ (nz_hz2 e46), List.forall_mem_nil _⟩)) (fun j hj hn => g j hj (by simp only [List.mem_cons, List.not_mem_nil, or_false, not_or] at hn; omega)) ((zz_ai e46).trans w88) ((congrArg Int32.toInt (zz_i e82)).trans (nzE n87)) ((zz_i e82).trans (rfl : (sy_i F 82) + ((1 : Int32)) = (sy_i F 82) + ((1 : Int32)))) ((congrArg Int32.toInt (zz_i e83)).trans (nzE n89)) ((zz_i e83).trans (rfl : (sy_i F 83) + ((1 : Int32)) = (sy_i F 83) + ((1 : Int32)))) ((congrArg Int32.toInt (zz_i e84)).trans (nzE n90)) ((zz_i e84).trans (rfl : (sy_i F 84) + ((1 : Int32)) = (sy_i F 84) + ((1 : Int32)))))
    replace g4 : 32 ≤ (sy_i F 83).toInt := by omega
    have n85 : nzI ((sy_i F 82) + ((1 : Int32))) (((sy_i F 82).toInt + 1)) := nz_add (rfl : (sy_i F 82).toInt = (sy_i F 82).toInt) (by decide : ((1 : Int32)).toInt = 1) (by omega) (by omega)
    have q86 : (sy_ai F 32).getD (sy_i F 82).toNatClampNeg 0 = (sy_ai F 32).getD ((sy_i F 82).toInt).toNat 0 := by simp only [nz_c]
    have n86 : nzI ((sy_ai F 32).getD (sy_i F 82).toNatClampNeg 0) (((sy_ai F 32).getD ((sy_i F 82).toInt).toNat 0).toInt) := congrArg Int32.toInt q86
    have r86 := nz_ba hB (k := 32) (lo := (-2147483648)) (hi := 2147483646) rfl ((sy_i F 82).toInt).toNat
    exact j3wo_8_p16 hd F X1 X2 hB (by first | exact g0 | (simp only [nz_c]; exact g0)) (by first | exact g1 | (simp only [nz_c]; exact g1)) (by first | (simp only [nz_c, (nzE n85)]; exact g2) | exact g2 | (rw [(nzE n85)]; exact g2)) (by first | exact ⟨by omega, by omega⟩ | (simp only [nz_c]; exact ⟨by omega, by omega⟩)) (by first | exact g3 | (simp only [nz_c]; exact g3) | (rw [(nzE n86)]; exact g3)) (by first | exact g4 | (simp only [nz_c]; exact g4)) (fun F1 g  => k16 g0 g1 g2 g3 g4 F1 (nz_in0 hB [] (fun j hj hn => g j hj (by simp only [List.mem_cons, List.not_mem_nil, or_false, not_or] at hn; exact trivial)) (List.forall_mem_nil _)) (fun j hj hn => g j hj (by simp only [List.mem_cons, List.not_mem_nil, or_false, not_or] at hn; exact trivial)) )
  replace g2 : 512 ≤ ((sy_i F 82).toInt + 1) := by omega
  have n85 : nzI ((sy_i F 82) + ((1 : Int32))) (((sy_i F 82).toInt + 1)) := nz_add (rfl : (sy_i F 82).toInt = (sy_i F 82).toInt) (by decide : ((1 : Int32)).toInt = 1) (by omega) (by omega)
  exact j3wo_8_p17 hd F X1 X2 hB (by first | exact g0 | (simp only [nz_c]; exact g0)) (by first | exact g1 | (simp only [nz_c]; exact g1)) (by first | (simp only [nz_c, (nzE n85)]; exact g2) | exact g2 | (rw [(nzE n85)]; exact g2)) (fun F1 g  => k17 g0 g1 g2 F1 (nz_in0 hB [] (fun j hj hn => g j hj (by simp only [List.mem_cons, List.not_mem_nil, or_false, not_or] at hn; exact trivial)) (List.forall_mem_nil _)) (fun j hj hn => g j hj (by simp only [List.mem_cons, List.not_mem_nil, or_false, not_or] at hn; exact trivial)) )
theorem j3to_0_p0 {Ls : Nat} {xs : Nat → Int32} {d : Nat} {Q : Option Value → jm_h → Prop} (hd : 1 ≤ d) (F : Nat → sy_d) (X1 X2 : List jm_c) (hB : iv_in F iv_B0)
    (h0 : 0 ≤ (sy_i F 82).toInt ∧ (sy_i F 82).toInt < 6)
    (k : ∀ F1 : Nat → sy_d, (∀ j, j < 82 → True → F1 j = F j) → F1 82 = .inl (.int (sy_i F 82)) → F1 83 = .inl (.int ((sy_ai F 31).getD (sy_i F 82).toNatClampNeg 0)) → hd_W Ls xs d jm_M21 Q (8, sy_dL F1 [none, none, some (.inr (.inl 82))], sy_dS F1 [.inr (.inl 83), .inl (.ref 20), .inl (.ref 38)], sy_dh F1 X1 X2 (iv_H 3), 0, 0)) :
    hd_W Ls xs d jm_M21 Q (0, sy_dL F [some (.inl (.ref 38)), some (.inl (.ref 20)), some (.inr (.inl 82))], sy_dS F [], sy_dh F X1 X2 (iv_H 3), 0, 0) := by
  refine hd_run (s := 3) (nv := 83) (pc := 8) (L := [none, none, some (.inr (.inl 82))]) (S := [.inr (.inl 83), .inl (.ref 20), .inl (.ref 38)]) (uh := hd_ov (iv_id 0 iv_B0) []) (ul := [.inl (.inr (.inl 82)), .inl (.inr (.inl 83))]) (f := true) (sp := [8]) (d0 := 0) (O := []) (T := [(30, [.inr (.inl 82)], [.inr (.inl 31)])]) (P := [(6, .inr (.inl 82), .inl (.ref 6))]) jm_ok21 (by decide +kernel) (by decide +kernel) hd F X1 X2 (fun F' hF hs => ?_)
  have b82 := hd_b (F := F) (F' := F') (k := 82) (hF 82 (by decide))
  have a31 := hd_ba (F := F) (F' := F') (k := 31) (hF 31 (by decide))
  have t83 : sy_dv F' (.inr (.inl 83)) = .int ((sy_ai F 31).getD (sy_i F 82).toNatClampNeg 0) := hd_rd (hs 0 _ rfl) b82 a31
  have hB' : iv_in F' iv_B0 := iv_in_eq hB (fun j hj => hF j (Nat.lt_of_lt_of_le hj (by decide +kernel)))
  refine ⟨List.forall_mem_cons.mpr ⟨hd_pb b82 (by first | exact h0 | exact h0), fun _ h => absurd h List.not_mem_nil⟩, ?_⟩
  refine k _ ?_ ?_ ?_
  · exact fun j hj _ => (hd_keep hB' (Nat.lt_of_lt_of_le hj (by decide +kernel)) (by simp)).trans (hF j (Nat.lt_of_lt_of_le hj (by decide)))
  · exact hd_gi (x := .inr (.inl 82)) (by decide +kernel) b82
  · exact hd_gi (x := .inr (.inl 83)) (by decide +kernel) t83
theorem j3to_0 {Ls : Nat} {xs : Nat → Int32} {d : Nat} {Q : Option Value → jm_h → Prop} (hd : 1 ≤ d) (F : Nat → sy_d) (X1 X2 : List jm_c) (hB : iv_in F iv_B0)
    (a82 : 0 ≤ (sy_i F 82).toInt ∧ (sy_i F 82).toInt ≤ 5)
    (k0 : ∀ F1 : Nat → sy_d, iv_in F1 iv_B0 → (∀ j, j < 82 → j ∉ ([] : List Nat) → F1 j = F j) → (sy_i F1 82).toInt = (sy_i F 82).toInt → sy_i F1 82 = sy_i F 82 → (sy_i F1 83).toInt = ((sy_ai F 31).getD ((sy_i F 82).toInt).toNat 0).toInt → sy_i F1 83 = (sy_ai F 31).getD ((sy_i F 82).toInt).toNat 0 → hd_W Ls xs d jm_M21 Q (8, sy_dL F1 [none, none, some (.inr (.inl 82))], sy_dS F1 [.inr (.inl 83), .inl (.ref 20), .inl (.ref 38)], sy_dh F1 X1 X2 (iv_H 3), 0, 0)) :
    hd_W Ls xs d jm_M21 Q (0, sy_dL F [some (.inl (.ref 38)), some (.inl (.ref 20)), some (.inr (.inl 82))], sy_dS F [], sy_dh F X1 X2 (iv_H 3), 0, 0) := by
  have q83 : (sy_ai F 31).getD (sy_i F 82).toNatClampNeg 0 = (sy_ai F 31).getD ((sy_i F 82).toInt).toNat 0 := by simp only [nz_c]
  have n83 : nzI ((sy_ai F 31).getD (sy_i F 82).toNatClampNeg 0) (((sy_ai F 31).getD ((sy_i F 82).toInt).toNat 0).toInt) := congrArg Int32.toInt q83
  have r83 := nz_ba hB (k := 31) (lo := 0) (hi := 512) rfl ((sy_i F 82).toInt).toNat
  exact j3to_0_p0 hd F X1 X2 hB (by first | exact ⟨by omega, by omega⟩ | (simp only [nz_c]; exact ⟨by omega, by omega⟩)) (fun F1 g e82 e83 => k0 F1 (nz_in0 hB [] (fun j hj hn => g j hj (by simp only [List.mem_cons, List.not_mem_nil, or_false, not_or] at hn; exact trivial)) (List.forall_mem_nil _)) (fun j hj hn => g j hj (by simp only [List.mem_cons, List.not_mem_nil, or_false, not_or] at hn; exact trivial)) ((congrArg Int32.toInt (zz_i e82)).trans (rfl : (sy_i F 82).toInt = (sy_i F 82).toInt)) ((zz_i e82).trans (rfl : sy_i F 82 = sy_i F 82)) ((congrArg Int32.toInt (zz_i e83)).trans (nzE n83)) ((zz_i e83).trans q83))
theorem j3to_11_p0 {Ls : Nat} {xs : Nat → Int32} {d : Nat} {Q : Option Value → jm_h → Prop} (hd : 3 ≤ d) (F : Nat → sy_d) (X1 X2 : List jm_c) (hB : iv_in F iv_B0)
    (h0 : 0 ≤ (sy_i F 82).toInt ∧ (sy_i F 82).toInt < 6)
    (h1 : 0 ≤ (sy_i F 82).toInt ∧ (sy_i F 82).toInt < 6)
    (h2 : (sy_i F 83).toInt < ((([9, 9, 100, 99, 9, 100] : List Int32)).getD (sy_i F 82).toNatClampNeg 0).toInt)
    (h3 : ((([0, (-9), 0, 0, (-9), 0] : List Int32)).getD (sy_i F 82).toNatClampNeg 0).toInt < (sy_i F 83).toInt)
    (k : ∀ F1 : Nat → sy_d, (∀ j, j < 82 → True → F1 j = F j) → Q (some (.int (sy_i F 83))) (sy_dh F1 X1 X2 (iv_H 3))) :
    hd_W Ls xs d jm_M21 Q (11, sy_dL F [none, none, some (.inr (.inl 82))], sy_dS F [.inr (.inl 83)], sy_dh F X1 X2 (iv_H 3), 0, 0) := by
  refine hd_ret (s := 3) (nv := 84) (v := some (.inr (.inl 83))) (uh := hd_ov (iv_id 0 iv_B0) []) (f := false) (sp := []) (d0 := 2) (O := [true, true]) (T := [(30, [.inr (.inl 82)], [.inl (.inl [0, (-9), 0, 0, (-9), 0])]), (30, [.inr (.inl 82)], [.inl (.inl [9, 9, 100, 99, 9, 100])])]) (P := [(6, .inr (.inl 82), .inl (.ref 6)), (6, .inr (.inl 82), .inl (.ref 6)), (2, .inr (.inl 83), .inr (.inl 85)), (2, .inr (.inl 84), .inr (.inl 83))]) jm_ok21 (by decide +kernel) (by decide +kernel) hd F X1 X2 (fun F' hF hs => ?_)
  have b82 := hd_b (F := F) (F' := F') (k := 82) (hF 82 (by decide))
  have b83 := hd_b (F := F) (F' := F') (k := 83) (hF 83 (by decide))
  have t85 : sy_dv F' (.inr (.inl 85)) = .int ((([9, 9, 100, 99, 9, 100] : List Int32)).getD (sy_i F 82).toNatClampNeg 0) := hd_rd (hs 1 _ rfl) b82 rfl
  have t84 : sy_dv F' (.inr (.inl 84)) = .int ((([0, (-9), 0, 0, (-9), 0] : List Int32)).getD (sy_i F 82).toNatClampNeg 0) := hd_rd (hs 0 _ rfl) b82 rfl
  have hB' : iv_in F' iv_B0 := iv_in_eq hB (fun j hj => hF j (Nat.lt_of_lt_of_le hj (by decide +kernel)))
  have hk := k (sy_cm F' (hd_ov (iv_id 0 iv_B0) [] ++ [])) (fun j hj _ => (hd_keep hB' (Nat.lt_of_lt_of_le hj (by decide +kernel)) (by simp)).trans (hF j (Nat.lt_of_lt_of_le hj (by decide))))
  refine ⟨List.forall_mem_cons.mpr ⟨hd_pb b82 (by first | exact h0 | exact h0), List.forall_mem_cons.mpr ⟨hd_pb b82 (by first | exact h1 | exact h1), List.forall_mem_cons.mpr ⟨hd_p2 b83 t85 h2, List.forall_mem_cons.mpr ⟨hd_p2 t84 b83 h3, fun _ h => absurd h List.not_mem_nil⟩⟩⟩⟩, ?_⟩
  show Q (some (sy_dv F' (.inr (.inl 83)))) _
  rw [b83]
  exact hk
theorem j3to_11_p1 {Ls : Nat} {xs : Nat → Int32} {d : Nat} {Q : Option Value → jm_h → Prop} (hd : 3 ≤ d) (F : Nat → sy_d) (X1 X2 : List jm_c) (hB : iv_in F iv_B0)
    (h0 : 0 ≤ (sy_i F 82).toInt ∧ (sy_i F 82).toInt < 6)
    (h1 : 0 ≤ (sy_i F 82).toInt ∧ (sy_i F 82).toInt < 6)
    (h2 : (sy_i F 83).toInt < ((([9, 9, 100, 99, 9, 100] : List Int32)).getD (sy_i F 82).toNatClampNeg 0).toInt)
    (h3 : (sy_i F 83).toInt ≤ ((([0, (-9), 0, 0, (-9), 0] : List Int32)).getD (sy_i F 82).toNatClampNeg 0).toInt)
    (k : ∀ F1 : Nat → sy_d, (∀ j, j < 82 → True → F1 j = F j) → Q (some (.int ((([0, (-9), 0, 0, (-9), 0] : List Int32)).getD (sy_i F 82).toNatClampNeg 0))) (sy_dh F1 X1 X2 (iv_H 3))) :
    hd_W Ls xs d jm_M21 Q (11, sy_dL F [none, none, some (.inr (.inl 82))], sy_dS F [.inr (.inl 83)], sy_dh F X1 X2 (iv_H 3), 0, 0) := by
  refine hd_ret (s := 3) (nv := 84) (v := some (.inr (.inl 84))) (uh := hd_ov (iv_id 0 iv_B0) []) (f := false) (sp := []) (d0 := 2) (O := [true, false]) (T := [(30, [.inr (.inl 82)], [.inl (.inl [0, (-9), 0, 0, (-9), 0])]), (30, [.inr (.inl 82)], [.inl (.inl [9, 9, 100, 99, 9, 100])])]) (P := [(6, .inr (.inl 82), .inl (.ref 6)), (6, .inr (.inl 82), .inl (.ref 6)), (2, .inr (.inl 83), .inr (.inl 85)), (3, .inr (.inl 84), .inr (.inl 83))]) jm_ok21 (by decide +kernel) (by decide +kernel) hd F X1 X2 (fun F' hF hs => ?_)
  have b82 := hd_b (F := F) (F' := F') (k := 82) (hF 82 (by decide))
  have b83 := hd_b (F := F) (F' := F') (k := 83) (hF 83 (by decide))
  have t85 : sy_dv F' (.inr (.inl 85)) = .int ((([9, 9, 100, 99, 9, 100] : List Int32)).getD (sy_i F 82).toNatClampNeg 0) := hd_rd (hs 1 _ rfl) b82 rfl
  have t84 : sy_dv F' (.inr (.inl 84)) = .int ((([0, (-9), 0, 0, (-9), 0] : List Int32)).getD (sy_i F 82).toNatClampNeg 0) := hd_rd (hs 0 _ rfl) b82 rfl
  have hB' : iv_in F' iv_B0 := iv_in_eq hB (fun j hj => hF j (Nat.lt_of_lt_of_le hj (by decide +kernel)))
  have hk := k (sy_cm F' (hd_ov (iv_id 0 iv_B0) [] ++ [])) (fun j hj _ => (hd_keep hB' (Nat.lt_of_lt_of_le hj (by decide +kernel)) (by simp)).trans (hF j (Nat.lt_of_lt_of_le hj (by decide))))
  refine ⟨List.forall_mem_cons.mpr ⟨hd_pb b82 (by first | exact h0 | exact h0), List.forall_mem_cons.mpr ⟨hd_pb b82 (by first | exact h1 | exact h1), List.forall_mem_cons.mpr ⟨hd_p2 b83 t85 h2, List.forall_mem_cons.mpr ⟨hd_p3 t84 b83 h3, fun _ h => absurd h List.not_mem_nil⟩⟩⟩⟩, ?_⟩
  show Q (some (sy_dv F' (.inr (.inl 84)))) _
  rw [t84]
  exact hk
theorem j3to_11_p2 {Ls : Nat} {xs : Nat → Int32} {d : Nat} {Q : Option Value → jm_h → Prop} (hd : 3 ≤ d) (F : Nat → sy_d) (X1 X2 : List jm_c) (hB : iv_in F iv_B0)
    (h0 : 0 ≤ (sy_i F 82).toInt ∧ (sy_i F 82).toInt < 6)
    (h1 : 0 ≤ (sy_i F 82).toInt ∧ (sy_i F 82).toInt < 6)
    (h2 : ((([9, 9, 100, 99, 9, 100] : List Int32)).getD (sy_i F 82).toNatClampNeg 0).toInt ≤ (sy_i F 83).toInt)
    (h3 : ((([0, (-9), 0, 0, (-9), 0] : List Int32)).getD (sy_i F 82).toNatClampNeg 0).toInt < ((([9, 9, 100, 99, 9, 100] : List Int32)).getD (sy_i F 82).toNatClampNeg 0).toInt)
    (k : ∀ F1 : Nat → sy_d, (∀ j, j < 82 → True → F1 j = F j) → Q (some (.int ((([9, 9, 100, 99, 9, 100] : List Int32)).getD (sy_i F 82).toNatClampNeg 0))) (sy_dh F1 X1 X2 (iv_H 3))) :
    hd_W Ls xs d jm_M21 Q (11, sy_dL F [none, none, some (.inr (.inl 82))], sy_dS F [.inr (.inl 83)], sy_dh F X1 X2 (iv_H 3), 0, 0) := by
  refine hd_ret (s := 3) (nv := 84) (v := some (.inr (.inl 85))) (uh := hd_ov (iv_id 0 iv_B0) []) (f := false) (sp := []) (d0 := 2) (O := [false, true]) (T := [(30, [.inr (.inl 82)], [.inl (.inl [0, (-9), 0, 0, (-9), 0])]), (30, [.inr (.inl 82)], [.inl (.inl [9, 9, 100, 99, 9, 100])])]) (P := [(6, .inr (.inl 82), .inl (.ref 6)), (6, .inr (.inl 82), .inl (.ref 6)), (3, .inr (.inl 83), .inr (.inl 85)), (2, .inr (.inl 84), .inr (.inl 85))]) jm_ok21 (by decide +kernel) (by decide +kernel) hd F X1 X2 (fun F' hF hs => ?_)
  have b82 := hd_b (F := F) (F' := F') (k := 82) (hF 82 (by decide))
  have b83 := hd_b (F := F) (F' := F') (k := 83) (hF 83 (by decide))
  have t85 : sy_dv F' (.inr (.inl 85)) = .int ((([9, 9, 100, 99, 9, 100] : List Int32)).getD (sy_i F 82).toNatClampNeg 0) := hd_rd (hs 1 _ rfl) b82 rfl
  have t84 : sy_dv F' (.inr (.inl 84)) = .int ((([0, (-9), 0, 0, (-9), 0] : List Int32)).getD (sy_i F 82).toNatClampNeg 0) := hd_rd (hs 0 _ rfl) b82 rfl
  have hB' : iv_in F' iv_B0 := iv_in_eq hB (fun j hj => hF j (Nat.lt_of_lt_of_le hj (by decide +kernel)))
  have hk := k (sy_cm F' (hd_ov (iv_id 0 iv_B0) [] ++ [])) (fun j hj _ => (hd_keep hB' (Nat.lt_of_lt_of_le hj (by decide +kernel)) (by simp)).trans (hF j (Nat.lt_of_lt_of_le hj (by decide))))
  refine ⟨List.forall_mem_cons.mpr ⟨hd_pb b82 (by first | exact h0 | exact h0), List.forall_mem_cons.mpr ⟨hd_pb b82 (by first | exact h1 | exact h1), List.forall_mem_cons.mpr ⟨hd_p3 b83 t85 h2, List.forall_mem_cons.mpr ⟨hd_p2 t84 t85 h3, fun _ h => absurd h List.not_mem_nil⟩⟩⟩⟩, ?_⟩
  show Q (some (sy_dv F' (.inr (.inl 85)))) _
  rw [t85]
  exact hk
theorem j3to_11_p3 {Ls : Nat} {xs : Nat → Int32} {d : Nat} {Q : Option Value → jm_h → Prop} (hd : 3 ≤ d) (F : Nat → sy_d) (X1 X2 : List jm_c) (hB : iv_in F iv_B0)
    (h0 : 0 ≤ (sy_i F 82).toInt ∧ (sy_i F 82).toInt < 6)
    (h1 : 0 ≤ (sy_i F 82).toInt ∧ (sy_i F 82).toInt < 6)
    (h2 : ((([9, 9, 100, 99, 9, 100] : List Int32)).getD (sy_i F 82).toNatClampNeg 0).toInt ≤ (sy_i F 83).toInt)
    (h3 : ((([9, 9, 100, 99, 9, 100] : List Int32)).getD (sy_i F 82).toNatClampNeg 0).toInt ≤ ((([0, (-9), 0, 0, (-9), 0] : List Int32)).getD (sy_i F 82).toNatClampNeg 0).toInt)
    (k : ∀ F1 : Nat → sy_d, (∀ j, j < 82 → True → F1 j = F j) → Q (some (.int ((([0, (-9), 0, 0, (-9), 0] : List Int32)).getD (sy_i F 82).toNatClampNeg 0))) (sy_dh F1 X1 X2 (iv_H 3))) :
    hd_W Ls xs d jm_M21 Q (11, sy_dL F [none, none, some (.inr (.inl 82))], sy_dS F [.inr (.inl 83)], sy_dh F X1 X2 (iv_H 3), 0, 0) := by
  refine hd_ret (s := 3) (nv := 84) (v := some (.inr (.inl 84))) (uh := hd_ov (iv_id 0 iv_B0) []) (f := false) (sp := []) (d0 := 2) (O := [false, false]) (T := [(30, [.inr (.inl 82)], [.inl (.inl [0, (-9), 0, 0, (-9), 0])]), (30, [.inr (.inl 82)], [.inl (.inl [9, 9, 100, 99, 9, 100])])]) (P := [(6, .inr (.inl 82), .inl (.ref 6)), (6, .inr (.inl 82), .inl (.ref 6)), (3, .inr (.inl 83), .inr (.inl 85)), (3, .inr (.inl 84), .inr (.inl 85))]) jm_ok21 (by decide +kernel) (by decide +kernel) hd F X1 X2 (fun F' hF hs => ?_)
  have b82 := hd_b (F := F) (F' := F') (k := 82) (hF 82 (by decide))
  have b83 := hd_b (F := F) (F' := F') (k := 83) (hF 83 (by decide))
  have t85 : sy_dv F' (.inr (.inl 85)) = .int ((([9, 9, 100, 99, 9, 100] : List Int32)).getD (sy_i F 82).toNatClampNeg 0) := hd_rd (hs 1 _ rfl) b82 rfl
  have t84 : sy_dv F' (.inr (.inl 84)) = .int ((([0, (-9), 0, 0, (-9), 0] : List Int32)).getD (sy_i F 82).toNatClampNeg 0) := hd_rd (hs 0 _ rfl) b82 rfl
  have hB' : iv_in F' iv_B0 := iv_in_eq hB (fun j hj => hF j (Nat.lt_of_lt_of_le hj (by decide +kernel)))
  have hk := k (sy_cm F' (hd_ov (iv_id 0 iv_B0) [] ++ [])) (fun j hj _ => (hd_keep hB' (Nat.lt_of_lt_of_le hj (by decide +kernel)) (by simp)).trans (hF j (Nat.lt_of_lt_of_le hj (by decide))))
  refine ⟨List.forall_mem_cons.mpr ⟨hd_pb b82 (by first | exact h0 | exact h0), List.forall_mem_cons.mpr ⟨hd_pb b82 (by first | exact h1 | exact h1), List.forall_mem_cons.mpr ⟨hd_p3 b83 t85 h2, List.forall_mem_cons.mpr ⟨hd_p3 t84 t85 h3, fun _ h => absurd h List.not_mem_nil⟩⟩⟩⟩, ?_⟩
  show Q (some (sy_dv F' (.inr (.inl 84)))) _
  rw [t84]
  exact hk
theorem j3to_11 {Ls : Nat} {xs : Nat → Int32} {d : Nat} {Q : Option Value → jm_h → Prop} (hd : 3 ≤ d) (F : Nat → sy_d) (X1 X2 : List jm_c) (hB : iv_in F iv_B0)
    (a82 : 0 ≤ (sy_i F 82).toInt ∧ (sy_i F 82).toInt ≤ 5)
    (k0 : (sy_i F 83).toInt < ((([9, 9, 100, 99, 9, 100] : List Int32)).getD ((sy_i F 82).toInt).toNat 0).toInt → ((([0, (-9), 0, 0, (-9), 0] : List Int32)).getD ((sy_i F 82).toInt).toNat 0).toInt < (sy_i F 83).toInt → ∀ F1 : Nat → sy_d, iv_in F1 iv_B0 → (∀ j, j < 82 → j ∉ ([] : List Nat) → F1 j = F j) → Q (some (.int (sy_i F 83))) (sy_dh F1 X1 X2 (iv_H 3)))
    (k1 : (sy_i F 83).toInt < ((([9, 9, 100, 99, 9, 100] : List Int32)).getD ((sy_i F 82).toInt).toNat 0).toInt → (sy_i F 83).toInt ≤ ((([0, (-9), 0, 0, (-9), 0] : List Int32)).getD ((sy_i F 82).toInt).toNat 0).toInt → ∀ F1 : Nat → sy_d, iv_in F1 iv_B0 → (∀ j, j < 82 → j ∉ ([] : List Nat) → F1 j = F j) → Q (some (.int ((([0, (-9), 0, 0, (-9), 0] : List Int32)).getD ((sy_i F 82).toInt).toNat 0))) (sy_dh F1 X1 X2 (iv_H 3)))
    (k2 : ((([9, 9, 100, 99, 9, 100] : List Int32)).getD ((sy_i F 82).toInt).toNat 0).toInt ≤ (sy_i F 83).toInt → ((([0, (-9), 0, 0, (-9), 0] : List Int32)).getD ((sy_i F 82).toInt).toNat 0).toInt < ((([9, 9, 100, 99, 9, 100] : List Int32)).getD ((sy_i F 82).toInt).toNat 0).toInt → ∀ F1 : Nat → sy_d, iv_in F1 iv_B0 → (∀ j, j < 82 → j ∉ ([] : List Nat) → F1 j = F j) → Q (some (.int ((([9, 9, 100, 99, 9, 100] : List Int32)).getD ((sy_i F 82).toInt).toNat 0))) (sy_dh F1 X1 X2 (iv_H 3)))
    (k3 : ((([9, 9, 100, 99, 9, 100] : List Int32)).getD ((sy_i F 82).toInt).toNat 0).toInt ≤ (sy_i F 83).toInt → ((([9, 9, 100, 99, 9, 100] : List Int32)).getD ((sy_i F 82).toInt).toNat 0).toInt ≤ ((([0, (-9), 0, 0, (-9), 0] : List Int32)).getD ((sy_i F 82).toInt).toNat 0).toInt → ∀ F1 : Nat → sy_d, iv_in F1 iv_B0 → (∀ j, j < 82 → j ∉ ([] : List Nat) → F1 j = F j) → Q (some (.int ((([0, (-9), 0, 0, (-9), 0] : List Int32)).getD ((sy_i F 82).toInt).toNat 0))) (sy_dh F1 X1 X2 (iv_H 3))) :
    hd_W Ls xs d jm_M21 Q (11, sy_dL F [none, none, some (.inr (.inl 82))], sy_dS F [.inr (.inl 83)], sy_dh F X1 X2 (iv_H 3), 0, 0) := by
  by_cases g0 : (sy_i F 83).toInt < ((([9, 9, 100, 99, 9, 100] : List Int32)).getD ((sy_i F 82).toInt).toNat 0).toInt
  · by_cases g1 : ((([0, (-9), 0, 0, (-9), 0] : List Int32)).getD ((sy_i F 82).toInt).toNat 0).toInt < (sy_i F 83).toInt
    · have q85 : (([9, 9, 100, 99, 9, 100] : List Int32)).getD (sy_i F 82).toNatClampNeg 0 = (([9, 9, 100, 99, 9, 100] : List Int32)).getD ((sy_i F 82).toInt).toNat 0 := by simp only [nz_c]
      have n85 : nzI ((([9, 9, 100, 99, 9, 100] : List Int32)).getD (sy_i F 82).toNatClampNeg 0) (((([9, 9, 100, 99, 9, 100] : List Int32)).getD ((sy_i F 82).toInt).toNat 0).toInt) := congrArg Int32.toInt q85
      have q84 : (([0, (-9), 0, 0, (-9), 0] : List Int32)).getD (sy_i F 82).toNatClampNeg 0 = (([0, (-9), 0, 0, (-9), 0] : List Int32)).getD ((sy_i F 82).toInt).toNat 0 := by simp only [nz_c]
      have n84 : nzI ((([0, (-9), 0, 0, (-9), 0] : List Int32)).getD (sy_i F 82).toNatClampNeg 0) (((([0, (-9), 0, 0, (-9), 0] : List Int32)).getD ((sy_i F 82).toInt).toNat 0).toInt) := congrArg Int32.toInt q84
      exact j3to_11_p0 hd F X1 X2 hB (by first | exact ⟨by omega, by omega⟩ | (simp only [nz_c]; exact ⟨by omega, by omega⟩)) (by first | exact ⟨by omega, by omega⟩ | (simp only [nz_c]; exact ⟨by omega, by omega⟩)) (by first | exact g0 | (simp only [nz_c]; exact g0) | (rw [(nzE n85)]; exact g0)) (by first | exact g1 | (simp only [nz_c]; exact g1) | (rw [(nzE n84)]; exact g1)) (fun F1 g  => by rw [(rfl : sy_i F 83 = sy_i F 83)]; exact k0 g0 g1 F1 (nz_in0 hB [] (fun j hj hn => g j hj (by simp only [List.mem_cons, List.not_mem_nil, or_false, not_or] at hn; exact trivial)) (List.forall_mem_nil _)) (fun j hj hn => g j hj (by simp only [List.mem_cons, List.not_mem_nil, or_false, not_or] at hn; exact trivial)) )
    replace g1 : (sy_i F 83).toInt ≤ ((([0, (-9), 0, 0, (-9), 0] : List Int32)).getD ((sy_i F 82).toInt).toNat 0).toInt := by omega
    have q85 : (([9, 9, 100, 99, 9, 100] : List Int32)).getD (sy_i F 82).toNatClampNeg 0 = (([9, 9, 100, 99, 9, 100] : List Int32)).getD ((sy_i F 82).toInt).toNat 0 := by simp only [nz_c]
    have n85 : nzI ((([9, 9, 100, 99, 9, 100] : List Int32)).getD (sy_i F 82).toNatClampNeg 0) (((([9, 9, 100, 99, 9, 100] : List Int32)).getD ((sy_i F 82).toInt).toNat 0).toInt) := congrArg Int32.toInt q85
    have q84 : (([0, (-9), 0, 0, (-9), 0] : List Int32)).getD (sy_i F 82).toNatClampNeg 0 = (([0, (-9), 0, 0, (-9), 0] : List Int32)).getD ((sy_i F 82).toInt).toNat 0 := by simp only [nz_c]
    have n84 : nzI ((([0, (-9), 0, 0, (-9), 0] : List Int32)).getD (sy_i F 82).toNatClampNeg 0) (((([0, (-9), 0, 0, (-9), 0] : List Int32)).getD ((sy_i F 82).toInt).toNat 0).toInt) := congrArg Int32.toInt q84
    exact j3to_11_p1 hd F X1 X2 hB (by first | exact ⟨by omega, by omega⟩ | (simp only [nz_c]; exact ⟨by omega, by omega⟩)) (by first | exact ⟨by omega, by omega⟩ | (simp only [nz_c]; exact ⟨by omega, by omega⟩)) (by first | exact g0 | (simp only [nz_c]; exact g0) | (rw [(nzE n85)]; exact g0)) (by first | exact g1 | (simp only [nz_c]; exact g1) | (rw [(nzE n84)]; exact g1)) (fun F1 g  => by rw [q84]; exact k1 g0 g1 F1 (nz_in0 hB [] (fun j hj hn => g j hj (by simp only [List.mem_cons, List.not_mem_nil, or_false, not_or] at hn; exact trivial)) (List.forall_mem_nil _)) (fun j hj hn => g j hj (by simp only [List.mem_cons, List.not_mem_nil, or_false, not_or] at hn; exact trivial)) )
  replace g0 : ((([9, 9, 100, 99, 9, 100] : List Int32)).getD ((sy_i F 82).toInt).toNat 0).toInt ≤ (sy_i F 83).toInt := by omega
  by_cases g1 : ((([0, (-9), 0, 0, (-9), 0] : List Int32)).getD ((sy_i F 82).toInt).toNat 0).toInt < ((([9, 9, 100, 99, 9, 100] : List Int32)).getD ((sy_i F 82).toInt).toNat 0).toInt
  · have q85 : (([9, 9, 100, 99, 9, 100] : List Int32)).getD (sy_i F 82).toNatClampNeg 0 = (([9, 9, 100, 99, 9, 100] : List Int32)).getD ((sy_i F 82).toInt).toNat 0 := by simp only [nz_c]
    have n85 : nzI ((([9, 9, 100, 99, 9, 100] : List Int32)).getD (sy_i F 82).toNatClampNeg 0) (((([9, 9, 100, 99, 9, 100] : List Int32)).getD ((sy_i F 82).toInt).toNat 0).toInt) := congrArg Int32.toInt q85
    have q84 : (([0, (-9), 0, 0, (-9), 0] : List Int32)).getD (sy_i F 82).toNatClampNeg 0 = (([0, (-9), 0, 0, (-9), 0] : List Int32)).getD ((sy_i F 82).toInt).toNat 0 := by simp only [nz_c]
    have n84 : nzI ((([0, (-9), 0, 0, (-9), 0] : List Int32)).getD (sy_i F 82).toNatClampNeg 0) (((([0, (-9), 0, 0, (-9), 0] : List Int32)).getD ((sy_i F 82).toInt).toNat 0).toInt) := congrArg Int32.toInt q84
    exact j3to_11_p2 hd F X1 X2 hB (by first | exact ⟨by omega, by omega⟩ | (simp only [nz_c]; exact ⟨by omega, by omega⟩)) (by first | exact ⟨by omega, by omega⟩ | (simp only [nz_c]; exact ⟨by omega, by omega⟩)) (by first | exact g0 | (simp only [nz_c]; exact g0) | (rw [(nzE n85)]; exact g0)) (by first | exact g1 | (simp only [nz_c]; exact g1) | (rw [(nzE n84)]; exact g1) | (rw [(nzE n85)]; exact g1) | (rw [(nzE n84), (nzE n85)]; exact g1)) (fun F1 g  => by rw [q85]; exact k2 g0 g1 F1 (nz_in0 hB [] (fun j hj hn => g j hj (by simp only [List.mem_cons, List.not_mem_nil, or_false, not_or] at hn; exact trivial)) (List.forall_mem_nil _)) (fun j hj hn => g j hj (by simp only [List.mem_cons, List.not_mem_nil, or_false, not_or] at hn; exact trivial)) )
  replace g1 : ((([9, 9, 100, 99, 9, 100] : List Int32)).getD ((sy_i F 82).toInt).toNat 0).toInt ≤ ((([0, (-9), 0, 0, (-9), 0] : List Int32)).getD ((sy_i F 82).toInt).toNat 0).toInt := by omega
  have q85 : (([9, 9, 100, 99, 9, 100] : List Int32)).getD (sy_i F 82).toNatClampNeg 0 = (([9, 9, 100, 99, 9, 100] : List Int32)).getD ((sy_i F 82).toInt).toNat 0 := by simp only [nz_c]
  have n85 : nzI ((([9, 9, 100, 99, 9, 100] : List Int32)).getD (sy_i F 82).toNatClampNeg 0) (((([9, 9, 100, 99, 9, 100] : List Int32)).getD ((sy_i F 82).toInt).toNat 0).toInt) := congrArg Int32.toInt q85
  have q84 : (([0, (-9), 0, 0, (-9), 0] : List Int32)).getD (sy_i F 82).toNatClampNeg 0 = (([0, (-9), 0, 0, (-9), 0] : List Int32)).getD ((sy_i F 82).toInt).toNat 0 := by simp only [nz_c]
  have n84 : nzI ((([0, (-9), 0, 0, (-9), 0] : List Int32)).getD (sy_i F 82).toNatClampNeg 0) (((([0, (-9), 0, 0, (-9), 0] : List Int32)).getD ((sy_i F 82).toInt).toNat 0).toInt) := congrArg Int32.toInt q84
  exact j3to_11_p3 hd F X1 X2 hB (by first | exact ⟨by omega, by omega⟩ | (simp only [nz_c]; exact ⟨by omega, by omega⟩)) (by first | exact ⟨by omega, by omega⟩ | (simp only [nz_c]; exact ⟨by omega, by omega⟩)) (by first | exact g0 | (simp only [nz_c]; exact g0) | (rw [(nzE n85)]; exact g0)) (by first | exact g1 | (simp only [nz_c]; exact g1) | (rw [(nzE n84)]; exact g1) | (rw [(nzE n85)]; exact g1) | (rw [(nzE n84), (nzE n85)]; exact g1)) (fun F1 g  => by rw [q84]; exact k3 g0 g1 F1 (nz_in0 hB [] (fun j hj hn => g j hj (by simp only [List.mem_cons, List.not_mem_nil, or_false, not_or] at hn; exact trivial)) (List.forall_mem_nil _)) (fun j hj hn => g j hj (by simp only [List.mem_cons, List.not_mem_nil, or_false, not_or] at hn; exact trivial)) )
end
