section
/-! ===== the class saves its ground and loads it, way by way (shape 3) ===== -/
theorem j3svt_0_p0 {Ls : Nat} {xs : Nat → Int32} {d : Nat} {Q : Option Value → jm_h → Prop} (hd : 1 ≤ d) (F : Nat → sy_d) (X1 X2 : List jm_c) (hB : iv_in F iv_B0)
    (h0 : 0 ≤ (sy_i F 82).toInt)
    (h1 : (sy_i F 82).toInt ≤ 2340)
    (h2 : 0 ≤ (sy_i F 82).toInt ∧ (sy_i F 82).toInt < 2400)
    (h3 : 0 ≤ ((sy_i F 82) + ((1 : Int32))).toInt ∧ ((sy_i F 82) + ((1 : Int32))).toInt < 2400)
    (h4 : 0 ≤ ((sy_i F 82) + ((2 : Int32))).toInt ∧ ((sy_i F 82) + ((2 : Int32))).toInt < 2400)
    (k : ∀ F1 : Nat → sy_d, (∀ j, j < 82 → j ≠ 76 → F1 j = F j) → F1 76 = .inr (.inl (jm_upd (jm_upd (jm_upd (sy_ai F 76) (sy_i F 82).toNatClampNeg (sy_i F 50)) ((sy_i F 82) + ((1 : Int32))).toNatClampNeg (sy_i F 51)) ((sy_i F 82) + ((2 : Int32))).toNatClampNeg (sy_i F 52))) → F1 82 = .inl (.int (sy_i F 82)) → F1 83 = .inl (.int ((sy_i F 82) + ((3 : Int32)))) → F1 84 = .inl (.int ((0 : Int32))) → hd_W Ls xs d jm_M9 Q (46, sy_dL F1 [some (.inl (.ref 46)), some (.inl (.ref 67)), some (.inr (.inl 82)), some (.inr (.inl 83)), some (.inr (.inl 84))], sy_dS F1 [], sy_dh F1 X1 X2 (iv_H 3), 0, 0)) :
    hd_W Ls xs d jm_M9 Q (0, sy_dL F [some (.inl (.ref 46)), some (.inl (.ref 67)), some (.inr (.inl 82)), none, none], sy_dS F [], sy_dh F X1 X2 (iv_H 3), 0, 0) := by
  refine hd_run (s := 3) (nv := 83) (pc := 46) (L := [some (.inl (.ref 46)), some (.inl (.ref 67)), some (.inr (.inl 82)), some (.inr (.inl 83)), some (.inr (.inl 84))]) (S := []) (uh := hd_ov (iv_id 0 iv_B0) [(76, .inr (.inr (.inl 87)))]) (ul := [.inl (.inr (.inl 82)), .inl (.inr (.inl 88)), .inl (.inl (.int 0))]) (f := true) (sp := [46]) (d0 := 0) (O := [false, true]) (T := [(40, [.inr (.inl 82), .inr (.inl 50)], [.inr (.inl 76)]), (0, [.inr (.inl 82), .inl (.int 1)], []), (40, [.inr (.inl 84), .inr (.inl 51)], [.inr (.inl 83)]), (0, [.inr (.inl 82), .inl (.int 2)], []), (40, [.inr (.inl 86), .inr (.inl 52)], [.inr (.inl 85)]), (0, [.inr (.inl 82), .inl (.int 3)], [])]) (P := [(3, .inr (.inl 82), .inl (.int 0)), (4, .inr (.inl 82), .inl (.int 2340)), (6, .inr (.inl 82), .inl (.ref 2400)), (6, .inr (.inl 84), .inl (.ref 2400)), (6, .inr (.inl 86), .inl (.ref 2400))]) jm_ok9 (by decide +kernel) (by decide +kernel) hd F X1 X2 (fun F' hF hs => ?_)
  have b82 := hd_b (F := F) (F' := F') (k := 82) (hF 82 (by decide))
  have t84 : sy_dv F' (.inr (.inl 84)) = .int ((sy_i F 82) + ((1 : Int32))) := hd_o (hs 1 _ rfl) b82 rfl rfl
  have t86 : sy_dv F' (.inr (.inl 86)) = .int ((sy_i F 82) + ((2 : Int32))) := hd_o (hs 3 _ rfl) b82 rfl rfl
  have b52 := hd_b (F := F) (F' := F') (k := 52) (hF 52 (by decide))
  have b51 := hd_b (F := F) (F' := F') (k := 51) (hF 51 (by decide))
  have b50 := hd_b (F := F) (F' := F') (k := 50) (hF 50 (by decide))
  have a76 := hd_ba (F := F) (F' := F') (k := 76) (hF 76 (by decide))
  have t83 : sy_da F' (.inr (.inl 83)) = .inl (jm_upd (sy_ai F 76) (sy_i F 82).toNatClampNeg (sy_i F 50)) := hd_up (hs 0 _ rfl) b82 b50 a76
  have t85 : sy_da F' (.inr (.inl 85)) = .inl (jm_upd (jm_upd (sy_ai F 76) (sy_i F 82).toNatClampNeg (sy_i F 50)) ((sy_i F 82) + ((1 : Int32))).toNatClampNeg (sy_i F 51)) := hd_up (hs 2 _ rfl) t84 b51 t83
  have t87 : sy_da F' (.inr (.inl 87)) = .inl (jm_upd (jm_upd (jm_upd (sy_ai F 76) (sy_i F 82).toNatClampNeg (sy_i F 50)) ((sy_i F 82) + ((1 : Int32))).toNatClampNeg (sy_i F 51)) ((sy_i F 82) + ((2 : Int32))).toNatClampNeg (sy_i F 52)) := hd_up (hs 4 _ rfl) t86 b52 t85
  have t88 : sy_dv F' (.inr (.inl 88)) = .int ((sy_i F 82) + ((3 : Int32))) := hd_o (hs 5 _ rfl) b82 rfl rfl
  have hB' : iv_in F' iv_B0 := iv_in_eq hB (fun j hj => hF j (Nat.lt_of_lt_of_le hj (by decide +kernel)))
  refine ⟨List.forall_mem_cons.mpr ⟨hd_p3 b82 rfl (by have hc : ((0) : Int32).toInt = 0 := (by decide); omega), List.forall_mem_cons.mpr ⟨hd_p4 b82 rfl (by have hc : ((2340) : Int32).toInt = 2340 := (by decide); omega), List.forall_mem_cons.mpr ⟨hd_pb b82 (by first | exact h2 | exact h2), List.forall_mem_cons.mpr ⟨hd_pb t84 (by first | exact h3 | exact h3), List.forall_mem_cons.mpr ⟨hd_pb t86 (by first | exact h4 | exact h4), fun _ h => absurd h List.not_mem_nil⟩⟩⟩⟩⟩, ?_⟩
  refine k _ ?_ ?_ ?_ ?_ ?_
  · exact fun j hj hn => (hd_keep hB' (Nat.lt_of_lt_of_le hj (by decide +kernel)) (by simp; omega)).trans (hF j (Nat.lt_of_lt_of_le hj (by decide)))
  · exact hd_ga (a := .inr (.inl 87)) (by decide +kernel) t87
  · exact hd_gi (x := .inr (.inl 82)) (by decide +kernel) b82
  · exact hd_gi (x := .inr (.inl 88)) (by decide +kernel) t88
  · exact hd_gi (x := .inl (.int 0)) (by decide +kernel) rfl
theorem j3svt_0 {Ls : Nat} {xs : Nat → Int32} {d : Nat} {Q : Option Value → jm_h → Prop} (hd : 1 ≤ d) (F : Nat → sy_d) (X1 X2 : List jm_c) (hB : iv_in F iv_B0)
    (a82 : 0 ≤ (sy_i F 82).toInt ∧ (sy_i F 82).toInt ≤ 2340)
    (k0 : 0 ≤ (sy_i F 82).toInt → (sy_i F 82).toInt ≤ 2340 → ∀ F1 : Nat → sy_d, iv_in F1 iv_B0 → (∀ j, j < 82 → j ∉ ([76] : List Nat) → F1 j = F j) → sy_ai F1 76 = jm_upd (jm_upd (jm_upd (sy_ai F 76) ((sy_i F 82).toInt).toNat (sy_i F 50)) (((sy_i F 82).toInt + 1)).toNat (sy_i F 51)) (((sy_i F 82).toInt + 2)).toNat (sy_i F 52) → (sy_i F1 82).toInt = (sy_i F 82).toInt → sy_i F1 82 = sy_i F 82 → (sy_i F1 83).toInt = ((sy_i F 82).toInt + 3) → sy_i F1 83 = (sy_i F 82) + ((3 : Int32)) → (sy_i F1 84).toInt = 0 → sy_i F1 84 = (0 : Int32) → hd_W Ls xs d jm_M9 Q (46, sy_dL F1 [some (.inl (.ref 46)), some (.inl (.ref 67)), some (.inr (.inl 82)), some (.inr (.inl 83)), some (.inr (.inl 84))], sy_dS F1 [], sy_dh F1 X1 X2 (iv_H 3), 0, 0)) :
    hd_W Ls xs d jm_M9 Q (0, sy_dL F [some (.inl (.ref 46)), some (.inl (.ref 67)), some (.inr (.inl 82)), none, none], sy_dS F [], sy_dh F X1 X2 (iv_H 3), 0, 0) := by
  by_cases g0 : (sy_i F 82).toInt < 0
  · exfalso
    omega
  replace g0 : 0 ≤ (sy_i F 82).toInt := by omega
  by_cases g1 : (sy_i F 82).toInt ≤ 2340
  · have n84 : nzI ((sy_i F 82) + ((1 : Int32))) (((sy_i F 82).toInt + 1)) := nz_add (rfl : (sy_i F 82).toInt = (sy_i F 82).toInt) (by decide : ((1 : Int32)).toInt = 1) (by omega) (by omega)
    have n86 : nzI ((sy_i F 82) + ((2 : Int32))) (((sy_i F 82).toInt + 2)) := nz_add (rfl : (sy_i F 82).toInt = (sy_i F 82).toInt) (by decide : ((2 : Int32)).toInt = 2) (by omega) (by omega)
    have w87 : jm_upd (jm_upd (jm_upd (sy_ai F 76) (sy_i F 82).toNatClampNeg (sy_i F 50)) ((sy_i F 82) + ((1 : Int32))).toNatClampNeg (sy_i F 51)) ((sy_i F 82) + ((2 : Int32))).toNatClampNeg (sy_i F 52) = jm_upd (jm_upd (jm_upd (sy_ai F 76) ((sy_i F 82).toInt).toNat (sy_i F 50)) (((sy_i F 82).toInt + 1)).toNat (sy_i F 51)) (((sy_i F 82).toInt + 2)).toNat (sy_i F 52) := by simp only [nz_c, (nzE n84), (nzE n86), (by decide : ((1 : Int32)).toInt = 1), (by decide : ((2 : Int32)).toInt = 2)]
    have n88 : nzI ((sy_i F 82) + ((3 : Int32))) (((sy_i F 82).toInt + 3)) := nz_add (rfl : (sy_i F 82).toInt = (sy_i F 82).toInt) (by decide : ((3 : Int32)).toInt = 3) (by omega) (by omega)
    exact j3svt_0_p0 hd F X1 X2 hB (by first | exact g0 | (simp only [nz_c]; exact g0)) (by first | exact g1 | (simp only [nz_c]; exact g1)) (by first | exact ⟨by omega, by omega⟩ | (simp only [nz_c]; exact ⟨by omega, by omega⟩)) (by first | (simp only [nz_c, (nzE n84)]; exact ⟨by omega, by omega⟩) | exact ⟨by omega, by omega⟩ | (rw [(nzE n84)]; exact ⟨by omega, by omega⟩)) (by first | (simp only [nz_c, (nzE n86)]; exact ⟨by omega, by omega⟩) | exact ⟨by omega, by omega⟩ | (rw [(nzE n86)]; exact ⟨by omega, by omega⟩)) (fun F1 g e76 e82 e83 e84 => k0 g0 g1 F1 (nz_in0 hB [76] (fun j hj hn => g j hj (by simp only [List.mem_cons, List.not_mem_nil, or_false, not_or] at hn; omega)) (List.forall_mem_cons.mpr ⟨fun t ht => (Option.some.inj ht) ▸ (nz_hz2 e76), List.forall_mem_nil _⟩)) (fun j hj hn => g j hj (by simp only [List.mem_cons, List.not_mem_nil, or_false, not_or] at hn; omega)) ((zz_ai e76).trans w87) ((congrArg Int32.toInt (zz_i e82)).trans (rfl : (sy_i F 82).toInt = (sy_i F 82).toInt)) ((zz_i e82).trans (rfl : sy_i F 82 = sy_i F 82)) ((congrArg Int32.toInt (zz_i e83)).trans (nzE n88)) ((zz_i e83).trans (rfl : (sy_i F 82) + ((3 : Int32)) = (sy_i F 82) + ((3 : Int32)))) ((congrArg Int32.toInt (zz_i e84)).trans (by decide : ((0 : Int32)).toInt = 0)) ((zz_i e84).trans (rfl : (0 : Int32) = (0 : Int32))))
  replace g1 : 2340 < (sy_i F 82).toInt := by omega
  exfalso
  omega
theorem j3svt_46_p0 {Ls : Nat} {xs : Nat → Int32} {d : Nat} {Q : Option Value → jm_h → Prop} (hd : 1 ≤ d) (F : Nat → sy_d) (X1 X2 : List jm_c) (hB : iv_in F iv_B0)
    (h0 : 7 ≤ (sy_i F 84).toInt)
    (h1 : 0 ≤ (sy_i F 83).toInt ∧ (sy_i F 83).toInt < 2397)
    (h2 : 0 ≤ ((sy_i F 83) + ((4 : Int32))).toInt ∧ ((sy_i F 83) + ((4 : Int32))).toInt < 2397)
    (k : ∀ F1 : Nat → sy_d, (∀ j, j < 82 → j ≠ 76 → F1 j = F j) → F1 76 = .inr (.inl (jm_cpy (sy_ai F 61) (jm_cpy (sy_ai F 60) (sy_ai F 76) ((0 : Int32)).toNatClampNeg (sy_i F 83).toNatClampNeg ((4 : Int32)).toNatClampNeg) ((0 : Int32)).toNatClampNeg ((sy_i F 83) + ((4 : Int32))).toNatClampNeg ((4 : Int32)).toNatClampNeg)) → Q (none) (sy_dh F1 X1 X2 (iv_H 3))) :
    hd_W Ls xs d jm_M9 Q (46, sy_dL F [some (.inl (.ref 46)), some (.inl (.ref 67)), some (.inr (.inl 82)), some (.inr (.inl 83)), some (.inr (.inl 84))], sy_dS F [], sy_dh F X1 X2 (iv_H 3), 0, 0) := by
  refine hd_ret (s := 3) (nv := 85) (v := none) (uh := hd_ov (iv_id 0 iv_B0) [(76, .inr (.inr (.inl 87)))]) (f := true) (sp := [46]) (d0 := 0) (O := [true]) (T := [(42, [.inl (.int 0), .inr (.inl 83), .inl (.int 4)], [.inr (.inl 60), .inr (.inl 76)]), (0, [.inr (.inl 83), .inl (.int 4)], []), (42, [.inl (.int 0), .inr (.inl 86), .inl (.int 4)], [.inr (.inl 61), .inr (.inl 85)])]) (P := [(4, .inl (.int 7), .inr (.inl 84)), (6, .inr (.inl 83), .inl (.ref 2397)), (6, .inr (.inl 86), .inl (.ref 2397))]) jm_ok9 (by decide +kernel) (by decide +kernel) hd F X1 X2 (fun F' hF hs => ?_)
  have b84 := hd_b (F := F) (F' := F') (k := 84) (hF 84 (by decide))
  have b83 := hd_b (F := F) (F' := F') (k := 83) (hF 83 (by decide))
  have t86 : sy_dv F' (.inr (.inl 86)) = .int ((sy_i F 83) + ((4 : Int32))) := hd_o (hs 1 _ rfl) b83 rfl rfl
  have a61 := hd_ba (F := F) (F' := F') (k := 61) (hF 61 (by decide))
  have a60 := hd_ba (F := F) (F' := F') (k := 60) (hF 60 (by decide))
  have a76 := hd_ba (F := F) (F' := F') (k := 76) (hF 76 (by decide))
  have t85 : sy_da F' (.inr (.inl 85)) = .inl (jm_cpy (sy_ai F 60) (sy_ai F 76) ((0 : Int32)).toNatClampNeg (sy_i F 83).toNatClampNeg ((4 : Int32)).toNatClampNeg) := hd_cp (hs 0 _ rfl) rfl b83 rfl a60 a76
  have t87 : sy_da F' (.inr (.inl 87)) = .inl (jm_cpy (sy_ai F 61) (jm_cpy (sy_ai F 60) (sy_ai F 76) ((0 : Int32)).toNatClampNeg (sy_i F 83).toNatClampNeg ((4 : Int32)).toNatClampNeg) ((0 : Int32)).toNatClampNeg ((sy_i F 83) + ((4 : Int32))).toNatClampNeg ((4 : Int32)).toNatClampNeg) := hd_cp (hs 2 _ rfl) rfl t86 rfl a61 t85
  have hB' : iv_in F' iv_B0 := iv_in_eq hB (fun j hj => hF j (Nat.lt_of_lt_of_le hj (by decide +kernel)))
  refine ⟨List.forall_mem_cons.mpr ⟨hd_p4 rfl b84 (by have hc : ((7) : Int32).toInt = 7 := (by decide); omega), List.forall_mem_cons.mpr ⟨hd_pb b83 (by first | exact h1 | exact h1), List.forall_mem_cons.mpr ⟨hd_pb t86 (by first | exact h2 | exact h2), fun _ h => absurd h List.not_mem_nil⟩⟩⟩, ?_⟩
  refine k _ ?_ ?_
  · exact fun j hj hn => (hd_keep hB' (Nat.lt_of_lt_of_le hj (by decide +kernel)) (by simp; omega)).trans (hF j (Nat.lt_of_lt_of_le hj (by decide)))
  · exact hd_ga (a := .inr (.inl 87)) (by decide +kernel) t87
theorem j3svt_46_p1 {Ls : Nat} {xs : Nat → Int32} {d : Nat} {Q : Option Value → jm_h → Prop} (hd : 1 ≤ d) (F : Nat → sy_d) (X1 X2 : List jm_c) (hB : iv_in F iv_B0)
    (h0 : (sy_i F 84).toInt < 7)
    (h1 : 0 ≤ (sy_i F 84).toInt ∧ (sy_i F 84).toInt < 7)
    (h2 : 0 ≤ (sy_i F 83).toInt ∧ (sy_i F 83).toInt < 2400)
    (h3 : 0 ≤ (sy_i F 84).toInt ∧ (sy_i F 84).toInt < 7)
    (h4 : 0 ≤ ((sy_i F 83) + ((1 : Int32))).toInt ∧ ((sy_i F 83) + ((1 : Int32))).toInt < 2400)
    (h5 : 0 ≤ (sy_i F 84).toInt ∧ (sy_i F 84).toInt < 7)
    (h6 : 0 ≤ ((sy_i F 83) + ((2 : Int32))).toInt ∧ ((sy_i F 83) + ((2 : Int32))).toInt < 2400)
    (h7 : 0 ≤ (sy_i F 84).toInt ∧ (sy_i F 84).toInt < 7)
    (h8 : 0 ≤ ((sy_i F 83) + ((3 : Int32))).toInt ∧ ((sy_i F 83) + ((3 : Int32))).toInt < 2400)
    (h9 : 0 ≤ (sy_i F 84).toInt ∧ (sy_i F 84).toInt < 7)
    (h10 : 0 ≤ ((sy_i F 83) + ((4 : Int32))).toInt ∧ ((sy_i F 83) + ((4 : Int32))).toInt < 2400)
    (h11 : 0 ≤ (sy_i F 84).toInt ∧ (sy_i F 84).toInt < 7)
    (h12 : 0 ≤ ((sy_i F 83) + ((5 : Int32))).toInt ∧ ((sy_i F 83) + ((5 : Int32))).toInt < 2400)
    (h13 : 0 ≤ (sy_i F 84).toInt ∧ (sy_i F 84).toInt < 7)
    (h14 : 0 ≤ ((sy_i F 83) + ((6 : Int32))).toInt ∧ ((sy_i F 83) + ((6 : Int32))).toInt < 2400)
    (k : ∀ F1 : Nat → sy_d, (∀ j, j < 82 → j ≠ 76 → F1 j = F j) → F1 76 = .inr (.inl (jm_upd (jm_upd (jm_upd (jm_upd (jm_upd (jm_upd (jm_upd (sy_ai F 76) (sy_i F 83).toNatClampNeg ((sy_ai F 53).getD (sy_i F 84).toNatClampNeg 0)) ((sy_i F 83) + ((1 : Int32))).toNatClampNeg ((sy_ai F 54).getD (sy_i F 84).toNatClampNeg 0)) ((sy_i F 83) + ((2 : Int32))).toNatClampNeg ((sy_ai F 55).getD (sy_i F 84).toNatClampNeg 0)) ((sy_i F 83) + ((3 : Int32))).toNatClampNeg ((sy_ai F 56).getD (sy_i F 84).toNatClampNeg 0)) ((sy_i F 83) + ((4 : Int32))).toNatClampNeg ((sy_ai F 57).getD (sy_i F 84).toNatClampNeg 0)) ((sy_i F 83) + ((5 : Int32))).toNatClampNeg ((sy_ai F 58).getD (sy_i F 84).toNatClampNeg 0)) ((sy_i F 83) + ((6 : Int32))).toNatClampNeg ((sy_ai F 59).getD (sy_i F 84).toNatClampNeg 0))) → F1 82 = .inl (.int (sy_i F 82)) → F1 83 = .inl (.int ((sy_i F 83) + ((7 : Int32)))) → F1 84 = .inl (.int ((sy_i F 84) + ((1 : Int32)))) → hd_W Ls xs d jm_M9 Q (46, sy_dL F1 [some (.inl (.ref 46)), some (.inl (.ref 67)), some (.inr (.inl 82)), some (.inr (.inl 83)), some (.inr (.inl 84))], sy_dS F1 [], sy_dh F1 X1 X2 (iv_H 3), 0, 0)) :
    hd_W Ls xs d jm_M9 Q (46, sy_dL F [some (.inl (.ref 46)), some (.inl (.ref 67)), some (.inr (.inl 82)), some (.inr (.inl 83)), some (.inr (.inl 84))], sy_dS F [], sy_dh F X1 X2 (iv_H 3), 0, 0) := by
  refine hd_run (s := 3) (nv := 85) (pc := 46) (L := [some (.inl (.ref 46)), some (.inl (.ref 67)), some (.inr (.inl 82)), some (.inr (.inl 83)), some (.inr (.inl 84))]) (S := []) (uh := hd_ov (iv_id 0 iv_B0) [(76, .inr (.inr (.inl 104)))]) (ul := [.inl (.inr (.inl 82)), .inl (.inr (.inl 105)), .inl (.inr (.inl 106))]) (f := true) (sp := [46]) (d0 := 0) (O := [false]) (T := [(30, [.inr (.inl 84)], [.inr (.inl 53)]), (40, [.inr (.inl 83), .inr (.inl 85)], [.inr (.inl 76)]), (0, [.inr (.inl 83), .inl (.int 1)], []), (30, [.inr (.inl 84)], [.inr (.inl 54)]), (40, [.inr (.inl 87), .inr (.inl 88)], [.inr (.inl 86)]), (0, [.inr (.inl 83), .inl (.int 2)], []), (30, [.inr (.inl 84)], [.inr (.inl 55)]), (40, [.inr (.inl 90), .inr (.inl 91)], [.inr (.inl 89)]), (0, [.inr (.inl 83), .inl (.int 3)], []), (30, [.inr (.inl 84)], [.inr (.inl 56)]), (40, [.inr (.inl 93), .inr (.inl 94)], [.inr (.inl 92)]), (0, [.inr (.inl 83), .inl (.int 4)], []), (30, [.inr (.inl 84)], [.inr (.inl 57)]), (40, [.inr (.inl 96), .inr (.inl 97)], [.inr (.inl 95)]), (0, [.inr (.inl 83), .inl (.int 5)], []), (30, [.inr (.inl 84)], [.inr (.inl 58)]), (40, [.inr (.inl 99), .inr (.inl 100)], [.inr (.inl 98)]), (0, [.inr (.inl 83), .inl (.int 6)], []), (30, [.inr (.inl 84)], [.inr (.inl 59)]), (40, [.inr (.inl 102), .inr (.inl 103)], [.inr (.inl 101)]), (0, [.inr (.inl 83), .inl (.int 7)], []), (0, [.inr (.inl 84), .inl (.int 1)], [])]) (P := [(5, .inl (.int 7), .inr (.inl 84)), (6, .inr (.inl 84), .inl (.ref 7)), (6, .inr (.inl 83), .inl (.ref 2400)), (6, .inr (.inl 84), .inl (.ref 7)), (6, .inr (.inl 87), .inl (.ref 2400)), (6, .inr (.inl 84), .inl (.ref 7)), (6, .inr (.inl 90), .inl (.ref 2400)), (6, .inr (.inl 84), .inl (.ref 7)), (6, .inr (.inl 93), .inl (.ref 2400)), (6, .inr (.inl 84), .inl (.ref 7)), (6, .inr (.inl 96), .inl (.ref 2400)), (6, .inr (.inl 84), .inl (.ref 7)), (6, .inr (.inl 99), .inl (.ref 2400)), (6, .inr (.inl 84), .inl (.ref 7)), (6, .inr (.inl 102), .inl (.ref 2400))]) jm_ok9 (by decide +kernel) (by decide +kernel) hd F X1 X2 (fun F' hF hs => ?_)
  have b84 := hd_b (F := F) (F' := F') (k := 84) (hF 84 (by decide))
  have b83 := hd_b (F := F) (F' := F') (k := 83) (hF 83 (by decide))
  have t87 : sy_dv F' (.inr (.inl 87)) = .int ((sy_i F 83) + ((1 : Int32))) := hd_o (hs 2 _ rfl) b83 rfl rfl
  have t90 : sy_dv F' (.inr (.inl 90)) = .int ((sy_i F 83) + ((2 : Int32))) := hd_o (hs 5 _ rfl) b83 rfl rfl
  have t93 : sy_dv F' (.inr (.inl 93)) = .int ((sy_i F 83) + ((3 : Int32))) := hd_o (hs 8 _ rfl) b83 rfl rfl
  have t96 : sy_dv F' (.inr (.inl 96)) = .int ((sy_i F 83) + ((4 : Int32))) := hd_o (hs 11 _ rfl) b83 rfl rfl
  have t99 : sy_dv F' (.inr (.inl 99)) = .int ((sy_i F 83) + ((5 : Int32))) := hd_o (hs 14 _ rfl) b83 rfl rfl
  have t102 : sy_dv F' (.inr (.inl 102)) = .int ((sy_i F 83) + ((6 : Int32))) := hd_o (hs 17 _ rfl) b83 rfl rfl
  have a59 := hd_ba (F := F) (F' := F') (k := 59) (hF 59 (by decide))
  have t103 : sy_dv F' (.inr (.inl 103)) = .int ((sy_ai F 59).getD (sy_i F 84).toNatClampNeg 0) := hd_rd (hs 18 _ rfl) b84 a59
  have a58 := hd_ba (F := F) (F' := F') (k := 58) (hF 58 (by decide))
  have t100 : sy_dv F' (.inr (.inl 100)) = .int ((sy_ai F 58).getD (sy_i F 84).toNatClampNeg 0) := hd_rd (hs 15 _ rfl) b84 a58
  have a57 := hd_ba (F := F) (F' := F') (k := 57) (hF 57 (by decide))
  have t97 : sy_dv F' (.inr (.inl 97)) = .int ((sy_ai F 57).getD (sy_i F 84).toNatClampNeg 0) := hd_rd (hs 12 _ rfl) b84 a57
  have a56 := hd_ba (F := F) (F' := F') (k := 56) (hF 56 (by decide))
  have t94 : sy_dv F' (.inr (.inl 94)) = .int ((sy_ai F 56).getD (sy_i F 84).toNatClampNeg 0) := hd_rd (hs 9 _ rfl) b84 a56
  have a55 := hd_ba (F := F) (F' := F') (k := 55) (hF 55 (by decide))
  have t91 : sy_dv F' (.inr (.inl 91)) = .int ((sy_ai F 55).getD (sy_i F 84).toNatClampNeg 0) := hd_rd (hs 6 _ rfl) b84 a55
  have a54 := hd_ba (F := F) (F' := F') (k := 54) (hF 54 (by decide))
  have t88 : sy_dv F' (.inr (.inl 88)) = .int ((sy_ai F 54).getD (sy_i F 84).toNatClampNeg 0) := hd_rd (hs 3 _ rfl) b84 a54
  have a53 := hd_ba (F := F) (F' := F') (k := 53) (hF 53 (by decide))
  have t85 : sy_dv F' (.inr (.inl 85)) = .int ((sy_ai F 53).getD (sy_i F 84).toNatClampNeg 0) := hd_rd (hs 0 _ rfl) b84 a53
  have a76 := hd_ba (F := F) (F' := F') (k := 76) (hF 76 (by decide))
  have t86 : sy_da F' (.inr (.inl 86)) = .inl (jm_upd (sy_ai F 76) (sy_i F 83).toNatClampNeg ((sy_ai F 53).getD (sy_i F 84).toNatClampNeg 0)) := hd_up (hs 1 _ rfl) b83 t85 a76
  have t89 : sy_da F' (.inr (.inl 89)) = .inl (jm_upd (jm_upd (sy_ai F 76) (sy_i F 83).toNatClampNeg ((sy_ai F 53).getD (sy_i F 84).toNatClampNeg 0)) ((sy_i F 83) + ((1 : Int32))).toNatClampNeg ((sy_ai F 54).getD (sy_i F 84).toNatClampNeg 0)) := hd_up (hs 4 _ rfl) t87 t88 t86
  have t92 : sy_da F' (.inr (.inl 92)) = .inl (jm_upd (jm_upd (jm_upd (sy_ai F 76) (sy_i F 83).toNatClampNeg ((sy_ai F 53).getD (sy_i F 84).toNatClampNeg 0)) ((sy_i F 83) + ((1 : Int32))).toNatClampNeg ((sy_ai F 54).getD (sy_i F 84).toNatClampNeg 0)) ((sy_i F 83) + ((2 : Int32))).toNatClampNeg ((sy_ai F 55).getD (sy_i F 84).toNatClampNeg 0)) := hd_up (hs 7 _ rfl) t90 t91 t89
  have t95 : sy_da F' (.inr (.inl 95)) = .inl (jm_upd (jm_upd (jm_upd (jm_upd (sy_ai F 76) (sy_i F 83).toNatClampNeg ((sy_ai F 53).getD (sy_i F 84).toNatClampNeg 0)) ((sy_i F 83) + ((1 : Int32))).toNatClampNeg ((sy_ai F 54).getD (sy_i F 84).toNatClampNeg 0)) ((sy_i F 83) + ((2 : Int32))).toNatClampNeg ((sy_ai F 55).getD (sy_i F 84).toNatClampNeg 0)) ((sy_i F 83) + ((3 : Int32))).toNatClampNeg ((sy_ai F 56).getD (sy_i F 84).toNatClampNeg 0)) := hd_up (hs 10 _ rfl) t93 t94 t92
  have t98 : sy_da F' (.inr (.inl 98)) = .inl (jm_upd (jm_upd (jm_upd (jm_upd (jm_upd (sy_ai F 76) (sy_i F 83).toNatClampNeg ((sy_ai F 53).getD (sy_i F 84).toNatClampNeg 0)) ((sy_i F 83) + ((1 : Int32))).toNatClampNeg ((sy_ai F 54).getD (sy_i F 84).toNatClampNeg 0)) ((sy_i F 83) + ((2 : Int32))).toNatClampNeg ((sy_ai F 55).getD (sy_i F 84).toNatClampNeg 0)) ((sy_i F 83) + ((3 : Int32))).toNatClampNeg ((sy_ai F 56).getD (sy_i F 84).toNatClampNeg 0)) ((sy_i F 83) + ((4 : Int32))).toNatClampNeg ((sy_ai F 57).getD (sy_i F 84).toNatClampNeg 0)) := hd_up (hs 13 _ rfl) t96 t97 t95
  have t101 : sy_da F' (.inr (.inl 101)) = .inl (jm_upd (jm_upd (jm_upd (jm_upd (jm_upd (jm_upd (sy_ai F 76) (sy_i F 83).toNatClampNeg ((sy_ai F 53).getD (sy_i F 84).toNatClampNeg 0)) ((sy_i F 83) + ((1 : Int32))).toNatClampNeg ((sy_ai F 54).getD (sy_i F 84).toNatClampNeg 0)) ((sy_i F 83) + ((2 : Int32))).toNatClampNeg ((sy_ai F 55).getD (sy_i F 84).toNatClampNeg 0)) ((sy_i F 83) + ((3 : Int32))).toNatClampNeg ((sy_ai F 56).getD (sy_i F 84).toNatClampNeg 0)) ((sy_i F 83) + ((4 : Int32))).toNatClampNeg ((sy_ai F 57).getD (sy_i F 84).toNatClampNeg 0)) ((sy_i F 83) + ((5 : Int32))).toNatClampNeg ((sy_ai F 58).getD (sy_i F 84).toNatClampNeg 0)) := hd_up (hs 16 _ rfl) t99 t100 t98
  have t104 : sy_da F' (.inr (.inl 104)) = .inl (jm_upd (jm_upd (jm_upd (jm_upd (jm_upd (jm_upd (jm_upd (sy_ai F 76) (sy_i F 83).toNatClampNeg ((sy_ai F 53).getD (sy_i F 84).toNatClampNeg 0)) ((sy_i F 83) + ((1 : Int32))).toNatClampNeg ((sy_ai F 54).getD (sy_i F 84).toNatClampNeg 0)) ((sy_i F 83) + ((2 : Int32))).toNatClampNeg ((sy_ai F 55).getD (sy_i F 84).toNatClampNeg 0)) ((sy_i F 83) + ((3 : Int32))).toNatClampNeg ((sy_ai F 56).getD (sy_i F 84).toNatClampNeg 0)) ((sy_i F 83) + ((4 : Int32))).toNatClampNeg ((sy_ai F 57).getD (sy_i F 84).toNatClampNeg 0)) ((sy_i F 83) + ((5 : Int32))).toNatClampNeg ((sy_ai F 58).getD (sy_i F 84).toNatClampNeg 0)) ((sy_i F 83) + ((6 : Int32))).toNatClampNeg ((sy_ai F 59).getD (sy_i F 84).toNatClampNeg 0)) := hd_up (hs 19 _ rfl) t102 t103 t101
  have b82 := hd_b (F := F) (F' := F') (k := 82) (hF 82 (by decide))
  have t105 : sy_dv F' (.inr (.inl 105)) = .int ((sy_i F 83) + ((7 : Int32))) := hd_o (hs 20 _ rfl) b83 rfl rfl
  have t106 : sy_dv F' (.inr (.inl 106)) = .int ((sy_i F 84) + ((1 : Int32))) := hd_o (hs 21 _ rfl) b84 rfl rfl
  have hB' : iv_in F' iv_B0 := iv_in_eq hB (fun j hj => hF j (Nat.lt_of_lt_of_le hj (by decide +kernel)))
  refine ⟨List.forall_mem_cons.mpr ⟨hd_p5 rfl b84 (by have hc : ((7) : Int32).toInt = 7 := (by decide); omega), List.forall_mem_cons.mpr ⟨hd_pb b84 (by first | exact h1 | exact h1), List.forall_mem_cons.mpr ⟨hd_pb b83 (by first | exact h2 | exact h2), List.forall_mem_cons.mpr ⟨hd_pb b84 (by first | exact h3 | exact h3), List.forall_mem_cons.mpr ⟨hd_pb t87 (by first | exact h4 | exact h4), List.forall_mem_cons.mpr ⟨hd_pb b84 (by first | exact h5 | exact h5), List.forall_mem_cons.mpr ⟨hd_pb t90 (by first | exact h6 | exact h6), List.forall_mem_cons.mpr ⟨hd_pb b84 (by first | exact h7 | exact h7), List.forall_mem_cons.mpr ⟨hd_pb t93 (by first | exact h8 | exact h8), List.forall_mem_cons.mpr ⟨hd_pb b84 (by first | exact h9 | exact h9), List.forall_mem_cons.mpr ⟨hd_pb t96 (by first | exact h10 | exact h10), List.forall_mem_cons.mpr ⟨hd_pb b84 (by first | exact h11 | exact h11), List.forall_mem_cons.mpr ⟨hd_pb t99 (by first | exact h12 | exact h12), List.forall_mem_cons.mpr ⟨hd_pb b84 (by first | exact h13 | exact h13), List.forall_mem_cons.mpr ⟨hd_pb t102 (by first | exact h14 | exact h14), fun _ h => absurd h List.not_mem_nil⟩⟩⟩⟩⟩⟩⟩⟩⟩⟩⟩⟩⟩⟩⟩, ?_⟩
  refine k _ ?_ ?_ ?_ ?_ ?_
  · exact fun j hj hn => (hd_keep hB' (Nat.lt_of_lt_of_le hj (by decide +kernel)) (by simp; omega)).trans (hF j (Nat.lt_of_lt_of_le hj (by decide)))
  · exact hd_ga (a := .inr (.inl 104)) (by decide +kernel) t104
  · exact hd_gi (x := .inr (.inl 82)) (by decide +kernel) b82
  · exact hd_gi (x := .inr (.inl 105)) (by decide +kernel) t105
  · exact hd_gi (x := .inr (.inl 106)) (by decide +kernel) t106
theorem j3svt_46 {Ls : Nat} {xs : Nat → Int32} {d : Nat} {Q : Option Value → jm_h → Prop} (hd : 1 ≤ d) (F : Nat → sy_d) (X1 X2 : List jm_c) (hB : iv_in F iv_B0)
    (a82 : 0 ≤ (sy_i F 82).toInt ∧ (sy_i F 82).toInt ≤ 2340)
    (a83 : 3 ≤ (sy_i F 83).toInt ∧ (sy_i F 83).toInt ≤ 2392)
    (a84 : 0 ≤ (sy_i F 84).toInt ∧ (sy_i F 84).toInt ≤ 7)
    (k0 : 7 ≤ (sy_i F 84).toInt → ∀ F1 : Nat → sy_d, iv_in F1 iv_B0 → (∀ j, j < 82 → j ∉ ([76] : List Nat) → F1 j = F j) → sy_ai F1 76 = jm_cpy (sy_ai F 61) (jm_cpy (sy_ai F 60) (sy_ai F 76) (0 : Int).toNat ((sy_i F 83).toInt).toNat (4 : Int).toNat) (0 : Int).toNat (((sy_i F 83).toInt + 4)).toNat (4 : Int).toNat → Q (none) (sy_dh F1 X1 X2 (iv_H 3)))
    (k1 : (sy_i F 84).toInt < 7 → ∀ F1 : Nat → sy_d, iv_in F1 iv_B0 → (∀ j, j < 82 → j ∉ ([76] : List Nat) → F1 j = F j) → sy_ai F1 76 = jm_upd (jm_upd (jm_upd (jm_upd (jm_upd (jm_upd (jm_upd (sy_ai F 76) ((sy_i F 83).toInt).toNat ((sy_ai F 53).getD ((sy_i F 84).toInt).toNat 0)) (((sy_i F 83).toInt + 1)).toNat ((sy_ai F 54).getD ((sy_i F 84).toInt).toNat 0)) (((sy_i F 83).toInt + 2)).toNat ((sy_ai F 55).getD ((sy_i F 84).toInt).toNat 0)) (((sy_i F 83).toInt + 3)).toNat ((sy_ai F 56).getD ((sy_i F 84).toInt).toNat 0)) (((sy_i F 83).toInt + 4)).toNat ((sy_ai F 57).getD ((sy_i F 84).toInt).toNat 0)) (((sy_i F 83).toInt + 5)).toNat ((sy_ai F 58).getD ((sy_i F 84).toInt).toNat 0)) (((sy_i F 83).toInt + 6)).toNat ((sy_ai F 59).getD ((sy_i F 84).toInt).toNat 0) → (sy_i F1 82).toInt = (sy_i F 82).toInt → sy_i F1 82 = sy_i F 82 → (sy_i F1 83).toInt = ((sy_i F 83).toInt + 7) → sy_i F1 83 = (sy_i F 83) + ((7 : Int32)) → (sy_i F1 84).toInt = ((sy_i F 84).toInt + 1) → sy_i F1 84 = (sy_i F 84) + ((1 : Int32)) → hd_W Ls xs d jm_M9 Q (46, sy_dL F1 [some (.inl (.ref 46)), some (.inl (.ref 67)), some (.inr (.inl 82)), some (.inr (.inl 83)), some (.inr (.inl 84))], sy_dS F1 [], sy_dh F1 X1 X2 (iv_H 3), 0, 0)) :
    hd_W Ls xs d jm_M9 Q (46, sy_dL F [some (.inl (.ref 46)), some (.inl (.ref 67)), some (.inr (.inl 82)), some (.inr (.inl 83)), some (.inr (.inl 84))], sy_dS F [], sy_dh F X1 X2 (iv_H 3), 0, 0) := by
  by_cases g0 : 7 ≤ (sy_i F 84).toInt
  · have n86 : nzI ((sy_i F 83) + ((4 : Int32))) (((sy_i F 83).toInt + 4)) := nz_add (rfl : (sy_i F 83).toInt = (sy_i F 83).toInt) (by decide : ((4 : Int32)).toInt = 4) (by omega) (by omega)
    have w87 : jm_cpy (sy_ai F 61) (jm_cpy (sy_ai F 60) (sy_ai F 76) ((0 : Int32)).toNatClampNeg (sy_i F 83).toNatClampNeg ((4 : Int32)).toNatClampNeg) ((0 : Int32)).toNatClampNeg ((sy_i F 83) + ((4 : Int32))).toNatClampNeg ((4 : Int32)).toNatClampNeg = jm_cpy (sy_ai F 61) (jm_cpy (sy_ai F 60) (sy_ai F 76) (0 : Int).toNat ((sy_i F 83).toInt).toNat (4 : Int).toNat) (0 : Int).toNat (((sy_i F 83).toInt + 4)).toNat (4 : Int).toNat := by simp only [nz_c, (nzE n86), (by decide : ((0 : Int32)).toInt = 0), (by decide : ((4 : Int32)).toInt = 4)]
    exact j3svt_46_p0 hd F X1 X2 hB (by first | exact g0 | (simp only [nz_c]; exact g0)) (by first | exact ⟨by omega, by omega⟩ | (simp only [nz_c]; exact ⟨by omega, by omega⟩)) (by first | (simp only [nz_c, (nzE n86)]; exact ⟨by omega, by omega⟩) | exact ⟨by omega, by omega⟩ | (rw [(nzE n86)]; exact ⟨by omega, by omega⟩)) (fun F1 g e76 => k0 g0 F1 (nz_in0 hB [76] (fun j hj hn => g j hj (by simp only [List.mem_cons, List.not_mem_nil, or_false, not_or] at hn; omega)) (List.forall_mem_cons.mpr ⟨fun t ht => (Option.some.inj ht) ▸ (nz_hz2 e76), List.forall_mem_nil _⟩)) (fun j hj hn => g j hj (by simp only [List.mem_cons, List.not_mem_nil, or_false, not_or] at hn; omega)) ((zz_ai e76).trans w87))
  replace g0 : (sy_i F 84).toInt < 7 := by omega
  have n87 : nzI ((sy_i F 83) + ((1 : Int32))) (((sy_i F 83).toInt + 1)) := nz_add (rfl : (sy_i F 83).toInt = (sy_i F 83).toInt) (by decide : ((1 : Int32)).toInt = 1) (by omega) (by omega)
  have n90 : nzI ((sy_i F 83) + ((2 : Int32))) (((sy_i F 83).toInt + 2)) := nz_add (rfl : (sy_i F 83).toInt = (sy_i F 83).toInt) (by decide : ((2 : Int32)).toInt = 2) (by omega) (by omega)
  have n93 : nzI ((sy_i F 83) + ((3 : Int32))) (((sy_i F 83).toInt + 3)) := nz_add (rfl : (sy_i F 83).toInt = (sy_i F 83).toInt) (by decide : ((3 : Int32)).toInt = 3) (by omega) (by omega)
  have n96 : nzI ((sy_i F 83) + ((4 : Int32))) (((sy_i F 83).toInt + 4)) := nz_add (rfl : (sy_i F 83).toInt = (sy_i F 83).toInt) (by decide : ((4 : Int32)).toInt = 4) (by omega) (by omega)
  have n99 : nzI ((sy_i F 83) + ((5 : Int32))) (((sy_i F 83).toInt + 5)) := nz_add (rfl : (sy_i F 83).toInt = (sy_i F 83).toInt) (by decide : ((5 : Int32)).toInt = 5) (by omega) (by omega)
  have n102 : nzI ((sy_i F 83) + ((6 : Int32))) (((sy_i F 83).toInt + 6)) := nz_add (rfl : (sy_i F 83).toInt = (sy_i F 83).toInt) (by decide : ((6 : Int32)).toInt = 6) (by omega) (by omega)
  have w104 : jm_upd (jm_upd (jm_upd (jm_upd (jm_upd (jm_upd (jm_upd (sy_ai F 76) (sy_i F 83).toNatClampNeg ((sy_ai F 53).getD (sy_i F 84).toNatClampNeg 0)) ((sy_i F 83) + ((1 : Int32))).toNatClampNeg ((sy_ai F 54).getD (sy_i F 84).toNatClampNeg 0)) ((sy_i F 83) + ((2 : Int32))).toNatClampNeg ((sy_ai F 55).getD (sy_i F 84).toNatClampNeg 0)) ((sy_i F 83) + ((3 : Int32))).toNatClampNeg ((sy_ai F 56).getD (sy_i F 84).toNatClampNeg 0)) ((sy_i F 83) + ((4 : Int32))).toNatClampNeg ((sy_ai F 57).getD (sy_i F 84).toNatClampNeg 0)) ((sy_i F 83) + ((5 : Int32))).toNatClampNeg ((sy_ai F 58).getD (sy_i F 84).toNatClampNeg 0)) ((sy_i F 83) + ((6 : Int32))).toNatClampNeg ((sy_ai F 59).getD (sy_i F 84).toNatClampNeg 0) = jm_upd (jm_upd (jm_upd (jm_upd (jm_upd (jm_upd (jm_upd (sy_ai F 76) ((sy_i F 83).toInt).toNat ((sy_ai F 53).getD ((sy_i F 84).toInt).toNat 0)) (((sy_i F 83).toInt + 1)).toNat ((sy_ai F 54).getD ((sy_i F 84).toInt).toNat 0)) (((sy_i F 83).toInt + 2)).toNat ((sy_ai F 55).getD ((sy_i F 84).toInt).toNat 0)) (((sy_i F 83).toInt + 3)).toNat ((sy_ai F 56).getD ((sy_i F 84).toInt).toNat 0)) (((sy_i F 83).toInt + 4)).toNat ((sy_ai F 57).getD ((sy_i F 84).toInt).toNat 0)) (((sy_i F 83).toInt + 5)).toNat ((sy_ai F 58).getD ((sy_i F 84).toInt).toNat 0)) (((sy_i F 83).toInt + 6)).toNat ((sy_ai F 59).getD ((sy_i F 84).toInt).toNat 0) := by simp only [nz_c, (nzE n87), (nzE n90), (nzE n93), (nzE n96), (nzE n99), (nzE n102), (by decide : ((1 : Int32)).toInt = 1), (by decide : ((2 : Int32)).toInt = 2), (by decide : ((3 : Int32)).toInt = 3), (by decide : ((4 : Int32)).toInt = 4), (by decide : ((5 : Int32)).toInt = 5), (by decide : ((6 : Int32)).toInt = 6)]
  have n105 : nzI ((sy_i F 83) + ((7 : Int32))) (((sy_i F 83).toInt + 7)) := nz_add (rfl : (sy_i F 83).toInt = (sy_i F 83).toInt) (by decide : ((7 : Int32)).toInt = 7) (by omega) (by omega)
  have n106 : nzI ((sy_i F 84) + ((1 : Int32))) (((sy_i F 84).toInt + 1)) := nz_add (rfl : (sy_i F 84).toInt = (sy_i F 84).toInt) (by decide : ((1 : Int32)).toInt = 1) (by omega) (by omega)
  exact j3svt_46_p1 hd F X1 X2 hB (by first | exact g0 | (simp only [nz_c]; exact g0)) (by first | exact ⟨by omega, by omega⟩ | (simp only [nz_c]; exact ⟨by omega, by omega⟩)) (by first | exact ⟨by omega, by omega⟩ | (simp only [nz_c]; exact ⟨by omega, by omega⟩)) (by first | exact ⟨by omega, by omega⟩ | (simp only [nz_c]; exact ⟨by omega, by omega⟩)) (by first | (simp only [nz_c, (nzE n87)]; exact ⟨by omega, by omega⟩) | exact ⟨by omega, by omega⟩ | (rw [(nzE n87)]; exact ⟨by omega, by omega⟩)) (by first | exact ⟨by omega, by omega⟩ | (simp only [nz_c]; exact ⟨by omega, by omega⟩)) (by first | (simp only [nz_c, (nzE n90)]; exact ⟨by omega, by omega⟩) | exact ⟨by omega, by omega⟩ | (rw [(nzE n90)]; exact ⟨by omega, by omega⟩)) (by first | exact ⟨by omega, by omega⟩ | (simp only [nz_c]; exact ⟨by omega, by omega⟩)) (by first | (simp only [nz_c, (nzE n93)]; exact ⟨by omega, by omega⟩) | exact ⟨by omega, by omega⟩ | (rw [(nzE n93)]; exact ⟨by omega, by omega⟩)) (by first | exact ⟨by omega, by omega⟩ | (simp only [nz_c]; exact ⟨by omega, by omega⟩)) (by first | (simp only [nz_c, (nzE n96)]; exact ⟨by omega, by omega⟩) | exact ⟨by omega, by omega⟩ | (rw [(nzE n96)]; exact ⟨by omega, by omega⟩)) (by first | exact ⟨by omega, by omega⟩ | (simp only [nz_c]; exact ⟨by omega, by omega⟩)) (by first | (simp only [nz_c, (nzE n99)]; exact ⟨by omega, by omega⟩) | exact ⟨by omega, by omega⟩ | (rw [(nzE n99)]; exact ⟨by omega, by omega⟩)) (by first | exact ⟨by omega, by omega⟩ | (simp only [nz_c]; exact ⟨by omega, by omega⟩)) (by first | (simp only [nz_c, (nzE n102)]; exact ⟨by omega, by omega⟩) | exact ⟨by omega, by omega⟩ | (rw [(nzE n102)]; exact ⟨by omega, by omega⟩)) (fun F1 g e76 e82 e83 e84 => k1 g0 F1 (nz_in0 hB [76] (fun j hj hn => g j hj (by simp only [List.mem_cons, List.not_mem_nil, or_false, not_or] at hn; omega)) (List.forall_mem_cons.mpr ⟨fun t ht => (Option.some.inj ht) ▸ (nz_hz2 e76), List.forall_mem_nil _⟩)) (fun j hj hn => g j hj (by simp only [List.mem_cons, List.not_mem_nil, or_false, not_or] at hn; omega)) ((zz_ai e76).trans w104) ((congrArg Int32.toInt (zz_i e82)).trans (rfl : (sy_i F 82).toInt = (sy_i F 82).toInt)) ((zz_i e82).trans (rfl : sy_i F 82 = sy_i F 82)) ((congrArg Int32.toInt (zz_i e83)).trans (nzE n105)) ((zz_i e83).trans (rfl : (sy_i F 83) + ((7 : Int32)) = (sy_i F 83) + ((7 : Int32)))) ((congrArg Int32.toInt (zz_i e84)).trans (nzE n106)) ((zz_i e84).trans (rfl : (sy_i F 84) + ((1 : Int32)) = (sy_i F 84) + ((1 : Int32)))))
theorem j3ldt_0_p0 {Ls : Nat} {xs : Nat → Int32} {d : Nat} {Q : Option Value → jm_h → Prop} (hd : 1 ≤ d) (F : Nat → sy_d) (X1 X2 : List jm_c) (hB : iv_in F iv_B0)
    (h0 : 0 ≤ (sy_i F 82).toInt)
    (h1 : (sy_i F 82).toInt ≤ 2340)
    (h2 : 0 ≤ (sy_i F 82).toInt ∧ (sy_i F 82).toInt < 2400)
    (h3 : 0 ≤ ((sy_i F 82) + ((1 : Int32))).toInt ∧ ((sy_i F 82) + ((1 : Int32))).toInt < 2400)
    (h4 : 0 ≤ ((sy_i F 82) + ((2 : Int32))).toInt ∧ ((sy_i F 82) + ((2 : Int32))).toInt < 2400)
    (k : ∀ F1 : Nat → sy_d, (∀ j, j < 82 → j ≠ 50 ∧ j ≠ 51 ∧ j ≠ 52 → F1 j = F j) → F1 50 = .inl (.int ((sy_ai F 76).getD (sy_i F 82).toNatClampNeg 0)) → F1 51 = .inl (.int ((sy_ai F 76).getD ((sy_i F 82) + ((1 : Int32))).toNatClampNeg 0)) → F1 52 = .inl (.int ((sy_ai F 76).getD ((sy_i F 82) + ((2 : Int32))).toNatClampNeg 0)) → F1 82 = .inl (.int (sy_i F 82)) → F1 83 = .inl (.int ((sy_i F 82) + ((3 : Int32)))) → F1 84 = .inl (.int ((0 : Int32))) → hd_W Ls xs d jm_M10 Q (46, sy_dL F1 [some (.inl (.ref 46)), some (.inl (.ref 67)), some (.inr (.inl 82)), some (.inr (.inl 83)), some (.inr (.inl 84))], sy_dS F1 [], sy_dh F1 X1 X2 (iv_H 3), 0, 0)) :
    hd_W Ls xs d jm_M10 Q (0, sy_dL F [some (.inl (.ref 46)), some (.inl (.ref 67)), some (.inr (.inl 82)), none, none], sy_dS F [], sy_dh F X1 X2 (iv_H 3), 0, 0) := by
  refine hd_run (s := 3) (nv := 83) (pc := 46) (L := [some (.inl (.ref 46)), some (.inl (.ref 67)), some (.inr (.inl 82)), some (.inr (.inl 83)), some (.inr (.inl 84))]) (S := []) (uh := hd_ov (iv_id 0 iv_B0) [(50, .inl (.inr (.inl 83))), (51, .inl (.inr (.inl 85))), (52, .inl (.inr (.inl 87)))]) (ul := [.inl (.inr (.inl 82)), .inl (.inr (.inl 88)), .inl (.inl (.int 0))]) (f := true) (sp := [46]) (d0 := 0) (O := [false, true]) (T := [(30, [.inr (.inl 82)], [.inr (.inl 76)]), (0, [.inr (.inl 82), .inl (.int 1)], []), (30, [.inr (.inl 84)], [.inr (.inl 76)]), (0, [.inr (.inl 82), .inl (.int 2)], []), (30, [.inr (.inl 86)], [.inr (.inl 76)]), (0, [.inr (.inl 82), .inl (.int 3)], [])]) (P := [(3, .inr (.inl 82), .inl (.int 0)), (4, .inr (.inl 82), .inl (.int 2340)), (6, .inr (.inl 82), .inl (.ref 2400)), (6, .inr (.inl 84), .inl (.ref 2400)), (6, .inr (.inl 86), .inl (.ref 2400))]) jm_ok10 (by decide +kernel) (by decide +kernel) hd F X1 X2 (fun F' hF hs => ?_)
  have b82 := hd_b (F := F) (F' := F') (k := 82) (hF 82 (by decide))
  have t84 : sy_dv F' (.inr (.inl 84)) = .int ((sy_i F 82) + ((1 : Int32))) := hd_o (hs 1 _ rfl) b82 rfl rfl
  have t86 : sy_dv F' (.inr (.inl 86)) = .int ((sy_i F 82) + ((2 : Int32))) := hd_o (hs 3 _ rfl) b82 rfl rfl
  have a76 := hd_ba (F := F) (F' := F') (k := 76) (hF 76 (by decide))
  have t83 : sy_dv F' (.inr (.inl 83)) = .int ((sy_ai F 76).getD (sy_i F 82).toNatClampNeg 0) := hd_rd (hs 0 _ rfl) b82 a76
  have t85 : sy_dv F' (.inr (.inl 85)) = .int ((sy_ai F 76).getD ((sy_i F 82) + ((1 : Int32))).toNatClampNeg 0) := hd_rd (hs 2 _ rfl) t84 a76
  have t87 : sy_dv F' (.inr (.inl 87)) = .int ((sy_ai F 76).getD ((sy_i F 82) + ((2 : Int32))).toNatClampNeg 0) := hd_rd (hs 4 _ rfl) t86 a76
  have t88 : sy_dv F' (.inr (.inl 88)) = .int ((sy_i F 82) + ((3 : Int32))) := hd_o (hs 5 _ rfl) b82 rfl rfl
  have hB' : iv_in F' iv_B0 := iv_in_eq hB (fun j hj => hF j (Nat.lt_of_lt_of_le hj (by decide +kernel)))
  refine ⟨List.forall_mem_cons.mpr ⟨hd_p3 b82 rfl (by have hc : ((0) : Int32).toInt = 0 := (by decide); omega), List.forall_mem_cons.mpr ⟨hd_p4 b82 rfl (by have hc : ((2340) : Int32).toInt = 2340 := (by decide); omega), List.forall_mem_cons.mpr ⟨hd_pb b82 (by first | exact h2 | exact h2), List.forall_mem_cons.mpr ⟨hd_pb t84 (by first | exact h3 | exact h3), List.forall_mem_cons.mpr ⟨hd_pb t86 (by first | exact h4 | exact h4), fun _ h => absurd h List.not_mem_nil⟩⟩⟩⟩⟩, ?_⟩
  refine k _ ?_ ?_ ?_ ?_ ?_ ?_ ?_
  · exact fun j hj hn => (hd_keep hB' (Nat.lt_of_lt_of_le hj (by decide +kernel)) (by simp; omega)).trans (hF j (Nat.lt_of_lt_of_le hj (by decide)))
  · exact hd_gi (x := .inr (.inl 83)) (by decide +kernel) t83
  · exact hd_gi (x := .inr (.inl 85)) (by decide +kernel) t85
  · exact hd_gi (x := .inr (.inl 87)) (by decide +kernel) t87
  · exact hd_gi (x := .inr (.inl 82)) (by decide +kernel) b82
  · exact hd_gi (x := .inr (.inl 88)) (by decide +kernel) t88
  · exact hd_gi (x := .inl (.int 0)) (by decide +kernel) rfl
theorem j3ldt_0 {Ls : Nat} {xs : Nat → Int32} {d : Nat} {Q : Option Value → jm_h → Prop} (hd : 1 ≤ d) (F : Nat → sy_d) (X1 X2 : List jm_c) (hB : iv_in F iv_B0)
    (a82 : 0 ≤ (sy_i F 82).toInt ∧ (sy_i F 82).toInt ≤ 2340)
    (k0 : 0 ≤ (sy_i F 82).toInt → (sy_i F 82).toInt ≤ 2340 → ∀ F1 : Nat → sy_d, iv_in F1 iv_B0 → (∀ j, j < 82 → j ∉ ([50, 51, 52] : List Nat) → F1 j = F j) → (sy_i F1 50).toInt = ((sy_ai F 76).getD ((sy_i F 82).toInt).toNat 0).toInt → sy_i F1 50 = (sy_ai F 76).getD ((sy_i F 82).toInt).toNat 0 → (sy_i F1 51).toInt = ((sy_ai F 76).getD (((sy_i F 82).toInt + 1)).toNat 0).toInt → sy_i F1 51 = (sy_ai F 76).getD (((sy_i F 82).toInt + 1)).toNat 0 → (sy_i F1 52).toInt = ((sy_ai F 76).getD (((sy_i F 82).toInt + 2)).toNat 0).toInt → sy_i F1 52 = (sy_ai F 76).getD (((sy_i F 82).toInt + 2)).toNat 0 → (sy_i F1 82).toInt = (sy_i F 82).toInt → sy_i F1 82 = sy_i F 82 → (sy_i F1 83).toInt = ((sy_i F 82).toInt + 3) → sy_i F1 83 = (sy_i F 82) + ((3 : Int32)) → (sy_i F1 84).toInt = 0 → sy_i F1 84 = (0 : Int32) → hd_W Ls xs d jm_M10 Q (46, sy_dL F1 [some (.inl (.ref 46)), some (.inl (.ref 67)), some (.inr (.inl 82)), some (.inr (.inl 83)), some (.inr (.inl 84))], sy_dS F1 [], sy_dh F1 X1 X2 (iv_H 3), 0, 0)) :
    hd_W Ls xs d jm_M10 Q (0, sy_dL F [some (.inl (.ref 46)), some (.inl (.ref 67)), some (.inr (.inl 82)), none, none], sy_dS F [], sy_dh F X1 X2 (iv_H 3), 0, 0) := by
  by_cases g0 : (sy_i F 82).toInt < 0
  · exfalso
    omega
  replace g0 : 0 ≤ (sy_i F 82).toInt := by omega
  by_cases g1 : (sy_i F 82).toInt ≤ 2340
  · have n84 : nzI ((sy_i F 82) + ((1 : Int32))) (((sy_i F 82).toInt + 1)) := nz_add (rfl : (sy_i F 82).toInt = (sy_i F 82).toInt) (by decide : ((1 : Int32)).toInt = 1) (by omega) (by omega)
    have n86 : nzI ((sy_i F 82) + ((2 : Int32))) (((sy_i F 82).toInt + 2)) := nz_add (rfl : (sy_i F 82).toInt = (sy_i F 82).toInt) (by decide : ((2 : Int32)).toInt = 2) (by omega) (by omega)
    have q83 : (sy_ai F 76).getD (sy_i F 82).toNatClampNeg 0 = (sy_ai F 76).getD ((sy_i F 82).toInt).toNat 0 := by simp only [nz_c]
    have n83 : nzI ((sy_ai F 76).getD (sy_i F 82).toNatClampNeg 0) (((sy_ai F 76).getD ((sy_i F 82).toInt).toNat 0).toInt) := congrArg Int32.toInt q83
    have q85 : (sy_ai F 76).getD ((sy_i F 82) + ((1 : Int32))).toNatClampNeg 0 = (sy_ai F 76).getD (((sy_i F 82).toInt + 1)).toNat 0 := by simp only [nz_c, (nzE n84), (by decide : ((1 : Int32)).toInt = 1)]
    have n85 : nzI ((sy_ai F 76).getD ((sy_i F 82) + ((1 : Int32))).toNatClampNeg 0) (((sy_ai F 76).getD (((sy_i F 82).toInt + 1)).toNat 0).toInt) := congrArg Int32.toInt q85
    have q87 : (sy_ai F 76).getD ((sy_i F 82) + ((2 : Int32))).toNatClampNeg 0 = (sy_ai F 76).getD (((sy_i F 82).toInt + 2)).toNat 0 := by simp only [nz_c, (nzE n86), (by decide : ((2 : Int32)).toInt = 2)]
    have n87 : nzI ((sy_ai F 76).getD ((sy_i F 82) + ((2 : Int32))).toNatClampNeg 0) (((sy_ai F 76).getD (((sy_i F 82).toInt + 2)).toNat 0).toInt) := congrArg Int32.toInt q87
    have n88 : nzI ((sy_i F 82) + ((3 : Int32))) (((sy_i F 82).toInt + 3)) := nz_add (rfl : (sy_i F 82).toInt = (sy_i F 82).toInt) (by decide : ((3 : Int32)).toInt = 3) (by omega) (by omega)
    exact j3ldt_0_p0 hd F X1 X2 hB (by first | exact g0 | (simp only [nz_c]; exact g0)) (by first | exact g1 | (simp only [nz_c]; exact g1)) (by first | exact ⟨by omega, by omega⟩ | (simp only [nz_c]; exact ⟨by omega, by omega⟩)) (by first | (simp only [nz_c, (nzE n84)]; exact ⟨by omega, by omega⟩) | exact ⟨by omega, by omega⟩ | (rw [(nzE n84)]; exact ⟨by omega, by omega⟩)) (by first | (simp only [nz_c, (nzE n86)]; exact ⟨by omega, by omega⟩) | exact ⟨by omega, by omega⟩ | (rw [(nzE n86)]; exact ⟨by omega, by omega⟩)) (fun F1 g e50 e51 e52 e82 e83 e84 => k0 g0 g1 F1 (nz_in0 hB [50, 51, 52] (fun j hj hn => g j hj (by simp only [List.mem_cons, List.not_mem_nil, or_false, not_or] at hn; omega)) (List.forall_mem_cons.mpr ⟨fun t ht => (Option.some.inj ht) ▸ (nz_hz e50), List.forall_mem_cons.mpr ⟨fun t ht => (Option.some.inj ht) ▸ (nz_hz e51), List.forall_mem_cons.mpr ⟨fun t ht => (Option.some.inj ht) ▸ (nz_hz e52), List.forall_mem_nil _⟩⟩⟩)) (fun j hj hn => g j hj (by simp only [List.mem_cons, List.not_mem_nil, or_false, not_or] at hn; omega)) ((congrArg Int32.toInt (zz_i e50)).trans (nzE n83)) ((zz_i e50).trans q83) ((congrArg Int32.toInt (zz_i e51)).trans (nzE n85)) ((zz_i e51).trans q85) ((congrArg Int32.toInt (zz_i e52)).trans (nzE n87)) ((zz_i e52).trans q87) ((congrArg Int32.toInt (zz_i e82)).trans (rfl : (sy_i F 82).toInt = (sy_i F 82).toInt)) ((zz_i e82).trans (rfl : sy_i F 82 = sy_i F 82)) ((congrArg Int32.toInt (zz_i e83)).trans (nzE n88)) ((zz_i e83).trans (rfl : (sy_i F 82) + ((3 : Int32)) = (sy_i F 82) + ((3 : Int32)))) ((congrArg Int32.toInt (zz_i e84)).trans (by decide : ((0 : Int32)).toInt = 0)) ((zz_i e84).trans (rfl : (0 : Int32) = (0 : Int32))))
  replace g1 : 2340 < (sy_i F 82).toInt := by omega
  exfalso
  omega
theorem j3ldt_46_p0 {Ls : Nat} {xs : Nat → Int32} {d : Nat} {Q : Option Value → jm_h → Prop} (hd : 1 ≤ d) (F : Nat → sy_d) (X1 X2 : List jm_c) (hB : iv_in F iv_B0)
    (h0 : 7 ≤ (sy_i F 84).toInt)
    (h1 : 0 ≤ (sy_i F 83).toInt ∧ (sy_i F 83).toInt < 2397)
    (h2 : 0 ≤ ((sy_i F 83) + ((4 : Int32))).toInt ∧ ((sy_i F 83) + ((4 : Int32))).toInt < 2397)
    (k : ∀ F1 : Nat → sy_d, (∀ j, j < 82 → j ≠ 60 ∧ j ≠ 61 → F1 j = F j) → F1 60 = .inr (.inl (jm_cpy (sy_ai F 76) (sy_ai F 60) (sy_i F 83).toNatClampNeg ((0 : Int32)).toNatClampNeg ((4 : Int32)).toNatClampNeg)) → F1 61 = .inr (.inl (jm_cpy (sy_ai F 76) (sy_ai F 61) ((sy_i F 83) + ((4 : Int32))).toNatClampNeg ((0 : Int32)).toNatClampNeg ((4 : Int32)).toNatClampNeg)) → Q (none) (sy_dh F1 X1 X2 (iv_H 3))) :
    hd_W Ls xs d jm_M10 Q (46, sy_dL F [some (.inl (.ref 46)), some (.inl (.ref 67)), some (.inr (.inl 82)), some (.inr (.inl 83)), some (.inr (.inl 84))], sy_dS F [], sy_dh F X1 X2 (iv_H 3), 0, 0) := by
  refine hd_ret (s := 3) (nv := 85) (v := none) (uh := hd_ov (iv_id 0 iv_B0) [(60, .inr (.inr (.inl 85))), (61, .inr (.inr (.inl 87)))]) (f := true) (sp := [46]) (d0 := 0) (O := [true]) (T := [(42, [.inr (.inl 83), .inl (.int 0), .inl (.int 4)], [.inr (.inl 76), .inr (.inl 60)]), (0, [.inr (.inl 83), .inl (.int 4)], []), (42, [.inr (.inl 86), .inl (.int 0), .inl (.int 4)], [.inr (.inl 76), .inr (.inl 61)])]) (P := [(4, .inl (.int 7), .inr (.inl 84)), (6, .inr (.inl 83), .inl (.ref 2397)), (6, .inr (.inl 86), .inl (.ref 2397))]) jm_ok10 (by decide +kernel) (by decide +kernel) hd F X1 X2 (fun F' hF hs => ?_)
  have b84 := hd_b (F := F) (F' := F') (k := 84) (hF 84 (by decide))
  have b83 := hd_b (F := F) (F' := F') (k := 83) (hF 83 (by decide))
  have t86 : sy_dv F' (.inr (.inl 86)) = .int ((sy_i F 83) + ((4 : Int32))) := hd_o (hs 1 _ rfl) b83 rfl rfl
  have a76 := hd_ba (F := F) (F' := F') (k := 76) (hF 76 (by decide))
  have a60 := hd_ba (F := F) (F' := F') (k := 60) (hF 60 (by decide))
  have t85 : sy_da F' (.inr (.inl 85)) = .inl (jm_cpy (sy_ai F 76) (sy_ai F 60) (sy_i F 83).toNatClampNeg ((0 : Int32)).toNatClampNeg ((4 : Int32)).toNatClampNeg) := hd_cp (hs 0 _ rfl) b83 rfl rfl a76 a60
  have a61 := hd_ba (F := F) (F' := F') (k := 61) (hF 61 (by decide))
  have t87 : sy_da F' (.inr (.inl 87)) = .inl (jm_cpy (sy_ai F 76) (sy_ai F 61) ((sy_i F 83) + ((4 : Int32))).toNatClampNeg ((0 : Int32)).toNatClampNeg ((4 : Int32)).toNatClampNeg) := hd_cp (hs 2 _ rfl) t86 rfl rfl a76 a61
  have hB' : iv_in F' iv_B0 := iv_in_eq hB (fun j hj => hF j (Nat.lt_of_lt_of_le hj (by decide +kernel)))
  refine ⟨List.forall_mem_cons.mpr ⟨hd_p4 rfl b84 (by have hc : ((7) : Int32).toInt = 7 := (by decide); omega), List.forall_mem_cons.mpr ⟨hd_pb b83 (by first | exact h1 | exact h1), List.forall_mem_cons.mpr ⟨hd_pb t86 (by first | exact h2 | exact h2), fun _ h => absurd h List.not_mem_nil⟩⟩⟩, ?_⟩
  refine k _ ?_ ?_ ?_
  · exact fun j hj hn => (hd_keep hB' (Nat.lt_of_lt_of_le hj (by decide +kernel)) (by simp; omega)).trans (hF j (Nat.lt_of_lt_of_le hj (by decide)))
  · exact hd_ga (a := .inr (.inl 85)) (by decide +kernel) t85
  · exact hd_ga (a := .inr (.inl 87)) (by decide +kernel) t87
theorem j3ldt_46_p1 {Ls : Nat} {xs : Nat → Int32} {d : Nat} {Q : Option Value → jm_h → Prop} (hd : 1 ≤ d) (F : Nat → sy_d) (X1 X2 : List jm_c) (hB : iv_in F iv_B0)
    (h0 : (sy_i F 84).toInt < 7)
    (h1 : 0 ≤ (sy_i F 83).toInt ∧ (sy_i F 83).toInt < 2400)
    (h2 : 0 ≤ (sy_i F 84).toInt ∧ (sy_i F 84).toInt < 7)
    (h3 : 0 ≤ ((sy_i F 83) + ((1 : Int32))).toInt ∧ ((sy_i F 83) + ((1 : Int32))).toInt < 2400)
    (h4 : 0 ≤ (sy_i F 84).toInt ∧ (sy_i F 84).toInt < 7)
    (h5 : 0 ≤ ((sy_i F 83) + ((2 : Int32))).toInt ∧ ((sy_i F 83) + ((2 : Int32))).toInt < 2400)
    (h6 : 0 ≤ (sy_i F 84).toInt ∧ (sy_i F 84).toInt < 7)
    (h7 : 0 ≤ ((sy_i F 83) + ((3 : Int32))).toInt ∧ ((sy_i F 83) + ((3 : Int32))).toInt < 2400)
    (h8 : 0 ≤ (sy_i F 84).toInt ∧ (sy_i F 84).toInt < 7)
    (h9 : 0 ≤ ((sy_i F 83) + ((4 : Int32))).toInt ∧ ((sy_i F 83) + ((4 : Int32))).toInt < 2400)
    (h10 : 0 ≤ (sy_i F 84).toInt ∧ (sy_i F 84).toInt < 7)
    (h11 : 0 ≤ ((sy_i F 83) + ((5 : Int32))).toInt ∧ ((sy_i F 83) + ((5 : Int32))).toInt < 2400)
    (h12 : 0 ≤ (sy_i F 84).toInt ∧ (sy_i F 84).toInt < 7)
    (h13 : 0 ≤ ((sy_i F 83) + ((6 : Int32))).toInt ∧ ((sy_i F 83) + ((6 : Int32))).toInt < 2400)
    (h14 : 0 ≤ (sy_i F 84).toInt ∧ (sy_i F 84).toInt < 7)
    (k : ∀ F1 : Nat → sy_d, (∀ j, j < 82 → j ≠ 53 ∧ j ≠ 54 ∧ j ≠ 55 ∧ j ≠ 56 ∧ j ≠ 57 ∧ j ≠ 58 ∧ j ≠ 59 → F1 j = F j) → F1 53 = .inr (.inl (jm_upd (sy_ai F 53) (sy_i F 84).toNatClampNeg ((sy_ai F 76).getD (sy_i F 83).toNatClampNeg 0))) → F1 54 = .inr (.inl (jm_upd (sy_ai F 54) (sy_i F 84).toNatClampNeg ((sy_ai F 76).getD ((sy_i F 83) + ((1 : Int32))).toNatClampNeg 0))) → F1 55 = .inr (.inl (jm_upd (sy_ai F 55) (sy_i F 84).toNatClampNeg ((sy_ai F 76).getD ((sy_i F 83) + ((2 : Int32))).toNatClampNeg 0))) → F1 56 = .inr (.inl (jm_upd (sy_ai F 56) (sy_i F 84).toNatClampNeg ((sy_ai F 76).getD ((sy_i F 83) + ((3 : Int32))).toNatClampNeg 0))) → F1 57 = .inr (.inl (jm_upd (sy_ai F 57) (sy_i F 84).toNatClampNeg ((sy_ai F 76).getD ((sy_i F 83) + ((4 : Int32))).toNatClampNeg 0))) → F1 58 = .inr (.inl (jm_upd (sy_ai F 58) (sy_i F 84).toNatClampNeg ((sy_ai F 76).getD ((sy_i F 83) + ((5 : Int32))).toNatClampNeg 0))) → F1 59 = .inr (.inl (jm_upd (sy_ai F 59) (sy_i F 84).toNatClampNeg ((sy_ai F 76).getD ((sy_i F 83) + ((6 : Int32))).toNatClampNeg 0))) → F1 82 = .inl (.int (sy_i F 82)) → F1 83 = .inl (.int ((sy_i F 83) + ((7 : Int32)))) → F1 84 = .inl (.int ((sy_i F 84) + ((1 : Int32)))) → hd_W Ls xs d jm_M10 Q (46, sy_dL F1 [some (.inl (.ref 46)), some (.inl (.ref 67)), some (.inr (.inl 82)), some (.inr (.inl 83)), some (.inr (.inl 84))], sy_dS F1 [], sy_dh F1 X1 X2 (iv_H 3), 0, 0)) :
    hd_W Ls xs d jm_M10 Q (46, sy_dL F [some (.inl (.ref 46)), some (.inl (.ref 67)), some (.inr (.inl 82)), some (.inr (.inl 83)), some (.inr (.inl 84))], sy_dS F [], sy_dh F X1 X2 (iv_H 3), 0, 0) := by
  refine hd_run (s := 3) (nv := 85) (pc := 46) (L := [some (.inl (.ref 46)), some (.inl (.ref 67)), some (.inr (.inl 82)), some (.inr (.inl 83)), some (.inr (.inl 84))]) (S := []) (uh := hd_ov (iv_id 0 iv_B0) [(53, .inr (.inr (.inl 86))), (54, .inr (.inr (.inl 89))), (55, .inr (.inr (.inl 92))), (56, .inr (.inr (.inl 95))), (57, .inr (.inr (.inl 98))), (58, .inr (.inr (.inl 101))), (59, .inr (.inr (.inl 104)))]) (ul := [.inl (.inr (.inl 82)), .inl (.inr (.inl 105)), .inl (.inr (.inl 106))]) (f := true) (sp := [46]) (d0 := 0) (O := [false]) (T := [(30, [.inr (.inl 83)], [.inr (.inl 76)]), (40, [.inr (.inl 84), .inr (.inl 85)], [.inr (.inl 53)]), (0, [.inr (.inl 83), .inl (.int 1)], []), (30, [.inr (.inl 87)], [.inr (.inl 76)]), (40, [.inr (.inl 84), .inr (.inl 88)], [.inr (.inl 54)]), (0, [.inr (.inl 83), .inl (.int 2)], []), (30, [.inr (.inl 90)], [.inr (.inl 76)]), (40, [.inr (.inl 84), .inr (.inl 91)], [.inr (.inl 55)]), (0, [.inr (.inl 83), .inl (.int 3)], []), (30, [.inr (.inl 93)], [.inr (.inl 76)]), (40, [.inr (.inl 84), .inr (.inl 94)], [.inr (.inl 56)]), (0, [.inr (.inl 83), .inl (.int 4)], []), (30, [.inr (.inl 96)], [.inr (.inl 76)]), (40, [.inr (.inl 84), .inr (.inl 97)], [.inr (.inl 57)]), (0, [.inr (.inl 83), .inl (.int 5)], []), (30, [.inr (.inl 99)], [.inr (.inl 76)]), (40, [.inr (.inl 84), .inr (.inl 100)], [.inr (.inl 58)]), (0, [.inr (.inl 83), .inl (.int 6)], []), (30, [.inr (.inl 102)], [.inr (.inl 76)]), (40, [.inr (.inl 84), .inr (.inl 103)], [.inr (.inl 59)]), (0, [.inr (.inl 83), .inl (.int 7)], []), (0, [.inr (.inl 84), .inl (.int 1)], [])]) (P := [(5, .inl (.int 7), .inr (.inl 84)), (6, .inr (.inl 83), .inl (.ref 2400)), (6, .inr (.inl 84), .inl (.ref 7)), (6, .inr (.inl 87), .inl (.ref 2400)), (6, .inr (.inl 84), .inl (.ref 7)), (6, .inr (.inl 90), .inl (.ref 2400)), (6, .inr (.inl 84), .inl (.ref 7)), (6, .inr (.inl 93), .inl (.ref 2400)), (6, .inr (.inl 84), .inl (.ref 7)), (6, .inr (.inl 96), .inl (.ref 2400)), (6, .inr (.inl 84), .inl (.ref 7)), (6, .inr (.inl 99), .inl (.ref 2400)), (6, .inr (.inl 84), .inl (.ref 7)), (6, .inr (.inl 102), .inl (.ref 2400)), (6, .inr (.inl 84), .inl (.ref 7))]) jm_ok10 (by decide +kernel) (by decide +kernel) hd F X1 X2 (fun F' hF hs => ?_)
  have b84 := hd_b (F := F) (F' := F') (k := 84) (hF 84 (by decide))
  have b83 := hd_b (F := F) (F' := F') (k := 83) (hF 83 (by decide))
  have t87 : sy_dv F' (.inr (.inl 87)) = .int ((sy_i F 83) + ((1 : Int32))) := hd_o (hs 2 _ rfl) b83 rfl rfl
  have t90 : sy_dv F' (.inr (.inl 90)) = .int ((sy_i F 83) + ((2 : Int32))) := hd_o (hs 5 _ rfl) b83 rfl rfl
  have t93 : sy_dv F' (.inr (.inl 93)) = .int ((sy_i F 83) + ((3 : Int32))) := hd_o (hs 8 _ rfl) b83 rfl rfl
  have t96 : sy_dv F' (.inr (.inl 96)) = .int ((sy_i F 83) + ((4 : Int32))) := hd_o (hs 11 _ rfl) b83 rfl rfl
  have t99 : sy_dv F' (.inr (.inl 99)) = .int ((sy_i F 83) + ((5 : Int32))) := hd_o (hs 14 _ rfl) b83 rfl rfl
  have t102 : sy_dv F' (.inr (.inl 102)) = .int ((sy_i F 83) + ((6 : Int32))) := hd_o (hs 17 _ rfl) b83 rfl rfl
  have a76 := hd_ba (F := F) (F' := F') (k := 76) (hF 76 (by decide))
  have t85 : sy_dv F' (.inr (.inl 85)) = .int ((sy_ai F 76).getD (sy_i F 83).toNatClampNeg 0) := hd_rd (hs 0 _ rfl) b83 a76
  have a53 := hd_ba (F := F) (F' := F') (k := 53) (hF 53 (by decide))
  have t86 : sy_da F' (.inr (.inl 86)) = .inl (jm_upd (sy_ai F 53) (sy_i F 84).toNatClampNeg ((sy_ai F 76).getD (sy_i F 83).toNatClampNeg 0)) := hd_up (hs 1 _ rfl) b84 t85 a53
  have t88 : sy_dv F' (.inr (.inl 88)) = .int ((sy_ai F 76).getD ((sy_i F 83) + ((1 : Int32))).toNatClampNeg 0) := hd_rd (hs 3 _ rfl) t87 a76
  have a54 := hd_ba (F := F) (F' := F') (k := 54) (hF 54 (by decide))
  have t89 : sy_da F' (.inr (.inl 89)) = .inl (jm_upd (sy_ai F 54) (sy_i F 84).toNatClampNeg ((sy_ai F 76).getD ((sy_i F 83) + ((1 : Int32))).toNatClampNeg 0)) := hd_up (hs 4 _ rfl) b84 t88 a54
  have t91 : sy_dv F' (.inr (.inl 91)) = .int ((sy_ai F 76).getD ((sy_i F 83) + ((2 : Int32))).toNatClampNeg 0) := hd_rd (hs 6 _ rfl) t90 a76
  have a55 := hd_ba (F := F) (F' := F') (k := 55) (hF 55 (by decide))
  have t92 : sy_da F' (.inr (.inl 92)) = .inl (jm_upd (sy_ai F 55) (sy_i F 84).toNatClampNeg ((sy_ai F 76).getD ((sy_i F 83) + ((2 : Int32))).toNatClampNeg 0)) := hd_up (hs 7 _ rfl) b84 t91 a55
  have t94 : sy_dv F' (.inr (.inl 94)) = .int ((sy_ai F 76).getD ((sy_i F 83) + ((3 : Int32))).toNatClampNeg 0) := hd_rd (hs 9 _ rfl) t93 a76
  have a56 := hd_ba (F := F) (F' := F') (k := 56) (hF 56 (by decide))
  have t95 : sy_da F' (.inr (.inl 95)) = .inl (jm_upd (sy_ai F 56) (sy_i F 84).toNatClampNeg ((sy_ai F 76).getD ((sy_i F 83) + ((3 : Int32))).toNatClampNeg 0)) := hd_up (hs 10 _ rfl) b84 t94 a56
  have t97 : sy_dv F' (.inr (.inl 97)) = .int ((sy_ai F 76).getD ((sy_i F 83) + ((4 : Int32))).toNatClampNeg 0) := hd_rd (hs 12 _ rfl) t96 a76
  have a57 := hd_ba (F := F) (F' := F') (k := 57) (hF 57 (by decide))
  have t98 : sy_da F' (.inr (.inl 98)) = .inl (jm_upd (sy_ai F 57) (sy_i F 84).toNatClampNeg ((sy_ai F 76).getD ((sy_i F 83) + ((4 : Int32))).toNatClampNeg 0)) := hd_up (hs 13 _ rfl) b84 t97 a57
  have t100 : sy_dv F' (.inr (.inl 100)) = .int ((sy_ai F 76).getD ((sy_i F 83) + ((5 : Int32))).toNatClampNeg 0) := hd_rd (hs 15 _ rfl) t99 a76
  have a58 := hd_ba (F := F) (F' := F') (k := 58) (hF 58 (by decide))
  have t101 : sy_da F' (.inr (.inl 101)) = .inl (jm_upd (sy_ai F 58) (sy_i F 84).toNatClampNeg ((sy_ai F 76).getD ((sy_i F 83) + ((5 : Int32))).toNatClampNeg 0)) := hd_up (hs 16 _ rfl) b84 t100 a58
  have t103 : sy_dv F' (.inr (.inl 103)) = .int ((sy_ai F 76).getD ((sy_i F 83) + ((6 : Int32))).toNatClampNeg 0) := hd_rd (hs 18 _ rfl) t102 a76
  have a59 := hd_ba (F := F) (F' := F') (k := 59) (hF 59 (by decide))
  have t104 : sy_da F' (.inr (.inl 104)) = .inl (jm_upd (sy_ai F 59) (sy_i F 84).toNatClampNeg ((sy_ai F 76).getD ((sy_i F 83) + ((6 : Int32))).toNatClampNeg 0)) := hd_up (hs 19 _ rfl) b84 t103 a59
  have b82 := hd_b (F := F) (F' := F') (k := 82) (hF 82 (by decide))
  have t105 : sy_dv F' (.inr (.inl 105)) = .int ((sy_i F 83) + ((7 : Int32))) := hd_o (hs 20 _ rfl) b83 rfl rfl
  have t106 : sy_dv F' (.inr (.inl 106)) = .int ((sy_i F 84) + ((1 : Int32))) := hd_o (hs 21 _ rfl) b84 rfl rfl
  have hB' : iv_in F' iv_B0 := iv_in_eq hB (fun j hj => hF j (Nat.lt_of_lt_of_le hj (by decide +kernel)))
  refine ⟨List.forall_mem_cons.mpr ⟨hd_p5 rfl b84 (by have hc : ((7) : Int32).toInt = 7 := (by decide); omega), List.forall_mem_cons.mpr ⟨hd_pb b83 (by first | exact h1 | exact h1), List.forall_mem_cons.mpr ⟨hd_pb b84 (by first | exact h2 | exact h2), List.forall_mem_cons.mpr ⟨hd_pb t87 (by first | exact h3 | exact h3), List.forall_mem_cons.mpr ⟨hd_pb b84 (by first | exact h4 | exact h4), List.forall_mem_cons.mpr ⟨hd_pb t90 (by first | exact h5 | exact h5), List.forall_mem_cons.mpr ⟨hd_pb b84 (by first | exact h6 | exact h6), List.forall_mem_cons.mpr ⟨hd_pb t93 (by first | exact h7 | exact h7), List.forall_mem_cons.mpr ⟨hd_pb b84 (by first | exact h8 | exact h8), List.forall_mem_cons.mpr ⟨hd_pb t96 (by first | exact h9 | exact h9), List.forall_mem_cons.mpr ⟨hd_pb b84 (by first | exact h10 | exact h10), List.forall_mem_cons.mpr ⟨hd_pb t99 (by first | exact h11 | exact h11), List.forall_mem_cons.mpr ⟨hd_pb b84 (by first | exact h12 | exact h12), List.forall_mem_cons.mpr ⟨hd_pb t102 (by first | exact h13 | exact h13), List.forall_mem_cons.mpr ⟨hd_pb b84 (by first | exact h14 | exact h14), fun _ h => absurd h List.not_mem_nil⟩⟩⟩⟩⟩⟩⟩⟩⟩⟩⟩⟩⟩⟩⟩, ?_⟩
  refine k _ ?_ ?_ ?_ ?_ ?_ ?_ ?_ ?_ ?_ ?_ ?_
  · exact fun j hj hn => (hd_keep hB' (Nat.lt_of_lt_of_le hj (by decide +kernel)) (by simp; omega)).trans (hF j (Nat.lt_of_lt_of_le hj (by decide)))
  · exact hd_ga (a := .inr (.inl 86)) (by decide +kernel) t86
  · exact hd_ga (a := .inr (.inl 89)) (by decide +kernel) t89
  · exact hd_ga (a := .inr (.inl 92)) (by decide +kernel) t92
  · exact hd_ga (a := .inr (.inl 95)) (by decide +kernel) t95
  · exact hd_ga (a := .inr (.inl 98)) (by decide +kernel) t98
  · exact hd_ga (a := .inr (.inl 101)) (by decide +kernel) t101
  · exact hd_ga (a := .inr (.inl 104)) (by decide +kernel) t104
  · exact hd_gi (x := .inr (.inl 82)) (by decide +kernel) b82
  · exact hd_gi (x := .inr (.inl 105)) (by decide +kernel) t105
  · exact hd_gi (x := .inr (.inl 106)) (by decide +kernel) t106
theorem j3ldt_46 {Ls : Nat} {xs : Nat → Int32} {d : Nat} {Q : Option Value → jm_h → Prop} (hd : 1 ≤ d) (F : Nat → sy_d) (X1 X2 : List jm_c) (hB : iv_in F iv_B0)
    (a82 : 0 ≤ (sy_i F 82).toInt ∧ (sy_i F 82).toInt ≤ 2340)
    (a83 : 3 ≤ (sy_i F 83).toInt ∧ (sy_i F 83).toInt ≤ 2392)
    (a84 : 0 ≤ (sy_i F 84).toInt ∧ (sy_i F 84).toInt ≤ 7)
    (k0 : 7 ≤ (sy_i F 84).toInt → ∀ F1 : Nat → sy_d, iv_in F1 iv_B0 → (∀ j, j < 82 → j ∉ ([60, 61] : List Nat) → F1 j = F j) → sy_ai F1 60 = jm_cpy (sy_ai F 76) (sy_ai F 60) ((sy_i F 83).toInt).toNat (0 : Int).toNat (4 : Int).toNat → sy_ai F1 61 = jm_cpy (sy_ai F 76) (sy_ai F 61) (((sy_i F 83).toInt + 4)).toNat (0 : Int).toNat (4 : Int).toNat → Q (none) (sy_dh F1 X1 X2 (iv_H 3)))
    (k1 : (sy_i F 84).toInt < 7 → ∀ F1 : Nat → sy_d, iv_in F1 iv_B0 → (∀ j, j < 82 → j ∉ ([53, 54, 55, 56, 57, 58, 59] : List Nat) → F1 j = F j) → sy_ai F1 53 = jm_upd (sy_ai F 53) ((sy_i F 84).toInt).toNat ((sy_ai F 76).getD ((sy_i F 83).toInt).toNat 0) → sy_ai F1 54 = jm_upd (sy_ai F 54) ((sy_i F 84).toInt).toNat ((sy_ai F 76).getD (((sy_i F 83).toInt + 1)).toNat 0) → sy_ai F1 55 = jm_upd (sy_ai F 55) ((sy_i F 84).toInt).toNat ((sy_ai F 76).getD (((sy_i F 83).toInt + 2)).toNat 0) → sy_ai F1 56 = jm_upd (sy_ai F 56) ((sy_i F 84).toInt).toNat ((sy_ai F 76).getD (((sy_i F 83).toInt + 3)).toNat 0) → sy_ai F1 57 = jm_upd (sy_ai F 57) ((sy_i F 84).toInt).toNat ((sy_ai F 76).getD (((sy_i F 83).toInt + 4)).toNat 0) → sy_ai F1 58 = jm_upd (sy_ai F 58) ((sy_i F 84).toInt).toNat ((sy_ai F 76).getD (((sy_i F 83).toInt + 5)).toNat 0) → sy_ai F1 59 = jm_upd (sy_ai F 59) ((sy_i F 84).toInt).toNat ((sy_ai F 76).getD (((sy_i F 83).toInt + 6)).toNat 0) → (sy_i F1 82).toInt = (sy_i F 82).toInt → sy_i F1 82 = sy_i F 82 → (sy_i F1 83).toInt = ((sy_i F 83).toInt + 7) → sy_i F1 83 = (sy_i F 83) + ((7 : Int32)) → (sy_i F1 84).toInt = ((sy_i F 84).toInt + 1) → sy_i F1 84 = (sy_i F 84) + ((1 : Int32)) → hd_W Ls xs d jm_M10 Q (46, sy_dL F1 [some (.inl (.ref 46)), some (.inl (.ref 67)), some (.inr (.inl 82)), some (.inr (.inl 83)), some (.inr (.inl 84))], sy_dS F1 [], sy_dh F1 X1 X2 (iv_H 3), 0, 0)) :
    hd_W Ls xs d jm_M10 Q (46, sy_dL F [some (.inl (.ref 46)), some (.inl (.ref 67)), some (.inr (.inl 82)), some (.inr (.inl 83)), some (.inr (.inl 84))], sy_dS F [], sy_dh F X1 X2 (iv_H 3), 0, 0) := by
  by_cases g0 : 7 ≤ (sy_i F 84).toInt
  · have n86 : nzI ((sy_i F 83) + ((4 : Int32))) (((sy_i F 83).toInt + 4)) := nz_add (rfl : (sy_i F 83).toInt = (sy_i F 83).toInt) (by decide : ((4 : Int32)).toInt = 4) (by omega) (by omega)
    have w85 : jm_cpy (sy_ai F 76) (sy_ai F 60) (sy_i F 83).toNatClampNeg ((0 : Int32)).toNatClampNeg ((4 : Int32)).toNatClampNeg = jm_cpy (sy_ai F 76) (sy_ai F 60) ((sy_i F 83).toInt).toNat (0 : Int).toNat (4 : Int).toNat := by simp only [nz_c, (by decide : ((0 : Int32)).toInt = 0), (by decide : ((4 : Int32)).toInt = 4)]
    have w87 : jm_cpy (sy_ai F 76) (sy_ai F 61) ((sy_i F 83) + ((4 : Int32))).toNatClampNeg ((0 : Int32)).toNatClampNeg ((4 : Int32)).toNatClampNeg = jm_cpy (sy_ai F 76) (sy_ai F 61) (((sy_i F 83).toInt + 4)).toNat (0 : Int).toNat (4 : Int).toNat := by simp only [nz_c, (nzE n86), (by decide : ((0 : Int32)).toInt = 0), (by decide : ((4 : Int32)).toInt = 4)]
    exact j3ldt_46_p0 hd F X1 X2 hB (by first | exact g0 | (simp only [nz_c]; exact g0)) (by first | exact ⟨by omega, by omega⟩ | (simp only [nz_c]; exact ⟨by omega, by omega⟩)) (by first | (simp only [nz_c, (nzE n86)]; exact ⟨by omega, by omega⟩) | exact ⟨by omega, by omega⟩ | (rw [(nzE n86)]; exact ⟨by omega, by omega⟩)) (fun F1 g e60 e61 => k0 g0 F1 (nz_in0 hB [60, 61] (fun j hj hn => g j hj (by simp only [List.mem_cons, List.not_mem_nil, or_false, not_or] at hn; omega)) (List.forall_mem_cons.mpr ⟨fun t ht => (Option.some.inj ht) ▸ (nz_hz2 e60), List.forall_mem_cons.mpr ⟨fun t ht => (Option.some.inj ht) ▸ (nz_hz2 e61), List.forall_mem_nil _⟩⟩)) (fun j hj hn => g j hj (by simp only [List.mem_cons, List.not_mem_nil, or_false, not_or] at hn; omega)) ((zz_ai e60).trans w85) ((zz_ai e61).trans w87))
  replace g0 : (sy_i F 84).toInt < 7 := by omega
  have n87 : nzI ((sy_i F 83) + ((1 : Int32))) (((sy_i F 83).toInt + 1)) := nz_add (rfl : (sy_i F 83).toInt = (sy_i F 83).toInt) (by decide : ((1 : Int32)).toInt = 1) (by omega) (by omega)
  have n90 : nzI ((sy_i F 83) + ((2 : Int32))) (((sy_i F 83).toInt + 2)) := nz_add (rfl : (sy_i F 83).toInt = (sy_i F 83).toInt) (by decide : ((2 : Int32)).toInt = 2) (by omega) (by omega)
  have n93 : nzI ((sy_i F 83) + ((3 : Int32))) (((sy_i F 83).toInt + 3)) := nz_add (rfl : (sy_i F 83).toInt = (sy_i F 83).toInt) (by decide : ((3 : Int32)).toInt = 3) (by omega) (by omega)
  have n96 : nzI ((sy_i F 83) + ((4 : Int32))) (((sy_i F 83).toInt + 4)) := nz_add (rfl : (sy_i F 83).toInt = (sy_i F 83).toInt) (by decide : ((4 : Int32)).toInt = 4) (by omega) (by omega)
  have n99 : nzI ((sy_i F 83) + ((5 : Int32))) (((sy_i F 83).toInt + 5)) := nz_add (rfl : (sy_i F 83).toInt = (sy_i F 83).toInt) (by decide : ((5 : Int32)).toInt = 5) (by omega) (by omega)
  have n102 : nzI ((sy_i F 83) + ((6 : Int32))) (((sy_i F 83).toInt + 6)) := nz_add (rfl : (sy_i F 83).toInt = (sy_i F 83).toInt) (by decide : ((6 : Int32)).toInt = 6) (by omega) (by omega)
  have w86 : jm_upd (sy_ai F 53) (sy_i F 84).toNatClampNeg ((sy_ai F 76).getD (sy_i F 83).toNatClampNeg 0) = jm_upd (sy_ai F 53) ((sy_i F 84).toInt).toNat ((sy_ai F 76).getD ((sy_i F 83).toInt).toNat 0) := by simp only [nz_c]
  have w89 : jm_upd (sy_ai F 54) (sy_i F 84).toNatClampNeg ((sy_ai F 76).getD ((sy_i F 83) + ((1 : Int32))).toNatClampNeg 0) = jm_upd (sy_ai F 54) ((sy_i F 84).toInt).toNat ((sy_ai F 76).getD (((sy_i F 83).toInt + 1)).toNat 0) := by simp only [nz_c, (nzE n87), (by decide : ((1 : Int32)).toInt = 1)]
  have w92 : jm_upd (sy_ai F 55) (sy_i F 84).toNatClampNeg ((sy_ai F 76).getD ((sy_i F 83) + ((2 : Int32))).toNatClampNeg 0) = jm_upd (sy_ai F 55) ((sy_i F 84).toInt).toNat ((sy_ai F 76).getD (((sy_i F 83).toInt + 2)).toNat 0) := by simp only [nz_c, (nzE n90), (by decide : ((2 : Int32)).toInt = 2)]
  have w95 : jm_upd (sy_ai F 56) (sy_i F 84).toNatClampNeg ((sy_ai F 76).getD ((sy_i F 83) + ((3 : Int32))).toNatClampNeg 0) = jm_upd (sy_ai F 56) ((sy_i F 84).toInt).toNat ((sy_ai F 76).getD (((sy_i F 83).toInt + 3)).toNat 0) := by simp only [nz_c, (nzE n93), (by decide : ((3 : Int32)).toInt = 3)]
  have w98 : jm_upd (sy_ai F 57) (sy_i F 84).toNatClampNeg ((sy_ai F 76).getD ((sy_i F 83) + ((4 : Int32))).toNatClampNeg 0) = jm_upd (sy_ai F 57) ((sy_i F 84).toInt).toNat ((sy_ai F 76).getD (((sy_i F 83).toInt + 4)).toNat 0) := by simp only [nz_c, (nzE n96), (by decide : ((4 : Int32)).toInt = 4)]
  have w101 : jm_upd (sy_ai F 58) (sy_i F 84).toNatClampNeg ((sy_ai F 76).getD ((sy_i F 83) + ((5 : Int32))).toNatClampNeg 0) = jm_upd (sy_ai F 58) ((sy_i F 84).toInt).toNat ((sy_ai F 76).getD (((sy_i F 83).toInt + 5)).toNat 0) := by simp only [nz_c, (nzE n99), (by decide : ((5 : Int32)).toInt = 5)]
  have w104 : jm_upd (sy_ai F 59) (sy_i F 84).toNatClampNeg ((sy_ai F 76).getD ((sy_i F 83) + ((6 : Int32))).toNatClampNeg 0) = jm_upd (sy_ai F 59) ((sy_i F 84).toInt).toNat ((sy_ai F 76).getD (((sy_i F 83).toInt + 6)).toNat 0) := by simp only [nz_c, (nzE n102), (by decide : ((6 : Int32)).toInt = 6)]
  have n105 : nzI ((sy_i F 83) + ((7 : Int32))) (((sy_i F 83).toInt + 7)) := nz_add (rfl : (sy_i F 83).toInt = (sy_i F 83).toInt) (by decide : ((7 : Int32)).toInt = 7) (by omega) (by omega)
  have n106 : nzI ((sy_i F 84) + ((1 : Int32))) (((sy_i F 84).toInt + 1)) := nz_add (rfl : (sy_i F 84).toInt = (sy_i F 84).toInt) (by decide : ((1 : Int32)).toInt = 1) (by omega) (by omega)
  exact j3ldt_46_p1 hd F X1 X2 hB (by first | exact g0 | (simp only [nz_c]; exact g0)) (by first | exact ⟨by omega, by omega⟩ | (simp only [nz_c]; exact ⟨by omega, by omega⟩)) (by first | exact ⟨by omega, by omega⟩ | (simp only [nz_c]; exact ⟨by omega, by omega⟩)) (by first | (simp only [nz_c, (nzE n87)]; exact ⟨by omega, by omega⟩) | exact ⟨by omega, by omega⟩ | (rw [(nzE n87)]; exact ⟨by omega, by omega⟩)) (by first | exact ⟨by omega, by omega⟩ | (simp only [nz_c]; exact ⟨by omega, by omega⟩)) (by first | (simp only [nz_c, (nzE n90)]; exact ⟨by omega, by omega⟩) | exact ⟨by omega, by omega⟩ | (rw [(nzE n90)]; exact ⟨by omega, by omega⟩)) (by first | exact ⟨by omega, by omega⟩ | (simp only [nz_c]; exact ⟨by omega, by omega⟩)) (by first | (simp only [nz_c, (nzE n93)]; exact ⟨by omega, by omega⟩) | exact ⟨by omega, by omega⟩ | (rw [(nzE n93)]; exact ⟨by omega, by omega⟩)) (by first | exact ⟨by omega, by omega⟩ | (simp only [nz_c]; exact ⟨by omega, by omega⟩)) (by first | (simp only [nz_c, (nzE n96)]; exact ⟨by omega, by omega⟩) | exact ⟨by omega, by omega⟩ | (rw [(nzE n96)]; exact ⟨by omega, by omega⟩)) (by first | exact ⟨by omega, by omega⟩ | (simp only [nz_c]; exact ⟨by omega, by omega⟩)) (by first | (simp only [nz_c, (nzE n99)]; exact ⟨by omega, by omega⟩) | exact ⟨by omega, by omega⟩ | (rw [(nzE n99)]; exact ⟨by omega, by omega⟩)) (by first | exact ⟨by omega, by omega⟩ | (simp only [nz_c]; exact ⟨by omega, by omega⟩)) (by first | (simp only [nz_c, (nzE n102)]; exact ⟨by omega, by omega⟩) | exact ⟨by omega, by omega⟩ | (rw [(nzE n102)]; exact ⟨by omega, by omega⟩)) (by first | exact ⟨by omega, by omega⟩ | (simp only [nz_c]; exact ⟨by omega, by omega⟩)) (fun F1 g e53 e54 e55 e56 e57 e58 e59 e82 e83 e84 => k1 g0 F1 (nz_in0 hB [53, 54, 55, 56, 57, 58, 59] (fun j hj hn => g j hj (by simp only [List.mem_cons, List.not_mem_nil, or_false, not_or] at hn; omega)) (List.forall_mem_cons.mpr ⟨fun t ht => (Option.some.inj ht) ▸ (nz_hz2 e53), List.forall_mem_cons.mpr ⟨fun t ht => (Option.some.inj ht) ▸ (nz_hz2 e54), List.forall_mem_cons.mpr ⟨fun t ht => (Option.some.inj ht) ▸ (nz_hz2 e55), List.forall_mem_cons.mpr ⟨fun t ht => (Option.some.inj ht) ▸ (nz_hz2 e56), List.forall_mem_cons.mpr ⟨fun t ht => (Option.some.inj ht) ▸ (nz_hz2 e57), List.forall_mem_cons.mpr ⟨fun t ht => (Option.some.inj ht) ▸ (nz_hz2 e58), List.forall_mem_cons.mpr ⟨fun t ht => (Option.some.inj ht) ▸ (nz_hz2 e59), List.forall_mem_nil _⟩⟩⟩⟩⟩⟩⟩)) (fun j hj hn => g j hj (by simp only [List.mem_cons, List.not_mem_nil, or_false, not_or] at hn; omega)) ((zz_ai e53).trans w86) ((zz_ai e54).trans w89) ((zz_ai e55).trans w92) ((zz_ai e56).trans w95) ((zz_ai e57).trans w98) ((zz_ai e58).trans w101) ((zz_ai e59).trans w104) ((congrArg Int32.toInt (zz_i e82)).trans (rfl : (sy_i F 82).toInt = (sy_i F 82).toInt)) ((zz_i e82).trans (rfl : sy_i F 82 = sy_i F 82)) ((congrArg Int32.toInt (zz_i e83)).trans (nzE n105)) ((zz_i e83).trans (rfl : (sy_i F 83) + ((7 : Int32)) = (sy_i F 83) + ((7 : Int32)))) ((congrArg Int32.toInt (zz_i e84)).trans (nzE n106)) ((zz_i e84).trans (rfl : (sy_i F 84) + ((1 : Int32)) = (sy_i F 84) + ((1 : Int32)))))
theorem j3svs_0_p0 {Ls : Nat} {xs : Nat → Int32} {d : Nat} {Q : Option Value → jm_h → Prop} (hd : 1 ≤ d) (F : Nat → sy_d) (X1 X2 : List jm_c) (hB : iv_in F iv_B0)
    (h0 : 0 ≤ (sy_i F 82).toInt)
    (h1 : (sy_i F 82).toInt ≤ 120)
    (h2 : 0 ≤ (sy_i F 82).toInt ∧ (sy_i F 82).toInt < 180)
    (h3 : 0 ≤ ((sy_i F 82) + ((1 : Int32))).toInt ∧ ((sy_i F 82) + ((1 : Int32))).toInt < 180)
    (h4 : 0 ≤ ((sy_i F 82) + ((2 : Int32))).toInt ∧ ((sy_i F 82) + ((2 : Int32))).toInt < 180)
    (k : ∀ F1 : Nat → sy_d, (∀ j, j < 82 → j ≠ 77 → F1 j = F j) → F1 77 = .inr (.inl (jm_upd (jm_upd (jm_upd (sy_ai F 77) (sy_i F 82).toNatClampNeg (sy_i F 50)) ((sy_i F 82) + ((1 : Int32))).toNatClampNeg (sy_i F 51)) ((sy_i F 82) + ((2 : Int32))).toNatClampNeg (sy_i F 52))) → F1 82 = .inl (.int (sy_i F 82)) → F1 83 = .inl (.int ((sy_i F 82) + ((3 : Int32)))) → F1 84 = .inl (.int ((0 : Int32))) → hd_W Ls xs d jm_M9 Q (46, sy_dL F1 [some (.inl (.ref 46)), some (.inl (.ref 68)), some (.inr (.inl 82)), some (.inr (.inl 83)), some (.inr (.inl 84))], sy_dS F1 [], sy_dh F1 X1 X2 (iv_H 3), 0, 0)) :
    hd_W Ls xs d jm_M9 Q (0, sy_dL F [some (.inl (.ref 46)), some (.inl (.ref 68)), some (.inr (.inl 82)), none, none], sy_dS F [], sy_dh F X1 X2 (iv_H 3), 0, 0) := by
  refine hd_run (s := 3) (nv := 83) (pc := 46) (L := [some (.inl (.ref 46)), some (.inl (.ref 68)), some (.inr (.inl 82)), some (.inr (.inl 83)), some (.inr (.inl 84))]) (S := []) (uh := hd_ov (iv_id 0 iv_B0) [(77, .inr (.inr (.inl 87)))]) (ul := [.inl (.inr (.inl 82)), .inl (.inr (.inl 88)), .inl (.inl (.int 0))]) (f := true) (sp := [46]) (d0 := 0) (O := [false, true]) (T := [(40, [.inr (.inl 82), .inr (.inl 50)], [.inr (.inl 77)]), (0, [.inr (.inl 82), .inl (.int 1)], []), (40, [.inr (.inl 84), .inr (.inl 51)], [.inr (.inl 83)]), (0, [.inr (.inl 82), .inl (.int 2)], []), (40, [.inr (.inl 86), .inr (.inl 52)], [.inr (.inl 85)]), (0, [.inr (.inl 82), .inl (.int 3)], [])]) (P := [(3, .inr (.inl 82), .inl (.int 0)), (4, .inr (.inl 82), .inl (.int 120)), (6, .inr (.inl 82), .inl (.ref 180)), (6, .inr (.inl 84), .inl (.ref 180)), (6, .inr (.inl 86), .inl (.ref 180))]) jm_ok9 (by decide +kernel) (by decide +kernel) hd F X1 X2 (fun F' hF hs => ?_)
  have b82 := hd_b (F := F) (F' := F') (k := 82) (hF 82 (by decide))
  have t84 : sy_dv F' (.inr (.inl 84)) = .int ((sy_i F 82) + ((1 : Int32))) := hd_o (hs 1 _ rfl) b82 rfl rfl
  have t86 : sy_dv F' (.inr (.inl 86)) = .int ((sy_i F 82) + ((2 : Int32))) := hd_o (hs 3 _ rfl) b82 rfl rfl
  have b52 := hd_b (F := F) (F' := F') (k := 52) (hF 52 (by decide))
  have b51 := hd_b (F := F) (F' := F') (k := 51) (hF 51 (by decide))
  have b50 := hd_b (F := F) (F' := F') (k := 50) (hF 50 (by decide))
  have a77 := hd_ba (F := F) (F' := F') (k := 77) (hF 77 (by decide))
  have t83 : sy_da F' (.inr (.inl 83)) = .inl (jm_upd (sy_ai F 77) (sy_i F 82).toNatClampNeg (sy_i F 50)) := hd_up (hs 0 _ rfl) b82 b50 a77
  have t85 : sy_da F' (.inr (.inl 85)) = .inl (jm_upd (jm_upd (sy_ai F 77) (sy_i F 82).toNatClampNeg (sy_i F 50)) ((sy_i F 82) + ((1 : Int32))).toNatClampNeg (sy_i F 51)) := hd_up (hs 2 _ rfl) t84 b51 t83
  have t87 : sy_da F' (.inr (.inl 87)) = .inl (jm_upd (jm_upd (jm_upd (sy_ai F 77) (sy_i F 82).toNatClampNeg (sy_i F 50)) ((sy_i F 82) + ((1 : Int32))).toNatClampNeg (sy_i F 51)) ((sy_i F 82) + ((2 : Int32))).toNatClampNeg (sy_i F 52)) := hd_up (hs 4 _ rfl) t86 b52 t85
  have t88 : sy_dv F' (.inr (.inl 88)) = .int ((sy_i F 82) + ((3 : Int32))) := hd_o (hs 5 _ rfl) b82 rfl rfl
  have hB' : iv_in F' iv_B0 := iv_in_eq hB (fun j hj => hF j (Nat.lt_of_lt_of_le hj (by decide +kernel)))
  refine ⟨List.forall_mem_cons.mpr ⟨hd_p3 b82 rfl (by have hc : ((0) : Int32).toInt = 0 := (by decide); omega), List.forall_mem_cons.mpr ⟨hd_p4 b82 rfl (by have hc : ((120) : Int32).toInt = 120 := (by decide); omega), List.forall_mem_cons.mpr ⟨hd_pb b82 (by first | exact h2 | exact h2), List.forall_mem_cons.mpr ⟨hd_pb t84 (by first | exact h3 | exact h3), List.forall_mem_cons.mpr ⟨hd_pb t86 (by first | exact h4 | exact h4), fun _ h => absurd h List.not_mem_nil⟩⟩⟩⟩⟩, ?_⟩
  refine k _ ?_ ?_ ?_ ?_ ?_
  · exact fun j hj hn => (hd_keep hB' (Nat.lt_of_lt_of_le hj (by decide +kernel)) (by simp; omega)).trans (hF j (Nat.lt_of_lt_of_le hj (by decide)))
  · exact hd_ga (a := .inr (.inl 87)) (by decide +kernel) t87
  · exact hd_gi (x := .inr (.inl 82)) (by decide +kernel) b82
  · exact hd_gi (x := .inr (.inl 88)) (by decide +kernel) t88
  · exact hd_gi (x := .inl (.int 0)) (by decide +kernel) rfl
theorem j3svs_0 {Ls : Nat} {xs : Nat → Int32} {d : Nat} {Q : Option Value → jm_h → Prop} (hd : 1 ≤ d) (F : Nat → sy_d) (X1 X2 : List jm_c) (hB : iv_in F iv_B0)
    (a82 : 0 ≤ (sy_i F 82).toInt ∧ (sy_i F 82).toInt ≤ 120)
    (k0 : 0 ≤ (sy_i F 82).toInt → (sy_i F 82).toInt ≤ 120 → ∀ F1 : Nat → sy_d, iv_in F1 iv_B0 → (∀ j, j < 82 → j ∉ ([77] : List Nat) → F1 j = F j) → sy_ai F1 77 = jm_upd (jm_upd (jm_upd (sy_ai F 77) ((sy_i F 82).toInt).toNat (sy_i F 50)) (((sy_i F 82).toInt + 1)).toNat (sy_i F 51)) (((sy_i F 82).toInt + 2)).toNat (sy_i F 52) → (sy_i F1 82).toInt = (sy_i F 82).toInt → sy_i F1 82 = sy_i F 82 → (sy_i F1 83).toInt = ((sy_i F 82).toInt + 3) → sy_i F1 83 = (sy_i F 82) + ((3 : Int32)) → (sy_i F1 84).toInt = 0 → sy_i F1 84 = (0 : Int32) → hd_W Ls xs d jm_M9 Q (46, sy_dL F1 [some (.inl (.ref 46)), some (.inl (.ref 68)), some (.inr (.inl 82)), some (.inr (.inl 83)), some (.inr (.inl 84))], sy_dS F1 [], sy_dh F1 X1 X2 (iv_H 3), 0, 0)) :
    hd_W Ls xs d jm_M9 Q (0, sy_dL F [some (.inl (.ref 46)), some (.inl (.ref 68)), some (.inr (.inl 82)), none, none], sy_dS F [], sy_dh F X1 X2 (iv_H 3), 0, 0) := by
  by_cases g0 : (sy_i F 82).toInt < 0
  · exfalso
    omega
  replace g0 : 0 ≤ (sy_i F 82).toInt := by omega
  by_cases g1 : (sy_i F 82).toInt ≤ 120
  · have n84 : nzI ((sy_i F 82) + ((1 : Int32))) (((sy_i F 82).toInt + 1)) := nz_add (rfl : (sy_i F 82).toInt = (sy_i F 82).toInt) (by decide : ((1 : Int32)).toInt = 1) (by omega) (by omega)
    have n86 : nzI ((sy_i F 82) + ((2 : Int32))) (((sy_i F 82).toInt + 2)) := nz_add (rfl : (sy_i F 82).toInt = (sy_i F 82).toInt) (by decide : ((2 : Int32)).toInt = 2) (by omega) (by omega)
    have w87 : jm_upd (jm_upd (jm_upd (sy_ai F 77) (sy_i F 82).toNatClampNeg (sy_i F 50)) ((sy_i F 82) + ((1 : Int32))).toNatClampNeg (sy_i F 51)) ((sy_i F 82) + ((2 : Int32))).toNatClampNeg (sy_i F 52) = jm_upd (jm_upd (jm_upd (sy_ai F 77) ((sy_i F 82).toInt).toNat (sy_i F 50)) (((sy_i F 82).toInt + 1)).toNat (sy_i F 51)) (((sy_i F 82).toInt + 2)).toNat (sy_i F 52) := by simp only [nz_c, (nzE n84), (nzE n86), (by decide : ((1 : Int32)).toInt = 1), (by decide : ((2 : Int32)).toInt = 2)]
    have n88 : nzI ((sy_i F 82) + ((3 : Int32))) (((sy_i F 82).toInt + 3)) := nz_add (rfl : (sy_i F 82).toInt = (sy_i F 82).toInt) (by decide : ((3 : Int32)).toInt = 3) (by omega) (by omega)
    exact j3svs_0_p0 hd F X1 X2 hB (by first | exact g0 | (simp only [nz_c]; exact g0)) (by first | exact g1 | (simp only [nz_c]; exact g1)) (by first | exact ⟨by omega, by omega⟩ | (simp only [nz_c]; exact ⟨by omega, by omega⟩)) (by first | (simp only [nz_c, (nzE n84)]; exact ⟨by omega, by omega⟩) | exact ⟨by omega, by omega⟩ | (rw [(nzE n84)]; exact ⟨by omega, by omega⟩)) (by first | (simp only [nz_c, (nzE n86)]; exact ⟨by omega, by omega⟩) | exact ⟨by omega, by omega⟩ | (rw [(nzE n86)]; exact ⟨by omega, by omega⟩)) (fun F1 g e77 e82 e83 e84 => k0 g0 g1 F1 (nz_in0 hB [77] (fun j hj hn => g j hj (by simp only [List.mem_cons, List.not_mem_nil, or_false, not_or] at hn; omega)) (List.forall_mem_cons.mpr ⟨fun t ht => (Option.some.inj ht) ▸ (nz_hz2 e77), List.forall_mem_nil _⟩)) (fun j hj hn => g j hj (by simp only [List.mem_cons, List.not_mem_nil, or_false, not_or] at hn; omega)) ((zz_ai e77).trans w87) ((congrArg Int32.toInt (zz_i e82)).trans (rfl : (sy_i F 82).toInt = (sy_i F 82).toInt)) ((zz_i e82).trans (rfl : sy_i F 82 = sy_i F 82)) ((congrArg Int32.toInt (zz_i e83)).trans (nzE n88)) ((zz_i e83).trans (rfl : (sy_i F 82) + ((3 : Int32)) = (sy_i F 82) + ((3 : Int32)))) ((congrArg Int32.toInt (zz_i e84)).trans (by decide : ((0 : Int32)).toInt = 0)) ((zz_i e84).trans (rfl : (0 : Int32) = (0 : Int32))))
  replace g1 : 120 < (sy_i F 82).toInt := by omega
  exfalso
  omega
theorem j3svs_46_p0 {Ls : Nat} {xs : Nat → Int32} {d : Nat} {Q : Option Value → jm_h → Prop} (hd : 1 ≤ d) (F : Nat → sy_d) (X1 X2 : List jm_c) (hB : iv_in F iv_B0)
    (h0 : 7 ≤ (sy_i F 84).toInt)
    (h1 : 0 ≤ (sy_i F 83).toInt ∧ (sy_i F 83).toInt < 177)
    (h2 : 0 ≤ ((sy_i F 83) + ((4 : Int32))).toInt ∧ ((sy_i F 83) + ((4 : Int32))).toInt < 177)
    (k : ∀ F1 : Nat → sy_d, (∀ j, j < 82 → j ≠ 77 → F1 j = F j) → F1 77 = .inr (.inl (jm_cpy (sy_ai F 61) (jm_cpy (sy_ai F 60) (sy_ai F 77) ((0 : Int32)).toNatClampNeg (sy_i F 83).toNatClampNeg ((4 : Int32)).toNatClampNeg) ((0 : Int32)).toNatClampNeg ((sy_i F 83) + ((4 : Int32))).toNatClampNeg ((4 : Int32)).toNatClampNeg)) → Q (none) (sy_dh F1 X1 X2 (iv_H 3))) :
    hd_W Ls xs d jm_M9 Q (46, sy_dL F [some (.inl (.ref 46)), some (.inl (.ref 68)), some (.inr (.inl 82)), some (.inr (.inl 83)), some (.inr (.inl 84))], sy_dS F [], sy_dh F X1 X2 (iv_H 3), 0, 0) := by
  refine hd_ret (s := 3) (nv := 85) (v := none) (uh := hd_ov (iv_id 0 iv_B0) [(77, .inr (.inr (.inl 87)))]) (f := true) (sp := [46]) (d0 := 0) (O := [true]) (T := [(42, [.inl (.int 0), .inr (.inl 83), .inl (.int 4)], [.inr (.inl 60), .inr (.inl 77)]), (0, [.inr (.inl 83), .inl (.int 4)], []), (42, [.inl (.int 0), .inr (.inl 86), .inl (.int 4)], [.inr (.inl 61), .inr (.inl 85)])]) (P := [(4, .inl (.int 7), .inr (.inl 84)), (6, .inr (.inl 83), .inl (.ref 177)), (6, .inr (.inl 86), .inl (.ref 177))]) jm_ok9 (by decide +kernel) (by decide +kernel) hd F X1 X2 (fun F' hF hs => ?_)
  have b84 := hd_b (F := F) (F' := F') (k := 84) (hF 84 (by decide))
  have b83 := hd_b (F := F) (F' := F') (k := 83) (hF 83 (by decide))
  have t86 : sy_dv F' (.inr (.inl 86)) = .int ((sy_i F 83) + ((4 : Int32))) := hd_o (hs 1 _ rfl) b83 rfl rfl
  have a61 := hd_ba (F := F) (F' := F') (k := 61) (hF 61 (by decide))
  have a60 := hd_ba (F := F) (F' := F') (k := 60) (hF 60 (by decide))
  have a77 := hd_ba (F := F) (F' := F') (k := 77) (hF 77 (by decide))
  have t85 : sy_da F' (.inr (.inl 85)) = .inl (jm_cpy (sy_ai F 60) (sy_ai F 77) ((0 : Int32)).toNatClampNeg (sy_i F 83).toNatClampNeg ((4 : Int32)).toNatClampNeg) := hd_cp (hs 0 _ rfl) rfl b83 rfl a60 a77
  have t87 : sy_da F' (.inr (.inl 87)) = .inl (jm_cpy (sy_ai F 61) (jm_cpy (sy_ai F 60) (sy_ai F 77) ((0 : Int32)).toNatClampNeg (sy_i F 83).toNatClampNeg ((4 : Int32)).toNatClampNeg) ((0 : Int32)).toNatClampNeg ((sy_i F 83) + ((4 : Int32))).toNatClampNeg ((4 : Int32)).toNatClampNeg) := hd_cp (hs 2 _ rfl) rfl t86 rfl a61 t85
  have hB' : iv_in F' iv_B0 := iv_in_eq hB (fun j hj => hF j (Nat.lt_of_lt_of_le hj (by decide +kernel)))
  refine ⟨List.forall_mem_cons.mpr ⟨hd_p4 rfl b84 (by have hc : ((7) : Int32).toInt = 7 := (by decide); omega), List.forall_mem_cons.mpr ⟨hd_pb b83 (by first | exact h1 | exact h1), List.forall_mem_cons.mpr ⟨hd_pb t86 (by first | exact h2 | exact h2), fun _ h => absurd h List.not_mem_nil⟩⟩⟩, ?_⟩
  refine k _ ?_ ?_
  · exact fun j hj hn => (hd_keep hB' (Nat.lt_of_lt_of_le hj (by decide +kernel)) (by simp; omega)).trans (hF j (Nat.lt_of_lt_of_le hj (by decide)))
  · exact hd_ga (a := .inr (.inl 87)) (by decide +kernel) t87
theorem j3svs_46_p1 {Ls : Nat} {xs : Nat → Int32} {d : Nat} {Q : Option Value → jm_h → Prop} (hd : 1 ≤ d) (F : Nat → sy_d) (X1 X2 : List jm_c) (hB : iv_in F iv_B0)
    (h0 : (sy_i F 84).toInt < 7)
    (h1 : 0 ≤ (sy_i F 84).toInt ∧ (sy_i F 84).toInt < 7)
    (h2 : 0 ≤ (sy_i F 83).toInt ∧ (sy_i F 83).toInt < 180)
    (h3 : 0 ≤ (sy_i F 84).toInt ∧ (sy_i F 84).toInt < 7)
    (h4 : 0 ≤ ((sy_i F 83) + ((1 : Int32))).toInt ∧ ((sy_i F 83) + ((1 : Int32))).toInt < 180)
    (h5 : 0 ≤ (sy_i F 84).toInt ∧ (sy_i F 84).toInt < 7)
    (h6 : 0 ≤ ((sy_i F 83) + ((2 : Int32))).toInt ∧ ((sy_i F 83) + ((2 : Int32))).toInt < 180)
    (h7 : 0 ≤ (sy_i F 84).toInt ∧ (sy_i F 84).toInt < 7)
    (h8 : 0 ≤ ((sy_i F 83) + ((3 : Int32))).toInt ∧ ((sy_i F 83) + ((3 : Int32))).toInt < 180)
    (h9 : 0 ≤ (sy_i F 84).toInt ∧ (sy_i F 84).toInt < 7)
    (h10 : 0 ≤ ((sy_i F 83) + ((4 : Int32))).toInt ∧ ((sy_i F 83) + ((4 : Int32))).toInt < 180)
    (h11 : 0 ≤ (sy_i F 84).toInt ∧ (sy_i F 84).toInt < 7)
    (h12 : 0 ≤ ((sy_i F 83) + ((5 : Int32))).toInt ∧ ((sy_i F 83) + ((5 : Int32))).toInt < 180)
    (h13 : 0 ≤ (sy_i F 84).toInt ∧ (sy_i F 84).toInt < 7)
    (h14 : 0 ≤ ((sy_i F 83) + ((6 : Int32))).toInt ∧ ((sy_i F 83) + ((6 : Int32))).toInt < 180)
    (k : ∀ F1 : Nat → sy_d, (∀ j, j < 82 → j ≠ 77 → F1 j = F j) → F1 77 = .inr (.inl (jm_upd (jm_upd (jm_upd (jm_upd (jm_upd (jm_upd (jm_upd (sy_ai F 77) (sy_i F 83).toNatClampNeg ((sy_ai F 53).getD (sy_i F 84).toNatClampNeg 0)) ((sy_i F 83) + ((1 : Int32))).toNatClampNeg ((sy_ai F 54).getD (sy_i F 84).toNatClampNeg 0)) ((sy_i F 83) + ((2 : Int32))).toNatClampNeg ((sy_ai F 55).getD (sy_i F 84).toNatClampNeg 0)) ((sy_i F 83) + ((3 : Int32))).toNatClampNeg ((sy_ai F 56).getD (sy_i F 84).toNatClampNeg 0)) ((sy_i F 83) + ((4 : Int32))).toNatClampNeg ((sy_ai F 57).getD (sy_i F 84).toNatClampNeg 0)) ((sy_i F 83) + ((5 : Int32))).toNatClampNeg ((sy_ai F 58).getD (sy_i F 84).toNatClampNeg 0)) ((sy_i F 83) + ((6 : Int32))).toNatClampNeg ((sy_ai F 59).getD (sy_i F 84).toNatClampNeg 0))) → F1 82 = .inl (.int (sy_i F 82)) → F1 83 = .inl (.int ((sy_i F 83) + ((7 : Int32)))) → F1 84 = .inl (.int ((sy_i F 84) + ((1 : Int32)))) → hd_W Ls xs d jm_M9 Q (46, sy_dL F1 [some (.inl (.ref 46)), some (.inl (.ref 68)), some (.inr (.inl 82)), some (.inr (.inl 83)), some (.inr (.inl 84))], sy_dS F1 [], sy_dh F1 X1 X2 (iv_H 3), 0, 0)) :
    hd_W Ls xs d jm_M9 Q (46, sy_dL F [some (.inl (.ref 46)), some (.inl (.ref 68)), some (.inr (.inl 82)), some (.inr (.inl 83)), some (.inr (.inl 84))], sy_dS F [], sy_dh F X1 X2 (iv_H 3), 0, 0) := by
  refine hd_run (s := 3) (nv := 85) (pc := 46) (L := [some (.inl (.ref 46)), some (.inl (.ref 68)), some (.inr (.inl 82)), some (.inr (.inl 83)), some (.inr (.inl 84))]) (S := []) (uh := hd_ov (iv_id 0 iv_B0) [(77, .inr (.inr (.inl 104)))]) (ul := [.inl (.inr (.inl 82)), .inl (.inr (.inl 105)), .inl (.inr (.inl 106))]) (f := true) (sp := [46]) (d0 := 0) (O := [false]) (T := [(30, [.inr (.inl 84)], [.inr (.inl 53)]), (40, [.inr (.inl 83), .inr (.inl 85)], [.inr (.inl 77)]), (0, [.inr (.inl 83), .inl (.int 1)], []), (30, [.inr (.inl 84)], [.inr (.inl 54)]), (40, [.inr (.inl 87), .inr (.inl 88)], [.inr (.inl 86)]), (0, [.inr (.inl 83), .inl (.int 2)], []), (30, [.inr (.inl 84)], [.inr (.inl 55)]), (40, [.inr (.inl 90), .inr (.inl 91)], [.inr (.inl 89)]), (0, [.inr (.inl 83), .inl (.int 3)], []), (30, [.inr (.inl 84)], [.inr (.inl 56)]), (40, [.inr (.inl 93), .inr (.inl 94)], [.inr (.inl 92)]), (0, [.inr (.inl 83), .inl (.int 4)], []), (30, [.inr (.inl 84)], [.inr (.inl 57)]), (40, [.inr (.inl 96), .inr (.inl 97)], [.inr (.inl 95)]), (0, [.inr (.inl 83), .inl (.int 5)], []), (30, [.inr (.inl 84)], [.inr (.inl 58)]), (40, [.inr (.inl 99), .inr (.inl 100)], [.inr (.inl 98)]), (0, [.inr (.inl 83), .inl (.int 6)], []), (30, [.inr (.inl 84)], [.inr (.inl 59)]), (40, [.inr (.inl 102), .inr (.inl 103)], [.inr (.inl 101)]), (0, [.inr (.inl 83), .inl (.int 7)], []), (0, [.inr (.inl 84), .inl (.int 1)], [])]) (P := [(5, .inl (.int 7), .inr (.inl 84)), (6, .inr (.inl 84), .inl (.ref 7)), (6, .inr (.inl 83), .inl (.ref 180)), (6, .inr (.inl 84), .inl (.ref 7)), (6, .inr (.inl 87), .inl (.ref 180)), (6, .inr (.inl 84), .inl (.ref 7)), (6, .inr (.inl 90), .inl (.ref 180)), (6, .inr (.inl 84), .inl (.ref 7)), (6, .inr (.inl 93), .inl (.ref 180)), (6, .inr (.inl 84), .inl (.ref 7)), (6, .inr (.inl 96), .inl (.ref 180)), (6, .inr (.inl 84), .inl (.ref 7)), (6, .inr (.inl 99), .inl (.ref 180)), (6, .inr (.inl 84), .inl (.ref 7)), (6, .inr (.inl 102), .inl (.ref 180))]) jm_ok9 (by decide +kernel) (by decide +kernel) hd F X1 X2 (fun F' hF hs => ?_)
  have b84 := hd_b (F := F) (F' := F') (k := 84) (hF 84 (by decide))
  have b83 := hd_b (F := F) (F' := F') (k := 83) (hF 83 (by decide))
  have t87 : sy_dv F' (.inr (.inl 87)) = .int ((sy_i F 83) + ((1 : Int32))) := hd_o (hs 2 _ rfl) b83 rfl rfl
  have t90 : sy_dv F' (.inr (.inl 90)) = .int ((sy_i F 83) + ((2 : Int32))) := hd_o (hs 5 _ rfl) b83 rfl rfl
  have t93 : sy_dv F' (.inr (.inl 93)) = .int ((sy_i F 83) + ((3 : Int32))) := hd_o (hs 8 _ rfl) b83 rfl rfl
  have t96 : sy_dv F' (.inr (.inl 96)) = .int ((sy_i F 83) + ((4 : Int32))) := hd_o (hs 11 _ rfl) b83 rfl rfl
  have t99 : sy_dv F' (.inr (.inl 99)) = .int ((sy_i F 83) + ((5 : Int32))) := hd_o (hs 14 _ rfl) b83 rfl rfl
  have t102 : sy_dv F' (.inr (.inl 102)) = .int ((sy_i F 83) + ((6 : Int32))) := hd_o (hs 17 _ rfl) b83 rfl rfl
  have a59 := hd_ba (F := F) (F' := F') (k := 59) (hF 59 (by decide))
  have t103 : sy_dv F' (.inr (.inl 103)) = .int ((sy_ai F 59).getD (sy_i F 84).toNatClampNeg 0) := hd_rd (hs 18 _ rfl) b84 a59
  have a58 := hd_ba (F := F) (F' := F') (k := 58) (hF 58 (by decide))
  have t100 : sy_dv F' (.inr (.inl 100)) = .int ((sy_ai F 58).getD (sy_i F 84).toNatClampNeg 0) := hd_rd (hs 15 _ rfl) b84 a58
  have a57 := hd_ba (F := F) (F' := F') (k := 57) (hF 57 (by decide))
  have t97 : sy_dv F' (.inr (.inl 97)) = .int ((sy_ai F 57).getD (sy_i F 84).toNatClampNeg 0) := hd_rd (hs 12 _ rfl) b84 a57
  have a56 := hd_ba (F := F) (F' := F') (k := 56) (hF 56 (by decide))
  have t94 : sy_dv F' (.inr (.inl 94)) = .int ((sy_ai F 56).getD (sy_i F 84).toNatClampNeg 0) := hd_rd (hs 9 _ rfl) b84 a56
  have a55 := hd_ba (F := F) (F' := F') (k := 55) (hF 55 (by decide))
  have t91 : sy_dv F' (.inr (.inl 91)) = .int ((sy_ai F 55).getD (sy_i F 84).toNatClampNeg 0) := hd_rd (hs 6 _ rfl) b84 a55
  have a54 := hd_ba (F := F) (F' := F') (k := 54) (hF 54 (by decide))
  have t88 : sy_dv F' (.inr (.inl 88)) = .int ((sy_ai F 54).getD (sy_i F 84).toNatClampNeg 0) := hd_rd (hs 3 _ rfl) b84 a54
  have a53 := hd_ba (F := F) (F' := F') (k := 53) (hF 53 (by decide))
  have t85 : sy_dv F' (.inr (.inl 85)) = .int ((sy_ai F 53).getD (sy_i F 84).toNatClampNeg 0) := hd_rd (hs 0 _ rfl) b84 a53
  have a77 := hd_ba (F := F) (F' := F') (k := 77) (hF 77 (by decide))
  have t86 : sy_da F' (.inr (.inl 86)) = .inl (jm_upd (sy_ai F 77) (sy_i F 83).toNatClampNeg ((sy_ai F 53).getD (sy_i F 84).toNatClampNeg 0)) := hd_up (hs 1 _ rfl) b83 t85 a77
  have t89 : sy_da F' (.inr (.inl 89)) = .inl (jm_upd (jm_upd (sy_ai F 77) (sy_i F 83).toNatClampNeg ((sy_ai F 53).getD (sy_i F 84).toNatClampNeg 0)) ((sy_i F 83) + ((1 : Int32))).toNatClampNeg ((sy_ai F 54).getD (sy_i F 84).toNatClampNeg 0)) := hd_up (hs 4 _ rfl) t87 t88 t86
  have t92 : sy_da F' (.inr (.inl 92)) = .inl (jm_upd (jm_upd (jm_upd (sy_ai F 77) (sy_i F 83).toNatClampNeg ((sy_ai F 53).getD (sy_i F 84).toNatClampNeg 0)) ((sy_i F 83) + ((1 : Int32))).toNatClampNeg ((sy_ai F 54).getD (sy_i F 84).toNatClampNeg 0)) ((sy_i F 83) + ((2 : Int32))).toNatClampNeg ((sy_ai F 55).getD (sy_i F 84).toNatClampNeg 0)) := hd_up (hs 7 _ rfl) t90 t91 t89
  have t95 : sy_da F' (.inr (.inl 95)) = .inl (jm_upd (jm_upd (jm_upd (jm_upd (sy_ai F 77) (sy_i F 83).toNatClampNeg ((sy_ai F 53).getD (sy_i F 84).toNatClampNeg 0)) ((sy_i F 83) + ((1 : Int32))).toNatClampNeg ((sy_ai F 54).getD (sy_i F 84).toNatClampNeg 0)) ((sy_i F 83) + ((2 : Int32))).toNatClampNeg ((sy_ai F 55).getD (sy_i F 84).toNatClampNeg 0)) ((sy_i F 83) + ((3 : Int32))).toNatClampNeg ((sy_ai F 56).getD (sy_i F 84).toNatClampNeg 0)) := hd_up (hs 10 _ rfl) t93 t94 t92
  have t98 : sy_da F' (.inr (.inl 98)) = .inl (jm_upd (jm_upd (jm_upd (jm_upd (jm_upd (sy_ai F 77) (sy_i F 83).toNatClampNeg ((sy_ai F 53).getD (sy_i F 84).toNatClampNeg 0)) ((sy_i F 83) + ((1 : Int32))).toNatClampNeg ((sy_ai F 54).getD (sy_i F 84).toNatClampNeg 0)) ((sy_i F 83) + ((2 : Int32))).toNatClampNeg ((sy_ai F 55).getD (sy_i F 84).toNatClampNeg 0)) ((sy_i F 83) + ((3 : Int32))).toNatClampNeg ((sy_ai F 56).getD (sy_i F 84).toNatClampNeg 0)) ((sy_i F 83) + ((4 : Int32))).toNatClampNeg ((sy_ai F 57).getD (sy_i F 84).toNatClampNeg 0)) := hd_up (hs 13 _ rfl) t96 t97 t95
  have t101 : sy_da F' (.inr (.inl 101)) = .inl (jm_upd (jm_upd (jm_upd (jm_upd (jm_upd (jm_upd (sy_ai F 77) (sy_i F 83).toNatClampNeg ((sy_ai F 53).getD (sy_i F 84).toNatClampNeg 0)) ((sy_i F 83) + ((1 : Int32))).toNatClampNeg ((sy_ai F 54).getD (sy_i F 84).toNatClampNeg 0)) ((sy_i F 83) + ((2 : Int32))).toNatClampNeg ((sy_ai F 55).getD (sy_i F 84).toNatClampNeg 0)) ((sy_i F 83) + ((3 : Int32))).toNatClampNeg ((sy_ai F 56).getD (sy_i F 84).toNatClampNeg 0)) ((sy_i F 83) + ((4 : Int32))).toNatClampNeg ((sy_ai F 57).getD (sy_i F 84).toNatClampNeg 0)) ((sy_i F 83) + ((5 : Int32))).toNatClampNeg ((sy_ai F 58).getD (sy_i F 84).toNatClampNeg 0)) := hd_up (hs 16 _ rfl) t99 t100 t98
  have t104 : sy_da F' (.inr (.inl 104)) = .inl (jm_upd (jm_upd (jm_upd (jm_upd (jm_upd (jm_upd (jm_upd (sy_ai F 77) (sy_i F 83).toNatClampNeg ((sy_ai F 53).getD (sy_i F 84).toNatClampNeg 0)) ((sy_i F 83) + ((1 : Int32))).toNatClampNeg ((sy_ai F 54).getD (sy_i F 84).toNatClampNeg 0)) ((sy_i F 83) + ((2 : Int32))).toNatClampNeg ((sy_ai F 55).getD (sy_i F 84).toNatClampNeg 0)) ((sy_i F 83) + ((3 : Int32))).toNatClampNeg ((sy_ai F 56).getD (sy_i F 84).toNatClampNeg 0)) ((sy_i F 83) + ((4 : Int32))).toNatClampNeg ((sy_ai F 57).getD (sy_i F 84).toNatClampNeg 0)) ((sy_i F 83) + ((5 : Int32))).toNatClampNeg ((sy_ai F 58).getD (sy_i F 84).toNatClampNeg 0)) ((sy_i F 83) + ((6 : Int32))).toNatClampNeg ((sy_ai F 59).getD (sy_i F 84).toNatClampNeg 0)) := hd_up (hs 19 _ rfl) t102 t103 t101
  have b82 := hd_b (F := F) (F' := F') (k := 82) (hF 82 (by decide))
  have t105 : sy_dv F' (.inr (.inl 105)) = .int ((sy_i F 83) + ((7 : Int32))) := hd_o (hs 20 _ rfl) b83 rfl rfl
  have t106 : sy_dv F' (.inr (.inl 106)) = .int ((sy_i F 84) + ((1 : Int32))) := hd_o (hs 21 _ rfl) b84 rfl rfl
  have hB' : iv_in F' iv_B0 := iv_in_eq hB (fun j hj => hF j (Nat.lt_of_lt_of_le hj (by decide +kernel)))
  refine ⟨List.forall_mem_cons.mpr ⟨hd_p5 rfl b84 (by have hc : ((7) : Int32).toInt = 7 := (by decide); omega), List.forall_mem_cons.mpr ⟨hd_pb b84 (by first | exact h1 | exact h1), List.forall_mem_cons.mpr ⟨hd_pb b83 (by first | exact h2 | exact h2), List.forall_mem_cons.mpr ⟨hd_pb b84 (by first | exact h3 | exact h3), List.forall_mem_cons.mpr ⟨hd_pb t87 (by first | exact h4 | exact h4), List.forall_mem_cons.mpr ⟨hd_pb b84 (by first | exact h5 | exact h5), List.forall_mem_cons.mpr ⟨hd_pb t90 (by first | exact h6 | exact h6), List.forall_mem_cons.mpr ⟨hd_pb b84 (by first | exact h7 | exact h7), List.forall_mem_cons.mpr ⟨hd_pb t93 (by first | exact h8 | exact h8), List.forall_mem_cons.mpr ⟨hd_pb b84 (by first | exact h9 | exact h9), List.forall_mem_cons.mpr ⟨hd_pb t96 (by first | exact h10 | exact h10), List.forall_mem_cons.mpr ⟨hd_pb b84 (by first | exact h11 | exact h11), List.forall_mem_cons.mpr ⟨hd_pb t99 (by first | exact h12 | exact h12), List.forall_mem_cons.mpr ⟨hd_pb b84 (by first | exact h13 | exact h13), List.forall_mem_cons.mpr ⟨hd_pb t102 (by first | exact h14 | exact h14), fun _ h => absurd h List.not_mem_nil⟩⟩⟩⟩⟩⟩⟩⟩⟩⟩⟩⟩⟩⟩⟩, ?_⟩
  refine k _ ?_ ?_ ?_ ?_ ?_
  · exact fun j hj hn => (hd_keep hB' (Nat.lt_of_lt_of_le hj (by decide +kernel)) (by simp; omega)).trans (hF j (Nat.lt_of_lt_of_le hj (by decide)))
  · exact hd_ga (a := .inr (.inl 104)) (by decide +kernel) t104
  · exact hd_gi (x := .inr (.inl 82)) (by decide +kernel) b82
  · exact hd_gi (x := .inr (.inl 105)) (by decide +kernel) t105
  · exact hd_gi (x := .inr (.inl 106)) (by decide +kernel) t106
theorem j3svs_46 {Ls : Nat} {xs : Nat → Int32} {d : Nat} {Q : Option Value → jm_h → Prop} (hd : 1 ≤ d) (F : Nat → sy_d) (X1 X2 : List jm_c) (hB : iv_in F iv_B0)
    (a82 : 0 ≤ (sy_i F 82).toInt ∧ (sy_i F 82).toInt ≤ 120)
    (a83 : 3 ≤ (sy_i F 83).toInt ∧ (sy_i F 83).toInt ≤ 172)
    (a84 : 0 ≤ (sy_i F 84).toInt ∧ (sy_i F 84).toInt ≤ 7)
    (k0 : 7 ≤ (sy_i F 84).toInt → ∀ F1 : Nat → sy_d, iv_in F1 iv_B0 → (∀ j, j < 82 → j ∉ ([77] : List Nat) → F1 j = F j) → sy_ai F1 77 = jm_cpy (sy_ai F 61) (jm_cpy (sy_ai F 60) (sy_ai F 77) (0 : Int).toNat ((sy_i F 83).toInt).toNat (4 : Int).toNat) (0 : Int).toNat (((sy_i F 83).toInt + 4)).toNat (4 : Int).toNat → Q (none) (sy_dh F1 X1 X2 (iv_H 3)))
    (k1 : (sy_i F 84).toInt < 7 → ∀ F1 : Nat → sy_d, iv_in F1 iv_B0 → (∀ j, j < 82 → j ∉ ([77] : List Nat) → F1 j = F j) → sy_ai F1 77 = jm_upd (jm_upd (jm_upd (jm_upd (jm_upd (jm_upd (jm_upd (sy_ai F 77) ((sy_i F 83).toInt).toNat ((sy_ai F 53).getD ((sy_i F 84).toInt).toNat 0)) (((sy_i F 83).toInt + 1)).toNat ((sy_ai F 54).getD ((sy_i F 84).toInt).toNat 0)) (((sy_i F 83).toInt + 2)).toNat ((sy_ai F 55).getD ((sy_i F 84).toInt).toNat 0)) (((sy_i F 83).toInt + 3)).toNat ((sy_ai F 56).getD ((sy_i F 84).toInt).toNat 0)) (((sy_i F 83).toInt + 4)).toNat ((sy_ai F 57).getD ((sy_i F 84).toInt).toNat 0)) (((sy_i F 83).toInt + 5)).toNat ((sy_ai F 58).getD ((sy_i F 84).toInt).toNat 0)) (((sy_i F 83).toInt + 6)).toNat ((sy_ai F 59).getD ((sy_i F 84).toInt).toNat 0) → (sy_i F1 82).toInt = (sy_i F 82).toInt → sy_i F1 82 = sy_i F 82 → (sy_i F1 83).toInt = ((sy_i F 83).toInt + 7) → sy_i F1 83 = (sy_i F 83) + ((7 : Int32)) → (sy_i F1 84).toInt = ((sy_i F 84).toInt + 1) → sy_i F1 84 = (sy_i F 84) + ((1 : Int32)) → hd_W Ls xs d jm_M9 Q (46, sy_dL F1 [some (.inl (.ref 46)), some (.inl (.ref 68)), some (.inr (.inl 82)), some (.inr (.inl 83)), some (.inr (.inl 84))], sy_dS F1 [], sy_dh F1 X1 X2 (iv_H 3), 0, 0)) :
    hd_W Ls xs d jm_M9 Q (46, sy_dL F [some (.inl (.ref 46)), some (.inl (.ref 68)), some (.inr (.inl 82)), some (.inr (.inl 83)), some (.inr (.inl 84))], sy_dS F [], sy_dh F X1 X2 (iv_H 3), 0, 0) := by
  by_cases g0 : 7 ≤ (sy_i F 84).toInt
  · have n86 : nzI ((sy_i F 83) + ((4 : Int32))) (((sy_i F 83).toInt + 4)) := nz_add (rfl : (sy_i F 83).toInt = (sy_i F 83).toInt) (by decide : ((4 : Int32)).toInt = 4) (by omega) (by omega)
    have w87 : jm_cpy (sy_ai F 61) (jm_cpy (sy_ai F 60) (sy_ai F 77) ((0 : Int32)).toNatClampNeg (sy_i F 83).toNatClampNeg ((4 : Int32)).toNatClampNeg) ((0 : Int32)).toNatClampNeg ((sy_i F 83) + ((4 : Int32))).toNatClampNeg ((4 : Int32)).toNatClampNeg = jm_cpy (sy_ai F 61) (jm_cpy (sy_ai F 60) (sy_ai F 77) (0 : Int).toNat ((sy_i F 83).toInt).toNat (4 : Int).toNat) (0 : Int).toNat (((sy_i F 83).toInt + 4)).toNat (4 : Int).toNat := by simp only [nz_c, (nzE n86), (by decide : ((0 : Int32)).toInt = 0), (by decide : ((4 : Int32)).toInt = 4)]
    exact j3svs_46_p0 hd F X1 X2 hB (by first | exact g0 | (simp only [nz_c]; exact g0)) (by first | exact ⟨by omega, by omega⟩ | (simp only [nz_c]; exact ⟨by omega, by omega⟩)) (by first | (simp only [nz_c, (nzE n86)]; exact ⟨by omega, by omega⟩) | exact ⟨by omega, by omega⟩ | (rw [(nzE n86)]; exact ⟨by omega, by omega⟩)) (fun F1 g e77 => k0 g0 F1 (nz_in0 hB [77] (fun j hj hn => g j hj (by simp only [List.mem_cons, List.not_mem_nil, or_false, not_or] at hn; omega)) (List.forall_mem_cons.mpr ⟨fun t ht => (Option.some.inj ht) ▸ (nz_hz2 e77), List.forall_mem_nil _⟩)) (fun j hj hn => g j hj (by simp only [List.mem_cons, List.not_mem_nil, or_false, not_or] at hn; omega)) ((zz_ai e77).trans w87))
  replace g0 : (sy_i F 84).toInt < 7 := by omega
  have n87 : nzI ((sy_i F 83) + ((1 : Int32))) (((sy_i F 83).toInt + 1)) := nz_add (rfl : (sy_i F 83).toInt = (sy_i F 83).toInt) (by decide : ((1 : Int32)).toInt = 1) (by omega) (by omega)
  have n90 : nzI ((sy_i F 83) + ((2 : Int32))) (((sy_i F 83).toInt + 2)) := nz_add (rfl : (sy_i F 83).toInt = (sy_i F 83).toInt) (by decide : ((2 : Int32)).toInt = 2) (by omega) (by omega)
  have n93 : nzI ((sy_i F 83) + ((3 : Int32))) (((sy_i F 83).toInt + 3)) := nz_add (rfl : (sy_i F 83).toInt = (sy_i F 83).toInt) (by decide : ((3 : Int32)).toInt = 3) (by omega) (by omega)
  have n96 : nzI ((sy_i F 83) + ((4 : Int32))) (((sy_i F 83).toInt + 4)) := nz_add (rfl : (sy_i F 83).toInt = (sy_i F 83).toInt) (by decide : ((4 : Int32)).toInt = 4) (by omega) (by omega)
  have n99 : nzI ((sy_i F 83) + ((5 : Int32))) (((sy_i F 83).toInt + 5)) := nz_add (rfl : (sy_i F 83).toInt = (sy_i F 83).toInt) (by decide : ((5 : Int32)).toInt = 5) (by omega) (by omega)
  have n102 : nzI ((sy_i F 83) + ((6 : Int32))) (((sy_i F 83).toInt + 6)) := nz_add (rfl : (sy_i F 83).toInt = (sy_i F 83).toInt) (by decide : ((6 : Int32)).toInt = 6) (by omega) (by omega)
  have w104 : jm_upd (jm_upd (jm_upd (jm_upd (jm_upd (jm_upd (jm_upd (sy_ai F 77) (sy_i F 83).toNatClampNeg ((sy_ai F 53).getD (sy_i F 84).toNatClampNeg 0)) ((sy_i F 83) + ((1 : Int32))).toNatClampNeg ((sy_ai F 54).getD (sy_i F 84).toNatClampNeg 0)) ((sy_i F 83) + ((2 : Int32))).toNatClampNeg ((sy_ai F 55).getD (sy_i F 84).toNatClampNeg 0)) ((sy_i F 83) + ((3 : Int32))).toNatClampNeg ((sy_ai F 56).getD (sy_i F 84).toNatClampNeg 0)) ((sy_i F 83) + ((4 : Int32))).toNatClampNeg ((sy_ai F 57).getD (sy_i F 84).toNatClampNeg 0)) ((sy_i F 83) + ((5 : Int32))).toNatClampNeg ((sy_ai F 58).getD (sy_i F 84).toNatClampNeg 0)) ((sy_i F 83) + ((6 : Int32))).toNatClampNeg ((sy_ai F 59).getD (sy_i F 84).toNatClampNeg 0) = jm_upd (jm_upd (jm_upd (jm_upd (jm_upd (jm_upd (jm_upd (sy_ai F 77) ((sy_i F 83).toInt).toNat ((sy_ai F 53).getD ((sy_i F 84).toInt).toNat 0)) (((sy_i F 83).toInt + 1)).toNat ((sy_ai F 54).getD ((sy_i F 84).toInt).toNat 0)) (((sy_i F 83).toInt + 2)).toNat ((sy_ai F 55).getD ((sy_i F 84).toInt).toNat 0)) (((sy_i F 83).toInt + 3)).toNat ((sy_ai F 56).getD ((sy_i F 84).toInt).toNat 0)) (((sy_i F 83).toInt + 4)).toNat ((sy_ai F 57).getD ((sy_i F 84).toInt).toNat 0)) (((sy_i F 83).toInt + 5)).toNat ((sy_ai F 58).getD ((sy_i F 84).toInt).toNat 0)) (((sy_i F 83).toInt + 6)).toNat ((sy_ai F 59).getD ((sy_i F 84).toInt).toNat 0) := by simp only [nz_c, (nzE n87), (nzE n90), (nzE n93), (nzE n96), (nzE n99), (nzE n102), (by decide : ((1 : Int32)).toInt = 1), (by decide : ((2 : Int32)).toInt = 2), (by decide : ((3 : Int32)).toInt = 3), (by decide : ((4 : Int32)).toInt = 4), (by decide : ((5 : Int32)).toInt = 5), (by decide : ((6 : Int32)).toInt = 6)]
  have n105 : nzI ((sy_i F 83) + ((7 : Int32))) (((sy_i F 83).toInt + 7)) := nz_add (rfl : (sy_i F 83).toInt = (sy_i F 83).toInt) (by decide : ((7 : Int32)).toInt = 7) (by omega) (by omega)
  have n106 : nzI ((sy_i F 84) + ((1 : Int32))) (((sy_i F 84).toInt + 1)) := nz_add (rfl : (sy_i F 84).toInt = (sy_i F 84).toInt) (by decide : ((1 : Int32)).toInt = 1) (by omega) (by omega)
  exact j3svs_46_p1 hd F X1 X2 hB (by first | exact g0 | (simp only [nz_c]; exact g0)) (by first | exact ⟨by omega, by omega⟩ | (simp only [nz_c]; exact ⟨by omega, by omega⟩)) (by first | exact ⟨by omega, by omega⟩ | (simp only [nz_c]; exact ⟨by omega, by omega⟩)) (by first | exact ⟨by omega, by omega⟩ | (simp only [nz_c]; exact ⟨by omega, by omega⟩)) (by first | (simp only [nz_c, (nzE n87)]; exact ⟨by omega, by omega⟩) | exact ⟨by omega, by omega⟩ | (rw [(nzE n87)]; exact ⟨by omega, by omega⟩)) (by first | exact ⟨by omega, by omega⟩ | (simp only [nz_c]; exact ⟨by omega, by omega⟩)) (by first | (simp only [nz_c, (nzE n90)]; exact ⟨by omega, by omega⟩) | exact ⟨by omega, by omega⟩ | (rw [(nzE n90)]; exact ⟨by omega, by omega⟩)) (by first | exact ⟨by omega, by omega⟩ | (simp only [nz_c]; exact ⟨by omega, by omega⟩)) (by first | (simp only [nz_c, (nzE n93)]; exact ⟨by omega, by omega⟩) | exact ⟨by omega, by omega⟩ | (rw [(nzE n93)]; exact ⟨by omega, by omega⟩)) (by first | exact ⟨by omega, by omega⟩ | (simp only [nz_c]; exact ⟨by omega, by omega⟩)) (by first | (simp only [nz_c, (nzE n96)]; exact ⟨by omega, by omega⟩) | exact ⟨by omega, by omega⟩ | (rw [(nzE n96)]; exact ⟨by omega, by omega⟩)) (by first | exact ⟨by omega, by omega⟩ | (simp only [nz_c]; exact ⟨by omega, by omega⟩)) (by first | (simp only [nz_c, (nzE n99)]; exact ⟨by omega, by omega⟩) | exact ⟨by omega, by omega⟩ | (rw [(nzE n99)]; exact ⟨by omega, by omega⟩)) (by first | exact ⟨by omega, by omega⟩ | (simp only [nz_c]; exact ⟨by omega, by omega⟩)) (by first | (simp only [nz_c, (nzE n102)]; exact ⟨by omega, by omega⟩) | exact ⟨by omega, by omega⟩ | (rw [(nzE n102)]; exact ⟨by omega, by omega⟩)) (fun F1 g e77 e82 e83 e84 => k1 g0 F1 (nz_in0 hB [77] (fun j hj hn => g j hj (by simp only [List.mem_cons, List.not_mem_nil, or_false, not_or] at hn; omega)) (List.forall_mem_cons.mpr ⟨fun t ht => (Option.some.inj ht) ▸ (nz_hz2 e77), List.forall_mem_nil _⟩)) (fun j hj hn => g j hj (by simp only [List.mem_cons, List.not_mem_nil, or_false, not_or] at hn; omega)) ((zz_ai e77).trans w104) ((congrArg Int32.toInt (zz_i e82)).trans (rfl : (sy_i F 82).toInt = (sy_i F 82).toInt)) ((zz_i e82).trans (rfl : sy_i F 82 = sy_i F 82)) ((congrArg Int32.toInt (zz_i e83)).trans (nzE n105)) ((zz_i e83).trans (rfl : (sy_i F 83) + ((7 : Int32)) = (sy_i F 83) + ((7 : Int32)))) ((congrArg Int32.toInt (zz_i e84)).trans (nzE n106)) ((zz_i e84).trans (rfl : (sy_i F 84) + ((1 : Int32)) = (sy_i F 84) + ((1 : Int32)))))
theorem j3lds_0_p0 {Ls : Nat} {xs : Nat → Int32} {d : Nat} {Q : Option Value → jm_h → Prop} (hd : 1 ≤ d) (F : Nat → sy_d) (X1 X2 : List jm_c) (hB : iv_in F iv_B0)
    (h0 : 0 ≤ (sy_i F 82).toInt)
    (h1 : (sy_i F 82).toInt ≤ 120)
    (h2 : 0 ≤ (sy_i F 82).toInt ∧ (sy_i F 82).toInt < 180)
    (h3 : 0 ≤ ((sy_i F 82) + ((1 : Int32))).toInt ∧ ((sy_i F 82) + ((1 : Int32))).toInt < 180)
    (h4 : 0 ≤ ((sy_i F 82) + ((2 : Int32))).toInt ∧ ((sy_i F 82) + ((2 : Int32))).toInt < 180)
    (k : ∀ F1 : Nat → sy_d, (∀ j, j < 82 → j ≠ 50 ∧ j ≠ 51 ∧ j ≠ 52 → F1 j = F j) → F1 50 = .inl (.int ((sy_ai F 77).getD (sy_i F 82).toNatClampNeg 0)) → F1 51 = .inl (.int ((sy_ai F 77).getD ((sy_i F 82) + ((1 : Int32))).toNatClampNeg 0)) → F1 52 = .inl (.int ((sy_ai F 77).getD ((sy_i F 82) + ((2 : Int32))).toNatClampNeg 0)) → F1 82 = .inl (.int (sy_i F 82)) → F1 83 = .inl (.int ((sy_i F 82) + ((3 : Int32)))) → F1 84 = .inl (.int ((0 : Int32))) → hd_W Ls xs d jm_M10 Q (46, sy_dL F1 [some (.inl (.ref 46)), some (.inl (.ref 68)), some (.inr (.inl 82)), some (.inr (.inl 83)), some (.inr (.inl 84))], sy_dS F1 [], sy_dh F1 X1 X2 (iv_H 3), 0, 0)) :
    hd_W Ls xs d jm_M10 Q (0, sy_dL F [some (.inl (.ref 46)), some (.inl (.ref 68)), some (.inr (.inl 82)), none, none], sy_dS F [], sy_dh F X1 X2 (iv_H 3), 0, 0) := by
  refine hd_run (s := 3) (nv := 83) (pc := 46) (L := [some (.inl (.ref 46)), some (.inl (.ref 68)), some (.inr (.inl 82)), some (.inr (.inl 83)), some (.inr (.inl 84))]) (S := []) (uh := hd_ov (iv_id 0 iv_B0) [(50, .inl (.inr (.inl 83))), (51, .inl (.inr (.inl 85))), (52, .inl (.inr (.inl 87)))]) (ul := [.inl (.inr (.inl 82)), .inl (.inr (.inl 88)), .inl (.inl (.int 0))]) (f := true) (sp := [46]) (d0 := 0) (O := [false, true]) (T := [(30, [.inr (.inl 82)], [.inr (.inl 77)]), (0, [.inr (.inl 82), .inl (.int 1)], []), (30, [.inr (.inl 84)], [.inr (.inl 77)]), (0, [.inr (.inl 82), .inl (.int 2)], []), (30, [.inr (.inl 86)], [.inr (.inl 77)]), (0, [.inr (.inl 82), .inl (.int 3)], [])]) (P := [(3, .inr (.inl 82), .inl (.int 0)), (4, .inr (.inl 82), .inl (.int 120)), (6, .inr (.inl 82), .inl (.ref 180)), (6, .inr (.inl 84), .inl (.ref 180)), (6, .inr (.inl 86), .inl (.ref 180))]) jm_ok10 (by decide +kernel) (by decide +kernel) hd F X1 X2 (fun F' hF hs => ?_)
  have b82 := hd_b (F := F) (F' := F') (k := 82) (hF 82 (by decide))
  have t84 : sy_dv F' (.inr (.inl 84)) = .int ((sy_i F 82) + ((1 : Int32))) := hd_o (hs 1 _ rfl) b82 rfl rfl
  have t86 : sy_dv F' (.inr (.inl 86)) = .int ((sy_i F 82) + ((2 : Int32))) := hd_o (hs 3 _ rfl) b82 rfl rfl
  have a77 := hd_ba (F := F) (F' := F') (k := 77) (hF 77 (by decide))
  have t83 : sy_dv F' (.inr (.inl 83)) = .int ((sy_ai F 77).getD (sy_i F 82).toNatClampNeg 0) := hd_rd (hs 0 _ rfl) b82 a77
  have t85 : sy_dv F' (.inr (.inl 85)) = .int ((sy_ai F 77).getD ((sy_i F 82) + ((1 : Int32))).toNatClampNeg 0) := hd_rd (hs 2 _ rfl) t84 a77
  have t87 : sy_dv F' (.inr (.inl 87)) = .int ((sy_ai F 77).getD ((sy_i F 82) + ((2 : Int32))).toNatClampNeg 0) := hd_rd (hs 4 _ rfl) t86 a77
  have t88 : sy_dv F' (.inr (.inl 88)) = .int ((sy_i F 82) + ((3 : Int32))) := hd_o (hs 5 _ rfl) b82 rfl rfl
  have hB' : iv_in F' iv_B0 := iv_in_eq hB (fun j hj => hF j (Nat.lt_of_lt_of_le hj (by decide +kernel)))
  refine ⟨List.forall_mem_cons.mpr ⟨hd_p3 b82 rfl (by have hc : ((0) : Int32).toInt = 0 := (by decide); omega), List.forall_mem_cons.mpr ⟨hd_p4 b82 rfl (by have hc : ((120) : Int32).toInt = 120 := (by decide); omega), List.forall_mem_cons.mpr ⟨hd_pb b82 (by first | exact h2 | exact h2), List.forall_mem_cons.mpr ⟨hd_pb t84 (by first | exact h3 | exact h3), List.forall_mem_cons.mpr ⟨hd_pb t86 (by first | exact h4 | exact h4), fun _ h => absurd h List.not_mem_nil⟩⟩⟩⟩⟩, ?_⟩
  refine k _ ?_ ?_ ?_ ?_ ?_ ?_ ?_
  · exact fun j hj hn => (hd_keep hB' (Nat.lt_of_lt_of_le hj (by decide +kernel)) (by simp; omega)).trans (hF j (Nat.lt_of_lt_of_le hj (by decide)))
  · exact hd_gi (x := .inr (.inl 83)) (by decide +kernel) t83
  · exact hd_gi (x := .inr (.inl 85)) (by decide +kernel) t85
  · exact hd_gi (x := .inr (.inl 87)) (by decide +kernel) t87
  · exact hd_gi (x := .inr (.inl 82)) (by decide +kernel) b82
  · exact hd_gi (x := .inr (.inl 88)) (by decide +kernel) t88
  · exact hd_gi (x := .inl (.int 0)) (by decide +kernel) rfl
theorem j3lds_0 {Ls : Nat} {xs : Nat → Int32} {d : Nat} {Q : Option Value → jm_h → Prop} (hd : 1 ≤ d) (F : Nat → sy_d) (X1 X2 : List jm_c) (hB : iv_in F iv_B0)
    (a82 : 0 ≤ (sy_i F 82).toInt ∧ (sy_i F 82).toInt ≤ 120)
    (k0 : 0 ≤ (sy_i F 82).toInt → (sy_i F 82).toInt ≤ 120 → ∀ F1 : Nat → sy_d, iv_in F1 iv_B0 → (∀ j, j < 82 → j ∉ ([50, 51, 52] : List Nat) → F1 j = F j) → (sy_i F1 50).toInt = ((sy_ai F 77).getD ((sy_i F 82).toInt).toNat 0).toInt → sy_i F1 50 = (sy_ai F 77).getD ((sy_i F 82).toInt).toNat 0 → (sy_i F1 51).toInt = ((sy_ai F 77).getD (((sy_i F 82).toInt + 1)).toNat 0).toInt → sy_i F1 51 = (sy_ai F 77).getD (((sy_i F 82).toInt + 1)).toNat 0 → (sy_i F1 52).toInt = ((sy_ai F 77).getD (((sy_i F 82).toInt + 2)).toNat 0).toInt → sy_i F1 52 = (sy_ai F 77).getD (((sy_i F 82).toInt + 2)).toNat 0 → (sy_i F1 82).toInt = (sy_i F 82).toInt → sy_i F1 82 = sy_i F 82 → (sy_i F1 83).toInt = ((sy_i F 82).toInt + 3) → sy_i F1 83 = (sy_i F 82) + ((3 : Int32)) → (sy_i F1 84).toInt = 0 → sy_i F1 84 = (0 : Int32) → hd_W Ls xs d jm_M10 Q (46, sy_dL F1 [some (.inl (.ref 46)), some (.inl (.ref 68)), some (.inr (.inl 82)), some (.inr (.inl 83)), some (.inr (.inl 84))], sy_dS F1 [], sy_dh F1 X1 X2 (iv_H 3), 0, 0)) :
    hd_W Ls xs d jm_M10 Q (0, sy_dL F [some (.inl (.ref 46)), some (.inl (.ref 68)), some (.inr (.inl 82)), none, none], sy_dS F [], sy_dh F X1 X2 (iv_H 3), 0, 0) := by
  by_cases g0 : (sy_i F 82).toInt < 0
  · exfalso
    omega
  replace g0 : 0 ≤ (sy_i F 82).toInt := by omega
  by_cases g1 : (sy_i F 82).toInt ≤ 120
  · have n84 : nzI ((sy_i F 82) + ((1 : Int32))) (((sy_i F 82).toInt + 1)) := nz_add (rfl : (sy_i F 82).toInt = (sy_i F 82).toInt) (by decide : ((1 : Int32)).toInt = 1) (by omega) (by omega)
    have n86 : nzI ((sy_i F 82) + ((2 : Int32))) (((sy_i F 82).toInt + 2)) := nz_add (rfl : (sy_i F 82).toInt = (sy_i F 82).toInt) (by decide : ((2 : Int32)).toInt = 2) (by omega) (by omega)
    have q83 : (sy_ai F 77).getD (sy_i F 82).toNatClampNeg 0 = (sy_ai F 77).getD ((sy_i F 82).toInt).toNat 0 := by simp only [nz_c]
    have n83 : nzI ((sy_ai F 77).getD (sy_i F 82).toNatClampNeg 0) (((sy_ai F 77).getD ((sy_i F 82).toInt).toNat 0).toInt) := congrArg Int32.toInt q83
    have q85 : (sy_ai F 77).getD ((sy_i F 82) + ((1 : Int32))).toNatClampNeg 0 = (sy_ai F 77).getD (((sy_i F 82).toInt + 1)).toNat 0 := by simp only [nz_c, (nzE n84), (by decide : ((1 : Int32)).toInt = 1)]
    have n85 : nzI ((sy_ai F 77).getD ((sy_i F 82) + ((1 : Int32))).toNatClampNeg 0) (((sy_ai F 77).getD (((sy_i F 82).toInt + 1)).toNat 0).toInt) := congrArg Int32.toInt q85
    have q87 : (sy_ai F 77).getD ((sy_i F 82) + ((2 : Int32))).toNatClampNeg 0 = (sy_ai F 77).getD (((sy_i F 82).toInt + 2)).toNat 0 := by simp only [nz_c, (nzE n86), (by decide : ((2 : Int32)).toInt = 2)]
    have n87 : nzI ((sy_ai F 77).getD ((sy_i F 82) + ((2 : Int32))).toNatClampNeg 0) (((sy_ai F 77).getD (((sy_i F 82).toInt + 2)).toNat 0).toInt) := congrArg Int32.toInt q87
    have n88 : nzI ((sy_i F 82) + ((3 : Int32))) (((sy_i F 82).toInt + 3)) := nz_add (rfl : (sy_i F 82).toInt = (sy_i F 82).toInt) (by decide : ((3 : Int32)).toInt = 3) (by omega) (by omega)
    exact j3lds_0_p0 hd F X1 X2 hB (by first | exact g0 | (simp only [nz_c]; exact g0)) (by first | exact g1 | (simp only [nz_c]; exact g1)) (by first | exact ⟨by omega, by omega⟩ | (simp only [nz_c]; exact ⟨by omega, by omega⟩)) (by first | (simp only [nz_c, (nzE n84)]; exact ⟨by omega, by omega⟩) | exact ⟨by omega, by omega⟩ | (rw [(nzE n84)]; exact ⟨by omega, by omega⟩)) (by first | (simp only [nz_c, (nzE n86)]; exact ⟨by omega, by omega⟩) | exact ⟨by omega, by omega⟩ | (rw [(nzE n86)]; exact ⟨by omega, by omega⟩)) (fun F1 g e50 e51 e52 e82 e83 e84 => k0 g0 g1 F1 (nz_in0 hB [50, 51, 52] (fun j hj hn => g j hj (by simp only [List.mem_cons, List.not_mem_nil, or_false, not_or] at hn; omega)) (List.forall_mem_cons.mpr ⟨fun t ht => (Option.some.inj ht) ▸ (nz_hz e50), List.forall_mem_cons.mpr ⟨fun t ht => (Option.some.inj ht) ▸ (nz_hz e51), List.forall_mem_cons.mpr ⟨fun t ht => (Option.some.inj ht) ▸ (nz_hz e52), List.forall_mem_nil _⟩⟩⟩)) (fun j hj hn => g j hj (by simp only [List.mem_cons, List.not_mem_nil, or_false, not_or] at hn; omega)) ((congrArg Int32.toInt (zz_i e50)).trans (nzE n83)) ((zz_i e50).trans q83) ((congrArg Int32.toInt (zz_i e51)).trans (nzE n85)) ((zz_i e51).trans q85) ((congrArg Int32.toInt (zz_i e52)).trans (nzE n87)) ((zz_i e52).trans q87) ((congrArg Int32.toInt (zz_i e82)).trans (rfl : (sy_i F 82).toInt = (sy_i F 82).toInt)) ((zz_i e82).trans (rfl : sy_i F 82 = sy_i F 82)) ((congrArg Int32.toInt (zz_i e83)).trans (nzE n88)) ((zz_i e83).trans (rfl : (sy_i F 82) + ((3 : Int32)) = (sy_i F 82) + ((3 : Int32)))) ((congrArg Int32.toInt (zz_i e84)).trans (by decide : ((0 : Int32)).toInt = 0)) ((zz_i e84).trans (rfl : (0 : Int32) = (0 : Int32))))
  replace g1 : 120 < (sy_i F 82).toInt := by omega
  exfalso
  omega
theorem j3lds_46_p0 {Ls : Nat} {xs : Nat → Int32} {d : Nat} {Q : Option Value → jm_h → Prop} (hd : 1 ≤ d) (F : Nat → sy_d) (X1 X2 : List jm_c) (hB : iv_in F iv_B0)
    (h0 : 7 ≤ (sy_i F 84).toInt)
    (h1 : 0 ≤ (sy_i F 83).toInt ∧ (sy_i F 83).toInt < 177)
    (h2 : 0 ≤ ((sy_i F 83) + ((4 : Int32))).toInt ∧ ((sy_i F 83) + ((4 : Int32))).toInt < 177)
    (k : ∀ F1 : Nat → sy_d, (∀ j, j < 82 → j ≠ 60 ∧ j ≠ 61 → F1 j = F j) → F1 60 = .inr (.inl (jm_cpy (sy_ai F 77) (sy_ai F 60) (sy_i F 83).toNatClampNeg ((0 : Int32)).toNatClampNeg ((4 : Int32)).toNatClampNeg)) → F1 61 = .inr (.inl (jm_cpy (sy_ai F 77) (sy_ai F 61) ((sy_i F 83) + ((4 : Int32))).toNatClampNeg ((0 : Int32)).toNatClampNeg ((4 : Int32)).toNatClampNeg)) → Q (none) (sy_dh F1 X1 X2 (iv_H 3))) :
    hd_W Ls xs d jm_M10 Q (46, sy_dL F [some (.inl (.ref 46)), some (.inl (.ref 68)), some (.inr (.inl 82)), some (.inr (.inl 83)), some (.inr (.inl 84))], sy_dS F [], sy_dh F X1 X2 (iv_H 3), 0, 0) := by
  refine hd_ret (s := 3) (nv := 85) (v := none) (uh := hd_ov (iv_id 0 iv_B0) [(60, .inr (.inr (.inl 85))), (61, .inr (.inr (.inl 87)))]) (f := true) (sp := [46]) (d0 := 0) (O := [true]) (T := [(42, [.inr (.inl 83), .inl (.int 0), .inl (.int 4)], [.inr (.inl 77), .inr (.inl 60)]), (0, [.inr (.inl 83), .inl (.int 4)], []), (42, [.inr (.inl 86), .inl (.int 0), .inl (.int 4)], [.inr (.inl 77), .inr (.inl 61)])]) (P := [(4, .inl (.int 7), .inr (.inl 84)), (6, .inr (.inl 83), .inl (.ref 177)), (6, .inr (.inl 86), .inl (.ref 177))]) jm_ok10 (by decide +kernel) (by decide +kernel) hd F X1 X2 (fun F' hF hs => ?_)
  have b84 := hd_b (F := F) (F' := F') (k := 84) (hF 84 (by decide))
  have b83 := hd_b (F := F) (F' := F') (k := 83) (hF 83 (by decide))
  have t86 : sy_dv F' (.inr (.inl 86)) = .int ((sy_i F 83) + ((4 : Int32))) := hd_o (hs 1 _ rfl) b83 rfl rfl
  have a77 := hd_ba (F := F) (F' := F') (k := 77) (hF 77 (by decide))
  have a60 := hd_ba (F := F) (F' := F') (k := 60) (hF 60 (by decide))
  have t85 : sy_da F' (.inr (.inl 85)) = .inl (jm_cpy (sy_ai F 77) (sy_ai F 60) (sy_i F 83).toNatClampNeg ((0 : Int32)).toNatClampNeg ((4 : Int32)).toNatClampNeg) := hd_cp (hs 0 _ rfl) b83 rfl rfl a77 a60
  have a61 := hd_ba (F := F) (F' := F') (k := 61) (hF 61 (by decide))
  have t87 : sy_da F' (.inr (.inl 87)) = .inl (jm_cpy (sy_ai F 77) (sy_ai F 61) ((sy_i F 83) + ((4 : Int32))).toNatClampNeg ((0 : Int32)).toNatClampNeg ((4 : Int32)).toNatClampNeg) := hd_cp (hs 2 _ rfl) t86 rfl rfl a77 a61
  have hB' : iv_in F' iv_B0 := iv_in_eq hB (fun j hj => hF j (Nat.lt_of_lt_of_le hj (by decide +kernel)))
  refine ⟨List.forall_mem_cons.mpr ⟨hd_p4 rfl b84 (by have hc : ((7) : Int32).toInt = 7 := (by decide); omega), List.forall_mem_cons.mpr ⟨hd_pb b83 (by first | exact h1 | exact h1), List.forall_mem_cons.mpr ⟨hd_pb t86 (by first | exact h2 | exact h2), fun _ h => absurd h List.not_mem_nil⟩⟩⟩, ?_⟩
  refine k _ ?_ ?_ ?_
  · exact fun j hj hn => (hd_keep hB' (Nat.lt_of_lt_of_le hj (by decide +kernel)) (by simp; omega)).trans (hF j (Nat.lt_of_lt_of_le hj (by decide)))
  · exact hd_ga (a := .inr (.inl 85)) (by decide +kernel) t85
  · exact hd_ga (a := .inr (.inl 87)) (by decide +kernel) t87
theorem j3lds_46_p1 {Ls : Nat} {xs : Nat → Int32} {d : Nat} {Q : Option Value → jm_h → Prop} (hd : 1 ≤ d) (F : Nat → sy_d) (X1 X2 : List jm_c) (hB : iv_in F iv_B0)
    (h0 : (sy_i F 84).toInt < 7)
    (h1 : 0 ≤ (sy_i F 83).toInt ∧ (sy_i F 83).toInt < 180)
    (h2 : 0 ≤ (sy_i F 84).toInt ∧ (sy_i F 84).toInt < 7)
    (h3 : 0 ≤ ((sy_i F 83) + ((1 : Int32))).toInt ∧ ((sy_i F 83) + ((1 : Int32))).toInt < 180)
    (h4 : 0 ≤ (sy_i F 84).toInt ∧ (sy_i F 84).toInt < 7)
    (h5 : 0 ≤ ((sy_i F 83) + ((2 : Int32))).toInt ∧ ((sy_i F 83) + ((2 : Int32))).toInt < 180)
    (h6 : 0 ≤ (sy_i F 84).toInt ∧ (sy_i F 84).toInt < 7)
    (h7 : 0 ≤ ((sy_i F 83) + ((3 : Int32))).toInt ∧ ((sy_i F 83) + ((3 : Int32))).toInt < 180)
    (h8 : 0 ≤ (sy_i F 84).toInt ∧ (sy_i F 84).toInt < 7)
    (h9 : 0 ≤ ((sy_i F 83) + ((4 : Int32))).toInt ∧ ((sy_i F 83) + ((4 : Int32))).toInt < 180)
    (h10 : 0 ≤ (sy_i F 84).toInt ∧ (sy_i F 84).toInt < 7)
    (h11 : 0 ≤ ((sy_i F 83) + ((5 : Int32))).toInt ∧ ((sy_i F 83) + ((5 : Int32))).toInt < 180)
    (h12 : 0 ≤ (sy_i F 84).toInt ∧ (sy_i F 84).toInt < 7)
    (h13 : 0 ≤ ((sy_i F 83) + ((6 : Int32))).toInt ∧ ((sy_i F 83) + ((6 : Int32))).toInt < 180)
    (h14 : 0 ≤ (sy_i F 84).toInt ∧ (sy_i F 84).toInt < 7)
    (k : ∀ F1 : Nat → sy_d, (∀ j, j < 82 → j ≠ 53 ∧ j ≠ 54 ∧ j ≠ 55 ∧ j ≠ 56 ∧ j ≠ 57 ∧ j ≠ 58 ∧ j ≠ 59 → F1 j = F j) → F1 53 = .inr (.inl (jm_upd (sy_ai F 53) (sy_i F 84).toNatClampNeg ((sy_ai F 77).getD (sy_i F 83).toNatClampNeg 0))) → F1 54 = .inr (.inl (jm_upd (sy_ai F 54) (sy_i F 84).toNatClampNeg ((sy_ai F 77).getD ((sy_i F 83) + ((1 : Int32))).toNatClampNeg 0))) → F1 55 = .inr (.inl (jm_upd (sy_ai F 55) (sy_i F 84).toNatClampNeg ((sy_ai F 77).getD ((sy_i F 83) + ((2 : Int32))).toNatClampNeg 0))) → F1 56 = .inr (.inl (jm_upd (sy_ai F 56) (sy_i F 84).toNatClampNeg ((sy_ai F 77).getD ((sy_i F 83) + ((3 : Int32))).toNatClampNeg 0))) → F1 57 = .inr (.inl (jm_upd (sy_ai F 57) (sy_i F 84).toNatClampNeg ((sy_ai F 77).getD ((sy_i F 83) + ((4 : Int32))).toNatClampNeg 0))) → F1 58 = .inr (.inl (jm_upd (sy_ai F 58) (sy_i F 84).toNatClampNeg ((sy_ai F 77).getD ((sy_i F 83) + ((5 : Int32))).toNatClampNeg 0))) → F1 59 = .inr (.inl (jm_upd (sy_ai F 59) (sy_i F 84).toNatClampNeg ((sy_ai F 77).getD ((sy_i F 83) + ((6 : Int32))).toNatClampNeg 0))) → F1 82 = .inl (.int (sy_i F 82)) → F1 83 = .inl (.int ((sy_i F 83) + ((7 : Int32)))) → F1 84 = .inl (.int ((sy_i F 84) + ((1 : Int32)))) → hd_W Ls xs d jm_M10 Q (46, sy_dL F1 [some (.inl (.ref 46)), some (.inl (.ref 68)), some (.inr (.inl 82)), some (.inr (.inl 83)), some (.inr (.inl 84))], sy_dS F1 [], sy_dh F1 X1 X2 (iv_H 3), 0, 0)) :
    hd_W Ls xs d jm_M10 Q (46, sy_dL F [some (.inl (.ref 46)), some (.inl (.ref 68)), some (.inr (.inl 82)), some (.inr (.inl 83)), some (.inr (.inl 84))], sy_dS F [], sy_dh F X1 X2 (iv_H 3), 0, 0) := by
  refine hd_run (s := 3) (nv := 85) (pc := 46) (L := [some (.inl (.ref 46)), some (.inl (.ref 68)), some (.inr (.inl 82)), some (.inr (.inl 83)), some (.inr (.inl 84))]) (S := []) (uh := hd_ov (iv_id 0 iv_B0) [(53, .inr (.inr (.inl 86))), (54, .inr (.inr (.inl 89))), (55, .inr (.inr (.inl 92))), (56, .inr (.inr (.inl 95))), (57, .inr (.inr (.inl 98))), (58, .inr (.inr (.inl 101))), (59, .inr (.inr (.inl 104)))]) (ul := [.inl (.inr (.inl 82)), .inl (.inr (.inl 105)), .inl (.inr (.inl 106))]) (f := true) (sp := [46]) (d0 := 0) (O := [false]) (T := [(30, [.inr (.inl 83)], [.inr (.inl 77)]), (40, [.inr (.inl 84), .inr (.inl 85)], [.inr (.inl 53)]), (0, [.inr (.inl 83), .inl (.int 1)], []), (30, [.inr (.inl 87)], [.inr (.inl 77)]), (40, [.inr (.inl 84), .inr (.inl 88)], [.inr (.inl 54)]), (0, [.inr (.inl 83), .inl (.int 2)], []), (30, [.inr (.inl 90)], [.inr (.inl 77)]), (40, [.inr (.inl 84), .inr (.inl 91)], [.inr (.inl 55)]), (0, [.inr (.inl 83), .inl (.int 3)], []), (30, [.inr (.inl 93)], [.inr (.inl 77)]), (40, [.inr (.inl 84), .inr (.inl 94)], [.inr (.inl 56)]), (0, [.inr (.inl 83), .inl (.int 4)], []), (30, [.inr (.inl 96)], [.inr (.inl 77)]), (40, [.inr (.inl 84), .inr (.inl 97)], [.inr (.inl 57)]), (0, [.inr (.inl 83), .inl (.int 5)], []), (30, [.inr (.inl 99)], [.inr (.inl 77)]), (40, [.inr (.inl 84), .inr (.inl 100)], [.inr (.inl 58)]), (0, [.inr (.inl 83), .inl (.int 6)], []), (30, [.inr (.inl 102)], [.inr (.inl 77)]), (40, [.inr (.inl 84), .inr (.inl 103)], [.inr (.inl 59)]), (0, [.inr (.inl 83), .inl (.int 7)], []), (0, [.inr (.inl 84), .inl (.int 1)], [])]) (P := [(5, .inl (.int 7), .inr (.inl 84)), (6, .inr (.inl 83), .inl (.ref 180)), (6, .inr (.inl 84), .inl (.ref 7)), (6, .inr (.inl 87), .inl (.ref 180)), (6, .inr (.inl 84), .inl (.ref 7)), (6, .inr (.inl 90), .inl (.ref 180)), (6, .inr (.inl 84), .inl (.ref 7)), (6, .inr (.inl 93), .inl (.ref 180)), (6, .inr (.inl 84), .inl (.ref 7)), (6, .inr (.inl 96), .inl (.ref 180)), (6, .inr (.inl 84), .inl (.ref 7)), (6, .inr (.inl 99), .inl (.ref 180)), (6, .inr (.inl 84), .inl (.ref 7)), (6, .inr (.inl 102), .inl (.ref 180)), (6, .inr (.inl 84), .inl (.ref 7))]) jm_ok10 (by decide +kernel) (by decide +kernel) hd F X1 X2 (fun F' hF hs => ?_)
  have b84 := hd_b (F := F) (F' := F') (k := 84) (hF 84 (by decide))
  have b83 := hd_b (F := F) (F' := F') (k := 83) (hF 83 (by decide))
  have t87 : sy_dv F' (.inr (.inl 87)) = .int ((sy_i F 83) + ((1 : Int32))) := hd_o (hs 2 _ rfl) b83 rfl rfl
  have t90 : sy_dv F' (.inr (.inl 90)) = .int ((sy_i F 83) + ((2 : Int32))) := hd_o (hs 5 _ rfl) b83 rfl rfl
  have t93 : sy_dv F' (.inr (.inl 93)) = .int ((sy_i F 83) + ((3 : Int32))) := hd_o (hs 8 _ rfl) b83 rfl rfl
  have t96 : sy_dv F' (.inr (.inl 96)) = .int ((sy_i F 83) + ((4 : Int32))) := hd_o (hs 11 _ rfl) b83 rfl rfl
  have t99 : sy_dv F' (.inr (.inl 99)) = .int ((sy_i F 83) + ((5 : Int32))) := hd_o (hs 14 _ rfl) b83 rfl rfl
  have t102 : sy_dv F' (.inr (.inl 102)) = .int ((sy_i F 83) + ((6 : Int32))) := hd_o (hs 17 _ rfl) b83 rfl rfl
  have a77 := hd_ba (F := F) (F' := F') (k := 77) (hF 77 (by decide))
  have t85 : sy_dv F' (.inr (.inl 85)) = .int ((sy_ai F 77).getD (sy_i F 83).toNatClampNeg 0) := hd_rd (hs 0 _ rfl) b83 a77
  have a53 := hd_ba (F := F) (F' := F') (k := 53) (hF 53 (by decide))
  have t86 : sy_da F' (.inr (.inl 86)) = .inl (jm_upd (sy_ai F 53) (sy_i F 84).toNatClampNeg ((sy_ai F 77).getD (sy_i F 83).toNatClampNeg 0)) := hd_up (hs 1 _ rfl) b84 t85 a53
  have t88 : sy_dv F' (.inr (.inl 88)) = .int ((sy_ai F 77).getD ((sy_i F 83) + ((1 : Int32))).toNatClampNeg 0) := hd_rd (hs 3 _ rfl) t87 a77
  have a54 := hd_ba (F := F) (F' := F') (k := 54) (hF 54 (by decide))
  have t89 : sy_da F' (.inr (.inl 89)) = .inl (jm_upd (sy_ai F 54) (sy_i F 84).toNatClampNeg ((sy_ai F 77).getD ((sy_i F 83) + ((1 : Int32))).toNatClampNeg 0)) := hd_up (hs 4 _ rfl) b84 t88 a54
  have t91 : sy_dv F' (.inr (.inl 91)) = .int ((sy_ai F 77).getD ((sy_i F 83) + ((2 : Int32))).toNatClampNeg 0) := hd_rd (hs 6 _ rfl) t90 a77
  have a55 := hd_ba (F := F) (F' := F') (k := 55) (hF 55 (by decide))
  have t92 : sy_da F' (.inr (.inl 92)) = .inl (jm_upd (sy_ai F 55) (sy_i F 84).toNatClampNeg ((sy_ai F 77).getD ((sy_i F 83) + ((2 : Int32))).toNatClampNeg 0)) := hd_up (hs 7 _ rfl) b84 t91 a55
  have t94 : sy_dv F' (.inr (.inl 94)) = .int ((sy_ai F 77).getD ((sy_i F 83) + ((3 : Int32))).toNatClampNeg 0) := hd_rd (hs 9 _ rfl) t93 a77
  have a56 := hd_ba (F := F) (F' := F') (k := 56) (hF 56 (by decide))
  have t95 : sy_da F' (.inr (.inl 95)) = .inl (jm_upd (sy_ai F 56) (sy_i F 84).toNatClampNeg ((sy_ai F 77).getD ((sy_i F 83) + ((3 : Int32))).toNatClampNeg 0)) := hd_up (hs 10 _ rfl) b84 t94 a56
  have t97 : sy_dv F' (.inr (.inl 97)) = .int ((sy_ai F 77).getD ((sy_i F 83) + ((4 : Int32))).toNatClampNeg 0) := hd_rd (hs 12 _ rfl) t96 a77
  have a57 := hd_ba (F := F) (F' := F') (k := 57) (hF 57 (by decide))
  have t98 : sy_da F' (.inr (.inl 98)) = .inl (jm_upd (sy_ai F 57) (sy_i F 84).toNatClampNeg ((sy_ai F 77).getD ((sy_i F 83) + ((4 : Int32))).toNatClampNeg 0)) := hd_up (hs 13 _ rfl) b84 t97 a57
  have t100 : sy_dv F' (.inr (.inl 100)) = .int ((sy_ai F 77).getD ((sy_i F 83) + ((5 : Int32))).toNatClampNeg 0) := hd_rd (hs 15 _ rfl) t99 a77
  have a58 := hd_ba (F := F) (F' := F') (k := 58) (hF 58 (by decide))
  have t101 : sy_da F' (.inr (.inl 101)) = .inl (jm_upd (sy_ai F 58) (sy_i F 84).toNatClampNeg ((sy_ai F 77).getD ((sy_i F 83) + ((5 : Int32))).toNatClampNeg 0)) := hd_up (hs 16 _ rfl) b84 t100 a58
  have t103 : sy_dv F' (.inr (.inl 103)) = .int ((sy_ai F 77).getD ((sy_i F 83) + ((6 : Int32))).toNatClampNeg 0) := hd_rd (hs 18 _ rfl) t102 a77
  have a59 := hd_ba (F := F) (F' := F') (k := 59) (hF 59 (by decide))
  have t104 : sy_da F' (.inr (.inl 104)) = .inl (jm_upd (sy_ai F 59) (sy_i F 84).toNatClampNeg ((sy_ai F 77).getD ((sy_i F 83) + ((6 : Int32))).toNatClampNeg 0)) := hd_up (hs 19 _ rfl) b84 t103 a59
  have b82 := hd_b (F := F) (F' := F') (k := 82) (hF 82 (by decide))
  have t105 : sy_dv F' (.inr (.inl 105)) = .int ((sy_i F 83) + ((7 : Int32))) := hd_o (hs 20 _ rfl) b83 rfl rfl
  have t106 : sy_dv F' (.inr (.inl 106)) = .int ((sy_i F 84) + ((1 : Int32))) := hd_o (hs 21 _ rfl) b84 rfl rfl
  have hB' : iv_in F' iv_B0 := iv_in_eq hB (fun j hj => hF j (Nat.lt_of_lt_of_le hj (by decide +kernel)))
  refine ⟨List.forall_mem_cons.mpr ⟨hd_p5 rfl b84 (by have hc : ((7) : Int32).toInt = 7 := (by decide); omega), List.forall_mem_cons.mpr ⟨hd_pb b83 (by first | exact h1 | exact h1), List.forall_mem_cons.mpr ⟨hd_pb b84 (by first | exact h2 | exact h2), List.forall_mem_cons.mpr ⟨hd_pb t87 (by first | exact h3 | exact h3), List.forall_mem_cons.mpr ⟨hd_pb b84 (by first | exact h4 | exact h4), List.forall_mem_cons.mpr ⟨hd_pb t90 (by first | exact h5 | exact h5), List.forall_mem_cons.mpr ⟨hd_pb b84 (by first | exact h6 | exact h6), List.forall_mem_cons.mpr ⟨hd_pb t93 (by first | exact h7 | exact h7), List.forall_mem_cons.mpr ⟨hd_pb b84 (by first | exact h8 | exact h8), List.forall_mem_cons.mpr ⟨hd_pb t96 (by first | exact h9 | exact h9), List.forall_mem_cons.mpr ⟨hd_pb b84 (by first | exact h10 | exact h10), List.forall_mem_cons.mpr ⟨hd_pb t99 (by first | exact h11 | exact h11), List.forall_mem_cons.mpr ⟨hd_pb b84 (by first | exact h12 | exact h12), List.forall_mem_cons.mpr ⟨hd_pb t102 (by first | exact h13 | exact h13), List.forall_mem_cons.mpr ⟨hd_pb b84 (by first | exact h14 | exact h14), fun _ h => absurd h List.not_mem_nil⟩⟩⟩⟩⟩⟩⟩⟩⟩⟩⟩⟩⟩⟩⟩, ?_⟩
  refine k _ ?_ ?_ ?_ ?_ ?_ ?_ ?_ ?_ ?_ ?_ ?_
  · exact fun j hj hn => (hd_keep hB' (Nat.lt_of_lt_of_le hj (by decide +kernel)) (by simp; omega)).trans (hF j (Nat.lt_of_lt_of_le hj (by decide)))
  · exact hd_ga (a := .inr (.inl 86)) (by decide +kernel) t86
  · exact hd_ga (a := .inr (.inl 89)) (by decide +kernel) t89
  · exact hd_ga (a := .inr (.inl 92)) (by decide +kernel) t92
  · exact hd_ga (a := .inr (.inl 95)) (by decide +kernel) t95
  · exact hd_ga (a := .inr (.inl 98)) (by decide +kernel) t98
  · exact hd_ga (a := .inr (.inl 101)) (by decide +kernel) t101
  · exact hd_ga (a := .inr (.inl 104)) (by decide +kernel) t104
  · exact hd_gi (x := .inr (.inl 82)) (by decide +kernel) b82
  · exact hd_gi (x := .inr (.inl 105)) (by decide +kernel) t105
  · exact hd_gi (x := .inr (.inl 106)) (by decide +kernel) t106
theorem j3lds_46 {Ls : Nat} {xs : Nat → Int32} {d : Nat} {Q : Option Value → jm_h → Prop} (hd : 1 ≤ d) (F : Nat → sy_d) (X1 X2 : List jm_c) (hB : iv_in F iv_B0)
    (a82 : 0 ≤ (sy_i F 82).toInt ∧ (sy_i F 82).toInt ≤ 120)
    (a83 : 3 ≤ (sy_i F 83).toInt ∧ (sy_i F 83).toInt ≤ 172)
    (a84 : 0 ≤ (sy_i F 84).toInt ∧ (sy_i F 84).toInt ≤ 7)
    (k0 : 7 ≤ (sy_i F 84).toInt → ∀ F1 : Nat → sy_d, iv_in F1 iv_B0 → (∀ j, j < 82 → j ∉ ([60, 61] : List Nat) → F1 j = F j) → sy_ai F1 60 = jm_cpy (sy_ai F 77) (sy_ai F 60) ((sy_i F 83).toInt).toNat (0 : Int).toNat (4 : Int).toNat → sy_ai F1 61 = jm_cpy (sy_ai F 77) (sy_ai F 61) (((sy_i F 83).toInt + 4)).toNat (0 : Int).toNat (4 : Int).toNat → Q (none) (sy_dh F1 X1 X2 (iv_H 3)))
    (k1 : (sy_i F 84).toInt < 7 → ∀ F1 : Nat → sy_d, iv_in F1 iv_B0 → (∀ j, j < 82 → j ∉ ([53, 54, 55, 56, 57, 58, 59] : List Nat) → F1 j = F j) → sy_ai F1 53 = jm_upd (sy_ai F 53) ((sy_i F 84).toInt).toNat ((sy_ai F 77).getD ((sy_i F 83).toInt).toNat 0) → sy_ai F1 54 = jm_upd (sy_ai F 54) ((sy_i F 84).toInt).toNat ((sy_ai F 77).getD (((sy_i F 83).toInt + 1)).toNat 0) → sy_ai F1 55 = jm_upd (sy_ai F 55) ((sy_i F 84).toInt).toNat ((sy_ai F 77).getD (((sy_i F 83).toInt + 2)).toNat 0) → sy_ai F1 56 = jm_upd (sy_ai F 56) ((sy_i F 84).toInt).toNat ((sy_ai F 77).getD (((sy_i F 83).toInt + 3)).toNat 0) → sy_ai F1 57 = jm_upd (sy_ai F 57) ((sy_i F 84).toInt).toNat ((sy_ai F 77).getD (((sy_i F 83).toInt + 4)).toNat 0) → sy_ai F1 58 = jm_upd (sy_ai F 58) ((sy_i F 84).toInt).toNat ((sy_ai F 77).getD (((sy_i F 83).toInt + 5)).toNat 0) → sy_ai F1 59 = jm_upd (sy_ai F 59) ((sy_i F 84).toInt).toNat ((sy_ai F 77).getD (((sy_i F 83).toInt + 6)).toNat 0) → (sy_i F1 82).toInt = (sy_i F 82).toInt → sy_i F1 82 = sy_i F 82 → (sy_i F1 83).toInt = ((sy_i F 83).toInt + 7) → sy_i F1 83 = (sy_i F 83) + ((7 : Int32)) → (sy_i F1 84).toInt = ((sy_i F 84).toInt + 1) → sy_i F1 84 = (sy_i F 84) + ((1 : Int32)) → hd_W Ls xs d jm_M10 Q (46, sy_dL F1 [some (.inl (.ref 46)), some (.inl (.ref 68)), some (.inr (.inl 82)), some (.inr (.inl 83)), some (.inr (.inl 84))], sy_dS F1 [], sy_dh F1 X1 X2 (iv_H 3), 0, 0)) :
    hd_W Ls xs d jm_M10 Q (46, sy_dL F [some (.inl (.ref 46)), some (.inl (.ref 68)), some (.inr (.inl 82)), some (.inr (.inl 83)), some (.inr (.inl 84))], sy_dS F [], sy_dh F X1 X2 (iv_H 3), 0, 0) := by
  by_cases g0 : 7 ≤ (sy_i F 84).toInt
  · have n86 : nzI ((sy_i F 83) + ((4 : Int32))) (((sy_i F 83).toInt + 4)) := nz_add (rfl : (sy_i F 83).toInt = (sy_i F 83).toInt) (by decide : ((4 : Int32)).toInt = 4) (by omega) (by omega)
    have w85 : jm_cpy (sy_ai F 77) (sy_ai F 60) (sy_i F 83).toNatClampNeg ((0 : Int32)).toNatClampNeg ((4 : Int32)).toNatClampNeg = jm_cpy (sy_ai F 77) (sy_ai F 60) ((sy_i F 83).toInt).toNat (0 : Int).toNat (4 : Int).toNat := by simp only [nz_c, (by decide : ((0 : Int32)).toInt = 0), (by decide : ((4 : Int32)).toInt = 4)]
    have w87 : jm_cpy (sy_ai F 77) (sy_ai F 61) ((sy_i F 83) + ((4 : Int32))).toNatClampNeg ((0 : Int32)).toNatClampNeg ((4 : Int32)).toNatClampNeg = jm_cpy (sy_ai F 77) (sy_ai F 61) (((sy_i F 83).toInt + 4)).toNat (0 : Int).toNat (4 : Int).toNat := by simp only [nz_c, (nzE n86), (by decide : ((0 : Int32)).toInt = 0), (by decide : ((4 : Int32)).toInt = 4)]
    exact j3lds_46_p0 hd F X1 X2 hB (by first | exact g0 | (simp only [nz_c]; exact g0)) (by first | exact ⟨by omega, by omega⟩ | (simp only [nz_c]; exact ⟨by omega, by omega⟩)) (by first | (simp only [nz_c, (nzE n86)]; exact ⟨by omega, by omega⟩) | exact ⟨by omega, by omega⟩ | (rw [(nzE n86)]; exact ⟨by omega, by omega⟩)) (fun F1 g e60 e61 => k0 g0 F1 (nz_in0 hB [60, 61] (fun j hj hn => g j hj (by simp only [List.mem_cons, List.not_mem_nil, or_false, not_or] at hn; omega)) (List.forall_mem_cons.mpr ⟨fun t ht => (Option.some.inj ht) ▸ (nz_hz2 e60), List.forall_mem_cons.mpr ⟨fun t ht => (Option.some.inj ht) ▸ (nz_hz2 e61), List.forall_mem_nil _⟩⟩)) (fun j hj hn => g j hj (by simp only [List.mem_cons, List.not_mem_nil, or_false, not_or] at hn; omega)) ((zz_ai e60).trans w85) ((zz_ai e61).trans w87))
  replace g0 : (sy_i F 84).toInt < 7 := by omega
  have n87 : nzI ((sy_i F 83) + ((1 : Int32))) (((sy_i F 83).toInt + 1)) := nz_add (rfl : (sy_i F 83).toInt = (sy_i F 83).toInt) (by decide : ((1 : Int32)).toInt = 1) (by omega) (by omega)
  have n90 : nzI ((sy_i F 83) + ((2 : Int32))) (((sy_i F 83).toInt + 2)) := nz_add (rfl : (sy_i F 83).toInt = (sy_i F 83).toInt) (by decide : ((2 : Int32)).toInt = 2) (by omega) (by omega)
  have n93 : nzI ((sy_i F 83) + ((3 : Int32))) (((sy_i F 83).toInt + 3)) := nz_add (rfl : (sy_i F 83).toInt = (sy_i F 83).toInt) (by decide : ((3 : Int32)).toInt = 3) (by omega) (by omega)
  have n96 : nzI ((sy_i F 83) + ((4 : Int32))) (((sy_i F 83).toInt + 4)) := nz_add (rfl : (sy_i F 83).toInt = (sy_i F 83).toInt) (by decide : ((4 : Int32)).toInt = 4) (by omega) (by omega)
  have n99 : nzI ((sy_i F 83) + ((5 : Int32))) (((sy_i F 83).toInt + 5)) := nz_add (rfl : (sy_i F 83).toInt = (sy_i F 83).toInt) (by decide : ((5 : Int32)).toInt = 5) (by omega) (by omega)
  have n102 : nzI ((sy_i F 83) + ((6 : Int32))) (((sy_i F 83).toInt + 6)) := nz_add (rfl : (sy_i F 83).toInt = (sy_i F 83).toInt) (by decide : ((6 : Int32)).toInt = 6) (by omega) (by omega)
  have w86 : jm_upd (sy_ai F 53) (sy_i F 84).toNatClampNeg ((sy_ai F 77).getD (sy_i F 83).toNatClampNeg 0) = jm_upd (sy_ai F 53) ((sy_i F 84).toInt).toNat ((sy_ai F 77).getD ((sy_i F 83).toInt).toNat 0) := by simp only [nz_c]
  have w89 : jm_upd (sy_ai F 54) (sy_i F 84).toNatClampNeg ((sy_ai F 77).getD ((sy_i F 83) + ((1 : Int32))).toNatClampNeg 0) = jm_upd (sy_ai F 54) ((sy_i F 84).toInt).toNat ((sy_ai F 77).getD (((sy_i F 83).toInt + 1)).toNat 0) := by simp only [nz_c, (nzE n87), (by decide : ((1 : Int32)).toInt = 1)]
  have w92 : jm_upd (sy_ai F 55) (sy_i F 84).toNatClampNeg ((sy_ai F 77).getD ((sy_i F 83) + ((2 : Int32))).toNatClampNeg 0) = jm_upd (sy_ai F 55) ((sy_i F 84).toInt).toNat ((sy_ai F 77).getD (((sy_i F 83).toInt + 2)).toNat 0) := by simp only [nz_c, (nzE n90), (by decide : ((2 : Int32)).toInt = 2)]
  have w95 : jm_upd (sy_ai F 56) (sy_i F 84).toNatClampNeg ((sy_ai F 77).getD ((sy_i F 83) + ((3 : Int32))).toNatClampNeg 0) = jm_upd (sy_ai F 56) ((sy_i F 84).toInt).toNat ((sy_ai F 77).getD (((sy_i F 83).toInt + 3)).toNat 0) := by simp only [nz_c, (nzE n93), (by decide : ((3 : Int32)).toInt = 3)]
  have w98 : jm_upd (sy_ai F 57) (sy_i F 84).toNatClampNeg ((sy_ai F 77).getD ((sy_i F 83) + ((4 : Int32))).toNatClampNeg 0) = jm_upd (sy_ai F 57) ((sy_i F 84).toInt).toNat ((sy_ai F 77).getD (((sy_i F 83).toInt + 4)).toNat 0) := by simp only [nz_c, (nzE n96), (by decide : ((4 : Int32)).toInt = 4)]
  have w101 : jm_upd (sy_ai F 58) (sy_i F 84).toNatClampNeg ((sy_ai F 77).getD ((sy_i F 83) + ((5 : Int32))).toNatClampNeg 0) = jm_upd (sy_ai F 58) ((sy_i F 84).toInt).toNat ((sy_ai F 77).getD (((sy_i F 83).toInt + 5)).toNat 0) := by simp only [nz_c, (nzE n99), (by decide : ((5 : Int32)).toInt = 5)]
  have w104 : jm_upd (sy_ai F 59) (sy_i F 84).toNatClampNeg ((sy_ai F 77).getD ((sy_i F 83) + ((6 : Int32))).toNatClampNeg 0) = jm_upd (sy_ai F 59) ((sy_i F 84).toInt).toNat ((sy_ai F 77).getD (((sy_i F 83).toInt + 6)).toNat 0) := by simp only [nz_c, (nzE n102), (by decide : ((6 : Int32)).toInt = 6)]
  have n105 : nzI ((sy_i F 83) + ((7 : Int32))) (((sy_i F 83).toInt + 7)) := nz_add (rfl : (sy_i F 83).toInt = (sy_i F 83).toInt) (by decide : ((7 : Int32)).toInt = 7) (by omega) (by omega)
  have n106 : nzI ((sy_i F 84) + ((1 : Int32))) (((sy_i F 84).toInt + 1)) := nz_add (rfl : (sy_i F 84).toInt = (sy_i F 84).toInt) (by decide : ((1 : Int32)).toInt = 1) (by omega) (by omega)
  exact j3lds_46_p1 hd F X1 X2 hB (by first | exact g0 | (simp only [nz_c]; exact g0)) (by first | exact ⟨by omega, by omega⟩ | (simp only [nz_c]; exact ⟨by omega, by omega⟩)) (by first | exact ⟨by omega, by omega⟩ | (simp only [nz_c]; exact ⟨by omega, by omega⟩)) (by first | (simp only [nz_c, (nzE n87)]; exact ⟨by omega, by omega⟩) | exact ⟨by omega, by omega⟩ | (rw [(nzE n87)]; exact ⟨by omega, by omega⟩)) (by first | exact ⟨by omega, by omega⟩ | (simp only [nz_c]; exact ⟨by omega, by omega⟩)) (by first | (simp only [nz_c, (nzE n90)]; exact ⟨by omega, by omega⟩) | exact ⟨by omega, by omega⟩ | (rw [(nzE n90)]; exact ⟨by omega, by omega⟩)) (by first | exact ⟨by omega, by omega⟩ | (simp only [nz_c]; exact ⟨by omega, by omega⟩)) (by first | (simp only [nz_c, (nzE n93)]; exact ⟨by omega, by omega⟩) | exact ⟨by omega, by omega⟩ | (rw [(nzE n93)]; exact ⟨by omega, by omega⟩)) (by first | exact ⟨by omega, by omega⟩ | (simp only [nz_c]; exact ⟨by omega, by omega⟩)) (by first | (simp only [nz_c, (nzE n96)]; exact ⟨by omega, by omega⟩) | exact ⟨by omega, by omega⟩ | (rw [(nzE n96)]; exact ⟨by omega, by omega⟩)) (by first | exact ⟨by omega, by omega⟩ | (simp only [nz_c]; exact ⟨by omega, by omega⟩)) (by first | (simp only [nz_c, (nzE n99)]; exact ⟨by omega, by omega⟩) | exact ⟨by omega, by omega⟩ | (rw [(nzE n99)]; exact ⟨by omega, by omega⟩)) (by first | exact ⟨by omega, by omega⟩ | (simp only [nz_c]; exact ⟨by omega, by omega⟩)) (by first | (simp only [nz_c, (nzE n102)]; exact ⟨by omega, by omega⟩) | exact ⟨by omega, by omega⟩ | (rw [(nzE n102)]; exact ⟨by omega, by omega⟩)) (by first | exact ⟨by omega, by omega⟩ | (simp only [nz_c]; exact ⟨by omega, by omega⟩)) (fun F1 g e53 e54 e55 e56 e57 e58 e59 e82 e83 e84 => k1 g0 F1 (nz_in0 hB [53, 54, 55, 56, 57, 58, 59] (fun j hj hn => g j hj (by simp only [List.mem_cons, List.not_mem_nil, or_false, not_or] at hn; omega)) (List.forall_mem_cons.mpr ⟨fun t ht => (Option.some.inj ht) ▸ (nz_hz2 e53), List.forall_mem_cons.mpr ⟨fun t ht => (Option.some.inj ht) ▸ (nz_hz2 e54), List.forall_mem_cons.mpr ⟨fun t ht => (Option.some.inj ht) ▸ (nz_hz2 e55), List.forall_mem_cons.mpr ⟨fun t ht => (Option.some.inj ht) ▸ (nz_hz2 e56), List.forall_mem_cons.mpr ⟨fun t ht => (Option.some.inj ht) ▸ (nz_hz2 e57), List.forall_mem_cons.mpr ⟨fun t ht => (Option.some.inj ht) ▸ (nz_hz2 e58), List.forall_mem_cons.mpr ⟨fun t ht => (Option.some.inj ht) ▸ (nz_hz2 e59), List.forall_mem_nil _⟩⟩⟩⟩⟩⟩⟩)) (fun j hj hn => g j hj (by simp only [List.mem_cons, List.not_mem_nil, or_false, not_or] at hn; omega)) ((zz_ai e53).trans w86) ((zz_ai e54).trans w89) ((zz_ai e55).trans w92) ((zz_ai e56).trans w95) ((zz_ai e57).trans w98) ((zz_ai e58).trans w101) ((zz_ai e59).trans w104) ((congrArg Int32.toInt (zz_i e82)).trans (rfl : (sy_i F 82).toInt = (sy_i F 82).toInt)) ((zz_i e82).trans (rfl : sy_i F 82 = sy_i F 82)) ((congrArg Int32.toInt (zz_i e83)).trans (nzE n105)) ((zz_i e83).trans (rfl : (sy_i F 83) + ((7 : Int32)) = (sy_i F 83) + ((7 : Int32)))) ((congrArg Int32.toInt (zz_i e84)).trans (nzE n106)) ((zz_i e84).trans (rfl : (sy_i F 84) + ((1 : Int32)) = (sy_i F 84) + ((1 : Int32)))))
end
section
/-! ===== the class saves its ground and loads it (shape 3) ===== -/
section SV3
variable {Ls : Nat} {xs : Nat → Int32}
theorem j3svt_L (F : Nat → sy_d) (X1 X2 : List jm_c) {p : Nat} (hp : p ≤ 2340) : ∀ (m : Nat) (F1 : Nat → sy_d) (n : Nat), n + m = 7 → qC [76] F F1 → (sy_i F1 82).toInt = p → (sy_i F1 83).toInt = p + 3 + 7 * n → (sy_i F1 84).toInt = n → (∀ j, j < p ∨ p + 60 ≤ j → (sy_ai F1 76).getD j 0 = (sy_ai F 76).getD j 0) → (∀ i, i < 3 → (sy_ai F1 76).getD (p + i) 0 = sy_i F (50 + i)) → (∀ q i, q < 7 → i < n → (sy_ai F1 76).getD (p + 3 + 7 * i + q) 0 = (sy_ai F (53 + q)).getD i 0) →
    hd_W Ls xs 1 jm_M9 (pV 3 X1 X2 (fun F' => qC [76] F F' ∧ svR (sy_ai F' 76) p F 50 ∧ ∀ j, j < p ∨ p + 60 ≤ j → (sy_ai F' 76).getD j 0 = (sy_ai F 76).getD j 0)) (46, sy_dL F1 [some (.inl (.ref 46)), some (.inl (.ref 67)), some (.inr (.inl 82)), some (.inr (.inl 83)), some (.inr (.inl 84))], sy_dS F1 [], sy_dh F1 X1 X2 (iv_H 3), 0, 0) := by
  intro m
  induction m with
  | zero =>
    intro F1 n hm hq e82 e83 e84 ho h3 h7
    refine j3svt_46 (by decide) F1 X1 X2 hq.1 (by omega) (by omega) (by omega) ?_ ?_
    · intro c0 F2 hb gg a
      rw [show (sy_i F1 83).toInt.toNat = p + 52 by omega, show ((sy_i F1 83).toInt + 4).toNat = p + 56 by omega] at a
      have key : ∀ j, (sy_ai F2 76).getD j 0 = if p + 56 ≤ j ∧ j < p + 56 + 4 then (sy_ai F1 61).getD (0 + (j - (p + 56))) 0 else if p + 52 ≤ j ∧ j < p + 52 + 4 then (sy_ai F1 60).getD (0 + (j - (p + 52))) 0 else (sy_ai F1 76).getD j 0 := fun j => by
        rw [a, cpy_ix, cpy_ix]
        rfl
      refine ⟨F2, rfl, rfl, qq_on hq hb gg (by decide), ⟨fun q i hq' hi => ?_, fun i hi => ⟨?_, ?_⟩, fun i hi => ?_⟩, fun j hj => ?_⟩
      · rw [key, if_neg (by omega), if_neg (by omega)]
        exact h7 q i hq' (by omega)
      · rw [key, if_neg (by omega), if_pos (by omega), show 0 + (p + 52 + i - (p + 52)) = i by omega, qq_a hq (by decide) (by decide)]
      · rw [key, if_pos (by omega), show 0 + (p + 56 + i - (p + 56)) = i by omega, qq_a hq (by decide) (by decide)]
      · rw [key, if_neg (by omega), if_neg (by omega)]
        exact h3 i hi
      · rw [key, if_neg (by omega), if_neg (by omega)]
        exact ho j hj
    · intros
      omega
  | succ m ih =>
    intro F1 n hm hq e82 e83 e84 ho h3 h7
    refine j3svt_46 (by decide) F1 X1 X2 hq.1 (by omega) (by omega) (by omega) ?_ ?_
    · intros
      omega
    · intro c0 F2 hb gg a e82' j82 e83' j83 e84' j84
      rw [show (sy_i F1 83).toInt.toNat = p + 3 + 7 * n by omega, show ((sy_i F1 83).toInt + 1).toNat = p + 3 + 7 * n + 1 by omega, show ((sy_i F1 83).toInt + 2).toNat = p + 3 + 7 * n + 2 by omega, show ((sy_i F1 83).toInt + 3).toNat = p + 3 + 7 * n + 3 by omega, show ((sy_i F1 83).toInt + 4).toNat = p + 3 + 7 * n + 4 by omega, show ((sy_i F1 83).toInt + 5).toNat = p + 3 + 7 * n + 5 by omega, show ((sy_i F1 83).toInt + 6).toNat = p + 3 + 7 * n + 6 by omega, show (sy_i F1 84).toInt.toNat = n by omega] at a
      have ko : ∀ j, (j < p + 3 + 7 * n ∨ p + 3 + 7 * n + 7 ≤ j) → (sy_ai F2 76).getD j 0 = (sy_ai F1 76).getD j 0 := fun j h => (congrArg (fun l => l.getD j 0) a).trans (up7_o h)
      have ki : ∀ q, q < 7 → (sy_ai F2 76).getD (p + 3 + 7 * n + q) 0 = (sy_ai F1 (53 + q)).getD n 0 := fun q h => (congrArg (fun l => l.getD (p + 3 + 7 * n + q) 0) a).trans (up7_i (fun q => (sy_ai F1 (53 + q)).getD n 0) h)
      refine ih F2 (n + 1) (by omega) (qq_on hq hb gg (by decide)) (by omega) (by omega) (by omega) (fun j hj => ?_) (fun i hi => ?_) (fun q i hq' hi => ?_)
      · rw [ko j (by omega)]
        exact ho j hj
      · rw [ko _ (by omega)]
        exact h3 i hi
      · by_cases z : i = n
        · rw [z, ki q hq', qq_a hq (by omega) (by simp; omega)]
        · rw [ko _ (by omega)]
          exact h7 q i hq' (by omega)
theorem j3svt_V (F : Nat → sy_d) (X1 X2 : List jm_c) (hB : iv_in F iv_B0) {v : Int32} {p : Nat} (hv : v.toInt = p) (hp : p ≤ 2340) : jm_T Ls xs 1 jm_M9 [.ref 46, .ref 67, .int v] (sy_dh F X1 X2 (iv_H 3)) 0 0 (pV 3 X1 X2 (fun F' => qC [76] F F' ∧ svR (sy_ai F' 76) p F 50 ∧ ∀ j, j < p ∨ p + 60 ≤ j → (sy_ai F' 76).getD j 0 = (sy_ai F 76).getD j 0)) := by
  refine C_T (by decide) [v] [.inl (.ref 46), .inl (.ref 67), .inr (.inl 82)] jm_ok9 (by decide) rfl (fun F0 k0 ki => ?_)
  have i82 : sy_i F0 82 = v := ki 0
  refine j3svt_0 (by decide) F0 X1 X2 (hd_iveq0 hB k0) (by rw [i82]; omega) ?_
  intro c0 c1 F1 hb gg a e82 j82 e83 j83 e84 j84
  rw [i82] at a e82 e83
  rw [show v.toInt.toNat = p by omega, show (v.toInt + 1).toNat = p + 1 by omega, show (v.toInt + 2).toNat = p + 2 by omega, eI (k0 50 (by decide)), eI (k0 51 (by decide)), eI (k0 52 (by decide)), nz_fa (k0 76 (by decide))] at a
  have key : ∀ j, (sy_ai F1 76).getD j 0 = if j = p + 2 then sy_i F 52 else if j = p + 1 then sy_i F 51 else if j = p then sy_i F 50 else (sy_ai F 76).getD j 0 := fun j => by
    rw [a, jm_upd_at, jm_upd_at, jm_upd_at]
  refine j3svt_L F X1 X2 hp 7 F1 0 (by omega) (qq_src (qq_mk hb gg (by decide)) k0) (by omega) (by omega) e84 (fun j hj => ?_) (fun i hi => ?_) (fun q i hq hi => absurd hi (by omega))
  · rw [key, if_neg (by omega), if_neg (by omega), if_neg (by omega)]
  · rw [key]
    match i, hi with
    | 0, _ => rw [if_neg (by omega), if_neg (by omega), if_pos (by omega)]
    | 1, _ => rw [if_neg (by omega), if_pos rfl]
    | 2, _ => rw [if_pos rfl]
theorem j3ldt_L (F : Nat → sy_d) (X1 X2 : List jm_c) {p : Nat} (hp : p ≤ 2340) : ∀ (m : Nat) (F1 : Nat → sy_d) (n : Nat), n + m = 7 → qC [50, 51, 52, 53, 54, 55, 56, 57, 58, 59, 60, 61] F F1 → (sy_i F1 82).toInt = p → (sy_i F1 83).toInt = p + 3 + 7 * n → (sy_i F1 84).toInt = n → (∀ i, i < 3 → (sy_ai F 76).getD (p + i) 0 = sy_i F1 (50 + i)) → (∀ q i, q < 7 → i < n → (sy_ai F 76).getD (p + 3 + 7 * i + q) 0 = (sy_ai F1 (53 + q)).getD i 0) →
    hd_W Ls xs 1 jm_M10 (pV 3 X1 X2 (fun F' => qC [50, 51, 52, 53, 54, 55, 56, 57, 58, 59, 60, 61] F F' ∧ svR (sy_ai F 76) p F' 50)) (46, sy_dL F1 [some (.inl (.ref 46)), some (.inl (.ref 67)), some (.inr (.inl 82)), some (.inr (.inl 83)), some (.inr (.inl 84))], sy_dS F1 [], sy_dh F1 X1 X2 (iv_H 3), 0, 0) := by
  intro m
  induction m with
  | zero =>
    intro F1 n hm hq e82 e83 e84 h3 h7
    have eC : sy_ai F1 76 = sy_ai F 76 := qq_a hq (by decide) (by decide)
    refine j3ldt_46 (by decide) F1 X1 X2 hq.1 (by omega) (by omega) (by omega) ?_ ?_
    · intro c0 F2 hb gg a60 a61
      rw [show (sy_i F1 83).toInt.toNat = p + 52 by omega, eC] at a60
      rw [show ((sy_i F1 83).toInt + 4).toNat = p + 56 by omega, eC] at a61
      refine ⟨F2, rfl, rfl, qq_on hq hb gg (by decide), ⟨fun q i hq' hi => ?_, fun i hi => ⟨?_, ?_⟩, fun i hi => ?_⟩⟩
      · rw [show 50 + 3 + q = 53 + q by omega, nz_fa (gg (53 + q) (by omega) (by simp; omega))]
        exact h7 q i hq' (by omega)
      · show _ = (sy_ai F2 60).getD i 0
        rw [a60, cpy_ix, if_pos ⟨Nat.zero_le _, (show i < (0 : Nat) + 4 by omega)⟩]
        show _ = (sy_ai F 76).getD (p + 52 + (i - 0)) 0
        rw [Nat.sub_zero]
      · show _ = (sy_ai F2 61).getD i 0
        rw [a61, cpy_ix, if_pos ⟨Nat.zero_le _, (show i < (0 : Nat) + 4 by omega)⟩]
        show _ = (sy_ai F 76).getD (p + 56 + (i - 0)) 0
        rw [Nat.sub_zero]
      · rw [eI (gg (50 + i) (by omega) (by simp; omega))]
        exact h3 i hi
    · intros
      omega
  | succ m ih =>
    intro F1 n hm hq e82 e83 e84 h3 h7
    have eC : sy_ai F1 76 = sy_ai F 76 := qq_a hq (by decide) (by decide)
    refine j3ldt_46 (by decide) F1 X1 X2 hq.1 (by omega) (by omega) (by omega) ?_ ?_
    · intros
      omega
    · intro c0 F2 hb gg a53 a54 a55 a56 a57 a58 a59 e82' j82 e83' j83 e84' j84
      rw [show (sy_i F1 84).toInt.toNat = n by omega, show (sy_i F1 83).toInt.toNat = p + 3 + 7 * n by omega, eC] at a53
      rw [show (sy_i F1 84).toInt.toNat = n by omega, show ((sy_i F1 83).toInt + 1).toNat = p + 3 + 7 * n + 1 by omega, eC] at a54
      rw [show (sy_i F1 84).toInt.toNat = n by omega, show ((sy_i F1 83).toInt + 2).toNat = p + 3 + 7 * n + 2 by omega, eC] at a55
      rw [show (sy_i F1 84).toInt.toNat = n by omega, show ((sy_i F1 83).toInt + 3).toNat = p + 3 + 7 * n + 3 by omega, eC] at a56
      rw [show (sy_i F1 84).toInt.toNat = n by omega, show ((sy_i F1 83).toInt + 4).toNat = p + 3 + 7 * n + 4 by omega, eC] at a57
      rw [show (sy_i F1 84).toInt.toNat = n by omega, show ((sy_i F1 83).toInt + 5).toNat = p + 3 + 7 * n + 5 by omega, eC] at a58
      rw [show (sy_i F1 84).toInt.toNat = n by omega, show ((sy_i F1 83).toInt + 6).toNat = p + 3 + 7 * n + 6 by omega, eC] at a59
      have hu : ∀ q, q < 7 → sy_ai F2 (53 + q) = jm_upd (sy_ai F1 (53 + q)) n ((sy_ai F 76).getD (p + 3 + 7 * n + q) 0) := fun q h => by
        match q, h with
        | 0, _ => exact a53
        | 1, _ => exact a54
        | 2, _ => exact a55
        | 3, _ => exact a56
        | 4, _ => exact a57
        | 5, _ => exact a58
        | 6, _ => exact a59
      refine ih F2 (n + 1) (by omega) (qq_on hq hb gg (by decide)) (by omega) (by omega) (by omega) (fun i hi => ?_) (fun q i hq' hi => ?_)
      · rw [eI (gg (50 + i) (by omega) (by simp; omega))]
        exact h3 i hi
      · rw [hu q hq', jm_upd_at]
        by_cases z : i = n
        · rw [if_pos z, z]
        · rw [if_neg z]
          exact h7 q i hq' (by omega)
theorem j3ldt_V (F : Nat → sy_d) (X1 X2 : List jm_c) (hB : iv_in F iv_B0) {v : Int32} {p : Nat} (hv : v.toInt = p) (hp : p ≤ 2340) : jm_T Ls xs 1 jm_M10 [.ref 46, .ref 67, .int v] (sy_dh F X1 X2 (iv_H 3)) 0 0 (pV 3 X1 X2 (fun F' => qC [50, 51, 52, 53, 54, 55, 56, 57, 58, 59, 60, 61] F F' ∧ svR (sy_ai F 76) p F' 50)) := by
  refine C_T (by decide) [v] [.inl (.ref 46), .inl (.ref 67), .inr (.inl 82)] jm_ok10 (by decide) rfl (fun F0 k0 ki => ?_)
  have i82 : sy_i F0 82 = v := ki 0
  refine j3ldt_0 (by decide) F0 X1 X2 (hd_iveq0 hB k0) (by rw [i82]; omega) ?_
  intro c0 c1 F1 hb gg e50 j50 e51 j51 e52 j52 e82 j82 e83 j83 e84 j84
  rw [i82] at j50 j51 j52 e82 e83
  rw [nz_fa (k0 76 (by decide))] at j50 j51 j52
  rw [show v.toInt.toNat = p by omega] at j50
  rw [show (v.toInt + 1).toNat = p + 1 by omega] at j51
  rw [show (v.toInt + 2).toNat = p + 2 by omega] at j52
  refine j3ldt_L F X1 X2 hp 7 F1 0 (by omega) (qq_src (qq_mk hb gg (by decide)) k0) (by omega) (by omega) e84 (fun i hi => ?_) (fun q i hq hi => absurd hi (by omega))
  match i, hi with
  | 0, _ => exact j50.symm
  | 1, _ => exact j51.symm
  | 2, _ => exact j52.symm
theorem j3svs_L (F : Nat → sy_d) (X1 X2 : List jm_c) {p : Nat} (hp : p ≤ 120) : ∀ (m : Nat) (F1 : Nat → sy_d) (n : Nat), n + m = 7 → qC [77] F F1 → (sy_i F1 82).toInt = p → (sy_i F1 83).toInt = p + 3 + 7 * n → (sy_i F1 84).toInt = n → (∀ j, j < p ∨ p + 60 ≤ j → (sy_ai F1 77).getD j 0 = (sy_ai F 77).getD j 0) → (∀ i, i < 3 → (sy_ai F1 77).getD (p + i) 0 = sy_i F (50 + i)) → (∀ q i, q < 7 → i < n → (sy_ai F1 77).getD (p + 3 + 7 * i + q) 0 = (sy_ai F (53 + q)).getD i 0) →
    hd_W Ls xs 1 jm_M9 (pV 3 X1 X2 (fun F' => qC [77] F F' ∧ svR (sy_ai F' 77) p F 50 ∧ ∀ j, j < p ∨ p + 60 ≤ j → (sy_ai F' 77).getD j 0 = (sy_ai F 77).getD j 0)) (46, sy_dL F1 [some (.inl (.ref 46)), some (.inl (.ref 68)), some (.inr (.inl 82)), some (.inr (.inl 83)), some (.inr (.inl 84))], sy_dS F1 [], sy_dh F1 X1 X2 (iv_H 3), 0, 0) := by
  intro m
  induction m with
  | zero =>
    intro F1 n hm hq e82 e83 e84 ho h3 h7
    refine j3svs_46 (by decide) F1 X1 X2 hq.1 (by omega) (by omega) (by omega) ?_ ?_
    · intro c0 F2 hb gg a
      rw [show (sy_i F1 83).toInt.toNat = p + 52 by omega, show ((sy_i F1 83).toInt + 4).toNat = p + 56 by omega] at a
      have key : ∀ j, (sy_ai F2 77).getD j 0 = if p + 56 ≤ j ∧ j < p + 56 + 4 then (sy_ai F1 61).getD (0 + (j - (p + 56))) 0 else if p + 52 ≤ j ∧ j < p + 52 + 4 then (sy_ai F1 60).getD (0 + (j - (p + 52))) 0 else (sy_ai F1 77).getD j 0 := fun j => by
        rw [a, cpy_ix, cpy_ix]
        rfl
      refine ⟨F2, rfl, rfl, qq_on hq hb gg (by decide), ⟨fun q i hq' hi => ?_, fun i hi => ⟨?_, ?_⟩, fun i hi => ?_⟩, fun j hj => ?_⟩
      · rw [key, if_neg (by omega), if_neg (by omega)]
        exact h7 q i hq' (by omega)
      · rw [key, if_neg (by omega), if_pos (by omega), show 0 + (p + 52 + i - (p + 52)) = i by omega, qq_a hq (by decide) (by decide)]
      · rw [key, if_pos (by omega), show 0 + (p + 56 + i - (p + 56)) = i by omega, qq_a hq (by decide) (by decide)]
      · rw [key, if_neg (by omega), if_neg (by omega)]
        exact h3 i hi
      · rw [key, if_neg (by omega), if_neg (by omega)]
        exact ho j hj
    · intros
      omega
  | succ m ih =>
    intro F1 n hm hq e82 e83 e84 ho h3 h7
    refine j3svs_46 (by decide) F1 X1 X2 hq.1 (by omega) (by omega) (by omega) ?_ ?_
    · intros
      omega
    · intro c0 F2 hb gg a e82' j82 e83' j83 e84' j84
      rw [show (sy_i F1 83).toInt.toNat = p + 3 + 7 * n by omega, show ((sy_i F1 83).toInt + 1).toNat = p + 3 + 7 * n + 1 by omega, show ((sy_i F1 83).toInt + 2).toNat = p + 3 + 7 * n + 2 by omega, show ((sy_i F1 83).toInt + 3).toNat = p + 3 + 7 * n + 3 by omega, show ((sy_i F1 83).toInt + 4).toNat = p + 3 + 7 * n + 4 by omega, show ((sy_i F1 83).toInt + 5).toNat = p + 3 + 7 * n + 5 by omega, show ((sy_i F1 83).toInt + 6).toNat = p + 3 + 7 * n + 6 by omega, show (sy_i F1 84).toInt.toNat = n by omega] at a
      have ko : ∀ j, (j < p + 3 + 7 * n ∨ p + 3 + 7 * n + 7 ≤ j) → (sy_ai F2 77).getD j 0 = (sy_ai F1 77).getD j 0 := fun j h => (congrArg (fun l => l.getD j 0) a).trans (up7_o h)
      have ki : ∀ q, q < 7 → (sy_ai F2 77).getD (p + 3 + 7 * n + q) 0 = (sy_ai F1 (53 + q)).getD n 0 := fun q h => (congrArg (fun l => l.getD (p + 3 + 7 * n + q) 0) a).trans (up7_i (fun q => (sy_ai F1 (53 + q)).getD n 0) h)
      refine ih F2 (n + 1) (by omega) (qq_on hq hb gg (by decide)) (by omega) (by omega) (by omega) (fun j hj => ?_) (fun i hi => ?_) (fun q i hq' hi => ?_)
      · rw [ko j (by omega)]
        exact ho j hj
      · rw [ko _ (by omega)]
        exact h3 i hi
      · by_cases z : i = n
        · rw [z, ki q hq', qq_a hq (by omega) (by simp; omega)]
        · rw [ko _ (by omega)]
          exact h7 q i hq' (by omega)
theorem j3svs_V (F : Nat → sy_d) (X1 X2 : List jm_c) (hB : iv_in F iv_B0) {v : Int32} {p : Nat} (hv : v.toInt = p) (hp : p ≤ 120) : jm_T Ls xs 1 jm_M9 [.ref 46, .ref 68, .int v] (sy_dh F X1 X2 (iv_H 3)) 0 0 (pV 3 X1 X2 (fun F' => qC [77] F F' ∧ svR (sy_ai F' 77) p F 50 ∧ ∀ j, j < p ∨ p + 60 ≤ j → (sy_ai F' 77).getD j 0 = (sy_ai F 77).getD j 0)) := by
  refine C_T (by decide) [v] [.inl (.ref 46), .inl (.ref 68), .inr (.inl 82)] jm_ok9 (by decide) rfl (fun F0 k0 ki => ?_)
  have i82 : sy_i F0 82 = v := ki 0
  refine j3svs_0 (by decide) F0 X1 X2 (hd_iveq0 hB k0) (by rw [i82]; omega) ?_
  intro c0 c1 F1 hb gg a e82 j82 e83 j83 e84 j84
  rw [i82] at a e82 e83
  rw [show v.toInt.toNat = p by omega, show (v.toInt + 1).toNat = p + 1 by omega, show (v.toInt + 2).toNat = p + 2 by omega, eI (k0 50 (by decide)), eI (k0 51 (by decide)), eI (k0 52 (by decide)), nz_fa (k0 77 (by decide))] at a
  have key : ∀ j, (sy_ai F1 77).getD j 0 = if j = p + 2 then sy_i F 52 else if j = p + 1 then sy_i F 51 else if j = p then sy_i F 50 else (sy_ai F 77).getD j 0 := fun j => by
    rw [a, jm_upd_at, jm_upd_at, jm_upd_at]
  refine j3svs_L F X1 X2 hp 7 F1 0 (by omega) (qq_src (qq_mk hb gg (by decide)) k0) (by omega) (by omega) e84 (fun j hj => ?_) (fun i hi => ?_) (fun q i hq hi => absurd hi (by omega))
  · rw [key, if_neg (by omega), if_neg (by omega), if_neg (by omega)]
  · rw [key]
    match i, hi with
    | 0, _ => rw [if_neg (by omega), if_neg (by omega), if_pos (by omega)]
    | 1, _ => rw [if_neg (by omega), if_pos rfl]
    | 2, _ => rw [if_pos rfl]
theorem j3lds_L (F : Nat → sy_d) (X1 X2 : List jm_c) {p : Nat} (hp : p ≤ 120) : ∀ (m : Nat) (F1 : Nat → sy_d) (n : Nat), n + m = 7 → qC [50, 51, 52, 53, 54, 55, 56, 57, 58, 59, 60, 61] F F1 → (sy_i F1 82).toInt = p → (sy_i F1 83).toInt = p + 3 + 7 * n → (sy_i F1 84).toInt = n → (∀ i, i < 3 → (sy_ai F 77).getD (p + i) 0 = sy_i F1 (50 + i)) → (∀ q i, q < 7 → i < n → (sy_ai F 77).getD (p + 3 + 7 * i + q) 0 = (sy_ai F1 (53 + q)).getD i 0) →
    hd_W Ls xs 1 jm_M10 (pV 3 X1 X2 (fun F' => qC [50, 51, 52, 53, 54, 55, 56, 57, 58, 59, 60, 61] F F' ∧ svR (sy_ai F 77) p F' 50)) (46, sy_dL F1 [some (.inl (.ref 46)), some (.inl (.ref 68)), some (.inr (.inl 82)), some (.inr (.inl 83)), some (.inr (.inl 84))], sy_dS F1 [], sy_dh F1 X1 X2 (iv_H 3), 0, 0) := by
  intro m
  induction m with
  | zero =>
    intro F1 n hm hq e82 e83 e84 h3 h7
    have eC : sy_ai F1 77 = sy_ai F 77 := qq_a hq (by decide) (by decide)
    refine j3lds_46 (by decide) F1 X1 X2 hq.1 (by omega) (by omega) (by omega) ?_ ?_
    · intro c0 F2 hb gg a60 a61
      rw [show (sy_i F1 83).toInt.toNat = p + 52 by omega, eC] at a60
      rw [show ((sy_i F1 83).toInt + 4).toNat = p + 56 by omega, eC] at a61
      refine ⟨F2, rfl, rfl, qq_on hq hb gg (by decide), ⟨fun q i hq' hi => ?_, fun i hi => ⟨?_, ?_⟩, fun i hi => ?_⟩⟩
      · rw [show 50 + 3 + q = 53 + q by omega, nz_fa (gg (53 + q) (by omega) (by simp; omega))]
        exact h7 q i hq' (by omega)
      · show _ = (sy_ai F2 60).getD i 0
        rw [a60, cpy_ix, if_pos ⟨Nat.zero_le _, (show i < (0 : Nat) + 4 by omega)⟩]
        show _ = (sy_ai F 77).getD (p + 52 + (i - 0)) 0
        rw [Nat.sub_zero]
      · show _ = (sy_ai F2 61).getD i 0
        rw [a61, cpy_ix, if_pos ⟨Nat.zero_le _, (show i < (0 : Nat) + 4 by omega)⟩]
        show _ = (sy_ai F 77).getD (p + 56 + (i - 0)) 0
        rw [Nat.sub_zero]
      · rw [eI (gg (50 + i) (by omega) (by simp; omega))]
        exact h3 i hi
    · intros
      omega
  | succ m ih =>
    intro F1 n hm hq e82 e83 e84 h3 h7
    have eC : sy_ai F1 77 = sy_ai F 77 := qq_a hq (by decide) (by decide)
    refine j3lds_46 (by decide) F1 X1 X2 hq.1 (by omega) (by omega) (by omega) ?_ ?_
    · intros
      omega
    · intro c0 F2 hb gg a53 a54 a55 a56 a57 a58 a59 e82' j82 e83' j83 e84' j84
      rw [show (sy_i F1 84).toInt.toNat = n by omega, show (sy_i F1 83).toInt.toNat = p + 3 + 7 * n by omega, eC] at a53
      rw [show (sy_i F1 84).toInt.toNat = n by omega, show ((sy_i F1 83).toInt + 1).toNat = p + 3 + 7 * n + 1 by omega, eC] at a54
      rw [show (sy_i F1 84).toInt.toNat = n by omega, show ((sy_i F1 83).toInt + 2).toNat = p + 3 + 7 * n + 2 by omega, eC] at a55
      rw [show (sy_i F1 84).toInt.toNat = n by omega, show ((sy_i F1 83).toInt + 3).toNat = p + 3 + 7 * n + 3 by omega, eC] at a56
      rw [show (sy_i F1 84).toInt.toNat = n by omega, show ((sy_i F1 83).toInt + 4).toNat = p + 3 + 7 * n + 4 by omega, eC] at a57
      rw [show (sy_i F1 84).toInt.toNat = n by omega, show ((sy_i F1 83).toInt + 5).toNat = p + 3 + 7 * n + 5 by omega, eC] at a58
      rw [show (sy_i F1 84).toInt.toNat = n by omega, show ((sy_i F1 83).toInt + 6).toNat = p + 3 + 7 * n + 6 by omega, eC] at a59
      have hu : ∀ q, q < 7 → sy_ai F2 (53 + q) = jm_upd (sy_ai F1 (53 + q)) n ((sy_ai F 77).getD (p + 3 + 7 * n + q) 0) := fun q h => by
        match q, h with
        | 0, _ => exact a53
        | 1, _ => exact a54
        | 2, _ => exact a55
        | 3, _ => exact a56
        | 4, _ => exact a57
        | 5, _ => exact a58
        | 6, _ => exact a59
      refine ih F2 (n + 1) (by omega) (qq_on hq hb gg (by decide)) (by omega) (by omega) (by omega) (fun i hi => ?_) (fun q i hq' hi => ?_)
      · rw [eI (gg (50 + i) (by omega) (by simp; omega))]
        exact h3 i hi
      · rw [hu q hq', jm_upd_at]
        by_cases z : i = n
        · rw [if_pos z, z]
        · rw [if_neg z]
          exact h7 q i hq' (by omega)
theorem j3lds_V (F : Nat → sy_d) (X1 X2 : List jm_c) (hB : iv_in F iv_B0) {v : Int32} {p : Nat} (hv : v.toInt = p) (hp : p ≤ 120) : jm_T Ls xs 1 jm_M10 [.ref 46, .ref 68, .int v] (sy_dh F X1 X2 (iv_H 3)) 0 0 (pV 3 X1 X2 (fun F' => qC [50, 51, 52, 53, 54, 55, 56, 57, 58, 59, 60, 61] F F' ∧ svR (sy_ai F 77) p F' 50)) := by
  refine C_T (by decide) [v] [.inl (.ref 46), .inl (.ref 68), .inr (.inl 82)] jm_ok10 (by decide) rfl (fun F0 k0 ki => ?_)
  have i82 : sy_i F0 82 = v := ki 0
  refine j3lds_0 (by decide) F0 X1 X2 (hd_iveq0 hB k0) (by rw [i82]; omega) ?_
  intro c0 c1 F1 hb gg e50 j50 e51 j51 e52 j52 e82 j82 e83 j83 e84 j84
  rw [i82] at j50 j51 j52 e82 e83
  rw [nz_fa (k0 77 (by decide))] at j50 j51 j52
  rw [show v.toInt.toNat = p by omega] at j50
  rw [show (v.toInt + 1).toNat = p + 1 by omega] at j51
  rw [show (v.toInt + 2).toNat = p + 2 by omega] at j52
  refine j3lds_L F X1 X2 hp 7 F1 0 (by omega) (qq_src (qq_mk hb gg (by decide)) k0) (by omega) (by omega) e84 (fun i hi => ?_) (fun q i hq hi => absurd hi (by omega))
  match i, hi with
  | 0, _ => exact j50.symm
  | 1, _ => exact j51.symm
  | 2, _ => exact j52.symm
end SV3
end
section
/-! ===== the class remembers and steps back, way by way (shape 0) ===== -/
theorem j0re_0_p0 {Ls : Nat} {xs : Nat → Int32} {d : Nat} {Q : Option Value → jm_h → Prop} (hd : 1 ≤ d) (F : Nat → sy_d) (X1 X2 : List jm_c) (hB : iv_in F iv_B0)
    (h0 : (sy_i F 75).toInt ≠ 40)
    (k : ∀ F1 : Nat → sy_d, (∀ j, j < 82 → True → F1 j = F j) → F1 82 = .inl (.int ((((sy_i F 74) + (sy_i F 75)) - ((sy_i F 74) + (sy_i F 75)) / ((40 : Int32)) * ((40 : Int32))) * ((60 : Int32)))) → hd_W Ls xs d jm_M78 Q (52, sy_dL F1 [some (.inl (.ref 66)), none], sy_dS F1 [.inr (.inl 82), .inl (.ref 67), .inl (.ref 46)], sy_dh F1 X1 X2 (iv_H 0), 0, 0)) :
    hd_W Ls xs d jm_M78 Q (0, sy_dL F [some (.inl (.ref 66)), some (.inl (.ref 46))], sy_dS F [], sy_dh F X1 X2 (iv_H 0), 0, 0) := by
  refine hd_run (s := 0) (nv := 82) (pc := 52) (L := [some (.inl (.ref 66)), none]) (S := [.inr (.inl 82), .inl (.ref 67), .inl (.ref 46)]) (uh := hd_ov (iv_id 0 iv_B0) []) (ul := [.inl (.inr (.inl 84))]) (f := true) (sp := [52]) (d0 := 0) (O := [true]) (T := [(0, [.inr (.inl 74), .inr (.inl 75)], []), (10, [.inr (.inl 82), .inl (.int 40)], []), (2, [.inr (.inl 83), .inl (.int 60)], [])]) (P := [(1, .inr (.inl 75), .inl (.int 40)), (1, .inl (.int 40), .inl (.int 0))]) jm_ok78 (by decide +kernel) (by decide +kernel) hd F X1 X2 (fun F' hF hs => ?_)
  have b75 := hd_b (F := F) (F' := F') (k := 75) (hF 75 (by decide))
  have b74 := hd_b (F := F) (F' := F') (k := 74) (hF 74 (by decide))
  have t82 : sy_dv F' (.inr (.inl 82)) = .int ((sy_i F 74) + (sy_i F 75)) := hd_o (hs 0 _ rfl) b74 b75 rfl
  have t83 : sy_dv F' (.inr (.inl 83)) = .int (((sy_i F 74) + (sy_i F 75)) - ((sy_i F 74) + (sy_i F 75)) / ((40 : Int32)) * ((40 : Int32))) := hd_o (hs 1 _ rfl) t82 rfl rfl
  have t84 : sy_dv F' (.inr (.inl 84)) = .int ((((sy_i F 74) + (sy_i F 75)) - ((sy_i F 74) + (sy_i F 75)) / ((40 : Int32)) * ((40 : Int32))) * ((60 : Int32))) := hd_o (hs 2 _ rfl) t83 rfl rfl
  have hB' : iv_in F' iv_B0 := iv_in_eq hB (fun j hj => hF j (Nat.lt_of_lt_of_le hj (by decide +kernel)))
  refine ⟨List.forall_mem_cons.mpr ⟨hd_p1 b75 rfl (by have hc : ((40) : Int32).toInt = 40 := (by decide); omega), List.forall_mem_cons.mpr ⟨(hd_p1 (X := 40) (Y := 0) rfl rfl (by decide)), fun _ h => absurd h List.not_mem_nil⟩⟩, ?_⟩
  refine k _ ?_ ?_
  · exact fun j hj _ => (hd_keep hB' (Nat.lt_of_lt_of_le hj (by decide +kernel)) (by simp)).trans (hF j (Nat.lt_of_lt_of_le hj (by decide)))
  · exact hd_gi (x := .inr (.inl 84)) (by decide +kernel) t84
theorem j0re_0_p1 {Ls : Nat} {xs : Nat → Int32} {d : Nat} {Q : Option Value → jm_h → Prop} (hd : 1 ≤ d) (F : Nat → sy_d) (X1 X2 : List jm_c) (hB : iv_in F iv_B0)
    (h0 : (sy_i F 75).toInt = 40)
    (k : ∀ F1 : Nat → sy_d, (∀ j, j < 82 → j ≠ 74 ∧ j ≠ 75 → F1 j = F j) → F1 74 = .inl (.int (((sy_i F 74) + ((1 : Int32))) - ((sy_i F 74) + ((1 : Int32))) / ((40 : Int32)) * ((40 : Int32)))) → F1 75 = .inl (.int ((sy_i F 75) - ((1 : Int32)))) → F1 82 = .inl (.int ((((((sy_i F 74) + ((1 : Int32))) - ((sy_i F 74) + ((1 : Int32))) / ((40 : Int32)) * ((40 : Int32))) + ((sy_i F 75) - ((1 : Int32)))) - ((((sy_i F 74) + ((1 : Int32))) - ((sy_i F 74) + ((1 : Int32))) / ((40 : Int32)) * ((40 : Int32))) + ((sy_i F 75) - ((1 : Int32)))) / ((40 : Int32)) * ((40 : Int32))) * ((60 : Int32)))) → hd_W Ls xs d jm_M78 Q (52, sy_dL F1 [some (.inl (.ref 66)), none], sy_dS F1 [.inr (.inl 82), .inl (.ref 67), .inl (.ref 46)], sy_dh F1 X1 X2 (iv_H 0), 0, 0)) :
    hd_W Ls xs d jm_M78 Q (0, sy_dL F [some (.inl (.ref 66)), some (.inl (.ref 46))], sy_dS F [], sy_dh F X1 X2 (iv_H 0), 0, 0) := by
  refine hd_run (s := 0) (nv := 82) (pc := 52) (L := [some (.inl (.ref 66)), none]) (S := [.inr (.inl 82), .inl (.ref 67), .inl (.ref 46)]) (uh := hd_ov (iv_id 0 iv_B0) [(74, .inl (.inr (.inl 83))), (75, .inl (.inr (.inl 84)))]) (ul := [.inl (.inr (.inl 87))]) (f := true) (sp := [52]) (d0 := 0) (O := [false]) (T := [(0, [.inr (.inl 74), .inl (.int 1)], []), (10, [.inr (.inl 82), .inl (.int 40)], []), (1, [.inr (.inl 75), .inl (.int 1)], []), (0, [.inr (.inl 83), .inr (.inl 84)], []), (10, [.inr (.inl 85), .inl (.int 40)], []), (2, [.inr (.inl 86), .inl (.int 60)], [])]) (P := [(0, .inr (.inl 75), .inl (.int 40)), (1, .inl (.int 40), .inl (.int 0)), (1, .inl (.int 40), .inl (.int 0))]) jm_ok78 (by decide +kernel) (by decide +kernel) hd F X1 X2 (fun F' hF hs => ?_)
  have b75 := hd_b (F := F) (F' := F') (k := 75) (hF 75 (by decide))
  have b74 := hd_b (F := F) (F' := F') (k := 74) (hF 74 (by decide))
  have t82 : sy_dv F' (.inr (.inl 82)) = .int ((sy_i F 74) + ((1 : Int32))) := hd_o (hs 0 _ rfl) b74 rfl rfl
  have t83 : sy_dv F' (.inr (.inl 83)) = .int (((sy_i F 74) + ((1 : Int32))) - ((sy_i F 74) + ((1 : Int32))) / ((40 : Int32)) * ((40 : Int32))) := hd_o (hs 1 _ rfl) t82 rfl rfl
  have t84 : sy_dv F' (.inr (.inl 84)) = .int ((sy_i F 75) - ((1 : Int32))) := hd_o (hs 2 _ rfl) b75 rfl rfl
  have t85 : sy_dv F' (.inr (.inl 85)) = .int ((((sy_i F 74) + ((1 : Int32))) - ((sy_i F 74) + ((1 : Int32))) / ((40 : Int32)) * ((40 : Int32))) + ((sy_i F 75) - ((1 : Int32)))) := hd_o (hs 3 _ rfl) t83 t84 rfl
  have t86 : sy_dv F' (.inr (.inl 86)) = .int (((((sy_i F 74) + ((1 : Int32))) - ((sy_i F 74) + ((1 : Int32))) / ((40 : Int32)) * ((40 : Int32))) + ((sy_i F 75) - ((1 : Int32)))) - ((((sy_i F 74) + ((1 : Int32))) - ((sy_i F 74) + ((1 : Int32))) / ((40 : Int32)) * ((40 : Int32))) + ((sy_i F 75) - ((1 : Int32)))) / ((40 : Int32)) * ((40 : Int32))) := hd_o (hs 4 _ rfl) t85 rfl rfl
  have t87 : sy_dv F' (.inr (.inl 87)) = .int ((((((sy_i F 74) + ((1 : Int32))) - ((sy_i F 74) + ((1 : Int32))) / ((40 : Int32)) * ((40 : Int32))) + ((sy_i F 75) - ((1 : Int32)))) - ((((sy_i F 74) + ((1 : Int32))) - ((sy_i F 74) + ((1 : Int32))) / ((40 : Int32)) * ((40 : Int32))) + ((sy_i F 75) - ((1 : Int32)))) / ((40 : Int32)) * ((40 : Int32))) * ((60 : Int32))) := hd_o (hs 5 _ rfl) t86 rfl rfl
  have hB' : iv_in F' iv_B0 := iv_in_eq hB (fun j hj => hF j (Nat.lt_of_lt_of_le hj (by decide +kernel)))
  refine ⟨List.forall_mem_cons.mpr ⟨hd_p0 b75 rfl (by have hc : ((40) : Int32).toInt = 40 := (by decide); omega), List.forall_mem_cons.mpr ⟨(hd_p1 (X := 40) (Y := 0) rfl rfl (by decide)), List.forall_mem_cons.mpr ⟨(hd_p1 (X := 40) (Y := 0) rfl rfl (by decide)), fun _ h => absurd h List.not_mem_nil⟩⟩⟩, ?_⟩
  refine k _ ?_ ?_ ?_ ?_
  · exact fun j hj hn => (hd_keep hB' (Nat.lt_of_lt_of_le hj (by decide +kernel)) (by simp; omega)).trans (hF j (Nat.lt_of_lt_of_le hj (by decide)))
  · exact hd_gi (x := .inr (.inl 83)) (by decide +kernel) t83
  · exact hd_gi (x := .inr (.inl 84)) (by decide +kernel) t84
  · exact hd_gi (x := .inr (.inl 87)) (by decide +kernel) t87
theorem j0re_0 {Ls : Nat} {xs : Nat → Int32} {d : Nat} {Q : Option Value → jm_h → Prop} (hd : 1 ≤ d) (F : Nat → sy_d) (X1 X2 : List jm_c) (hB : iv_in F iv_B0)
    (k0 : (sy_i F 75).toInt ≠ 40 → ∀ F1 : Nat → sy_d, iv_in F1 iv_B0 → (∀ j, j < 82 → j ∉ ([] : List Nat) → F1 j = F j) → (sy_i F1 82).toInt = ((((sy_i F 74) + (sy_i F 75)) - ((sy_i F 74) + (sy_i F 75)) / ((40 : Int32)) * ((40 : Int32))) * ((60 : Int32))).toInt → sy_i F1 82 = (((sy_i F 74) + (sy_i F 75)) - ((sy_i F 74) + (sy_i F 75)) / ((40 : Int32)) * ((40 : Int32))) * ((60 : Int32)) → hd_W Ls xs d jm_M78 Q (52, sy_dL F1 [some (.inl (.ref 66)), none], sy_dS F1 [.inr (.inl 82), .inl (.ref 67), .inl (.ref 46)], sy_dh F1 X1 X2 (iv_H 0), 0, 0))
    (k1 : (sy_i F 75).toInt = 40 → ∀ F1 : Nat → sy_d, iv_in F1 iv_B0 → (∀ j, j < 82 → j ∉ ([74, 75] : List Nat) → F1 j = F j) → (sy_i F1 74).toInt = (((sy_i F 74) + ((1 : Int32))) - ((sy_i F 74) + ((1 : Int32))) / ((40 : Int32)) * ((40 : Int32))).toInt → sy_i F1 74 = ((sy_i F 74) + ((1 : Int32))) - ((sy_i F 74) + ((1 : Int32))) / ((40 : Int32)) * ((40 : Int32)) → (sy_i F1 75).toInt = ((sy_i F 75).toInt - 1) → sy_i F1 75 = (sy_i F 75) - ((1 : Int32)) → (sy_i F1 82).toInt = ((((((sy_i F 74) + ((1 : Int32))) - ((sy_i F 74) + ((1 : Int32))) / ((40 : Int32)) * ((40 : Int32))) + ((sy_i F 75) - ((1 : Int32)))) - ((((sy_i F 74) + ((1 : Int32))) - ((sy_i F 74) + ((1 : Int32))) / ((40 : Int32)) * ((40 : Int32))) + ((sy_i F 75) - ((1 : Int32)))) / ((40 : Int32)) * ((40 : Int32))) * ((60 : Int32))).toInt → sy_i F1 82 = (((((sy_i F 74) + ((1 : Int32))) - ((sy_i F 74) + ((1 : Int32))) / ((40 : Int32)) * ((40 : Int32))) + ((sy_i F 75) - ((1 : Int32)))) - ((((sy_i F 74) + ((1 : Int32))) - ((sy_i F 74) + ((1 : Int32))) / ((40 : Int32)) * ((40 : Int32))) + ((sy_i F 75) - ((1 : Int32)))) / ((40 : Int32)) * ((40 : Int32))) * ((60 : Int32)) → hd_W Ls xs d jm_M78 Q (52, sy_dL F1 [some (.inl (.ref 66)), none], sy_dS F1 [.inr (.inl 82), .inl (.ref 67), .inl (.ref 46)], sy_dh F1 X1 X2 (iv_H 0), 0, 0)) :
    hd_W Ls xs d jm_M78 Q (0, sy_dL F [some (.inl (.ref 66)), some (.inl (.ref 46))], sy_dS F [], sy_dh F X1 X2 (iv_H 0), 0, 0) := by
  by_cases g0 : (sy_i F 75).toInt ≠ 40
  · have c75 := nz_bx hB (k := 75) (lo := 0) (hi := 40) rfl
    have n84 : nzI ((((sy_i F 74) + (sy_i F 75)) - ((sy_i F 74) + (sy_i F 75)) / ((40 : Int32)) * ((40 : Int32))) * ((60 : Int32))) (((((sy_i F 74) + (sy_i F 75)) - ((sy_i F 74) + (sy_i F 75)) / ((40 : Int32)) * ((40 : Int32))) * ((60 : Int32))).toInt) := congrArg Int32.toInt (rfl : (((sy_i F 74) + (sy_i F 75)) - ((sy_i F 74) + (sy_i F 75)) / ((40 : Int32)) * ((40 : Int32))) * ((60 : Int32)) = (((sy_i F 74) + (sy_i F 75)) - ((sy_i F 74) + (sy_i F 75)) / ((40 : Int32)) * ((40 : Int32))) * ((60 : Int32)))
    exact j0re_0_p0 hd F X1 X2 hB (by first | exact g0 | (simp only [nz_c]; exact g0)) (fun F1 g e82 => k0 g0 F1 (nz_in0 hB [] (fun j hj hn => g j hj (by simp only [List.mem_cons, List.not_mem_nil, or_false, not_or] at hn; exact trivial)) (List.forall_mem_nil _)) (fun j hj hn => g j hj (by simp only [List.mem_cons, List.not_mem_nil, or_false, not_or] at hn; exact trivial)) ((congrArg Int32.toInt (zz_i e82)).trans (nzE n84)) ((zz_i e82).trans (rfl : (((sy_i F 74) + (sy_i F 75)) - ((sy_i F 74) + (sy_i F 75)) / ((40 : Int32)) * ((40 : Int32))) * ((60 : Int32)) = (((sy_i F 74) + (sy_i F 75)) - ((sy_i F 74) + (sy_i F 75)) / ((40 : Int32)) * ((40 : Int32))) * ((60 : Int32)))))
  replace g0 : (sy_i F 75).toInt = 40 := by omega
  have c75 := nz_bx hB (k := 75) (lo := 0) (hi := 40) rfl
  have n83 : nzI (((sy_i F 74) + ((1 : Int32))) - ((sy_i F 74) + ((1 : Int32))) / ((40 : Int32)) * ((40 : Int32))) ((((sy_i F 74) + ((1 : Int32))) - ((sy_i F 74) + ((1 : Int32))) / ((40 : Int32)) * ((40 : Int32))).toInt) := congrArg Int32.toInt (rfl : ((sy_i F 74) + ((1 : Int32))) - ((sy_i F 74) + ((1 : Int32))) / ((40 : Int32)) * ((40 : Int32)) = ((sy_i F 74) + ((1 : Int32))) - ((sy_i F 74) + ((1 : Int32))) / ((40 : Int32)) * ((40 : Int32)))
  have c74 := nz_bx hB (k := 74) (lo := 0) (hi := 39) rfl
  have n82 : nzI ((sy_i F 74) + ((1 : Int32))) (((sy_i F 74).toInt + 1)) := nz_add (rfl : (sy_i F 74).toInt = (sy_i F 74).toInt) (by decide : ((1 : Int32)).toInt = 1) (by omega) (by omega)
  have r83 := rmB (nzE n82) (by decide : ((40 : Int32)).toInt = 40) (by omega) (by decide)
  have n84 : nzI ((sy_i F 75) - ((1 : Int32))) (((sy_i F 75).toInt - 1)) := nz_sub (rfl : (sy_i F 75).toInt = (sy_i F 75).toInt) (by decide : ((1 : Int32)).toInt = 1) (by omega) (by omega)
  have n87 : nzI ((((((sy_i F 74) + ((1 : Int32))) - ((sy_i F 74) + ((1 : Int32))) / ((40 : Int32)) * ((40 : Int32))) + ((sy_i F 75) - ((1 : Int32)))) - ((((sy_i F 74) + ((1 : Int32))) - ((sy_i F 74) + ((1 : Int32))) / ((40 : Int32)) * ((40 : Int32))) + ((sy_i F 75) - ((1 : Int32)))) / ((40 : Int32)) * ((40 : Int32))) * ((60 : Int32))) (((((((sy_i F 74) + ((1 : Int32))) - ((sy_i F 74) + ((1 : Int32))) / ((40 : Int32)) * ((40 : Int32))) + ((sy_i F 75) - ((1 : Int32)))) - ((((sy_i F 74) + ((1 : Int32))) - ((sy_i F 74) + ((1 : Int32))) / ((40 : Int32)) * ((40 : Int32))) + ((sy_i F 75) - ((1 : Int32)))) / ((40 : Int32)) * ((40 : Int32))) * ((60 : Int32))).toInt) := congrArg Int32.toInt (rfl : (((((sy_i F 74) + ((1 : Int32))) - ((sy_i F 74) + ((1 : Int32))) / ((40 : Int32)) * ((40 : Int32))) + ((sy_i F 75) - ((1 : Int32)))) - ((((sy_i F 74) + ((1 : Int32))) - ((sy_i F 74) + ((1 : Int32))) / ((40 : Int32)) * ((40 : Int32))) + ((sy_i F 75) - ((1 : Int32)))) / ((40 : Int32)) * ((40 : Int32))) * ((60 : Int32)) = (((((sy_i F 74) + ((1 : Int32))) - ((sy_i F 74) + ((1 : Int32))) / ((40 : Int32)) * ((40 : Int32))) + ((sy_i F 75) - ((1 : Int32)))) - ((((sy_i F 74) + ((1 : Int32))) - ((sy_i F 74) + ((1 : Int32))) / ((40 : Int32)) * ((40 : Int32))) + ((sy_i F 75) - ((1 : Int32)))) / ((40 : Int32)) * ((40 : Int32))) * ((60 : Int32)))
  exact j0re_0_p1 hd F X1 X2 hB (by first | exact g0 | (simp only [nz_c]; exact g0)) (fun F1 g e74 e75 e82 => k1 g0 F1 (nz_in0 hB [74, 75] (fun j hj hn => g j hj (by simp only [List.mem_cons, List.not_mem_nil, or_false, not_or] at hn; omega)) (List.forall_mem_cons.mpr ⟨fun t ht => (Option.some.inj ht) ▸ (nz_hi e74 (nzE n83) (by omega) (by omega)), List.forall_mem_cons.mpr ⟨fun t ht => (Option.some.inj ht) ▸ (nz_hi e75 (nzE n84) (by omega) (by omega)), List.forall_mem_nil _⟩⟩)) (fun j hj hn => g j hj (by simp only [List.mem_cons, List.not_mem_nil, or_false, not_or] at hn; omega)) ((congrArg Int32.toInt (zz_i e74)).trans (nzE n83)) ((zz_i e74).trans (rfl : ((sy_i F 74) + ((1 : Int32))) - ((sy_i F 74) + ((1 : Int32))) / ((40 : Int32)) * ((40 : Int32)) = ((sy_i F 74) + ((1 : Int32))) - ((sy_i F 74) + ((1 : Int32))) / ((40 : Int32)) * ((40 : Int32)))) ((congrArg Int32.toInt (zz_i e75)).trans (nzE n84)) ((zz_i e75).trans (rfl : (sy_i F 75) - ((1 : Int32)) = (sy_i F 75) - ((1 : Int32)))) ((congrArg Int32.toInt (zz_i e82)).trans (nzE n87)) ((zz_i e82).trans (rfl : (((((sy_i F 74) + ((1 : Int32))) - ((sy_i F 74) + ((1 : Int32))) / ((40 : Int32)) * ((40 : Int32))) + ((sy_i F 75) - ((1 : Int32)))) - ((((sy_i F 74) + ((1 : Int32))) - ((sy_i F 74) + ((1 : Int32))) / ((40 : Int32)) * ((40 : Int32))) + ((sy_i F 75) - ((1 : Int32)))) / ((40 : Int32)) * ((40 : Int32))) * ((60 : Int32)) = (((((sy_i F 74) + ((1 : Int32))) - ((sy_i F 74) + ((1 : Int32))) / ((40 : Int32)) * ((40 : Int32))) + ((sy_i F 75) - ((1 : Int32)))) - ((((sy_i F 74) + ((1 : Int32))) - ((sy_i F 74) + ((1 : Int32))) / ((40 : Int32)) * ((40 : Int32))) + ((sy_i F 75) - ((1 : Int32)))) / ((40 : Int32)) * ((40 : Int32))) * ((60 : Int32)))))
theorem j0re_55_p0 {Ls : Nat} {xs : Nat → Int32} {d : Nat} {Q : Option Value → jm_h → Prop} (hd : 1 ≤ d) (F : Nat → sy_d) (X1 X2 : List jm_c) (hB : iv_in F iv_B0)
    (k : ∀ F1 : Nat → sy_d, (∀ j, j < 82 → j ≠ 75 → F1 j = F j) → F1 75 = .inl (.int ((sy_i F 75) + ((1 : Int32)))) → Q (none) (sy_dh F1 X1 X2 (iv_H 0))) :
    hd_W Ls xs d jm_M78 Q (55, sy_dL F [some (.inl (.ref 66)), none], sy_dS F [], sy_dh F X1 X2 (iv_H 0), 0, 0) := by
  refine hd_ret (s := 0) (nv := 82) (v := none) (uh := hd_ov (iv_id 0 iv_B0) [(75, .inl (.inr (.inl 82)))]) (f := false) (sp := []) (d0 := 0) (O := []) (T := [(0, [.inr (.inl 75), .inl (.int 1)], [])]) (P := []) jm_ok78 (by decide +kernel) (by decide +kernel) hd F X1 X2 (fun F' hF hs => ?_)
  have b75 := hd_b (F := F) (F' := F') (k := 75) (hF 75 (by decide))
  have t82 : sy_dv F' (.inr (.inl 82)) = .int ((sy_i F 75) + ((1 : Int32))) := hd_o (hs 0 _ rfl) b75 rfl rfl
  have hB' : iv_in F' iv_B0 := iv_in_eq hB (fun j hj => hF j (Nat.lt_of_lt_of_le hj (by decide +kernel)))
  refine ⟨fun _ h => absurd h List.not_mem_nil, ?_⟩
  refine k _ ?_ ?_
  · exact fun j hj hn => (hd_keep hB' (Nat.lt_of_lt_of_le hj (by decide +kernel)) (by simp; omega)).trans (hF j (Nat.lt_of_lt_of_le hj (by decide)))
  · exact hd_gi (x := .inr (.inl 82)) (by decide +kernel) t82
theorem j0re_55 {Ls : Nat} {xs : Nat → Int32} {d : Nat} {Q : Option Value → jm_h → Prop} (hd : 1 ≤ d) (F : Nat → sy_d) (X1 X2 : List jm_c) (hB : iv_in F iv_B0)
    (o0 : (0 ≤ ((sy_i F 75).toInt + 1) ∧ ((sy_i F 75).toInt + 1) ≤ 40))
    (k0 : ∀ F1 : Nat → sy_d, iv_in F1 iv_B0 → (∀ j, j < 82 → j ∉ ([75] : List Nat) → F1 j = F j) → (sy_i F1 75).toInt = ((sy_i F 75).toInt + 1) → sy_i F1 75 = (sy_i F 75) + ((1 : Int32)) → Q (none) (sy_dh F1 X1 X2 (iv_H 0))) :
    hd_W Ls xs d jm_M78 Q (55, sy_dL F [some (.inl (.ref 66)), none], sy_dS F [], sy_dh F X1 X2 (iv_H 0), 0, 0) := by
  have c75 := nz_bx hB (k := 75) (lo := 0) (hi := 40) rfl
  have n82 : nzI ((sy_i F 75) + ((1 : Int32))) (((sy_i F 75).toInt + 1)) := nz_add (rfl : (sy_i F 75).toInt = (sy_i F 75).toInt) (by decide : ((1 : Int32)).toInt = 1) (by omega) (by omega)
  exact j0re_55_p0 hd F X1 X2 hB  (fun F1 g e75 => k0 F1 (nz_in0 hB [75] (fun j hj hn => g j hj (by simp only [List.mem_cons, List.not_mem_nil, or_false, not_or] at hn; omega)) (List.forall_mem_cons.mpr ⟨fun t ht => (Option.some.inj ht) ▸ (nz_hi e75 (nzE n82) (o0).1 (o0).2), List.forall_mem_nil _⟩)) (fun j hj hn => g j hj (by simp only [List.mem_cons, List.not_mem_nil, or_false, not_or] at hn; omega)) ((congrArg Int32.toInt (zz_i e75)).trans (nzE n82)) ((zz_i e75).trans (rfl : (sy_i F 75) + ((1 : Int32)) = (sy_i F 75) + ((1 : Int32)))))
theorem j0st_0_p0 {Ls : Nat} {xs : Nat → Int32} {d : Nat} {Q : Option Value → jm_h → Prop} (hd : 1 ≤ d) (F : Nat → sy_d) (X1 X2 : List jm_c) (hB : iv_in F iv_B0)
    (h0 : (sy_i F 75).toInt ≠ 0)
    (k : ∀ F1 : Nat → sy_d, (∀ j, j < 82 → j ≠ 75 → F1 j = F j) → F1 75 = .inl (.int ((sy_i F 75) - ((1 : Int32)))) → F1 82 = .inl (.int ((((sy_i F 74) + ((sy_i F 75) - ((1 : Int32)))) - ((sy_i F 74) + ((sy_i F 75) - ((1 : Int32)))) / ((40 : Int32)) * ((40 : Int32))) * ((60 : Int32)))) → hd_W Ls xs d jm_M79 Q (39, sy_dL F1 [none, none], sy_dS F1 [.inr (.inl 82), .inl (.ref 67), .inl (.ref 46)], sy_dh F1 X1 X2 (iv_H 0), 0, 0)) :
    hd_W Ls xs d jm_M79 Q (0, sy_dL F [some (.inl (.ref 66)), some (.inl (.ref 46))], sy_dS F [], sy_dh F X1 X2 (iv_H 0), 0, 0) := by
  refine hd_run (s := 0) (nv := 82) (pc := 39) (L := [none, none]) (S := [.inr (.inl 82), .inl (.ref 67), .inl (.ref 46)]) (uh := hd_ov (iv_id 0 iv_B0) [(75, .inl (.inr (.inl 82)))]) (ul := [.inl (.inr (.inl 85))]) (f := true) (sp := [39]) (d0 := 0) (O := [true]) (T := [(1, [.inr (.inl 75), .inl (.int 1)], []), (0, [.inr (.inl 74), .inr (.inl 82)], []), (10, [.inr (.inl 83), .inl (.int 40)], []), (2, [.inr (.inl 84), .inl (.int 60)], [])]) (P := [(1, .inr (.inl 75), .inl (.int 0)), (1, .inl (.int 40), .inl (.int 0))]) jm_ok79 (by decide +kernel) (by decide +kernel) hd F X1 X2 (fun F' hF hs => ?_)
  have b75 := hd_b (F := F) (F' := F') (k := 75) (hF 75 (by decide))
  have t82 : sy_dv F' (.inr (.inl 82)) = .int ((sy_i F 75) - ((1 : Int32))) := hd_o (hs 0 _ rfl) b75 rfl rfl
  have b74 := hd_b (F := F) (F' := F') (k := 74) (hF 74 (by decide))
  have t83 : sy_dv F' (.inr (.inl 83)) = .int ((sy_i F 74) + ((sy_i F 75) - ((1 : Int32)))) := hd_o (hs 1 _ rfl) b74 t82 rfl
  have t84 : sy_dv F' (.inr (.inl 84)) = .int (((sy_i F 74) + ((sy_i F 75) - ((1 : Int32)))) - ((sy_i F 74) + ((sy_i F 75) - ((1 : Int32)))) / ((40 : Int32)) * ((40 : Int32))) := hd_o (hs 2 _ rfl) t83 rfl rfl
  have t85 : sy_dv F' (.inr (.inl 85)) = .int ((((sy_i F 74) + ((sy_i F 75) - ((1 : Int32)))) - ((sy_i F 74) + ((sy_i F 75) - ((1 : Int32)))) / ((40 : Int32)) * ((40 : Int32))) * ((60 : Int32))) := hd_o (hs 3 _ rfl) t84 rfl rfl
  have hB' : iv_in F' iv_B0 := iv_in_eq hB (fun j hj => hF j (Nat.lt_of_lt_of_le hj (by decide +kernel)))
  refine ⟨List.forall_mem_cons.mpr ⟨hd_p1 b75 rfl (by have hc : ((0) : Int32).toInt = 0 := (by decide); omega), List.forall_mem_cons.mpr ⟨(hd_p1 (X := 40) (Y := 0) rfl rfl (by decide)), fun _ h => absurd h List.not_mem_nil⟩⟩, ?_⟩
  refine k _ ?_ ?_ ?_
  · exact fun j hj hn => (hd_keep hB' (Nat.lt_of_lt_of_le hj (by decide +kernel)) (by simp; omega)).trans (hF j (Nat.lt_of_lt_of_le hj (by decide)))
  · exact hd_gi (x := .inr (.inl 82)) (by decide +kernel) t82
  · exact hd_gi (x := .inr (.inl 85)) (by decide +kernel) t85
theorem j0st_0_p1 {Ls : Nat} {xs : Nat → Int32} {d : Nat} {Q : Option Value → jm_h → Prop} (hd : 1 ≤ d) (F : Nat → sy_d) (X1 X2 : List jm_c) (hB : iv_in F iv_B0)
    (h0 : (sy_i F 75).toInt = 0)
    (k : ∀ F1 : Nat → sy_d, (∀ j, j < 82 → True → F1 j = F j) → Q (some (.int ((0 : Int32)))) (sy_dh F1 X1 X2 (iv_H 0))) :
    hd_W Ls xs d jm_M79 Q (0, sy_dL F [some (.inl (.ref 66)), some (.inl (.ref 46))], sy_dS F [], sy_dh F X1 X2 (iv_H 0), 0, 0) := by
  refine hd_ret (s := 0) (nv := 82) (v := some (.inl (.int 0))) (uh := hd_ov (iv_id 0 iv_B0) []) (f := true) (sp := [39]) (d0 := 0) (O := [false]) (T := []) (P := [(0, .inr (.inl 75), .inl (.int 0))]) jm_ok79 (by decide +kernel) (by decide +kernel) hd F X1 X2 (fun F' hF hs => ?_)
  have b75 := hd_b (F := F) (F' := F') (k := 75) (hF 75 (by decide))
  have hB' : iv_in F' iv_B0 := iv_in_eq hB (fun j hj => hF j (Nat.lt_of_lt_of_le hj (by decide +kernel)))
  refine ⟨List.forall_mem_cons.mpr ⟨hd_p0 b75 rfl (by have hc : ((0) : Int32).toInt = 0 := (by decide); omega), fun _ h => absurd h List.not_mem_nil⟩, ?_⟩
  refine k _ ?_
  · exact fun j hj _ => (hd_keep hB' (Nat.lt_of_lt_of_le hj (by decide +kernel)) (by simp)).trans (hF j (Nat.lt_of_lt_of_le hj (by decide)))
theorem j0st_0 {Ls : Nat} {xs : Nat → Int32} {d : Nat} {Q : Option Value → jm_h → Prop} (hd : 1 ≤ d) (F : Nat → sy_d) (X1 X2 : List jm_c) (hB : iv_in F iv_B0)
    (k0 : (sy_i F 75).toInt ≠ 0 → ∀ F1 : Nat → sy_d, iv_in F1 iv_B0 → (∀ j, j < 82 → j ∉ ([75] : List Nat) → F1 j = F j) → (sy_i F1 75).toInt = ((sy_i F 75).toInt - 1) → sy_i F1 75 = (sy_i F 75) - ((1 : Int32)) → (sy_i F1 82).toInt = ((((sy_i F 74) + ((sy_i F 75) - ((1 : Int32)))) - ((sy_i F 74) + ((sy_i F 75) - ((1 : Int32)))) / ((40 : Int32)) * ((40 : Int32))) * ((60 : Int32))).toInt → sy_i F1 82 = (((sy_i F 74) + ((sy_i F 75) - ((1 : Int32)))) - ((sy_i F 74) + ((sy_i F 75) - ((1 : Int32)))) / ((40 : Int32)) * ((40 : Int32))) * ((60 : Int32)) → hd_W Ls xs d jm_M79 Q (39, sy_dL F1 [none, none], sy_dS F1 [.inr (.inl 82), .inl (.ref 67), .inl (.ref 46)], sy_dh F1 X1 X2 (iv_H 0), 0, 0))
    (k1 : (sy_i F 75).toInt = 0 → ∀ F1 : Nat → sy_d, iv_in F1 iv_B0 → (∀ j, j < 82 → j ∉ ([] : List Nat) → F1 j = F j) → Q (some (.int ((0 : Int32)))) (sy_dh F1 X1 X2 (iv_H 0))) :
    hd_W Ls xs d jm_M79 Q (0, sy_dL F [some (.inl (.ref 66)), some (.inl (.ref 46))], sy_dS F [], sy_dh F X1 X2 (iv_H 0), 0, 0) := by
  by_cases g0 : (sy_i F 75).toInt ≠ 0
  · have c75 := nz_bx hB (k := 75) (lo := 0) (hi := 40) rfl
    have n82 : nzI ((sy_i F 75) - ((1 : Int32))) (((sy_i F 75).toInt - 1)) := nz_sub (rfl : (sy_i F 75).toInt = (sy_i F 75).toInt) (by decide : ((1 : Int32)).toInt = 1) (by omega) (by omega)
    have n85 : nzI ((((sy_i F 74) + ((sy_i F 75) - ((1 : Int32)))) - ((sy_i F 74) + ((sy_i F 75) - ((1 : Int32)))) / ((40 : Int32)) * ((40 : Int32))) * ((60 : Int32))) (((((sy_i F 74) + ((sy_i F 75) - ((1 : Int32)))) - ((sy_i F 74) + ((sy_i F 75) - ((1 : Int32)))) / ((40 : Int32)) * ((40 : Int32))) * ((60 : Int32))).toInt) := congrArg Int32.toInt (rfl : (((sy_i F 74) + ((sy_i F 75) - ((1 : Int32)))) - ((sy_i F 74) + ((sy_i F 75) - ((1 : Int32)))) / ((40 : Int32)) * ((40 : Int32))) * ((60 : Int32)) = (((sy_i F 74) + ((sy_i F 75) - ((1 : Int32)))) - ((sy_i F 74) + ((sy_i F 75) - ((1 : Int32)))) / ((40 : Int32)) * ((40 : Int32))) * ((60 : Int32)))
    exact j0st_0_p0 hd F X1 X2 hB (by first | exact g0 | (simp only [nz_c]; exact g0)) (fun F1 g e75 e82 => k0 g0 F1 (nz_in0 hB [75] (fun j hj hn => g j hj (by simp only [List.mem_cons, List.not_mem_nil, or_false, not_or] at hn; omega)) (List.forall_mem_cons.mpr ⟨fun t ht => (Option.some.inj ht) ▸ (nz_hi e75 (nzE n82) (by omega) (by omega)), List.forall_mem_nil _⟩)) (fun j hj hn => g j hj (by simp only [List.mem_cons, List.not_mem_nil, or_false, not_or] at hn; omega)) ((congrArg Int32.toInt (zz_i e75)).trans (nzE n82)) ((zz_i e75).trans (rfl : (sy_i F 75) - ((1 : Int32)) = (sy_i F 75) - ((1 : Int32)))) ((congrArg Int32.toInt (zz_i e82)).trans (nzE n85)) ((zz_i e82).trans (rfl : (((sy_i F 74) + ((sy_i F 75) - ((1 : Int32)))) - ((sy_i F 74) + ((sy_i F 75) - ((1 : Int32)))) / ((40 : Int32)) * ((40 : Int32))) * ((60 : Int32)) = (((sy_i F 74) + ((sy_i F 75) - ((1 : Int32)))) - ((sy_i F 74) + ((sy_i F 75) - ((1 : Int32)))) / ((40 : Int32)) * ((40 : Int32))) * ((60 : Int32)))))
  replace g0 : (sy_i F 75).toInt = 0 := by omega
  have c75 := nz_bx hB (k := 75) (lo := 0) (hi := 40) rfl
  exact j0st_0_p1 hd F X1 X2 hB (by first | exact g0 | (simp only [nz_c]; exact g0)) (fun F1 g  => k1 g0 F1 (nz_in0 hB [] (fun j hj hn => g j hj (by simp only [List.mem_cons, List.not_mem_nil, or_false, not_or] at hn; exact trivial)) (List.forall_mem_nil _)) (fun j hj hn => g j hj (by simp only [List.mem_cons, List.not_mem_nil, or_false, not_or] at hn; exact trivial)) )
theorem j0st_42_p0 {Ls : Nat} {xs : Nat → Int32} {d : Nat} {Q : Option Value → jm_h → Prop} (hd : 1 ≤ d) (F : Nat → sy_d) (X1 X2 : List jm_c) (hB : iv_in F iv_B0)
    (k : ∀ F1 : Nat → sy_d, (∀ j, j < 82 → True → F1 j = F j) → Q (some (.int ((1 : Int32)))) (sy_dh F1 X1 X2 (iv_H 0))) :
    hd_W Ls xs d jm_M79 Q (42, sy_dL F [none, none], sy_dS F [], sy_dh F X1 X2 (iv_H 0), 0, 0) := by
  refine hd_ret (s := 0) (nv := 82) (v := some (.inl (.int 1))) (uh := hd_ov (iv_id 0 iv_B0) []) (f := false) (sp := []) (d0 := 0) (O := []) (T := []) (P := []) jm_ok79 (by decide +kernel) (by decide +kernel) hd F X1 X2 (fun F' hF hs => ?_)
  have hB' : iv_in F' iv_B0 := iv_in_eq hB (fun j hj => hF j (Nat.lt_of_lt_of_le hj (by decide +kernel)))
  refine ⟨fun _ h => absurd h List.not_mem_nil, ?_⟩
  refine k _ ?_
  · exact fun j hj _ => (hd_keep hB' (Nat.lt_of_lt_of_le hj (by decide +kernel)) (by simp)).trans (hF j (Nat.lt_of_lt_of_le hj (by decide)))
theorem j0st_42 {Ls : Nat} {xs : Nat → Int32} {d : Nat} {Q : Option Value → jm_h → Prop} (hd : 1 ≤ d) (F : Nat → sy_d) (X1 X2 : List jm_c) (hB : iv_in F iv_B0)
    (k0 : ∀ F1 : Nat → sy_d, iv_in F1 iv_B0 → (∀ j, j < 82 → j ∉ ([] : List Nat) → F1 j = F j) → Q (some (.int ((1 : Int32)))) (sy_dh F1 X1 X2 (iv_H 0))) :
    hd_W Ls xs d jm_M79 Q (42, sy_dL F [none, none], sy_dS F [], sy_dh F X1 X2 (iv_H 0), 0, 0) := by
  exact j0st_42_p0 hd F X1 X2 hB  (fun F1 g  => k0 F1 (nz_in0 hB [] (fun j hj hn => g j hj (by simp only [List.mem_cons, List.not_mem_nil, or_false, not_or] at hn; exact trivial)) (List.forall_mem_nil _)) (fun j hj hn => g j hj (by simp only [List.mem_cons, List.not_mem_nil, or_false, not_or] at hn; exact trivial)) )
end
section
/-! ===== what was before ===== -/
theorem rm40 {x : Int32} {n : Nat} (h : x.toInt = n) : (x - x / 40 * 40).toInt = ((n % 40 : Nat) : Int) := by
  rw [iv_rem, h, (by decide : (40 : Int32).toInt = ((40 : Nat) : Int))]
  exact (Int.ofNat_tmod n 40).symm
theorem rm60 {x : Int32} {n : Nat} (h : x.toInt = n) : ((x - x / 40 * 40) * 60).toInt = ((n % 40 * 60 : Nat) : Int) := by
  rw [nz_mul (rm40 h) (by decide : (60 : Int32).toInt = 60) (by omega) (by omega)]
  omega
/-- the grounds before, the newest first -/
def trK (nf nb : Nat) (l : List Int32) (o : Nat) : List gS → Prop
  | [] => True
  | g :: U => svC nf nb l ((o + U.length) % 40 * 60) g ∧ trK nf nb l o U
def trC (nf nb : Nat) (F : Nat → sy_d) (U : List gS) : Prop := ∃ o : Nat, o < 40 ∧ U.length ≤ 40 ∧ (sy_i F 74).toInt = o ∧ (sy_i F 75).toInt = U.length ∧ trK nf nb (sy_ai F 76) o U
/-- one more is kept; of forty the oldest goes -/
def rmS (g : gS) (U : List gS) : List gS := g :: (if U.length = 40 then U.dropLast else U)
theorem trK_eq {nf nb o : Nat} {l l' : List Int32} (hf : nf ≤ 7) (hb : nb ≤ 4) : ∀ U : List gS, (∀ k, k < U.length → ∀ j, (o + k) % 40 * 60 ≤ j → j < (o + k) % 40 * 60 + 60 → l'.getD j 0 = l.getD j 0) → trK nf nb l o U → trK nf nb l' o U
  | [], _, _ => trivial
  | g :: U, e, h => ⟨svC_eq hf hb h.1 (e U.length (by simp)), trK_eq hf hb U (fun k hk => e k (by simp; omega)) h.2⟩
theorem trK_dr {nf nb o : Nat} {l : List Int32} : ∀ U : List gS, trK nf nb l o U → trK nf nb l ((o + 1) % 40) U.dropLast
  | [], _ => trivial
  | [g], _ => trivial
  | g :: g' :: U, h => by
    refine ⟨?_, trK_dr (g' :: U) h.2⟩
    have e : (((o + 1) % 40 + (g' :: U).dropLast.length) % 40) = (o + (g' :: U).length) % 40 := by
      rw [List.length_dropLast]
      simp only [List.length_cons]
      omega
    show svC nf nb l (((o + 1) % 40 + (g' :: U).dropLast.length) % 40 * 60) g
    rw [e]
    exact h.1
theorem trC_eq {nf nb : Nat} {F F1 : Nat → sy_d} {U : List gS} (h : trC nf nb F U) (e4 : F1 74 = F 74) (e5 : F1 75 = F 75) (e6 : F1 76 = F 76) : trC nf nb F1 U := by
  obtain ⟨o, h1, h2, h3, h4, h5⟩ := h
  exact ⟨o, h1, h2, by rw [nz_fi e4]; exact h3, by rw [nz_fi e5]; exact h4, by rw [nz_fa e6]; exact h5⟩
end
section
/-! ===== the class remembers and steps back (shape 0) ===== -/
section RM0
variable {Ls : Nat} {xs : Nat → Int32} {nf nb : Nat} {g : gS} (F : Nat → sy_d) (X1 X2 : List jm_c)
theorem j0re_W (hf : nf ≤ 7) (hb : nb ≤ 4) (hg : gC 50 nf nb F g) {F1 : Nat → sy_d} {o : Nat} {U : List gS} (ho : o < 40) (hU : U.length < 40) (hq : qC [74, 75] F F1) (e74 : (sy_i F1 74).toInt = o) (e75 : (sy_i F1 75).toInt = U.length) (hk : trK nf nb (sy_ai F 76) o U) (e82 : (sy_i F1 82).toInt = (((o + U.length) % 40 * 60 : Nat) : Int)) :
    hd_W Ls xs 2 jm_M78 (pV 0 X1 X2 (fun F' => qC [74, 75, 76] F F' ∧ trC nf nb F' (g :: U))) (52, sy_dL F1 [some (.inl (.ref 66)), none], sy_dS F1 [.inr (.inl 82), .inl (.ref 67), .inl (.ref 46)], sy_dh F1 X1 X2 (iv_H 0), 0, 0) := by
  refine hd_calV (R := fun F' => qC [76] F1 F' ∧ svR (sy_ai F' 76) ((o + U.length) % 40 * 60) F1 50 ∧ ∀ j, j < (o + U.length) % 40 * 60 ∨ (o + U.length) % 40 * 60 + 60 ≤ j → (sy_ai F' 76).getD j 0 = (sy_ai F1 76).getD j 0) (nh := 82) (nv := 82) (s := 0) (s1 := 0) (d1 := 1) (M1 := jm_M9) (As := [.inl (.ref 46), .inl (.ref 67), .inr (.inl 82)]) (rest := []) jm_ok78 rfl rfl (by decide) (by decide +kernel) (j0svt_V F1 X1 X2 hq.1 e82 (by omega)) (fun F3 F' hR p1 p2 => ?_)
  obtain ⟨r1, r2, r3⟩ := hR
  have r1' : qC [76] F1 F3 := qC_dst r1 p1
  have e753 : (sy_i F3 75).toInt = U.length := by rw [qq_i r1' (by decide) (by decide)]; exact e75
  refine j0re_55 (by decide) F3 X1 X2 r1'.1 (by omega) ?_
  intro F4 hb4 g4 e754 j754
  have g1 : gC 50 nf nb F1 g := gC_eq hg (fun j h1 h2 => hq.2 j (by omega) (by simp; omega))
  have l4 : sy_ai F4 76 = sy_ai F' 76 := (nz_fa (g4 76 (by decide) (by decide))).trans (nz_fa (p1 76 (by decide)))
  have l1 : sy_ai F1 76 = sy_ai F 76 := qq_a hq (by decide) (by decide)
  refine ⟨F4, rfl, rfl, qq_on (qq_trans (qq_up hq (by decide)) (qq_up r1' (by decide))) hb4 g4 (by decide), o, ho, by simp only [List.length_cons]; omega, ?_, by simp only [List.length_cons]; omega, ?_, ?_⟩
  · rw [nz_fi (g4 74 (by decide) (by decide)), qq_i r1' (by decide) (by decide)]
    exact e74
  · rw [l4]
    exact svC_of hf hb r2 g1
  · rw [l4]
    refine trK_eq hf hb U (fun k hk' j h1 h2 => ?_) hk
    rw [← l1]
    exact r3 j (by omega)
theorem j0re_V (hB : iv_in F iv_B0) (hf : nf ≤ 7) (hb : nb ≤ 4) (hg : gC 50 nf nb F g) {U : List gS} (hT : trC nf nb F U) : jm_T Ls xs 2 jm_M78 [.ref 66, .ref 46] (sy_dh F X1 X2 (iv_H 0)) 0 0 (pV 0 X1 X2 (fun F' => qC [74, 75, 76] F F' ∧ trC nf nb F' (rmS g U))) := by
  obtain ⟨o, h1, h2, h3, h4, h5⟩ := hT
  refine hd_T (As := [.inl (.ref 66), .inl (.ref 46)]) jm_ok78 (by decide) (j0re_0 (by decide) F X1 X2 hB ?_ ?_)
  · intro c0 F1 hb1 gg e82 j82
    have hn : U.length ≠ 40 := by omega
    unfold rmS
    rw [if_neg hn]
    refine j0re_W F X1 X2 hf hb hg h1 (by omega) (qq_mk hb1 gg (by decide)) (by rw [nz_fi (gg 74 (by decide) (by decide))]; exact h3) (by rw [nz_fi (gg 75 (by decide) (by decide))]; exact h4) h5 ?_
    rw [e82]
    exact rm60 (n := o + U.length) (nz_add h3 h4 (by omega) (by omega))
  · intro c0 F1 hb1 gg e74 j74 e75 j75 e82 j82
    have hn : U.length = 40 := by omega
    unfold rmS
    rw [if_pos hn]
    have o1 : (sy_i F 74 + 1 - (sy_i F 74 + 1) / 40 * 40).toInt = (((o + 1) % 40 : Nat) : Int) := rm40 (n := o + 1) (nz_add h3 (by decide : (1 : Int32).toInt = 1) (by omega) (by omega))
    have s1 : (sy_i F 75 - 1).toInt = ((39 : Nat) : Int) := (nz_sub h4 (by decide : (1 : Int32).toInt = 1) (by omega) (by omega)).trans (by omega)
    have hd : U.dropLast.length = 39 := by rw [List.length_dropLast, hn]
    refine j0re_W F X1 X2 hf hb hg (o := (o + 1) % 40) (U := U.dropLast) (by omega) (by omega) (qq_mk hb1 gg (by decide)) (e74.trans o1) (by rw [hd]; omega) (trK_dr U h5) ?_
    rw [e82, hd]
    exact rm60 (n := (o + 1) % 40 + 39) (nz_add o1 s1 (by omega) (by omega))
theorem j0st_V0 (hB : iv_in F iv_B0) (hT : trC nf nb F []) : jm_T Ls xs 2 jm_M79 [.ref 66, .ref 46] (sy_dh F X1 X2 (iv_H 0)) 0 0 (pI 0 X1 X2 (fun x F' => x = 0 ∧ qC [] F F')) := by
  obtain ⟨o, h1, h2, h3, h4, h5⟩ := hT
  have h4' : (sy_i F 75).toInt = 0 := h4
  refine hd_T (As := [.inl (.ref 66), .inl (.ref 46)]) jm_ok79 (by decide) (j0st_0 (by decide) F X1 X2 hB ?_ ?_)
  · intros
    omega
  · intro c0 F1 hb1 gg
    exact ⟨_, F1, rfl, rfl, rfl, qq_mk hb1 gg (by decide)⟩
theorem j0st_V1 (hB : iv_in F iv_B0) (hf : nf ≤ 7) (hb : nb ≤ 4) {U : List gS} (hT : trC nf nb F (g :: U)) : jm_T Ls xs 2 jm_M79 [.ref 66, .ref 46] (sy_dh F X1 X2 (iv_H 0)) 0 0 (pI 0 X1 X2 (fun x F' => x = 1 ∧ qC (75 :: [50, 51, 52, 53, 54, 55, 56, 57, 58, 59, 60, 61]) F F' ∧ trC nf nb F' U ∧ gC 50 nf nb F' g)) := by
  obtain ⟨o, h1, h2, h3, h4, h5⟩ := hT
  have hl : (g :: U).length = U.length + 1 := rfl
  rw [hl] at h2 h4
  refine hd_T (As := [.inl (.ref 66), .inl (.ref 46)]) jm_ok79 (by decide) (j0st_0 (by decide) F X1 X2 hB ?_ ?_)
  · intro c0 F1 hb1 gg e75 j75 e82 j82
    have s1 : (sy_i F 75 - 1).toInt = (U.length : Int) := (nz_sub h4 (by decide : (1 : Int32).toInt = 1) (by omega) (by omega)).trans (by omega)
    have x82 : (sy_i F1 82).toInt = (((o + U.length) % 40 * 60 : Nat) : Int) := by
      rw [e82]
      exact rm60 (n := o + U.length) (nz_add h3 s1 (by omega) (by omega))
    have q1 : qC [75] F F1 := qq_mk hb1 gg (by decide)
    refine hd_calV (R := fun F' => qC [50, 51, 52, 53, 54, 55, 56, 57, 58, 59, 60, 61] F1 F' ∧ svR (sy_ai F1 76) ((o + U.length) % 40 * 60) F' 50) (nh := 82) (nv := 82) (s := 0) (s1 := 0) (d1 := 1) (M1 := jm_M10) (As := [.inl (.ref 46), .inl (.ref 67), .inr (.inl 82)]) (rest := []) jm_ok79 rfl rfl (by decide) (by decide +kernel) (j0ldt_V F1 X1 X2 hb1 x82 (by omega)) (fun F3 F' hR p1 p2 => ?_)
    obtain ⟨r1, r2⟩ := hR
    have r1' : qC [50, 51, 52, 53, 54, 55, 56, 57, 58, 59, 60, 61] F1 F3 := qC_dst r1 p1
    refine j0st_42 (by decide) F3 X1 X2 r1'.1 ?_
    intro F4 hb4 g4
    have l1 : sy_ai F1 76 = sy_ai F 76 := qq_a q1 (by decide) (by decide)
    have l4 : sy_ai F4 76 = sy_ai F 76 := (nz_fa (g4 76 (by decide) (by decide))).trans ((qq_a r1' (by decide) (by decide)).trans l1)
    refine ⟨_, F4, rfl, rfl, rfl, qq_on (qq_trans (qq_up q1 (by decide)) (qq_up r1' (by decide))) hb4 g4 (by decide), ⟨o, h1, by omega, ?_, ?_, ?_⟩, ?_⟩
    · rw [nz_fi (g4 74 (by decide) (by decide)), qq_i r1' (by decide) (by decide), nz_fi (gg 74 (by decide) (by decide))]
      exact h3
    · rw [nz_fi (g4 75 (by decide) (by decide)), qq_i r1' (by decide) (by decide)]
      omega
    · rw [l4]
      exact h5.2
    · rw [l1] at r2
      exact gC_eq (gC_of hf hb r2 h5.1) (fun j h1 h2 => (g4 j (by omega) (by simp)).trans (p1 j (by omega)))
  · intros
    omega
end RM0
end
section
/-! ===== the calls that change the ground, way by way (shape 0) ===== -/
theorem j0un_0_p0 {Ls : Nat} {xs : Nat → Int32} {d : Nat} {Q : Option Value → jm_h → Prop} (hd : 1 ≤ d) (F : Nat → sy_d) (X1 X2 : List jm_c) (hB : iv_in F iv_B0)
    (k : ∀ F1 : Nat → sy_d, (∀ j, j < 82 → True → F1 j = F j) → hd_W Ls xs d jm_M92 Q (8, sy_dL F1 [none], sy_dS F1 [.inl (.ref 46), .inl (.ref 66)], sy_dh F1 X1 X2 (iv_H 0), 0, 0)) :
    hd_W Ls xs d jm_M92 Q (0, sy_dL F [some (.inl (.ref 8))], sy_dS F [], sy_dh F X1 X2 (iv_H 0), 0, 0) := by
  refine hd_run (s := 0) (nv := 82) (pc := 8) (L := [none]) (S := [.inl (.ref 46), .inl (.ref 66)]) (uh := hd_ov (iv_id 0 iv_B0) []) (ul := []) (f := true) (sp := [8]) (d0 := 0) (O := []) (T := []) (P := []) jm_ok92 (by decide +kernel) (by decide +kernel) hd F X1 X2 (fun F' hF hs => ?_)
  have hB' : iv_in F' iv_B0 := iv_in_eq hB (fun j hj => hF j (Nat.lt_of_lt_of_le hj (by decide +kernel)))
  refine ⟨fun _ h => absurd h List.not_mem_nil, ?_⟩
  refine k _ ?_
  · exact fun j hj _ => (hd_keep hB' (Nat.lt_of_lt_of_le hj (by decide +kernel)) (by simp)).trans (hF j (Nat.lt_of_lt_of_le hj (by decide)))
theorem j0un_0 {Ls : Nat} {xs : Nat → Int32} {d : Nat} {Q : Option Value → jm_h → Prop} (hd : 1 ≤ d) (F : Nat → sy_d) (X1 X2 : List jm_c) (hB : iv_in F iv_B0)
    (k0 : ∀ F1 : Nat → sy_d, iv_in F1 iv_B0 → (∀ j, j < 82 → j ∉ ([] : List Nat) → F1 j = F j) → hd_W Ls xs d jm_M92 Q (8, sy_dL F1 [none], sy_dS F1 [.inl (.ref 46), .inl (.ref 66)], sy_dh F1 X1 X2 (iv_H 0), 0, 0)) :
    hd_W Ls xs d jm_M92 Q (0, sy_dL F [some (.inl (.ref 8))], sy_dS F [], sy_dh F X1 X2 (iv_H 0), 0, 0) := by
  exact j0un_0_p0 hd F X1 X2 hB  (fun F1 g  => k0 F1 (nz_in0 hB [] (fun j hj hn => g j hj (by simp only [List.mem_cons, List.not_mem_nil, or_false, not_or] at hn; exact trivial)) (List.forall_mem_nil _)) (fun j hj hn => g j hj (by simp only [List.mem_cons, List.not_mem_nil, or_false, not_or] at hn; exact trivial)) )
theorem j0un_11_p0 {Ls : Nat} {xs : Nat → Int32} {d : Nat} {Q : Option Value → jm_h → Prop} (hd : 1 ≤ d) (F : Nat → sy_d) (X1 X2 : List jm_c) (hB : iv_in F iv_B0)
    (h0 : (sy_i F 82).toInt = 0 ∨ (sy_i F 82).toInt = 1)
    (k : ∀ F1 : Nat → sy_d, (∀ j, j < 82 → True → F1 j = F j) → Q (some (.int (sy_i F 82))) (sy_dh F1 X1 X2 (iv_H 0))) :
    hd_W Ls xs d jm_M92 Q (11, sy_dL F [none], sy_dS F [.inr (.inl 82)], sy_dh F X1 X2 (iv_H 0), 0, 0) := by
  refine hd_ret (s := 0) (nv := 83) (v := some (.inr (.inl 82))) (uh := hd_ov (iv_id 0 iv_B0) []) (f := false) (sp := []) (d0 := 0) (O := []) (T := []) (P := [(6, .inr (.inl 82), .inl (.int 0))]) jm_ok92 (by decide +kernel) (by decide +kernel) hd F X1 X2 (fun F' hF hs => ?_)
  have b82 := hd_b (F := F) (F' := F') (k := 82) (hF 82 (by decide))
  have hB' : iv_in F' iv_B0 := iv_in_eq hB (fun j hj => hF j (Nat.lt_of_lt_of_le hj (by decide +kernel)))
  have hk := k (sy_cm F' (hd_ov (iv_id 0 iv_B0) [] ++ [])) (fun j hj _ => (hd_keep hB' (Nat.lt_of_lt_of_le hj (by decide +kernel)) (by simp)).trans (hF j (Nat.lt_of_lt_of_le hj (by decide))))
  refine ⟨List.forall_mem_cons.mpr ⟨hd_p6 b82 h0, fun _ h => absurd h List.not_mem_nil⟩, ?_⟩
  show Q (some (sy_dv F' (.inr (.inl 82)))) _
  rw [b82]
  exact hk
theorem j0un_11 {Ls : Nat} {xs : Nat → Int32} {d : Nat} {Q : Option Value → jm_h → Prop} (hd : 1 ≤ d) (F : Nat → sy_d) (X1 X2 : List jm_c) (hB : iv_in F iv_B0)
    (o0 : ((sy_i F 82).toInt = 0 ∨ (sy_i F 82).toInt = 1))
    (k0 : ∀ F1 : Nat → sy_d, iv_in F1 iv_B0 → (∀ j, j < 82 → j ∉ ([] : List Nat) → F1 j = F j) → Q (some (.int (sy_i F 82))) (sy_dh F1 X1 X2 (iv_H 0))) :
    hd_W Ls xs d jm_M92 Q (11, sy_dL F [none], sy_dS F [.inr (.inl 82)], sy_dh F X1 X2 (iv_H 0), 0, 0) := by
  exact j0un_11_p0 hd F X1 X2 hB (by first | exact (o0) | (simp only [nz_c]; exact (o0))) (fun F1 g  => by rw [(rfl : sy_i F 82 = sy_i F 82)]; exact k0 F1 (nz_in0 hB [] (fun j hj hn => g j hj (by simp only [List.mem_cons, List.not_mem_nil, or_false, not_or] at hn; exact trivial)) (List.forall_mem_nil _)) (fun j hj hn => g j hj (by simp only [List.mem_cons, List.not_mem_nil, or_false, not_or] at hn; exact trivial)) )
theorem j0hd_0_p0 {Ls : Nat} {xs : Nat → Int32} {d : Nat} {Q : Option Value → jm_h → Prop} (hd : 2 ≤ d) (F : Nat → sy_d) (X1 X2 : List jm_c) (hB : iv_in F iv_B0)
    (h0 : (sy_i F 82).toInt < 0)
    (k : ∀ F1 : Nat → sy_d, (∀ j, j < 82 → True → F1 j = F j) → Q (some (.int ((0 : Int32)))) (sy_dh F1 X1 X2 (iv_H 0))) :
    hd_W Ls xs d jm_M113 Q (0, sy_dL F [some (.inl (.ref 8)), some (.inr (.inl 82))], sy_dS F [], sy_dh F X1 X2 (iv_H 0), 0, 0) := by
  refine hd_ret (s := 0) (nv := 83) (v := some (.inl (.int 0))) (uh := hd_ov (iv_id 0 iv_B0) []) (f := true) (sp := [23]) (d0 := 1) (O := [true]) (T := []) (P := [(2, .inr (.inl 82), .inl (.int 0))]) jm_ok113 (by decide +kernel) (by decide +kernel) hd F X1 X2 (fun F' hF hs => ?_)
  have b82 := hd_b (F := F) (F' := F') (k := 82) (hF 82 (by decide))
  have hB' : iv_in F' iv_B0 := iv_in_eq hB (fun j hj => hF j (Nat.lt_of_lt_of_le hj (by decide +kernel)))
  refine ⟨List.forall_mem_cons.mpr ⟨hd_p2 b82 rfl (by have hc : ((0) : Int32).toInt = 0 := (by decide); omega), fun _ h => absurd h List.not_mem_nil⟩, ?_⟩
  refine k _ ?_
  · exact fun j hj _ => (hd_keep hB' (Nat.lt_of_lt_of_le hj (by decide +kernel)) (by simp)).trans (hF j (Nat.lt_of_lt_of_le hj (by decide)))
theorem j0hd_0_p1 {Ls : Nat} {xs : Nat → Int32} {d : Nat} {Q : Option Value → jm_h → Prop} (hd : 2 ≤ d) (F : Nat → sy_d) (X1 X2 : List jm_c) (hB : iv_in F iv_B0)
    (h0 : 0 ≤ (sy_i F 82).toInt)
    (h1 : 2 < (sy_i F 82).toInt)
    (k : ∀ F1 : Nat → sy_d, (∀ j, j < 82 → True → F1 j = F j) → Q (some (.int ((0 : Int32)))) (sy_dh F1 X1 X2 (iv_H 0))) :
    hd_W Ls xs d jm_M113 Q (0, sy_dL F [some (.inl (.ref 8)), some (.inr (.inl 82))], sy_dS F [], sy_dh F X1 X2 (iv_H 0), 0, 0) := by
  refine hd_ret (s := 0) (nv := 83) (v := some (.inl (.int 0))) (uh := hd_ov (iv_id 0 iv_B0) []) (f := true) (sp := [23]) (d0 := 1) (O := [false, true]) (T := []) (P := [(3, .inr (.inl 82), .inl (.int 0)), (2, .inl (.int 2), .inr (.inl 82))]) jm_ok113 (by decide +kernel) (by decide +kernel) hd F X1 X2 (fun F' hF hs => ?_)
  have b82 := hd_b (F := F) (F' := F') (k := 82) (hF 82 (by decide))
  have hB' : iv_in F' iv_B0 := iv_in_eq hB (fun j hj => hF j (Nat.lt_of_lt_of_le hj (by decide +kernel)))
  refine ⟨List.forall_mem_cons.mpr ⟨hd_p3 b82 rfl (by have hc : ((0) : Int32).toInt = 0 := (by decide); omega), List.forall_mem_cons.mpr ⟨hd_p2 rfl b82 (by have hc : ((2) : Int32).toInt = 2 := (by decide); omega), fun _ h => absurd h List.not_mem_nil⟩⟩, ?_⟩
  refine k _ ?_
  · exact fun j hj _ => (hd_keep hB' (Nat.lt_of_lt_of_le hj (by decide +kernel)) (by simp)).trans (hF j (Nat.lt_of_lt_of_le hj (by decide)))
theorem j0hd_0_p2 {Ls : Nat} {xs : Nat → Int32} {d : Nat} {Q : Option Value → jm_h → Prop} (hd : 2 ≤ d) (F : Nat → sy_d) (X1 X2 : List jm_c) (hB : iv_in F iv_B0)
    (h0 : 0 ≤ (sy_i F 82).toInt)
    (h1 : (sy_i F 82).toInt ≤ 2)
    (k : ∀ F1 : Nat → sy_d, (∀ j, j < 82 → True → F1 j = F j) → F1 82 = .inl (.int (sy_i F 82)) → F1 83 = .inl (.int ((sy_i F 82) * ((60 : Int32)))) → hd_W Ls xs d jm_M113 Q (23, sy_dL F1 [some (.inl (.ref 8)), some (.inr (.inl 82))], sy_dS F1 [.inr (.inl 83), .inl (.ref 68), .inl (.ref 46)], sy_dh F1 X1 X2 (iv_H 0), 0, 0)) :
    hd_W Ls xs d jm_M113 Q (0, sy_dL F [some (.inl (.ref 8)), some (.inr (.inl 82))], sy_dS F [], sy_dh F X1 X2 (iv_H 0), 0, 0) := by
  refine hd_run (s := 0) (nv := 83) (pc := 23) (L := [some (.inl (.ref 8)), some (.inr (.inl 82))]) (S := [.inr (.inl 83), .inl (.ref 68), .inl (.ref 46)]) (uh := hd_ov (iv_id 0 iv_B0) []) (ul := [.inl (.inr (.inl 82)), .inl (.inr (.inl 83))]) (f := true) (sp := [23]) (d0 := 1) (O := [false, false]) (T := [(2, [.inr (.inl 82), .inl (.int 60)], [])]) (P := [(3, .inr (.inl 82), .inl (.int 0)), (3, .inl (.int 2), .inr (.inl 82))]) jm_ok113 (by decide +kernel) (by decide +kernel) hd F X1 X2 (fun F' hF hs => ?_)
  have b82 := hd_b (F := F) (F' := F') (k := 82) (hF 82 (by decide))
  have t83 : sy_dv F' (.inr (.inl 83)) = .int ((sy_i F 82) * ((60 : Int32))) := hd_o (hs 0 _ rfl) b82 rfl rfl
  have hB' : iv_in F' iv_B0 := iv_in_eq hB (fun j hj => hF j (Nat.lt_of_lt_of_le hj (by decide +kernel)))
  refine ⟨List.forall_mem_cons.mpr ⟨hd_p3 b82 rfl (by have hc : ((0) : Int32).toInt = 0 := (by decide); omega), List.forall_mem_cons.mpr ⟨hd_p3 rfl b82 (by have hc : ((2) : Int32).toInt = 2 := (by decide); omega), fun _ h => absurd h List.not_mem_nil⟩⟩, ?_⟩
  refine k _ ?_ ?_ ?_
  · exact fun j hj _ => (hd_keep hB' (Nat.lt_of_lt_of_le hj (by decide +kernel)) (by simp)).trans (hF j (Nat.lt_of_lt_of_le hj (by decide)))
  · exact hd_gi (x := .inr (.inl 82)) (by decide +kernel) b82
  · exact hd_gi (x := .inr (.inl 83)) (by decide +kernel) t83
theorem j0hd_0 {Ls : Nat} {xs : Nat → Int32} {d : Nat} {Q : Option Value → jm_h → Prop} (hd : 2 ≤ d) (F : Nat → sy_d) (X1 X2 : List jm_c) (hB : iv_in F iv_B0)
    (k0 : (sy_i F 82).toInt < 0 → ∀ F1 : Nat → sy_d, iv_in F1 iv_B0 → (∀ j, j < 82 → j ∉ ([] : List Nat) → F1 j = F j) → Q (some (.int ((0 : Int32)))) (sy_dh F1 X1 X2 (iv_H 0)))
    (k1 : 0 ≤ (sy_i F 82).toInt → 2 < (sy_i F 82).toInt → ∀ F1 : Nat → sy_d, iv_in F1 iv_B0 → (∀ j, j < 82 → j ∉ ([] : List Nat) → F1 j = F j) → Q (some (.int ((0 : Int32)))) (sy_dh F1 X1 X2 (iv_H 0)))
    (k2 : 0 ≤ (sy_i F 82).toInt → (sy_i F 82).toInt ≤ 2 → ∀ F1 : Nat → sy_d, iv_in F1 iv_B0 → (∀ j, j < 82 → j ∉ ([] : List Nat) → F1 j = F j) → (sy_i F1 82).toInt = (sy_i F 82).toInt → sy_i F1 82 = sy_i F 82 → (sy_i F1 83).toInt = ((sy_i F 82).toInt * 60) → sy_i F1 83 = (sy_i F 82) * ((60 : Int32)) → hd_W Ls xs d jm_M113 Q (23, sy_dL F1 [some (.inl (.ref 8)), some (.inr (.inl 82))], sy_dS F1 [.inr (.inl 83), .inl (.ref 68), .inl (.ref 46)], sy_dh F1 X1 X2 (iv_H 0), 0, 0)) :
    hd_W Ls xs d jm_M113 Q (0, sy_dL F [some (.inl (.ref 8)), some (.inr (.inl 82))], sy_dS F [], sy_dh F X1 X2 (iv_H 0), 0, 0) := by
  by_cases g0 : (sy_i F 82).toInt < 0
  · exact j0hd_0_p0 hd F X1 X2 hB (by first | exact g0 | (simp only [nz_c]; exact g0)) (fun F1 g  => k0 g0 F1 (nz_in0 hB [] (fun j hj hn => g j hj (by simp only [List.mem_cons, List.not_mem_nil, or_false, not_or] at hn; exact trivial)) (List.forall_mem_nil _)) (fun j hj hn => g j hj (by simp only [List.mem_cons, List.not_mem_nil, or_false, not_or] at hn; exact trivial)) )
  replace g0 : 0 ≤ (sy_i F 82).toInt := by omega
  by_cases g1 : 2 < (sy_i F 82).toInt
  · exact j0hd_0_p1 hd F X1 X2 hB (by first | exact g0 | (simp only [nz_c]; exact g0)) (by first | exact g1 | (simp only [nz_c]; exact g1)) (fun F1 g  => k1 g0 g1 F1 (nz_in0 hB [] (fun j hj hn => g j hj (by simp only [List.mem_cons, List.not_mem_nil, or_false, not_or] at hn; exact trivial)) (List.forall_mem_nil _)) (fun j hj hn => g j hj (by simp only [List.mem_cons, List.not_mem_nil, or_false, not_or] at hn; exact trivial)) )
  replace g1 : (sy_i F 82).toInt ≤ 2 := by omega
  have n83 : nzI ((sy_i F 82) * ((60 : Int32))) (((sy_i F 82).toInt * 60)) := nz_mul (rfl : (sy_i F 82).toInt = (sy_i F 82).toInt) (by decide : ((60 : Int32)).toInt = 60) (by omega) (by omega)
  exact j0hd_0_p2 hd F X1 X2 hB (by first | exact g0 | (simp only [nz_c]; exact g0)) (by first | exact g1 | (simp only [nz_c]; exact g1)) (fun F1 g e82 e83 => k2 g0 g1 F1 (nz_in0 hB [] (fun j hj hn => g j hj (by simp only [List.mem_cons, List.not_mem_nil, or_false, not_or] at hn; exact trivial)) (List.forall_mem_nil _)) (fun j hj hn => g j hj (by simp only [List.mem_cons, List.not_mem_nil, or_false, not_or] at hn; exact trivial)) ((congrArg Int32.toInt (zz_i e82)).trans (rfl : (sy_i F 82).toInt = (sy_i F 82).toInt)) ((zz_i e82).trans (rfl : sy_i F 82 = sy_i F 82)) ((congrArg Int32.toInt (zz_i e83)).trans (nzE n83)) ((zz_i e83).trans (rfl : (sy_i F 82) * ((60 : Int32)) = (sy_i F 82) * ((60 : Int32)))))
theorem j0hd_26_p0 {Ls : Nat} {xs : Nat → Int32} {d : Nat} {Q : Option Value → jm_h → Prop} (hd : 1 ≤ d) (F : Nat → sy_d) (X1 X2 : List jm_c) (hB : iv_in F iv_B0)
    (h0 : 0 ≤ (sy_i F 82).toInt ∧ (sy_i F 82).toInt < 3)
    (k : ∀ F1 : Nat → sy_d, (∀ j, j < 82 → j ≠ 78 → F1 j = F j) → F1 78 = .inr (.inl (jm_upd (sy_ai F 78) (sy_i F 82).toNatClampNeg ((1 : Int32)))) → Q (some (.int ((1 : Int32)))) (sy_dh F1 X1 X2 (iv_H 0))) :
    hd_W Ls xs d jm_M113 Q (26, sy_dL F [some (.inl (.ref 8)), some (.inr (.inl 82))], sy_dS F [], sy_dh F X1 X2 (iv_H 0), 0, 0) := by
  refine hd_ret (s := 0) (nv := 83) (v := some (.inl (.int 1))) (uh := hd_ov (iv_id 0 iv_B0) [(78, .inr (.inr (.inl 83)))]) (f := false) (sp := []) (d0 := 0) (O := []) (T := [(40, [.inr (.inl 82), .inl (.int 1)], [.inr (.inl 78)])]) (P := [(6, .inr (.inl 82), .inl (.ref 3))]) jm_ok113 (by decide +kernel) (by decide +kernel) hd F X1 X2 (fun F' hF hs => ?_)
  have b82 := hd_b (F := F) (F' := F') (k := 82) (hF 82 (by decide))
  have a78 := hd_ba (F := F) (F' := F') (k := 78) (hF 78 (by decide))
  have t83 : sy_da F' (.inr (.inl 83)) = .inl (jm_upd (sy_ai F 78) (sy_i F 82).toNatClampNeg ((1 : Int32))) := hd_up (hs 0 _ rfl) b82 rfl a78
  have hB' : iv_in F' iv_B0 := iv_in_eq hB (fun j hj => hF j (Nat.lt_of_lt_of_le hj (by decide +kernel)))
  refine ⟨List.forall_mem_cons.mpr ⟨hd_pb b82 (by first | exact h0 | exact h0), fun _ h => absurd h List.not_mem_nil⟩, ?_⟩
  refine k _ ?_ ?_
  · exact fun j hj hn => (hd_keep hB' (Nat.lt_of_lt_of_le hj (by decide +kernel)) (by simp; omega)).trans (hF j (Nat.lt_of_lt_of_le hj (by decide)))
  · exact hd_ga (a := .inr (.inl 83)) (by decide +kernel) t83
theorem j0hd_26 {Ls : Nat} {xs : Nat → Int32} {d : Nat} {Q : Option Value → jm_h → Prop} (hd : 1 ≤ d) (F : Nat → sy_d) (X1 X2 : List jm_c) (hB : iv_in F iv_B0)
    (a82 : 0 ≤ (sy_i F 82).toInt ∧ (sy_i F 82).toInt ≤ 2)
    (k0 : ∀ F1 : Nat → sy_d, iv_in F1 iv_B0 → (∀ j, j < 82 → j ∉ ([78] : List Nat) → F1 j = F j) → sy_ai F1 78 = jm_upd (sy_ai F 78) ((sy_i F 82).toInt).toNat ((1 : Int32)) → Q (some (.int ((1 : Int32)))) (sy_dh F1 X1 X2 (iv_H 0))) :
    hd_W Ls xs d jm_M113 Q (26, sy_dL F [some (.inl (.ref 8)), some (.inr (.inl 82))], sy_dS F [], sy_dh F X1 X2 (iv_H 0), 0, 0) := by
  have w83 : jm_upd (sy_ai F 78) (sy_i F 82).toNatClampNeg ((1 : Int32)) = jm_upd (sy_ai F 78) ((sy_i F 82).toInt).toNat ((1 : Int32)) := by simp only [nz_c, (by decide : ((1 : Int32)).toInt = 1)]
  exact j0hd_26_p0 hd F X1 X2 hB (by first | exact ⟨by omega, by omega⟩ | (simp only [nz_c]; exact ⟨by omega, by omega⟩)) (fun F1 g e78 => k0 F1 (nz_in0 hB [78] (fun j hj hn => g j hj (by simp only [List.mem_cons, List.not_mem_nil, or_false, not_or] at hn; omega)) (List.forall_mem_cons.mpr ⟨fun t ht => (Option.some.inj ht) ▸ (nz_hA e78 (nz_up (nz_ba hB (k := 78) (lo := 0) (hi := 1) rfl) (by decide : ((1 : Int32)).toInt = 1) (by omega) (by omega))), List.forall_mem_nil _⟩)) (fun j hj hn => g j hj (by simp only [List.mem_cons, List.not_mem_nil, or_false, not_or] at hn; omega)) ((zz_ai e78).trans w83))
theorem j0rs_0_p0 {Ls : Nat} {xs : Nat → Int32} {d : Nat} {Q : Option Value → jm_h → Prop} (hd : 2 ≤ d) (F : Nat → sy_d) (X1 X2 : List jm_c) (hB : iv_in F iv_B0)
    (h0 : (sy_i F 82).toInt < 0)
    (k : ∀ F1 : Nat → sy_d, (∀ j, j < 82 → True → F1 j = F j) → Q (some (.int ((0 : Int32)))) (sy_dh F1 X1 X2 (iv_H 0))) :
    hd_W Ls xs d jm_M114 Q (0, sy_dL F [some (.inl (.ref 8)), some (.inr (.inl 82))], sy_dS F [], sy_dh F X1 X2 (iv_H 0), 0, 0) := by
  refine hd_ret (s := 0) (nv := 83) (v := some (.inl (.int 0))) (uh := hd_ov (iv_id 0 iv_B0) []) (f := true) (sp := [32]) (d0 := 1) (O := [true]) (T := []) (P := [(2, .inr (.inl 82), .inl (.int 0))]) jm_ok114 (by decide +kernel) (by decide +kernel) hd F X1 X2 (fun F' hF hs => ?_)
  have b82 := hd_b (F := F) (F' := F') (k := 82) (hF 82 (by decide))
  have hB' : iv_in F' iv_B0 := iv_in_eq hB (fun j hj => hF j (Nat.lt_of_lt_of_le hj (by decide +kernel)))
  refine ⟨List.forall_mem_cons.mpr ⟨hd_p2 b82 rfl (by have hc : ((0) : Int32).toInt = 0 := (by decide); omega), fun _ h => absurd h List.not_mem_nil⟩, ?_⟩
  refine k _ ?_
  · exact fun j hj _ => (hd_keep hB' (Nat.lt_of_lt_of_le hj (by decide +kernel)) (by simp)).trans (hF j (Nat.lt_of_lt_of_le hj (by decide)))
theorem j0rs_0_p1 {Ls : Nat} {xs : Nat → Int32} {d : Nat} {Q : Option Value → jm_h → Prop} (hd : 2 ≤ d) (F : Nat → sy_d) (X1 X2 : List jm_c) (hB : iv_in F iv_B0)
    (h0 : 0 ≤ (sy_i F 82).toInt)
    (h1 : 2 < (sy_i F 82).toInt)
    (k : ∀ F1 : Nat → sy_d, (∀ j, j < 82 → True → F1 j = F j) → Q (some (.int ((0 : Int32)))) (sy_dh F1 X1 X2 (iv_H 0))) :
    hd_W Ls xs d jm_M114 Q (0, sy_dL F [some (.inl (.ref 8)), some (.inr (.inl 82))], sy_dS F [], sy_dh F X1 X2 (iv_H 0), 0, 0) := by
  refine hd_ret (s := 0) (nv := 83) (v := some (.inl (.int 0))) (uh := hd_ov (iv_id 0 iv_B0) []) (f := true) (sp := [32]) (d0 := 1) (O := [false, true]) (T := []) (P := [(3, .inr (.inl 82), .inl (.int 0)), (2, .inl (.int 2), .inr (.inl 82))]) jm_ok114 (by decide +kernel) (by decide +kernel) hd F X1 X2 (fun F' hF hs => ?_)
  have b82 := hd_b (F := F) (F' := F') (k := 82) (hF 82 (by decide))
  have hB' : iv_in F' iv_B0 := iv_in_eq hB (fun j hj => hF j (Nat.lt_of_lt_of_le hj (by decide +kernel)))
  refine ⟨List.forall_mem_cons.mpr ⟨hd_p3 b82 rfl (by have hc : ((0) : Int32).toInt = 0 := (by decide); omega), List.forall_mem_cons.mpr ⟨hd_p2 rfl b82 (by have hc : ((2) : Int32).toInt = 2 := (by decide); omega), fun _ h => absurd h List.not_mem_nil⟩⟩, ?_⟩
  refine k _ ?_
  · exact fun j hj _ => (hd_keep hB' (Nat.lt_of_lt_of_le hj (by decide +kernel)) (by simp)).trans (hF j (Nat.lt_of_lt_of_le hj (by decide)))
theorem j0rs_0_p2 {Ls : Nat} {xs : Nat → Int32} {d : Nat} {Q : Option Value → jm_h → Prop} (hd : 2 ≤ d) (F : Nat → sy_d) (X1 X2 : List jm_c) (hB : iv_in F iv_B0)
    (h0 : 0 ≤ (sy_i F 82).toInt)
    (h1 : (sy_i F 82).toInt ≤ 2)
    (h2 : 0 ≤ (sy_i F 82).toInt ∧ (sy_i F 82).toInt < 3)
    (h3 : ((sy_ai F 78).getD (sy_i F 82).toNatClampNeg 0).toInt ≠ 0)
    (k : ∀ F1 : Nat → sy_d, (∀ j, j < 82 → True → F1 j = F j) → F1 82 = .inl (.int ((sy_i F 82) * ((60 : Int32)))) → hd_W Ls xs d jm_M114 Q (32, sy_dL F1 [some (.inl (.ref 8)), none], sy_dS F1 [.inr (.inl 82), .inl (.ref 68), .inl (.ref 46)], sy_dh F1 X1 X2 (iv_H 0), 0, 0)) :
    hd_W Ls xs d jm_M114 Q (0, sy_dL F [some (.inl (.ref 8)), some (.inr (.inl 82))], sy_dS F [], sy_dh F X1 X2 (iv_H 0), 0, 0) := by
  refine hd_run (s := 0) (nv := 83) (pc := 32) (L := [some (.inl (.ref 8)), none]) (S := [.inr (.inl 82), .inl (.ref 68), .inl (.ref 46)]) (uh := hd_ov (iv_id 0 iv_B0) []) (ul := [.inl (.inr (.inl 84))]) (f := true) (sp := [32]) (d0 := 1) (O := [false, false, true]) (T := [(30, [.inr (.inl 82)], [.inr (.inl 78)]), (2, [.inr (.inl 82), .inl (.int 60)], [])]) (P := [(3, .inr (.inl 82), .inl (.int 0)), (3, .inl (.int 2), .inr (.inl 82)), (6, .inr (.inl 82), .inl (.ref 3)), (1, .inr (.inl 83), .inl (.int 0))]) jm_ok114 (by decide +kernel) (by decide +kernel) hd F X1 X2 (fun F' hF hs => ?_)
  have b82 := hd_b (F := F) (F' := F') (k := 82) (hF 82 (by decide))
  have a78 := hd_ba (F := F) (F' := F') (k := 78) (hF 78 (by decide))
  have t83 : sy_dv F' (.inr (.inl 83)) = .int ((sy_ai F 78).getD (sy_i F 82).toNatClampNeg 0) := hd_rd (hs 0 _ rfl) b82 a78
  have t84 : sy_dv F' (.inr (.inl 84)) = .int ((sy_i F 82) * ((60 : Int32))) := hd_o (hs 1 _ rfl) b82 rfl rfl
  have hB' : iv_in F' iv_B0 := iv_in_eq hB (fun j hj => hF j (Nat.lt_of_lt_of_le hj (by decide +kernel)))
  refine ⟨List.forall_mem_cons.mpr ⟨hd_p3 b82 rfl (by have hc : ((0) : Int32).toInt = 0 := (by decide); omega), List.forall_mem_cons.mpr ⟨hd_p3 rfl b82 (by have hc : ((2) : Int32).toInt = 2 := (by decide); omega), List.forall_mem_cons.mpr ⟨hd_pb b82 (by first | exact h2 | exact h2), List.forall_mem_cons.mpr ⟨hd_p1 t83 rfl (by have hc : ((0) : Int32).toInt = 0 := (by decide); omega), fun _ h => absurd h List.not_mem_nil⟩⟩⟩⟩, ?_⟩
  refine k _ ?_ ?_
  · exact fun j hj _ => (hd_keep hB' (Nat.lt_of_lt_of_le hj (by decide +kernel)) (by simp)).trans (hF j (Nat.lt_of_lt_of_le hj (by decide)))
  · exact hd_gi (x := .inr (.inl 84)) (by decide +kernel) t84
theorem j0rs_0_p3 {Ls : Nat} {xs : Nat → Int32} {d : Nat} {Q : Option Value → jm_h → Prop} (hd : 2 ≤ d) (F : Nat → sy_d) (X1 X2 : List jm_c) (hB : iv_in F iv_B0)
    (h0 : 0 ≤ (sy_i F 82).toInt)
    (h1 : (sy_i F 82).toInt ≤ 2)
    (h2 : 0 ≤ (sy_i F 82).toInt ∧ (sy_i F 82).toInt < 3)
    (h3 : ((sy_ai F 78).getD (sy_i F 82).toNatClampNeg 0).toInt = 0)
    (k : ∀ F1 : Nat → sy_d, (∀ j, j < 82 → True → F1 j = F j) → Q (some (.int ((0 : Int32)))) (sy_dh F1 X1 X2 (iv_H 0))) :
    hd_W Ls xs d jm_M114 Q (0, sy_dL F [some (.inl (.ref 8)), some (.inr (.inl 82))], sy_dS F [], sy_dh F X1 X2 (iv_H 0), 0, 0) := by
  refine hd_ret (s := 0) (nv := 83) (v := some (.inl (.int 0))) (uh := hd_ov (iv_id 0 iv_B0) []) (f := true) (sp := [32]) (d0 := 1) (O := [false, false, false]) (T := [(30, [.inr (.inl 82)], [.inr (.inl 78)])]) (P := [(3, .inr (.inl 82), .inl (.int 0)), (3, .inl (.int 2), .inr (.inl 82)), (6, .inr (.inl 82), .inl (.ref 3)), (0, .inr (.inl 83), .inl (.int 0))]) jm_ok114 (by decide +kernel) (by decide +kernel) hd F X1 X2 (fun F' hF hs => ?_)
  have b82 := hd_b (F := F) (F' := F') (k := 82) (hF 82 (by decide))
  have a78 := hd_ba (F := F) (F' := F') (k := 78) (hF 78 (by decide))
  have t83 : sy_dv F' (.inr (.inl 83)) = .int ((sy_ai F 78).getD (sy_i F 82).toNatClampNeg 0) := hd_rd (hs 0 _ rfl) b82 a78
  have hB' : iv_in F' iv_B0 := iv_in_eq hB (fun j hj => hF j (Nat.lt_of_lt_of_le hj (by decide +kernel)))
  refine ⟨List.forall_mem_cons.mpr ⟨hd_p3 b82 rfl (by have hc : ((0) : Int32).toInt = 0 := (by decide); omega), List.forall_mem_cons.mpr ⟨hd_p3 rfl b82 (by have hc : ((2) : Int32).toInt = 2 := (by decide); omega), List.forall_mem_cons.mpr ⟨hd_pb b82 (by first | exact h2 | exact h2), List.forall_mem_cons.mpr ⟨hd_p0 t83 rfl (by have hc : ((0) : Int32).toInt = 0 := (by decide); omega), fun _ h => absurd h List.not_mem_nil⟩⟩⟩⟩, ?_⟩
  refine k _ ?_
  · exact fun j hj _ => (hd_keep hB' (Nat.lt_of_lt_of_le hj (by decide +kernel)) (by simp)).trans (hF j (Nat.lt_of_lt_of_le hj (by decide)))
theorem j0rs_0 {Ls : Nat} {xs : Nat → Int32} {d : Nat} {Q : Option Value → jm_h → Prop} (hd : 2 ≤ d) (F : Nat → sy_d) (X1 X2 : List jm_c) (hB : iv_in F iv_B0)
    (k0 : (sy_i F 82).toInt < 0 → ∀ F1 : Nat → sy_d, iv_in F1 iv_B0 → (∀ j, j < 82 → j ∉ ([] : List Nat) → F1 j = F j) → Q (some (.int ((0 : Int32)))) (sy_dh F1 X1 X2 (iv_H 0)))
    (k1 : 0 ≤ (sy_i F 82).toInt → 2 < (sy_i F 82).toInt → ∀ F1 : Nat → sy_d, iv_in F1 iv_B0 → (∀ j, j < 82 → j ∉ ([] : List Nat) → F1 j = F j) → Q (some (.int ((0 : Int32)))) (sy_dh F1 X1 X2 (iv_H 0)))
    (k2 : 0 ≤ (sy_i F 82).toInt → (sy_i F 82).toInt ≤ 2 → ((sy_ai F 78).getD ((sy_i F 82).toInt).toNat 0).toInt ≠ 0 → ∀ F1 : Nat → sy_d, iv_in F1 iv_B0 → (∀ j, j < 82 → j ∉ ([] : List Nat) → F1 j = F j) → (sy_i F1 82).toInt = ((sy_i F 82).toInt * 60) → sy_i F1 82 = (sy_i F 82) * ((60 : Int32)) → hd_W Ls xs d jm_M114 Q (32, sy_dL F1 [some (.inl (.ref 8)), none], sy_dS F1 [.inr (.inl 82), .inl (.ref 68), .inl (.ref 46)], sy_dh F1 X1 X2 (iv_H 0), 0, 0))
    (k3 : 0 ≤ (sy_i F 82).toInt → (sy_i F 82).toInt ≤ 2 → ((sy_ai F 78).getD ((sy_i F 82).toInt).toNat 0).toInt = 0 → ∀ F1 : Nat → sy_d, iv_in F1 iv_B0 → (∀ j, j < 82 → j ∉ ([] : List Nat) → F1 j = F j) → Q (some (.int ((0 : Int32)))) (sy_dh F1 X1 X2 (iv_H 0))) :
    hd_W Ls xs d jm_M114 Q (0, sy_dL F [some (.inl (.ref 8)), some (.inr (.inl 82))], sy_dS F [], sy_dh F X1 X2 (iv_H 0), 0, 0) := by
  by_cases g0 : (sy_i F 82).toInt < 0
  · exact j0rs_0_p0 hd F X1 X2 hB (by first | exact g0 | (simp only [nz_c]; exact g0)) (fun F1 g  => k0 g0 F1 (nz_in0 hB [] (fun j hj hn => g j hj (by simp only [List.mem_cons, List.not_mem_nil, or_false, not_or] at hn; exact trivial)) (List.forall_mem_nil _)) (fun j hj hn => g j hj (by simp only [List.mem_cons, List.not_mem_nil, or_false, not_or] at hn; exact trivial)) )
  replace g0 : 0 ≤ (sy_i F 82).toInt := by omega
  by_cases g1 : 2 < (sy_i F 82).toInt
  · exact j0rs_0_p1 hd F X1 X2 hB (by first | exact g0 | (simp only [nz_c]; exact g0)) (by first | exact g1 | (simp only [nz_c]; exact g1)) (fun F1 g  => k1 g0 g1 F1 (nz_in0 hB [] (fun j hj hn => g j hj (by simp only [List.mem_cons, List.not_mem_nil, or_false, not_or] at hn; exact trivial)) (List.forall_mem_nil _)) (fun j hj hn => g j hj (by simp only [List.mem_cons, List.not_mem_nil, or_false, not_or] at hn; exact trivial)) )
  replace g1 : (sy_i F 82).toInt ≤ 2 := by omega
  by_cases g2 : ((sy_ai F 78).getD ((sy_i F 82).toInt).toNat 0).toInt ≠ 0
  · have q83 : (sy_ai F 78).getD (sy_i F 82).toNatClampNeg 0 = (sy_ai F 78).getD ((sy_i F 82).toInt).toNat 0 := by simp only [nz_c]
    have n83 : nzI ((sy_ai F 78).getD (sy_i F 82).toNatClampNeg 0) (((sy_ai F 78).getD ((sy_i F 82).toInt).toNat 0).toInt) := congrArg Int32.toInt q83
    have r83 := nz_ba hB (k := 78) (lo := 0) (hi := 1) rfl ((sy_i F 82).toInt).toNat
    have n84 : nzI ((sy_i F 82) * ((60 : Int32))) (((sy_i F 82).toInt * 60)) := nz_mul (rfl : (sy_i F 82).toInt = (sy_i F 82).toInt) (by decide : ((60 : Int32)).toInt = 60) (by omega) (by omega)
    exact j0rs_0_p2 hd F X1 X2 hB (by first | exact g0 | (simp only [nz_c]; exact g0)) (by first | exact g1 | (simp only [nz_c]; exact g1)) (by first | exact ⟨by omega, by omega⟩ | (simp only [nz_c]; exact ⟨by omega, by omega⟩)) (by first | exact g2 | (simp only [nz_c]; exact g2) | (rw [(nzE n83)]; exact g2)) (fun F1 g e82 => k2 g0 g1 g2 F1 (nz_in0 hB [] (fun j hj hn => g j hj (by simp only [List.mem_cons, List.not_mem_nil, or_false, not_or] at hn; exact trivial)) (List.forall_mem_nil _)) (fun j hj hn => g j hj (by simp only [List.mem_cons, List.not_mem_nil, or_false, not_or] at hn; exact trivial)) ((congrArg Int32.toInt (zz_i e82)).trans (nzE n84)) ((zz_i e82).trans (rfl : (sy_i F 82) * ((60 : Int32)) = (sy_i F 82) * ((60 : Int32)))))
  replace g2 : ((sy_ai F 78).getD ((sy_i F 82).toInt).toNat 0).toInt = 0 := by omega
  have q83 : (sy_ai F 78).getD (sy_i F 82).toNatClampNeg 0 = (sy_ai F 78).getD ((sy_i F 82).toInt).toNat 0 := by simp only [nz_c]
  have n83 : nzI ((sy_ai F 78).getD (sy_i F 82).toNatClampNeg 0) (((sy_ai F 78).getD ((sy_i F 82).toInt).toNat 0).toInt) := congrArg Int32.toInt q83
  have r83 := nz_ba hB (k := 78) (lo := 0) (hi := 1) rfl ((sy_i F 82).toInt).toNat
  exact j0rs_0_p3 hd F X1 X2 hB (by first | exact g0 | (simp only [nz_c]; exact g0)) (by first | exact g1 | (simp only [nz_c]; exact g1)) (by first | exact ⟨by omega, by omega⟩ | (simp only [nz_c]; exact ⟨by omega, by omega⟩)) (by first | exact g2 | (simp only [nz_c]; exact g2) | (rw [(nzE n83)]; exact g2)) (fun F1 g  => k3 g0 g1 g2 F1 (nz_in0 hB [] (fun j hj hn => g j hj (by simp only [List.mem_cons, List.not_mem_nil, or_false, not_or] at hn; exact trivial)) (List.forall_mem_nil _)) (fun j hj hn => g j hj (by simp only [List.mem_cons, List.not_mem_nil, or_false, not_or] at hn; exact trivial)) )
theorem j0rs_35_p0 {Ls : Nat} {xs : Nat → Int32} {d : Nat} {Q : Option Value → jm_h → Prop} (hd : 2 ≤ d) (F : Nat → sy_d) (X1 X2 : List jm_c) (hB : iv_in F iv_B0)
    (k : ∀ F1 : Nat → sy_d, (∀ j, j < 82 → j ≠ 74 ∧ j ≠ 75 → F1 j = F j) → F1 74 = .inl (.int ((0 : Int32))) → F1 75 = .inl (.int ((0 : Int32))) → Q (some (.int ((1 : Int32)))) (sy_dh F1 X1 X2 (iv_H 0))) :
    hd_W Ls xs d jm_M114 Q (35, sy_dL F [some (.inl (.ref 8)), none], sy_dS F [], sy_dh F X1 X2 (iv_H 0), 0, 0) := by
  refine hd_ret (s := 0) (nv := 82) (v := some (.inl (.int 1))) (uh := hd_ov (iv_id 0 iv_B0) [(74, .inl (.inl (.int 0))), (75, .inl (.inl (.int 0)))]) (f := false) (sp := []) (d0 := 1) (O := []) (T := []) (P := []) jm_ok114 (by decide +kernel) (by decide +kernel) hd F X1 X2 (fun F' hF hs => ?_)
  have hB' : iv_in F' iv_B0 := iv_in_eq hB (fun j hj => hF j (Nat.lt_of_lt_of_le hj (by decide +kernel)))
  refine ⟨fun _ h => absurd h List.not_mem_nil, ?_⟩
  refine k _ ?_ ?_ ?_
  · exact fun j hj hn => (hd_keep hB' (Nat.lt_of_lt_of_le hj (by decide +kernel)) (by simp; omega)).trans (hF j (Nat.lt_of_lt_of_le hj (by decide)))
  · exact hd_gi (x := .inl (.int 0)) (by decide +kernel) rfl
  · exact hd_gi (x := .inl (.int 0)) (by decide +kernel) rfl
theorem j0rs_35 {Ls : Nat} {xs : Nat → Int32} {d : Nat} {Q : Option Value → jm_h → Prop} (hd : 2 ≤ d) (F : Nat → sy_d) (X1 X2 : List jm_c) (hB : iv_in F iv_B0)
    (k0 : ∀ F1 : Nat → sy_d, iv_in F1 iv_B0 → (∀ j, j < 82 → j ∉ ([74, 75] : List Nat) → F1 j = F j) → (sy_i F1 74).toInt = 0 → sy_i F1 74 = (0 : Int32) → (sy_i F1 75).toInt = 0 → sy_i F1 75 = (0 : Int32) → Q (some (.int ((1 : Int32)))) (sy_dh F1 X1 X2 (iv_H 0))) :
    hd_W Ls xs d jm_M114 Q (35, sy_dL F [some (.inl (.ref 8)), none], sy_dS F [], sy_dh F X1 X2 (iv_H 0), 0, 0) := by
  exact j0rs_35_p0 hd F X1 X2 hB  (fun F1 g e74 e75 => k0 F1 (nz_in0 hB [74, 75] (fun j hj hn => g j hj (by simp only [List.mem_cons, List.not_mem_nil, or_false, not_or] at hn; omega)) (List.forall_mem_cons.mpr ⟨fun t ht => (Option.some.inj ht) ▸ (nz_hi e74 (by decide : ((0 : Int32)).toInt = 0) (by omega) (by omega)), List.forall_mem_cons.mpr ⟨fun t ht => (Option.some.inj ht) ▸ (nz_hi e75 (by decide : ((0 : Int32)).toInt = 0) (by omega) (by omega)), List.forall_mem_nil _⟩⟩)) (fun j hj hn => g j hj (by simp only [List.mem_cons, List.not_mem_nil, or_false, not_or] at hn; omega)) ((congrArg Int32.toInt (zz_i e74)).trans (by decide : ((0 : Int32)).toInt = 0)) ((zz_i e74).trans (rfl : (0 : Int32) = (0 : Int32))) ((congrArg Int32.toInt (zz_i e75)).trans (by decide : ((0 : Int32)).toInt = 0)) ((zz_i e75).trans (rfl : (0 : Int32) = (0 : Int32))))
theorem j0go_0_p0 {Ls : Nat} {xs : Nat → Int32} {d : Nat} {Q : Option Value → jm_h → Prop} (hd : 2 ≤ d) (F : Nat → sy_d) (X1 X2 : List jm_c) (hB : iv_in F iv_B0)
    (h0 : (sy_i F 82).toInt < 0)
    (k : ∀ F1 : Nat → sy_d, (∀ j, j < 82 → True → F1 j = F j) → Q (some (.int ((0 : Int32)))) (sy_dh F1 X1 X2 (iv_H 0))) :
    hd_W Ls xs d jm_M88 Q (0, sy_dL F [some (.inl (.ref 8)), some (.inr (.inl 82)), some (.inr (.inl 83))], sy_dS F [], sy_dh F X1 X2 (iv_H 0), 0, 0) := by
  refine hd_ret (s := 0) (nv := 84) (v := some (.inl (.int 0))) (uh := hd_ov (iv_id 0 iv_B0) []) (f := true) (sp := [41]) (d0 := 1) (O := [true]) (T := []) (P := [(2, .inr (.inl 82), .inl (.int 0))]) jm_ok88 (by decide +kernel) (by decide +kernel) hd F X1 X2 (fun F' hF hs => ?_)
  have b82 := hd_b (F := F) (F' := F') (k := 82) (hF 82 (by decide))
  have hB' : iv_in F' iv_B0 := iv_in_eq hB (fun j hj => hF j (Nat.lt_of_lt_of_le hj (by decide +kernel)))
  refine ⟨List.forall_mem_cons.mpr ⟨hd_p2 b82 rfl (by have hc : ((0) : Int32).toInt = 0 := (by decide); omega), fun _ h => absurd h List.not_mem_nil⟩, ?_⟩
  refine k _ ?_
  · exact fun j hj _ => (hd_keep hB' (Nat.lt_of_lt_of_le hj (by decide +kernel)) (by simp)).trans (hF j (Nat.lt_of_lt_of_le hj (by decide)))
theorem j0go_0_p1 {Ls : Nat} {xs : Nat → Int32} {d : Nat} {Q : Option Value → jm_h → Prop} (hd : 2 ≤ d) (F : Nat → sy_d) (X1 X2 : List jm_c) (hB : iv_in F iv_B0)
    (h0 : 0 ≤ (sy_i F 82).toInt)
    (h1 : (sy_i F 4).toInt ≤ (sy_i F 82).toInt)
    (k : ∀ F1 : Nat → sy_d, (∀ j, j < 82 → True → F1 j = F j) → Q (some (.int ((0 : Int32)))) (sy_dh F1 X1 X2 (iv_H 0))) :
    hd_W Ls xs d jm_M88 Q (0, sy_dL F [some (.inl (.ref 8)), some (.inr (.inl 82)), some (.inr (.inl 83))], sy_dS F [], sy_dh F X1 X2 (iv_H 0), 0, 0) := by
  refine hd_ret (s := 0) (nv := 84) (v := some (.inl (.int 0))) (uh := hd_ov (iv_id 0 iv_B0) []) (f := true) (sp := [41]) (d0 := 1) (O := [false, true]) (T := []) (P := [(3, .inr (.inl 82), .inl (.int 0)), (4, .inr (.inl 4), .inr (.inl 82))]) jm_ok88 (by decide +kernel) (by decide +kernel) hd F X1 X2 (fun F' hF hs => ?_)
  have b82 := hd_b (F := F) (F' := F') (k := 82) (hF 82 (by decide))
  have b4 := hd_b (F := F) (F' := F') (k := 4) (hF 4 (by decide))
  have hB' : iv_in F' iv_B0 := iv_in_eq hB (fun j hj => hF j (Nat.lt_of_lt_of_le hj (by decide +kernel)))
  refine ⟨List.forall_mem_cons.mpr ⟨hd_p3 b82 rfl (by have hc : ((0) : Int32).toInt = 0 := (by decide); omega), List.forall_mem_cons.mpr ⟨hd_p4 b4 b82 h1, fun _ h => absurd h List.not_mem_nil⟩⟩, ?_⟩
  refine k _ ?_
  · exact fun j hj _ => (hd_keep hB' (Nat.lt_of_lt_of_le hj (by decide +kernel)) (by simp)).trans (hF j (Nat.lt_of_lt_of_le hj (by decide)))
theorem j0go_0_p2 {Ls : Nat} {xs : Nat → Int32} {d : Nat} {Q : Option Value → jm_h → Prop} (hd : 2 ≤ d) (F : Nat → sy_d) (X1 X2 : List jm_c) (hB : iv_in F iv_B0)
    (h0 : 0 ≤ (sy_i F 82).toInt)
    (h1 : (sy_i F 82).toInt < (sy_i F 4).toInt)
    (h2 : (sy_i F 83).toInt < 0)
    (k : ∀ F1 : Nat → sy_d, (∀ j, j < 82 → True → F1 j = F j) → Q (some (.int ((0 : Int32)))) (sy_dh F1 X1 X2 (iv_H 0))) :
    hd_W Ls xs d jm_M88 Q (0, sy_dL F [some (.inl (.ref 8)), some (.inr (.inl 82)), some (.inr (.inl 83))], sy_dS F [], sy_dh F X1 X2 (iv_H 0), 0, 0) := by
  refine hd_ret (s := 0) (nv := 84) (v := some (.inl (.int 0))) (uh := hd_ov (iv_id 0 iv_B0) []) (f := true) (sp := [41]) (d0 := 1) (O := [false, false, true]) (T := []) (P := [(3, .inr (.inl 82), .inl (.int 0)), (5, .inr (.inl 4), .inr (.inl 82)), (2, .inr (.inl 83), .inl (.int 0))]) jm_ok88 (by decide +kernel) (by decide +kernel) hd F X1 X2 (fun F' hF hs => ?_)
  have b82 := hd_b (F := F) (F' := F') (k := 82) (hF 82 (by decide))
  have b4 := hd_b (F := F) (F' := F') (k := 4) (hF 4 (by decide))
  have b83 := hd_b (F := F) (F' := F') (k := 83) (hF 83 (by decide))
  have hB' : iv_in F' iv_B0 := iv_in_eq hB (fun j hj => hF j (Nat.lt_of_lt_of_le hj (by decide +kernel)))
  refine ⟨List.forall_mem_cons.mpr ⟨hd_p3 b82 rfl (by have hc : ((0) : Int32).toInt = 0 := (by decide); omega), List.forall_mem_cons.mpr ⟨hd_p5 b4 b82 h1, List.forall_mem_cons.mpr ⟨hd_p2 b83 rfl (by have hc : ((0) : Int32).toInt = 0 := (by decide); omega), fun _ h => absurd h List.not_mem_nil⟩⟩⟩, ?_⟩
  refine k _ ?_
  · exact fun j hj _ => (hd_keep hB' (Nat.lt_of_lt_of_le hj (by decide +kernel)) (by simp)).trans (hF j (Nat.lt_of_lt_of_le hj (by decide)))
theorem j0go_0_p3 {Ls : Nat} {xs : Nat → Int32} {d : Nat} {Q : Option Value → jm_h → Prop} (hd : 2 ≤ d) (F : Nat → sy_d) (X1 X2 : List jm_c) (hB : iv_in F iv_B0)
    (h0 : 0 ≤ (sy_i F 82).toInt)
    (h1 : (sy_i F 82).toInt < (sy_i F 4).toInt)
    (h2 : 0 ≤ (sy_i F 83).toInt)
    (h3 : 9 < (sy_i F 83).toInt)
    (k : ∀ F1 : Nat → sy_d, (∀ j, j < 82 → True → F1 j = F j) → Q (some (.int ((0 : Int32)))) (sy_dh F1 X1 X2 (iv_H 0))) :
    hd_W Ls xs d jm_M88 Q (0, sy_dL F [some (.inl (.ref 8)), some (.inr (.inl 82)), some (.inr (.inl 83))], sy_dS F [], sy_dh F X1 X2 (iv_H 0), 0, 0) := by
  refine hd_ret (s := 0) (nv := 84) (v := some (.inl (.int 0))) (uh := hd_ov (iv_id 0 iv_B0) []) (f := true) (sp := [41]) (d0 := 1) (O := [false, false, false, true]) (T := []) (P := [(3, .inr (.inl 82), .inl (.int 0)), (5, .inr (.inl 4), .inr (.inl 82)), (3, .inr (.inl 83), .inl (.int 0)), (2, .inl (.int 9), .inr (.inl 83))]) jm_ok88 (by decide +kernel) (by decide +kernel) hd F X1 X2 (fun F' hF hs => ?_)
  have b82 := hd_b (F := F) (F' := F') (k := 82) (hF 82 (by decide))
  have b4 := hd_b (F := F) (F' := F') (k := 4) (hF 4 (by decide))
  have b83 := hd_b (F := F) (F' := F') (k := 83) (hF 83 (by decide))
  have hB' : iv_in F' iv_B0 := iv_in_eq hB (fun j hj => hF j (Nat.lt_of_lt_of_le hj (by decide +kernel)))
  refine ⟨List.forall_mem_cons.mpr ⟨hd_p3 b82 rfl (by have hc : ((0) : Int32).toInt = 0 := (by decide); omega), List.forall_mem_cons.mpr ⟨hd_p5 b4 b82 h1, List.forall_mem_cons.mpr ⟨hd_p3 b83 rfl (by have hc : ((0) : Int32).toInt = 0 := (by decide); omega), List.forall_mem_cons.mpr ⟨hd_p2 rfl b83 (by have hc : ((9) : Int32).toInt = 9 := (by decide); omega), fun _ h => absurd h List.not_mem_nil⟩⟩⟩⟩, ?_⟩
  refine k _ ?_
  · exact fun j hj _ => (hd_keep hB' (Nat.lt_of_lt_of_le hj (by decide +kernel)) (by simp)).trans (hF j (Nat.lt_of_lt_of_le hj (by decide)))
theorem j0go_0_p4 {Ls : Nat} {xs : Nat → Int32} {d : Nat} {Q : Option Value → jm_h → Prop} (hd : 2 ≤ d) (F : Nat → sy_d) (X1 X2 : List jm_c) (hB : iv_in F iv_B0)
    (h0 : 0 ≤ (sy_i F 82).toInt)
    (h1 : (sy_i F 82).toInt < (sy_i F 4).toInt)
    (h2 : 0 ≤ (sy_i F 83).toInt)
    (h3 : (sy_i F 83).toInt ≤ 9)
    (h4 : 0 ≤ (sy_i F 82).toInt ∧ (sy_i F 82).toInt < 4)
    (h5 : ((sy_ai F 60).getD (sy_i F 82).toNatClampNeg 0).toInt ≠ (sy_i F 83).toInt)
    (k : ∀ F1 : Nat → sy_d, (∀ j, j < 82 → True → F1 j = F j) → F1 82 = .inl (.int (sy_i F 82)) → F1 83 = .inl (.int (sy_i F 83)) → hd_W Ls xs d jm_M88 Q (41, sy_dL F1 [some (.inl (.ref 8)), some (.inr (.inl 82)), some (.inr (.inl 83))], sy_dS F1 [.inl (.ref 46), .inl (.ref 66)], sy_dh F1 X1 X2 (iv_H 0), 0, 0)) :
    hd_W Ls xs d jm_M88 Q (0, sy_dL F [some (.inl (.ref 8)), some (.inr (.inl 82)), some (.inr (.inl 83))], sy_dS F [], sy_dh F X1 X2 (iv_H 0), 0, 0) := by
  refine hd_run (s := 0) (nv := 84) (pc := 41) (L := [some (.inl (.ref 8)), some (.inr (.inl 82)), some (.inr (.inl 83))]) (S := [.inl (.ref 46), .inl (.ref 66)]) (uh := hd_ov (iv_id 0 iv_B0) []) (ul := [.inl (.inr (.inl 82)), .inl (.inr (.inl 83))]) (f := true) (sp := [41]) (d0 := 1) (O := [false, false, false, false, true]) (T := [(30, [.inr (.inl 82)], [.inr (.inl 60)])]) (P := [(3, .inr (.inl 82), .inl (.int 0)), (5, .inr (.inl 4), .inr (.inl 82)), (3, .inr (.inl 83), .inl (.int 0)), (3, .inl (.int 9), .inr (.inl 83)), (6, .inr (.inl 82), .inl (.ref 4)), (1, .inr (.inl 84), .inr (.inl 83))]) jm_ok88 (by decide +kernel) (by decide +kernel) hd F X1 X2 (fun F' hF hs => ?_)
  have b82 := hd_b (F := F) (F' := F') (k := 82) (hF 82 (by decide))
  have b4 := hd_b (F := F) (F' := F') (k := 4) (hF 4 (by decide))
  have b83 := hd_b (F := F) (F' := F') (k := 83) (hF 83 (by decide))
  have a60 := hd_ba (F := F) (F' := F') (k := 60) (hF 60 (by decide))
  have t84 : sy_dv F' (.inr (.inl 84)) = .int ((sy_ai F 60).getD (sy_i F 82).toNatClampNeg 0) := hd_rd (hs 0 _ rfl) b82 a60
  have hB' : iv_in F' iv_B0 := iv_in_eq hB (fun j hj => hF j (Nat.lt_of_lt_of_le hj (by decide +kernel)))
  refine ⟨List.forall_mem_cons.mpr ⟨hd_p3 b82 rfl (by have hc : ((0) : Int32).toInt = 0 := (by decide); omega), List.forall_mem_cons.mpr ⟨hd_p5 b4 b82 h1, List.forall_mem_cons.mpr ⟨hd_p3 b83 rfl (by have hc : ((0) : Int32).toInt = 0 := (by decide); omega), List.forall_mem_cons.mpr ⟨hd_p3 rfl b83 (by have hc : ((9) : Int32).toInt = 9 := (by decide); omega), List.forall_mem_cons.mpr ⟨hd_pb b82 (by first | exact h4 | exact h4), List.forall_mem_cons.mpr ⟨hd_p1 t84 b83 h5, fun _ h => absurd h List.not_mem_nil⟩⟩⟩⟩⟩⟩, ?_⟩
  refine k _ ?_ ?_ ?_
  · exact fun j hj _ => (hd_keep hB' (Nat.lt_of_lt_of_le hj (by decide +kernel)) (by simp)).trans (hF j (Nat.lt_of_lt_of_le hj (by decide)))
  · exact hd_gi (x := .inr (.inl 82)) (by decide +kernel) b82
  · exact hd_gi (x := .inr (.inl 83)) (by decide +kernel) b83
theorem j0go_0_p5 {Ls : Nat} {xs : Nat → Int32} {d : Nat} {Q : Option Value → jm_h → Prop} (hd : 2 ≤ d) (F : Nat → sy_d) (X1 X2 : List jm_c) (hB : iv_in F iv_B0)
    (h0 : 0 ≤ (sy_i F 82).toInt)
    (h1 : (sy_i F 82).toInt < (sy_i F 4).toInt)
    (h2 : 0 ≤ (sy_i F 83).toInt)
    (h3 : (sy_i F 83).toInt ≤ 9)
    (h4 : 0 ≤ (sy_i F 82).toInt ∧ (sy_i F 82).toInt < 4)
    (h5 : ((sy_ai F 60).getD (sy_i F 82).toNatClampNeg 0).toInt = (sy_i F 83).toInt)
    (k : ∀ F1 : Nat → sy_d, (∀ j, j < 82 → True → F1 j = F j) → Q (some (.int ((0 : Int32)))) (sy_dh F1 X1 X2 (iv_H 0))) :
    hd_W Ls xs d jm_M88 Q (0, sy_dL F [some (.inl (.ref 8)), some (.inr (.inl 82)), some (.inr (.inl 83))], sy_dS F [], sy_dh F X1 X2 (iv_H 0), 0, 0) := by
  refine hd_ret (s := 0) (nv := 84) (v := some (.inl (.int 0))) (uh := hd_ov (iv_id 0 iv_B0) []) (f := true) (sp := [41]) (d0 := 1) (O := [false, false, false, false, false]) (T := [(30, [.inr (.inl 82)], [.inr (.inl 60)])]) (P := [(3, .inr (.inl 82), .inl (.int 0)), (5, .inr (.inl 4), .inr (.inl 82)), (3, .inr (.inl 83), .inl (.int 0)), (3, .inl (.int 9), .inr (.inl 83)), (6, .inr (.inl 82), .inl (.ref 4)), (0, .inr (.inl 84), .inr (.inl 83))]) jm_ok88 (by decide +kernel) (by decide +kernel) hd F X1 X2 (fun F' hF hs => ?_)
  have b82 := hd_b (F := F) (F' := F') (k := 82) (hF 82 (by decide))
  have b4 := hd_b (F := F) (F' := F') (k := 4) (hF 4 (by decide))
  have b83 := hd_b (F := F) (F' := F') (k := 83) (hF 83 (by decide))
  have a60 := hd_ba (F := F) (F' := F') (k := 60) (hF 60 (by decide))
  have t84 : sy_dv F' (.inr (.inl 84)) = .int ((sy_ai F 60).getD (sy_i F 82).toNatClampNeg 0) := hd_rd (hs 0 _ rfl) b82 a60
  have hB' : iv_in F' iv_B0 := iv_in_eq hB (fun j hj => hF j (Nat.lt_of_lt_of_le hj (by decide +kernel)))
  refine ⟨List.forall_mem_cons.mpr ⟨hd_p3 b82 rfl (by have hc : ((0) : Int32).toInt = 0 := (by decide); omega), List.forall_mem_cons.mpr ⟨hd_p5 b4 b82 h1, List.forall_mem_cons.mpr ⟨hd_p3 b83 rfl (by have hc : ((0) : Int32).toInt = 0 := (by decide); omega), List.forall_mem_cons.mpr ⟨hd_p3 rfl b83 (by have hc : ((9) : Int32).toInt = 9 := (by decide); omega), List.forall_mem_cons.mpr ⟨hd_pb b82 (by first | exact h4 | exact h4), List.forall_mem_cons.mpr ⟨hd_p0 t84 b83 h5, fun _ h => absurd h List.not_mem_nil⟩⟩⟩⟩⟩⟩, ?_⟩
  refine k _ ?_
  · exact fun j hj _ => (hd_keep hB' (Nat.lt_of_lt_of_le hj (by decide +kernel)) (by simp)).trans (hF j (Nat.lt_of_lt_of_le hj (by decide)))
theorem j0go_0 {Ls : Nat} {xs : Nat → Int32} {d : Nat} {Q : Option Value → jm_h → Prop} (hd : 2 ≤ d) (F : Nat → sy_d) (X1 X2 : List jm_c) (hB : iv_in F iv_B0)
    (k0 : (sy_i F 82).toInt < 0 → ∀ F1 : Nat → sy_d, iv_in F1 iv_B0 → (∀ j, j < 82 → j ∉ ([] : List Nat) → F1 j = F j) → Q (some (.int ((0 : Int32)))) (sy_dh F1 X1 X2 (iv_H 0)))
    (k1 : 0 ≤ (sy_i F 82).toInt → (sy_i F 4).toInt ≤ (sy_i F 82).toInt → ∀ F1 : Nat → sy_d, iv_in F1 iv_B0 → (∀ j, j < 82 → j ∉ ([] : List Nat) → F1 j = F j) → Q (some (.int ((0 : Int32)))) (sy_dh F1 X1 X2 (iv_H 0)))
    (k2 : 0 ≤ (sy_i F 82).toInt → (sy_i F 82).toInt < (sy_i F 4).toInt → (sy_i F 83).toInt < 0 → ∀ F1 : Nat → sy_d, iv_in F1 iv_B0 → (∀ j, j < 82 → j ∉ ([] : List Nat) → F1 j = F j) → Q (some (.int ((0 : Int32)))) (sy_dh F1 X1 X2 (iv_H 0)))
    (k3 : 0 ≤ (sy_i F 82).toInt → (sy_i F 82).toInt < (sy_i F 4).toInt → 0 ≤ (sy_i F 83).toInt → 9 < (sy_i F 83).toInt → ∀ F1 : Nat → sy_d, iv_in F1 iv_B0 → (∀ j, j < 82 → j ∉ ([] : List Nat) → F1 j = F j) → Q (some (.int ((0 : Int32)))) (sy_dh F1 X1 X2 (iv_H 0)))
    (k4 : 0 ≤ (sy_i F 82).toInt → (sy_i F 82).toInt < (sy_i F 4).toInt → 0 ≤ (sy_i F 83).toInt → (sy_i F 83).toInt ≤ 9 → ((sy_ai F 60).getD ((sy_i F 82).toInt).toNat 0).toInt ≠ (sy_i F 83).toInt → ∀ F1 : Nat → sy_d, iv_in F1 iv_B0 → (∀ j, j < 82 → j ∉ ([] : List Nat) → F1 j = F j) → (sy_i F1 82).toInt = (sy_i F 82).toInt → sy_i F1 82 = sy_i F 82 → (sy_i F1 83).toInt = (sy_i F 83).toInt → sy_i F1 83 = sy_i F 83 → hd_W Ls xs d jm_M88 Q (41, sy_dL F1 [some (.inl (.ref 8)), some (.inr (.inl 82)), some (.inr (.inl 83))], sy_dS F1 [.inl (.ref 46), .inl (.ref 66)], sy_dh F1 X1 X2 (iv_H 0), 0, 0))
    (k5 : 0 ≤ (sy_i F 82).toInt → (sy_i F 82).toInt < (sy_i F 4).toInt → 0 ≤ (sy_i F 83).toInt → (sy_i F 83).toInt ≤ 9 → ((sy_ai F 60).getD ((sy_i F 82).toInt).toNat 0).toInt = (sy_i F 83).toInt → ∀ F1 : Nat → sy_d, iv_in F1 iv_B0 → (∀ j, j < 82 → j ∉ ([] : List Nat) → F1 j = F j) → Q (some (.int ((0 : Int32)))) (sy_dh F1 X1 X2 (iv_H 0))) :
    hd_W Ls xs d jm_M88 Q (0, sy_dL F [some (.inl (.ref 8)), some (.inr (.inl 82)), some (.inr (.inl 83))], sy_dS F [], sy_dh F X1 X2 (iv_H 0), 0, 0) := by
  by_cases g0 : (sy_i F 82).toInt < 0
  · exact j0go_0_p0 hd F X1 X2 hB (by first | exact g0 | (simp only [nz_c]; exact g0)) (fun F1 g  => k0 g0 F1 (nz_in0 hB [] (fun j hj hn => g j hj (by simp only [List.mem_cons, List.not_mem_nil, or_false, not_or] at hn; exact trivial)) (List.forall_mem_nil _)) (fun j hj hn => g j hj (by simp only [List.mem_cons, List.not_mem_nil, or_false, not_or] at hn; exact trivial)) )
  replace g0 : 0 ≤ (sy_i F 82).toInt := by omega
  by_cases g1 : (sy_i F 4).toInt ≤ (sy_i F 82).toInt
  · have c4 := nz_bx hB (k := 4) (lo := 0) (hi := 4) rfl
    exact j0go_0_p1 hd F X1 X2 hB (by first | exact g0 | (simp only [nz_c]; exact g0)) (by first | exact g1 | (simp only [nz_c]; exact g1)) (fun F1 g  => k1 g0 g1 F1 (nz_in0 hB [] (fun j hj hn => g j hj (by simp only [List.mem_cons, List.not_mem_nil, or_false, not_or] at hn; exact trivial)) (List.forall_mem_nil _)) (fun j hj hn => g j hj (by simp only [List.mem_cons, List.not_mem_nil, or_false, not_or] at hn; exact trivial)) )
  replace g1 : (sy_i F 82).toInt < (sy_i F 4).toInt := by omega
  by_cases g2 : (sy_i F 83).toInt < 0
  · have c4 := nz_bx hB (k := 4) (lo := 0) (hi := 4) rfl
    exact j0go_0_p2 hd F X1 X2 hB (by first | exact g0 | (simp only [nz_c]; exact g0)) (by first | exact g1 | (simp only [nz_c]; exact g1)) (by first | exact g2 | (simp only [nz_c]; exact g2)) (fun F1 g  => k2 g0 g1 g2 F1 (nz_in0 hB [] (fun j hj hn => g j hj (by simp only [List.mem_cons, List.not_mem_nil, or_false, not_or] at hn; exact trivial)) (List.forall_mem_nil _)) (fun j hj hn => g j hj (by simp only [List.mem_cons, List.not_mem_nil, or_false, not_or] at hn; exact trivial)) )
  replace g2 : 0 ≤ (sy_i F 83).toInt := by omega
  by_cases g3 : 9 < (sy_i F 83).toInt
  · have c4 := nz_bx hB (k := 4) (lo := 0) (hi := 4) rfl
    exact j0go_0_p3 hd F X1 X2 hB (by first | exact g0 | (simp only [nz_c]; exact g0)) (by first | exact g1 | (simp only [nz_c]; exact g1)) (by first | exact g2 | (simp only [nz_c]; exact g2)) (by first | exact g3 | (simp only [nz_c]; exact g3)) (fun F1 g  => k3 g0 g1 g2 g3 F1 (nz_in0 hB [] (fun j hj hn => g j hj (by simp only [List.mem_cons, List.not_mem_nil, or_false, not_or] at hn; exact trivial)) (List.forall_mem_nil _)) (fun j hj hn => g j hj (by simp only [List.mem_cons, List.not_mem_nil, or_false, not_or] at hn; exact trivial)) )
  replace g3 : (sy_i F 83).toInt ≤ 9 := by omega
  by_cases g4 : ((sy_ai F 60).getD ((sy_i F 82).toInt).toNat 0).toInt ≠ (sy_i F 83).toInt
  · have c4 := nz_bx hB (k := 4) (lo := 0) (hi := 4) rfl
    have q84 : (sy_ai F 60).getD (sy_i F 82).toNatClampNeg 0 = (sy_ai F 60).getD ((sy_i F 82).toInt).toNat 0 := by simp only [nz_c]
    have n84 : nzI ((sy_ai F 60).getD (sy_i F 82).toNatClampNeg 0) (((sy_ai F 60).getD ((sy_i F 82).toInt).toNat 0).toInt) := congrArg Int32.toInt q84
    exact j0go_0_p4 hd F X1 X2 hB (by first | exact g0 | (simp only [nz_c]; exact g0)) (by first | exact g1 | (simp only [nz_c]; exact g1)) (by first | exact g2 | (simp only [nz_c]; exact g2)) (by first | exact g3 | (simp only [nz_c]; exact g3)) (by first | exact ⟨by omega, by omega⟩ | (simp only [nz_c]; exact ⟨by omega, by omega⟩)) (by first | exact g4 | (simp only [nz_c]; exact g4) | (rw [(nzE n84)]; exact g4)) (fun F1 g e82 e83 => k4 g0 g1 g2 g3 g4 F1 (nz_in0 hB [] (fun j hj hn => g j hj (by simp only [List.mem_cons, List.not_mem_nil, or_false, not_or] at hn; exact trivial)) (List.forall_mem_nil _)) (fun j hj hn => g j hj (by simp only [List.mem_cons, List.not_mem_nil, or_false, not_or] at hn; exact trivial)) ((congrArg Int32.toInt (zz_i e82)).trans (rfl : (sy_i F 82).toInt = (sy_i F 82).toInt)) ((zz_i e82).trans (rfl : sy_i F 82 = sy_i F 82)) ((congrArg Int32.toInt (zz_i e83)).trans (rfl : (sy_i F 83).toInt = (sy_i F 83).toInt)) ((zz_i e83).trans (rfl : sy_i F 83 = sy_i F 83)))
  replace g4 : ((sy_ai F 60).getD ((sy_i F 82).toInt).toNat 0).toInt = (sy_i F 83).toInt := by omega
  have c4 := nz_bx hB (k := 4) (lo := 0) (hi := 4) rfl
  have q84 : (sy_ai F 60).getD (sy_i F 82).toNatClampNeg 0 = (sy_ai F 60).getD ((sy_i F 82).toInt).toNat 0 := by simp only [nz_c]
  have n84 : nzI ((sy_ai F 60).getD (sy_i F 82).toNatClampNeg 0) (((sy_ai F 60).getD ((sy_i F 82).toInt).toNat 0).toInt) := congrArg Int32.toInt q84
  exact j0go_0_p5 hd F X1 X2 hB (by first | exact g0 | (simp only [nz_c]; exact g0)) (by first | exact g1 | (simp only [nz_c]; exact g1)) (by first | exact g2 | (simp only [nz_c]; exact g2)) (by first | exact g3 | (simp only [nz_c]; exact g3)) (by first | exact ⟨by omega, by omega⟩ | (simp only [nz_c]; exact ⟨by omega, by omega⟩)) (by first | exact g4 | (simp only [nz_c]; exact g4) | (rw [(nzE n84)]; exact g4)) (fun F1 g  => k5 g0 g1 g2 g3 g4 F1 (nz_in0 hB [] (fun j hj hn => g j hj (by simp only [List.mem_cons, List.not_mem_nil, or_false, not_or] at hn; exact trivial)) (List.forall_mem_nil _)) (fun j hj hn => g j hj (by simp only [List.mem_cons, List.not_mem_nil, or_false, not_or] at hn; exact trivial)) )
theorem j0go_44_p0 {Ls : Nat} {xs : Nat → Int32} {d : Nat} {Q : Option Value → jm_h → Prop} (hd : 1 ≤ d) (F : Nat → sy_d) (X1 X2 : List jm_c) (hB : iv_in F iv_B0)
    (h0 : 0 ≤ (sy_i F 82).toInt ∧ (sy_i F 82).toInt < 4)
    (k : ∀ F1 : Nat → sy_d, (∀ j, j < 82 → j ≠ 60 → F1 j = F j) → F1 60 = .inr (.inl (jm_upd (sy_ai F 60) (sy_i F 82).toNatClampNeg (sy_i F 83))) → Q (some (.int ((1 : Int32)))) (sy_dh F1 X1 X2 (iv_H 0))) :
    hd_W Ls xs d jm_M88 Q (44, sy_dL F [some (.inl (.ref 8)), some (.inr (.inl 82)), some (.inr (.inl 83))], sy_dS F [], sy_dh F X1 X2 (iv_H 0), 0, 0) := by
  refine hd_ret (s := 0) (nv := 84) (v := some (.inl (.int 1))) (uh := hd_ov (iv_id 0 iv_B0) [(60, .inr (.inr (.inl 84)))]) (f := false) (sp := []) (d0 := 0) (O := []) (T := [(40, [.inr (.inl 82), .inr (.inl 83)], [.inr (.inl 60)])]) (P := [(6, .inr (.inl 82), .inl (.ref 4))]) jm_ok88 (by decide +kernel) (by decide +kernel) hd F X1 X2 (fun F' hF hs => ?_)
  have b82 := hd_b (F := F) (F' := F') (k := 82) (hF 82 (by decide))
  have b83 := hd_b (F := F) (F' := F') (k := 83) (hF 83 (by decide))
  have a60 := hd_ba (F := F) (F' := F') (k := 60) (hF 60 (by decide))
  have t84 : sy_da F' (.inr (.inl 84)) = .inl (jm_upd (sy_ai F 60) (sy_i F 82).toNatClampNeg (sy_i F 83)) := hd_up (hs 0 _ rfl) b82 b83 a60
  have hB' : iv_in F' iv_B0 := iv_in_eq hB (fun j hj => hF j (Nat.lt_of_lt_of_le hj (by decide +kernel)))
  refine ⟨List.forall_mem_cons.mpr ⟨hd_pb b82 (by first | exact h0 | exact h0), fun _ h => absurd h List.not_mem_nil⟩, ?_⟩
  refine k _ ?_ ?_
  · exact fun j hj hn => (hd_keep hB' (Nat.lt_of_lt_of_le hj (by decide +kernel)) (by simp; omega)).trans (hF j (Nat.lt_of_lt_of_le hj (by decide)))
  · exact hd_ga (a := .inr (.inl 84)) (by decide +kernel) t84
theorem j0go_44 {Ls : Nat} {xs : Nat → Int32} {d : Nat} {Q : Option Value → jm_h → Prop} (hd : 1 ≤ d) (F : Nat → sy_d) (X1 X2 : List jm_c) (hB : iv_in F iv_B0)
    (a82 : 0 ≤ (sy_i F 82).toInt ∧ (sy_i F 82).toInt ≤ 3)
    (a83 : 0 ≤ (sy_i F 83).toInt ∧ (sy_i F 83).toInt ≤ 9)
    (k0 : ∀ F1 : Nat → sy_d, iv_in F1 iv_B0 → (∀ j, j < 82 → j ∉ ([60] : List Nat) → F1 j = F j) → sy_ai F1 60 = jm_upd (sy_ai F 60) ((sy_i F 82).toInt).toNat (sy_i F 83) → Q (some (.int ((1 : Int32)))) (sy_dh F1 X1 X2 (iv_H 0))) :
    hd_W Ls xs d jm_M88 Q (44, sy_dL F [some (.inl (.ref 8)), some (.inr (.inl 82)), some (.inr (.inl 83))], sy_dS F [], sy_dh F X1 X2 (iv_H 0), 0, 0) := by
  have w84 : jm_upd (sy_ai F 60) (sy_i F 82).toNatClampNeg (sy_i F 83) = jm_upd (sy_ai F 60) ((sy_i F 82).toInt).toNat (sy_i F 83) := by simp only [nz_c]
  exact j0go_44_p0 hd F X1 X2 hB (by first | exact ⟨by omega, by omega⟩ | (simp only [nz_c]; exact ⟨by omega, by omega⟩)) (fun F1 g e60 => k0 F1 (nz_in0 hB [60] (fun j hj hn => g j hj (by simp only [List.mem_cons, List.not_mem_nil, or_false, not_or] at hn; omega)) (List.forall_mem_cons.mpr ⟨fun t ht => (Option.some.inj ht) ▸ (nz_hz2 e60), List.forall_mem_nil _⟩)) (fun j hj hn => g j hj (by simp only [List.mem_cons, List.not_mem_nil, or_false, not_or] at hn; omega)) ((zz_ai e60).trans w84))
theorem j0pr_0_p0 {Ls : Nat} {xs : Nat → Int32} {d : Nat} {Q : Option Value → jm_h → Prop} (hd : 2 ≤ d) (F : Nat → sy_d) (X1 X2 : List jm_c) (hB : iv_in F iv_B0)
    (h0 : (sy_i F 83).toInt = 0)
    (h1 : (sy_i F 82).toInt < 0)
    (k : ∀ F1 : Nat → sy_d, (∀ j, j < 82 → True → F1 j = F j) → Q (some (.int ((0 : Int32)))) (sy_dh F1 X1 X2 (iv_H 0))) :
    hd_W Ls xs d jm_M89 Q (0, sy_dL F [some (.inl (.ref 8)), some (.inr (.inl 82)), some (.inr (.inl 83)), none], sy_dS F [], sy_dh F X1 X2 (iv_H 0), 0, 0) := by
  refine hd_ret (s := 0) (nv := 84) (v := some (.inl (.int 0))) (uh := hd_ov (iv_id 0 iv_B0) []) (f := true) (sp := [53]) (d0 := 1) (O := [true, true]) (T := []) (P := [(0, .inr (.inl 83), .inl (.int 0)), (2, .inr (.inl 82), .inl (.int 0))]) jm_ok89 (by decide +kernel) (by decide +kernel) hd F X1 X2 (fun F' hF hs => ?_)
  have b83 := hd_b (F := F) (F' := F') (k := 83) (hF 83 (by decide))
  have b82 := hd_b (F := F) (F' := F') (k := 82) (hF 82 (by decide))
  have hB' : iv_in F' iv_B0 := iv_in_eq hB (fun j hj => hF j (Nat.lt_of_lt_of_le hj (by decide +kernel)))
  refine ⟨List.forall_mem_cons.mpr ⟨hd_p0 b83 rfl (by have hc : ((0) : Int32).toInt = 0 := (by decide); omega), List.forall_mem_cons.mpr ⟨hd_p2 b82 rfl (by have hc : ((0) : Int32).toInt = 0 := (by decide); omega), fun _ h => absurd h List.not_mem_nil⟩⟩, ?_⟩
  refine k _ ?_
  · exact fun j hj _ => (hd_keep hB' (Nat.lt_of_lt_of_le hj (by decide +kernel)) (by simp)).trans (hF j (Nat.lt_of_lt_of_le hj (by decide)))
theorem j0pr_0_p1 {Ls : Nat} {xs : Nat → Int32} {d : Nat} {Q : Option Value → jm_h → Prop} (hd : 2 ≤ d) (F : Nat → sy_d) (X1 X2 : List jm_c) (hB : iv_in F iv_B0)
    (h0 : (sy_i F 83).toInt = 0)
    (h1 : 0 ≤ (sy_i F 82).toInt)
    (h2 : (sy_i F 3).toInt ≤ (sy_i F 82).toInt)
    (k : ∀ F1 : Nat → sy_d, (∀ j, j < 82 → True → F1 j = F j) → Q (some (.int ((0 : Int32)))) (sy_dh F1 X1 X2 (iv_H 0))) :
    hd_W Ls xs d jm_M89 Q (0, sy_dL F [some (.inl (.ref 8)), some (.inr (.inl 82)), some (.inr (.inl 83)), none], sy_dS F [], sy_dh F X1 X2 (iv_H 0), 0, 0) := by
  refine hd_ret (s := 0) (nv := 84) (v := some (.inl (.int 0))) (uh := hd_ov (iv_id 0 iv_B0) []) (f := true) (sp := [53]) (d0 := 1) (O := [true, false, true]) (T := []) (P := [(0, .inr (.inl 83), .inl (.int 0)), (3, .inr (.inl 82), .inl (.int 0)), (4, .inr (.inl 3), .inr (.inl 82))]) jm_ok89 (by decide +kernel) (by decide +kernel) hd F X1 X2 (fun F' hF hs => ?_)
  have b83 := hd_b (F := F) (F' := F') (k := 83) (hF 83 (by decide))
  have b82 := hd_b (F := F) (F' := F') (k := 82) (hF 82 (by decide))
  have b3 := hd_b (F := F) (F' := F') (k := 3) (hF 3 (by decide))
  have hB' : iv_in F' iv_B0 := iv_in_eq hB (fun j hj => hF j (Nat.lt_of_lt_of_le hj (by decide +kernel)))
  refine ⟨List.forall_mem_cons.mpr ⟨hd_p0 b83 rfl (by have hc : ((0) : Int32).toInt = 0 := (by decide); omega), List.forall_mem_cons.mpr ⟨hd_p3 b82 rfl (by have hc : ((0) : Int32).toInt = 0 := (by decide); omega), List.forall_mem_cons.mpr ⟨hd_p4 b3 b82 h2, fun _ h => absurd h List.not_mem_nil⟩⟩⟩, ?_⟩
  refine k _ ?_
  · exact fun j hj _ => (hd_keep hB' (Nat.lt_of_lt_of_le hj (by decide +kernel)) (by simp)).trans (hF j (Nat.lt_of_lt_of_le hj (by decide)))
theorem j0pr_0_p2 {Ls : Nat} {xs : Nat → Int32} {d : Nat} {Q : Option Value → jm_h → Prop} (hd : 2 ≤ d) (F : Nat → sy_d) (X1 X2 : List jm_c) (hB : iv_in F iv_B0)
    (h0 : (sy_i F 83).toInt = 0)
    (h1 : 0 ≤ (sy_i F 82).toInt)
    (h2 : (sy_i F 82).toInt < (sy_i F 3).toInt)
    (h3 : 0 ≤ (sy_i F 82).toInt ∧ (sy_i F 82).toInt < 7)
    (h4 : ((sy_ai F 54).getD (sy_i F 82).toNatClampNeg 0).toInt ≠ 0)
    (k : ∀ F1 : Nat → sy_d, (∀ j, j < 82 → True → F1 j = F j) → Q (some (.int ((0 : Int32)))) (sy_dh F1 X1 X2 (iv_H 0))) :
    hd_W Ls xs d jm_M89 Q (0, sy_dL F [some (.inl (.ref 8)), some (.inr (.inl 82)), some (.inr (.inl 83)), none], sy_dS F [], sy_dh F X1 X2 (iv_H 0), 0, 0) := by
  refine hd_ret (s := 0) (nv := 84) (v := some (.inl (.int 0))) (uh := hd_ov (iv_id 0 iv_B0) []) (f := true) (sp := [53]) (d0 := 1) (O := [true, false, false, true]) (T := [(30, [.inr (.inl 82)], [.inr (.inl 54)])]) (P := [(0, .inr (.inl 83), .inl (.int 0)), (3, .inr (.inl 82), .inl (.int 0)), (5, .inr (.inl 3), .inr (.inl 82)), (6, .inr (.inl 82), .inl (.ref 7)), (1, .inr (.inl 84), .inl (.int 0))]) jm_ok89 (by decide +kernel) (by decide +kernel) hd F X1 X2 (fun F' hF hs => ?_)
  have b83 := hd_b (F := F) (F' := F') (k := 83) (hF 83 (by decide))
  have b82 := hd_b (F := F) (F' := F') (k := 82) (hF 82 (by decide))
  have b3 := hd_b (F := F) (F' := F') (k := 3) (hF 3 (by decide))
  have a54 := hd_ba (F := F) (F' := F') (k := 54) (hF 54 (by decide))
  have t84 : sy_dv F' (.inr (.inl 84)) = .int ((sy_ai F 54).getD (sy_i F 82).toNatClampNeg 0) := hd_rd (hs 0 _ rfl) b82 a54
  have hB' : iv_in F' iv_B0 := iv_in_eq hB (fun j hj => hF j (Nat.lt_of_lt_of_le hj (by decide +kernel)))
  refine ⟨List.forall_mem_cons.mpr ⟨hd_p0 b83 rfl (by have hc : ((0) : Int32).toInt = 0 := (by decide); omega), List.forall_mem_cons.mpr ⟨hd_p3 b82 rfl (by have hc : ((0) : Int32).toInt = 0 := (by decide); omega), List.forall_mem_cons.mpr ⟨hd_p5 b3 b82 h2, List.forall_mem_cons.mpr ⟨hd_pb b82 (by first | exact h3 | exact h3), List.forall_mem_cons.mpr ⟨hd_p1 t84 rfl (by have hc : ((0) : Int32).toInt = 0 := (by decide); omega), fun _ h => absurd h List.not_mem_nil⟩⟩⟩⟩⟩, ?_⟩
  refine k _ ?_
  · exact fun j hj _ => (hd_keep hB' (Nat.lt_of_lt_of_le hj (by decide +kernel)) (by simp)).trans (hF j (Nat.lt_of_lt_of_le hj (by decide)))
theorem j0pr_0_p3 {Ls : Nat} {xs : Nat → Int32} {d : Nat} {Q : Option Value → jm_h → Prop} (hd : 2 ≤ d) (F : Nat → sy_d) (X1 X2 : List jm_c) (hB : iv_in F iv_B0)
    (h0 : (sy_i F 83).toInt = 0)
    (h1 : 0 ≤ (sy_i F 82).toInt)
    (h2 : (sy_i F 82).toInt < (sy_i F 3).toInt)
    (h3 : 0 ≤ (sy_i F 82).toInt ∧ (sy_i F 82).toInt < 7)
    (h4 : ((sy_ai F 54).getD (sy_i F 82).toNatClampNeg 0).toInt = 0)
    (h5 : 0 ≤ (sy_i F 82).toInt ∧ (sy_i F 82).toInt < 7)
    (h6 : ((sy_ai F 57).getD (sy_i F 82).toNatClampNeg 0).toInt ≠ 0)
    (k : ∀ F1 : Nat → sy_d, (∀ j, j < 82 → True → F1 j = F j) → F1 82 = .inl (.int (sy_i F 82)) → F1 83 = .inl (.int ((0 : Int32))) → hd_W Ls xs d jm_M89 Q (53, sy_dL F1 [some (.inl (.ref 8)), some (.inr (.inl 82)), none, some (.inr (.inl 83))], sy_dS F1 [.inl (.ref 46), .inl (.ref 66)], sy_dh F1 X1 X2 (iv_H 0), 0, 0)) :
    hd_W Ls xs d jm_M89 Q (0, sy_dL F [some (.inl (.ref 8)), some (.inr (.inl 82)), some (.inr (.inl 83)), none], sy_dS F [], sy_dh F X1 X2 (iv_H 0), 0, 0) := by
  refine hd_run (s := 0) (nv := 84) (pc := 53) (L := [some (.inl (.ref 8)), some (.inr (.inl 82)), none, some (.inr (.inl 83))]) (S := [.inl (.ref 46), .inl (.ref 66)]) (uh := hd_ov (iv_id 0 iv_B0) []) (ul := [.inl (.inr (.inl 82)), .inl (.inl (.int 0))]) (f := true) (sp := [53]) (d0 := 1) (O := [true, false, false, false, true]) (T := [(30, [.inr (.inl 82)], [.inr (.inl 54)]), (30, [.inr (.inl 82)], [.inr (.inl 57)])]) (P := [(0, .inr (.inl 83), .inl (.int 0)), (3, .inr (.inl 82), .inl (.int 0)), (5, .inr (.inl 3), .inr (.inl 82)), (6, .inr (.inl 82), .inl (.ref 7)), (0, .inr (.inl 84), .inl (.int 0)), (6, .inr (.inl 82), .inl (.ref 7)), (1, .inr (.inl 85), .inl (.int 0))]) jm_ok89 (by decide +kernel) (by decide +kernel) hd F X1 X2 (fun F' hF hs => ?_)
  have b83 := hd_b (F := F) (F' := F') (k := 83) (hF 83 (by decide))
  have b82 := hd_b (F := F) (F' := F') (k := 82) (hF 82 (by decide))
  have b3 := hd_b (F := F) (F' := F') (k := 3) (hF 3 (by decide))
  have a54 := hd_ba (F := F) (F' := F') (k := 54) (hF 54 (by decide))
  have t84 : sy_dv F' (.inr (.inl 84)) = .int ((sy_ai F 54).getD (sy_i F 82).toNatClampNeg 0) := hd_rd (hs 0 _ rfl) b82 a54
  have a57 := hd_ba (F := F) (F' := F') (k := 57) (hF 57 (by decide))
  have t85 : sy_dv F' (.inr (.inl 85)) = .int ((sy_ai F 57).getD (sy_i F 82).toNatClampNeg 0) := hd_rd (hs 1 _ rfl) b82 a57
  have hB' : iv_in F' iv_B0 := iv_in_eq hB (fun j hj => hF j (Nat.lt_of_lt_of_le hj (by decide +kernel)))
  refine ⟨List.forall_mem_cons.mpr ⟨hd_p0 b83 rfl (by have hc : ((0) : Int32).toInt = 0 := (by decide); omega), List.forall_mem_cons.mpr ⟨hd_p3 b82 rfl (by have hc : ((0) : Int32).toInt = 0 := (by decide); omega), List.forall_mem_cons.mpr ⟨hd_p5 b3 b82 h2, List.forall_mem_cons.mpr ⟨hd_pb b82 (by first | exact h3 | exact h3), List.forall_mem_cons.mpr ⟨hd_p0 t84 rfl (by have hc : ((0) : Int32).toInt = 0 := (by decide); omega), List.forall_mem_cons.mpr ⟨hd_pb b82 (by first | exact h5 | exact h5), List.forall_mem_cons.mpr ⟨hd_p1 t85 rfl (by have hc : ((0) : Int32).toInt = 0 := (by decide); omega), fun _ h => absurd h List.not_mem_nil⟩⟩⟩⟩⟩⟩⟩, ?_⟩
  refine k _ ?_ ?_ ?_
  · exact fun j hj _ => (hd_keep hB' (Nat.lt_of_lt_of_le hj (by decide +kernel)) (by simp)).trans (hF j (Nat.lt_of_lt_of_le hj (by decide)))
  · exact hd_gi (x := .inr (.inl 82)) (by decide +kernel) b82
  · exact hd_gi (x := .inl (.int 0)) (by decide +kernel) rfl
theorem j0pr_0_p4 {Ls : Nat} {xs : Nat → Int32} {d : Nat} {Q : Option Value → jm_h → Prop} (hd : 2 ≤ d) (F : Nat → sy_d) (X1 X2 : List jm_c) (hB : iv_in F iv_B0)
    (h0 : (sy_i F 83).toInt = 0)
    (h1 : 0 ≤ (sy_i F 82).toInt)
    (h2 : (sy_i F 82).toInt < (sy_i F 3).toInt)
    (h3 : 0 ≤ (sy_i F 82).toInt ∧ (sy_i F 82).toInt < 7)
    (h4 : ((sy_ai F 54).getD (sy_i F 82).toNatClampNeg 0).toInt = 0)
    (h5 : 0 ≤ (sy_i F 82).toInt ∧ (sy_i F 82).toInt < 7)
    (h6 : ((sy_ai F 57).getD (sy_i F 82).toNatClampNeg 0).toInt = 0)
    (k : ∀ F1 : Nat → sy_d, (∀ j, j < 82 → True → F1 j = F j) → Q (some (.int ((0 : Int32)))) (sy_dh F1 X1 X2 (iv_H 0))) :
    hd_W Ls xs d jm_M89 Q (0, sy_dL F [some (.inl (.ref 8)), some (.inr (.inl 82)), some (.inr (.inl 83)), none], sy_dS F [], sy_dh F X1 X2 (iv_H 0), 0, 0) := by
  refine hd_ret (s := 0) (nv := 84) (v := some (.inl (.int 0))) (uh := hd_ov (iv_id 0 iv_B0) []) (f := true) (sp := [53]) (d0 := 1) (O := [true, false, false, false, false]) (T := [(30, [.inr (.inl 82)], [.inr (.inl 54)]), (30, [.inr (.inl 82)], [.inr (.inl 57)])]) (P := [(0, .inr (.inl 83), .inl (.int 0)), (3, .inr (.inl 82), .inl (.int 0)), (5, .inr (.inl 3), .inr (.inl 82)), (6, .inr (.inl 82), .inl (.ref 7)), (0, .inr (.inl 84), .inl (.int 0)), (6, .inr (.inl 82), .inl (.ref 7)), (0, .inr (.inl 85), .inl (.int 0))]) jm_ok89 (by decide +kernel) (by decide +kernel) hd F X1 X2 (fun F' hF hs => ?_)
  have b83 := hd_b (F := F) (F' := F') (k := 83) (hF 83 (by decide))
  have b82 := hd_b (F := F) (F' := F') (k := 82) (hF 82 (by decide))
  have b3 := hd_b (F := F) (F' := F') (k := 3) (hF 3 (by decide))
  have a54 := hd_ba (F := F) (F' := F') (k := 54) (hF 54 (by decide))
  have t84 : sy_dv F' (.inr (.inl 84)) = .int ((sy_ai F 54).getD (sy_i F 82).toNatClampNeg 0) := hd_rd (hs 0 _ rfl) b82 a54
  have a57 := hd_ba (F := F) (F' := F') (k := 57) (hF 57 (by decide))
  have t85 : sy_dv F' (.inr (.inl 85)) = .int ((sy_ai F 57).getD (sy_i F 82).toNatClampNeg 0) := hd_rd (hs 1 _ rfl) b82 a57
  have hB' : iv_in F' iv_B0 := iv_in_eq hB (fun j hj => hF j (Nat.lt_of_lt_of_le hj (by decide +kernel)))
  refine ⟨List.forall_mem_cons.mpr ⟨hd_p0 b83 rfl (by have hc : ((0) : Int32).toInt = 0 := (by decide); omega), List.forall_mem_cons.mpr ⟨hd_p3 b82 rfl (by have hc : ((0) : Int32).toInt = 0 := (by decide); omega), List.forall_mem_cons.mpr ⟨hd_p5 b3 b82 h2, List.forall_mem_cons.mpr ⟨hd_pb b82 (by first | exact h3 | exact h3), List.forall_mem_cons.mpr ⟨hd_p0 t84 rfl (by have hc : ((0) : Int32).toInt = 0 := (by decide); omega), List.forall_mem_cons.mpr ⟨hd_pb b82 (by first | exact h5 | exact h5), List.forall_mem_cons.mpr ⟨hd_p0 t85 rfl (by have hc : ((0) : Int32).toInt = 0 := (by decide); omega), fun _ h => absurd h List.not_mem_nil⟩⟩⟩⟩⟩⟩⟩, ?_⟩
  refine k _ ?_
  · exact fun j hj _ => (hd_keep hB' (Nat.lt_of_lt_of_le hj (by decide +kernel)) (by simp)).trans (hF j (Nat.lt_of_lt_of_le hj (by decide)))
theorem j0pr_0_p5 {Ls : Nat} {xs : Nat → Int32} {d : Nat} {Q : Option Value → jm_h → Prop} (hd : 2 ≤ d) (F : Nat → sy_d) (X1 X2 : List jm_c) (hB : iv_in F iv_B0)
    (h0 : (sy_i F 83).toInt ≠ 0)
    (h1 : (sy_i F 82).toInt < 0)
    (k : ∀ F1 : Nat → sy_d, (∀ j, j < 82 → True → F1 j = F j) → Q (some (.int ((0 : Int32)))) (sy_dh F1 X1 X2 (iv_H 0))) :
    hd_W Ls xs d jm_M89 Q (0, sy_dL F [some (.inl (.ref 8)), some (.inr (.inl 82)), some (.inr (.inl 83)), none], sy_dS F [], sy_dh F X1 X2 (iv_H 0), 0, 0) := by
  refine hd_ret (s := 0) (nv := 84) (v := some (.inl (.int 0))) (uh := hd_ov (iv_id 0 iv_B0) []) (f := true) (sp := [53]) (d0 := 1) (O := [false, true]) (T := []) (P := [(1, .inr (.inl 83), .inl (.int 0)), (2, .inr (.inl 82), .inl (.int 0))]) jm_ok89 (by decide +kernel) (by decide +kernel) hd F X1 X2 (fun F' hF hs => ?_)
  have b83 := hd_b (F := F) (F' := F') (k := 83) (hF 83 (by decide))
  have b82 := hd_b (F := F) (F' := F') (k := 82) (hF 82 (by decide))
  have hB' : iv_in F' iv_B0 := iv_in_eq hB (fun j hj => hF j (Nat.lt_of_lt_of_le hj (by decide +kernel)))
  refine ⟨List.forall_mem_cons.mpr ⟨hd_p1 b83 rfl (by have hc : ((0) : Int32).toInt = 0 := (by decide); omega), List.forall_mem_cons.mpr ⟨hd_p2 b82 rfl (by have hc : ((0) : Int32).toInt = 0 := (by decide); omega), fun _ h => absurd h List.not_mem_nil⟩⟩, ?_⟩
  refine k _ ?_
  · exact fun j hj _ => (hd_keep hB' (Nat.lt_of_lt_of_le hj (by decide +kernel)) (by simp)).trans (hF j (Nat.lt_of_lt_of_le hj (by decide)))
theorem j0pr_0_p6 {Ls : Nat} {xs : Nat → Int32} {d : Nat} {Q : Option Value → jm_h → Prop} (hd : 2 ≤ d) (F : Nat → sy_d) (X1 X2 : List jm_c) (hB : iv_in F iv_B0)
    (h0 : (sy_i F 83).toInt ≠ 0)
    (h1 : 0 ≤ (sy_i F 82).toInt)
    (h2 : (sy_i F 3).toInt ≤ (sy_i F 82).toInt)
    (k : ∀ F1 : Nat → sy_d, (∀ j, j < 82 → True → F1 j = F j) → Q (some (.int ((0 : Int32)))) (sy_dh F1 X1 X2 (iv_H 0))) :
    hd_W Ls xs d jm_M89 Q (0, sy_dL F [some (.inl (.ref 8)), some (.inr (.inl 82)), some (.inr (.inl 83)), none], sy_dS F [], sy_dh F X1 X2 (iv_H 0), 0, 0) := by
  refine hd_ret (s := 0) (nv := 84) (v := some (.inl (.int 0))) (uh := hd_ov (iv_id 0 iv_B0) []) (f := true) (sp := [53]) (d0 := 1) (O := [false, false, true]) (T := []) (P := [(1, .inr (.inl 83), .inl (.int 0)), (3, .inr (.inl 82), .inl (.int 0)), (4, .inr (.inl 3), .inr (.inl 82))]) jm_ok89 (by decide +kernel) (by decide +kernel) hd F X1 X2 (fun F' hF hs => ?_)
  have b83 := hd_b (F := F) (F' := F') (k := 83) (hF 83 (by decide))
  have b82 := hd_b (F := F) (F' := F') (k := 82) (hF 82 (by decide))
  have b3 := hd_b (F := F) (F' := F') (k := 3) (hF 3 (by decide))
  have hB' : iv_in F' iv_B0 := iv_in_eq hB (fun j hj => hF j (Nat.lt_of_lt_of_le hj (by decide +kernel)))
  refine ⟨List.forall_mem_cons.mpr ⟨hd_p1 b83 rfl (by have hc : ((0) : Int32).toInt = 0 := (by decide); omega), List.forall_mem_cons.mpr ⟨hd_p3 b82 rfl (by have hc : ((0) : Int32).toInt = 0 := (by decide); omega), List.forall_mem_cons.mpr ⟨hd_p4 b3 b82 h2, fun _ h => absurd h List.not_mem_nil⟩⟩⟩, ?_⟩
  refine k _ ?_
  · exact fun j hj _ => (hd_keep hB' (Nat.lt_of_lt_of_le hj (by decide +kernel)) (by simp)).trans (hF j (Nat.lt_of_lt_of_le hj (by decide)))
theorem j0pr_0_p7 {Ls : Nat} {xs : Nat → Int32} {d : Nat} {Q : Option Value → jm_h → Prop} (hd : 2 ≤ d) (F : Nat → sy_d) (X1 X2 : List jm_c) (hB : iv_in F iv_B0)
    (h0 : (sy_i F 83).toInt ≠ 0)
    (h1 : 0 ≤ (sy_i F 82).toInt)
    (h2 : (sy_i F 82).toInt < (sy_i F 3).toInt)
    (h3 : 0 ≤ (sy_i F 82).toInt ∧ (sy_i F 82).toInt < 7)
    (h4 : ((sy_ai F 54).getD (sy_i F 82).toNatClampNeg 0).toInt ≠ 0)
    (k : ∀ F1 : Nat → sy_d, (∀ j, j < 82 → True → F1 j = F j) → Q (some (.int ((0 : Int32)))) (sy_dh F1 X1 X2 (iv_H 0))) :
    hd_W Ls xs d jm_M89 Q (0, sy_dL F [some (.inl (.ref 8)), some (.inr (.inl 82)), some (.inr (.inl 83)), none], sy_dS F [], sy_dh F X1 X2 (iv_H 0), 0, 0) := by
  refine hd_ret (s := 0) (nv := 84) (v := some (.inl (.int 0))) (uh := hd_ov (iv_id 0 iv_B0) []) (f := true) (sp := [53]) (d0 := 1) (O := [false, false, false, true]) (T := [(30, [.inr (.inl 82)], [.inr (.inl 54)])]) (P := [(1, .inr (.inl 83), .inl (.int 0)), (3, .inr (.inl 82), .inl (.int 0)), (5, .inr (.inl 3), .inr (.inl 82)), (6, .inr (.inl 82), .inl (.ref 7)), (1, .inr (.inl 84), .inl (.int 0))]) jm_ok89 (by decide +kernel) (by decide +kernel) hd F X1 X2 (fun F' hF hs => ?_)
  have b83 := hd_b (F := F) (F' := F') (k := 83) (hF 83 (by decide))
  have b82 := hd_b (F := F) (F' := F') (k := 82) (hF 82 (by decide))
  have b3 := hd_b (F := F) (F' := F') (k := 3) (hF 3 (by decide))
  have a54 := hd_ba (F := F) (F' := F') (k := 54) (hF 54 (by decide))
  have t84 : sy_dv F' (.inr (.inl 84)) = .int ((sy_ai F 54).getD (sy_i F 82).toNatClampNeg 0) := hd_rd (hs 0 _ rfl) b82 a54
  have hB' : iv_in F' iv_B0 := iv_in_eq hB (fun j hj => hF j (Nat.lt_of_lt_of_le hj (by decide +kernel)))
  refine ⟨List.forall_mem_cons.mpr ⟨hd_p1 b83 rfl (by have hc : ((0) : Int32).toInt = 0 := (by decide); omega), List.forall_mem_cons.mpr ⟨hd_p3 b82 rfl (by have hc : ((0) : Int32).toInt = 0 := (by decide); omega), List.forall_mem_cons.mpr ⟨hd_p5 b3 b82 h2, List.forall_mem_cons.mpr ⟨hd_pb b82 (by first | exact h3 | exact h3), List.forall_mem_cons.mpr ⟨hd_p1 t84 rfl (by have hc : ((0) : Int32).toInt = 0 := (by decide); omega), fun _ h => absurd h List.not_mem_nil⟩⟩⟩⟩⟩, ?_⟩
  refine k _ ?_
  · exact fun j hj _ => (hd_keep hB' (Nat.lt_of_lt_of_le hj (by decide +kernel)) (by simp)).trans (hF j (Nat.lt_of_lt_of_le hj (by decide)))
theorem j0pr_0_p8 {Ls : Nat} {xs : Nat → Int32} {d : Nat} {Q : Option Value → jm_h → Prop} (hd : 2 ≤ d) (F : Nat → sy_d) (X1 X2 : List jm_c) (hB : iv_in F iv_B0)
    (h0 : (sy_i F 83).toInt ≠ 0)
    (h1 : 0 ≤ (sy_i F 82).toInt)
    (h2 : (sy_i F 82).toInt < (sy_i F 3).toInt)
    (h3 : 0 ≤ (sy_i F 82).toInt ∧ (sy_i F 82).toInt < 7)
    (h4 : ((sy_ai F 54).getD (sy_i F 82).toNatClampNeg 0).toInt = 0)
    (h5 : 0 ≤ (sy_i F 82).toInt ∧ (sy_i F 82).toInt < 7)
    (h6 : ((sy_ai F 57).getD (sy_i F 82).toNatClampNeg 0).toInt ≠ 1)
    (k : ∀ F1 : Nat → sy_d, (∀ j, j < 82 → True → F1 j = F j) → F1 82 = .inl (.int (sy_i F 82)) → F1 83 = .inl (.int ((1 : Int32))) → hd_W Ls xs d jm_M89 Q (53, sy_dL F1 [some (.inl (.ref 8)), some (.inr (.inl 82)), none, some (.inr (.inl 83))], sy_dS F1 [.inl (.ref 46), .inl (.ref 66)], sy_dh F1 X1 X2 (iv_H 0), 0, 0)) :
    hd_W Ls xs d jm_M89 Q (0, sy_dL F [some (.inl (.ref 8)), some (.inr (.inl 82)), some (.inr (.inl 83)), none], sy_dS F [], sy_dh F X1 X2 (iv_H 0), 0, 0) := by
  refine hd_run (s := 0) (nv := 84) (pc := 53) (L := [some (.inl (.ref 8)), some (.inr (.inl 82)), none, some (.inr (.inl 83))]) (S := [.inl (.ref 46), .inl (.ref 66)]) (uh := hd_ov (iv_id 0 iv_B0) []) (ul := [.inl (.inr (.inl 82)), .inl (.inl (.int 1))]) (f := true) (sp := [53]) (d0 := 1) (O := [false, false, false, false, true]) (T := [(30, [.inr (.inl 82)], [.inr (.inl 54)]), (30, [.inr (.inl 82)], [.inr (.inl 57)])]) (P := [(1, .inr (.inl 83), .inl (.int 0)), (3, .inr (.inl 82), .inl (.int 0)), (5, .inr (.inl 3), .inr (.inl 82)), (6, .inr (.inl 82), .inl (.ref 7)), (0, .inr (.inl 84), .inl (.int 0)), (6, .inr (.inl 82), .inl (.ref 7)), (1, .inr (.inl 85), .inl (.int 1))]) jm_ok89 (by decide +kernel) (by decide +kernel) hd F X1 X2 (fun F' hF hs => ?_)
  have b83 := hd_b (F := F) (F' := F') (k := 83) (hF 83 (by decide))
  have b82 := hd_b (F := F) (F' := F') (k := 82) (hF 82 (by decide))
  have b3 := hd_b (F := F) (F' := F') (k := 3) (hF 3 (by decide))
  have a54 := hd_ba (F := F) (F' := F') (k := 54) (hF 54 (by decide))
  have t84 : sy_dv F' (.inr (.inl 84)) = .int ((sy_ai F 54).getD (sy_i F 82).toNatClampNeg 0) := hd_rd (hs 0 _ rfl) b82 a54
  have a57 := hd_ba (F := F) (F' := F') (k := 57) (hF 57 (by decide))
  have t85 : sy_dv F' (.inr (.inl 85)) = .int ((sy_ai F 57).getD (sy_i F 82).toNatClampNeg 0) := hd_rd (hs 1 _ rfl) b82 a57
  have hB' : iv_in F' iv_B0 := iv_in_eq hB (fun j hj => hF j (Nat.lt_of_lt_of_le hj (by decide +kernel)))
  refine ⟨List.forall_mem_cons.mpr ⟨hd_p1 b83 rfl (by have hc : ((0) : Int32).toInt = 0 := (by decide); omega), List.forall_mem_cons.mpr ⟨hd_p3 b82 rfl (by have hc : ((0) : Int32).toInt = 0 := (by decide); omega), List.forall_mem_cons.mpr ⟨hd_p5 b3 b82 h2, List.forall_mem_cons.mpr ⟨hd_pb b82 (by first | exact h3 | exact h3), List.forall_mem_cons.mpr ⟨hd_p0 t84 rfl (by have hc : ((0) : Int32).toInt = 0 := (by decide); omega), List.forall_mem_cons.mpr ⟨hd_pb b82 (by first | exact h5 | exact h5), List.forall_mem_cons.mpr ⟨hd_p1 t85 rfl (by have hc : ((1) : Int32).toInt = 1 := (by decide); omega), fun _ h => absurd h List.not_mem_nil⟩⟩⟩⟩⟩⟩⟩, ?_⟩
  refine k _ ?_ ?_ ?_
  · exact fun j hj _ => (hd_keep hB' (Nat.lt_of_lt_of_le hj (by decide +kernel)) (by simp)).trans (hF j (Nat.lt_of_lt_of_le hj (by decide)))
  · exact hd_gi (x := .inr (.inl 82)) (by decide +kernel) b82
  · exact hd_gi (x := .inl (.int 1)) (by decide +kernel) rfl
theorem j0pr_0_p9 {Ls : Nat} {xs : Nat → Int32} {d : Nat} {Q : Option Value → jm_h → Prop} (hd : 2 ≤ d) (F : Nat → sy_d) (X1 X2 : List jm_c) (hB : iv_in F iv_B0)
    (h0 : (sy_i F 83).toInt ≠ 0)
    (h1 : 0 ≤ (sy_i F 82).toInt)
    (h2 : (sy_i F 82).toInt < (sy_i F 3).toInt)
    (h3 : 0 ≤ (sy_i F 82).toInt ∧ (sy_i F 82).toInt < 7)
    (h4 : ((sy_ai F 54).getD (sy_i F 82).toNatClampNeg 0).toInt = 0)
    (h5 : 0 ≤ (sy_i F 82).toInt ∧ (sy_i F 82).toInt < 7)
    (h6 : ((sy_ai F 57).getD (sy_i F 82).toNatClampNeg 0).toInt = 1)
    (k : ∀ F1 : Nat → sy_d, (∀ j, j < 82 → True → F1 j = F j) → Q (some (.int ((0 : Int32)))) (sy_dh F1 X1 X2 (iv_H 0))) :
    hd_W Ls xs d jm_M89 Q (0, sy_dL F [some (.inl (.ref 8)), some (.inr (.inl 82)), some (.inr (.inl 83)), none], sy_dS F [], sy_dh F X1 X2 (iv_H 0), 0, 0) := by
  refine hd_ret (s := 0) (nv := 84) (v := some (.inl (.int 0))) (uh := hd_ov (iv_id 0 iv_B0) []) (f := true) (sp := [53]) (d0 := 1) (O := [false, false, false, false, false]) (T := [(30, [.inr (.inl 82)], [.inr (.inl 54)]), (30, [.inr (.inl 82)], [.inr (.inl 57)])]) (P := [(1, .inr (.inl 83), .inl (.int 0)), (3, .inr (.inl 82), .inl (.int 0)), (5, .inr (.inl 3), .inr (.inl 82)), (6, .inr (.inl 82), .inl (.ref 7)), (0, .inr (.inl 84), .inl (.int 0)), (6, .inr (.inl 82), .inl (.ref 7)), (0, .inr (.inl 85), .inl (.int 1))]) jm_ok89 (by decide +kernel) (by decide +kernel) hd F X1 X2 (fun F' hF hs => ?_)
  have b83 := hd_b (F := F) (F' := F') (k := 83) (hF 83 (by decide))
  have b82 := hd_b (F := F) (F' := F') (k := 82) (hF 82 (by decide))
  have b3 := hd_b (F := F) (F' := F') (k := 3) (hF 3 (by decide))
  have a54 := hd_ba (F := F) (F' := F') (k := 54) (hF 54 (by decide))
  have t84 : sy_dv F' (.inr (.inl 84)) = .int ((sy_ai F 54).getD (sy_i F 82).toNatClampNeg 0) := hd_rd (hs 0 _ rfl) b82 a54
  have a57 := hd_ba (F := F) (F' := F') (k := 57) (hF 57 (by decide))
  have t85 : sy_dv F' (.inr (.inl 85)) = .int ((sy_ai F 57).getD (sy_i F 82).toNatClampNeg 0) := hd_rd (hs 1 _ rfl) b82 a57
  have hB' : iv_in F' iv_B0 := iv_in_eq hB (fun j hj => hF j (Nat.lt_of_lt_of_le hj (by decide +kernel)))
  refine ⟨List.forall_mem_cons.mpr ⟨hd_p1 b83 rfl (by have hc : ((0) : Int32).toInt = 0 := (by decide); omega), List.forall_mem_cons.mpr ⟨hd_p3 b82 rfl (by have hc : ((0) : Int32).toInt = 0 := (by decide); omega), List.forall_mem_cons.mpr ⟨hd_p5 b3 b82 h2, List.forall_mem_cons.mpr ⟨hd_pb b82 (by first | exact h3 | exact h3), List.forall_mem_cons.mpr ⟨hd_p0 t84 rfl (by have hc : ((0) : Int32).toInt = 0 := (by decide); omega), List.forall_mem_cons.mpr ⟨hd_pb b82 (by first | exact h5 | exact h5), List.forall_mem_cons.mpr ⟨hd_p0 t85 rfl (by have hc : ((1) : Int32).toInt = 1 := (by decide); omega), fun _ h => absurd h List.not_mem_nil⟩⟩⟩⟩⟩⟩⟩, ?_⟩
  refine k _ ?_
  · exact fun j hj _ => (hd_keep hB' (Nat.lt_of_lt_of_le hj (by decide +kernel)) (by simp)).trans (hF j (Nat.lt_of_lt_of_le hj (by decide)))
theorem j0pr_0 {Ls : Nat} {xs : Nat → Int32} {d : Nat} {Q : Option Value → jm_h → Prop} (hd : 2 ≤ d) (F : Nat → sy_d) (X1 X2 : List jm_c) (hB : iv_in F iv_B0)
    (k0 : (sy_i F 83).toInt = 0 → (sy_i F 82).toInt < 0 → ∀ F1 : Nat → sy_d, iv_in F1 iv_B0 → (∀ j, j < 82 → j ∉ ([] : List Nat) → F1 j = F j) → Q (some (.int ((0 : Int32)))) (sy_dh F1 X1 X2 (iv_H 0)))
    (k1 : (sy_i F 83).toInt = 0 → 0 ≤ (sy_i F 82).toInt → (sy_i F 3).toInt ≤ (sy_i F 82).toInt → ∀ F1 : Nat → sy_d, iv_in F1 iv_B0 → (∀ j, j < 82 → j ∉ ([] : List Nat) → F1 j = F j) → Q (some (.int ((0 : Int32)))) (sy_dh F1 X1 X2 (iv_H 0)))
    (k2 : (sy_i F 83).toInt = 0 → 0 ≤ (sy_i F 82).toInt → (sy_i F 82).toInt < (sy_i F 3).toInt → ((sy_ai F 54).getD ((sy_i F 82).toInt).toNat 0).toInt ≠ 0 → ∀ F1 : Nat → sy_d, iv_in F1 iv_B0 → (∀ j, j < 82 → j ∉ ([] : List Nat) → F1 j = F j) → Q (some (.int ((0 : Int32)))) (sy_dh F1 X1 X2 (iv_H 0)))
    (k3 : (sy_i F 83).toInt = 0 → 0 ≤ (sy_i F 82).toInt → (sy_i F 82).toInt < (sy_i F 3).toInt → ((sy_ai F 54).getD ((sy_i F 82).toInt).toNat 0).toInt = 0 → ((sy_ai F 57).getD ((sy_i F 82).toInt).toNat 0).toInt ≠ 0 → ∀ F1 : Nat → sy_d, iv_in F1 iv_B0 → (∀ j, j < 82 → j ∉ ([] : List Nat) → F1 j = F j) → (sy_i F1 82).toInt = (sy_i F 82).toInt → sy_i F1 82 = sy_i F 82 → (sy_i F1 83).toInt = 0 → sy_i F1 83 = (0 : Int32) → hd_W Ls xs d jm_M89 Q (53, sy_dL F1 [some (.inl (.ref 8)), some (.inr (.inl 82)), none, some (.inr (.inl 83))], sy_dS F1 [.inl (.ref 46), .inl (.ref 66)], sy_dh F1 X1 X2 (iv_H 0), 0, 0))
    (k4 : (sy_i F 83).toInt = 0 → 0 ≤ (sy_i F 82).toInt → (sy_i F 82).toInt < (sy_i F 3).toInt → ((sy_ai F 54).getD ((sy_i F 82).toInt).toNat 0).toInt = 0 → ((sy_ai F 57).getD ((sy_i F 82).toInt).toNat 0).toInt = 0 → ∀ F1 : Nat → sy_d, iv_in F1 iv_B0 → (∀ j, j < 82 → j ∉ ([] : List Nat) → F1 j = F j) → Q (some (.int ((0 : Int32)))) (sy_dh F1 X1 X2 (iv_H 0)))
    (k5 : (sy_i F 83).toInt ≠ 0 → (sy_i F 82).toInt < 0 → ∀ F1 : Nat → sy_d, iv_in F1 iv_B0 → (∀ j, j < 82 → j ∉ ([] : List Nat) → F1 j = F j) → Q (some (.int ((0 : Int32)))) (sy_dh F1 X1 X2 (iv_H 0)))
    (k6 : (sy_i F 83).toInt ≠ 0 → 0 ≤ (sy_i F 82).toInt → (sy_i F 3).toInt ≤ (sy_i F 82).toInt → ∀ F1 : Nat → sy_d, iv_in F1 iv_B0 → (∀ j, j < 82 → j ∉ ([] : List Nat) → F1 j = F j) → Q (some (.int ((0 : Int32)))) (sy_dh F1 X1 X2 (iv_H 0)))
    (k7 : (sy_i F 83).toInt ≠ 0 → 0 ≤ (sy_i F 82).toInt → (sy_i F 82).toInt < (sy_i F 3).toInt → ((sy_ai F 54).getD ((sy_i F 82).toInt).toNat 0).toInt ≠ 0 → ∀ F1 : Nat → sy_d, iv_in F1 iv_B0 → (∀ j, j < 82 → j ∉ ([] : List Nat) → F1 j = F j) → Q (some (.int ((0 : Int32)))) (sy_dh F1 X1 X2 (iv_H 0)))
    (k8 : (sy_i F 83).toInt ≠ 0 → 0 ≤ (sy_i F 82).toInt → (sy_i F 82).toInt < (sy_i F 3).toInt → ((sy_ai F 54).getD ((sy_i F 82).toInt).toNat 0).toInt = 0 → ((sy_ai F 57).getD ((sy_i F 82).toInt).toNat 0).toInt ≠ 1 → ∀ F1 : Nat → sy_d, iv_in F1 iv_B0 → (∀ j, j < 82 → j ∉ ([] : List Nat) → F1 j = F j) → (sy_i F1 82).toInt = (sy_i F 82).toInt → sy_i F1 82 = sy_i F 82 → (sy_i F1 83).toInt = 1 → sy_i F1 83 = (1 : Int32) → hd_W Ls xs d jm_M89 Q (53, sy_dL F1 [some (.inl (.ref 8)), some (.inr (.inl 82)), none, some (.inr (.inl 83))], sy_dS F1 [.inl (.ref 46), .inl (.ref 66)], sy_dh F1 X1 X2 (iv_H 0), 0, 0))
    (k9 : (sy_i F 83).toInt ≠ 0 → 0 ≤ (sy_i F 82).toInt → (sy_i F 82).toInt < (sy_i F 3).toInt → ((sy_ai F 54).getD ((sy_i F 82).toInt).toNat 0).toInt = 0 → ((sy_ai F 57).getD ((sy_i F 82).toInt).toNat 0).toInt = 1 → ∀ F1 : Nat → sy_d, iv_in F1 iv_B0 → (∀ j, j < 82 → j ∉ ([] : List Nat) → F1 j = F j) → Q (some (.int ((0 : Int32)))) (sy_dh F1 X1 X2 (iv_H 0))) :
    hd_W Ls xs d jm_M89 Q (0, sy_dL F [some (.inl (.ref 8)), some (.inr (.inl 82)), some (.inr (.inl 83)), none], sy_dS F [], sy_dh F X1 X2 (iv_H 0), 0, 0) := by
  by_cases g0 : (sy_i F 83).toInt = 0
  · by_cases g1 : (sy_i F 82).toInt < 0
    · exact j0pr_0_p0 hd F X1 X2 hB (by first | exact g0 | (simp only [nz_c]; exact g0)) (by first | exact g1 | (simp only [nz_c]; exact g1)) (fun F1 g  => k0 g0 g1 F1 (nz_in0 hB [] (fun j hj hn => g j hj (by simp only [List.mem_cons, List.not_mem_nil, or_false, not_or] at hn; exact trivial)) (List.forall_mem_nil _)) (fun j hj hn => g j hj (by simp only [List.mem_cons, List.not_mem_nil, or_false, not_or] at hn; exact trivial)) )
    replace g1 : 0 ≤ (sy_i F 82).toInt := by omega
    by_cases g2 : (sy_i F 3).toInt ≤ (sy_i F 82).toInt
    · have c3 := nz_bx hB (k := 3) (lo := 0) (hi := 7) rfl
      exact j0pr_0_p1 hd F X1 X2 hB (by first | exact g0 | (simp only [nz_c]; exact g0)) (by first | exact g1 | (simp only [nz_c]; exact g1)) (by first | exact g2 | (simp only [nz_c]; exact g2)) (fun F1 g  => k1 g0 g1 g2 F1 (nz_in0 hB [] (fun j hj hn => g j hj (by simp only [List.mem_cons, List.not_mem_nil, or_false, not_or] at hn; exact trivial)) (List.forall_mem_nil _)) (fun j hj hn => g j hj (by simp only [List.mem_cons, List.not_mem_nil, or_false, not_or] at hn; exact trivial)) )
    replace g2 : (sy_i F 82).toInt < (sy_i F 3).toInt := by omega
    by_cases g3 : ((sy_ai F 54).getD ((sy_i F 82).toInt).toNat 0).toInt ≠ 0
    · have c3 := nz_bx hB (k := 3) (lo := 0) (hi := 7) rfl
      have q84 : (sy_ai F 54).getD (sy_i F 82).toNatClampNeg 0 = (sy_ai F 54).getD ((sy_i F 82).toInt).toNat 0 := by simp only [nz_c]
      have n84 : nzI ((sy_ai F 54).getD (sy_i F 82).toNatClampNeg 0) (((sy_ai F 54).getD ((sy_i F 82).toInt).toNat 0).toInt) := congrArg Int32.toInt q84
      exact j0pr_0_p2 hd F X1 X2 hB (by first | exact g0 | (simp only [nz_c]; exact g0)) (by first | exact g1 | (simp only [nz_c]; exact g1)) (by first | exact g2 | (simp only [nz_c]; exact g2)) (by first | exact ⟨by omega, by omega⟩ | (simp only [nz_c]; exact ⟨by omega, by omega⟩)) (by first | exact g3 | (simp only [nz_c]; exact g3) | (rw [(nzE n84)]; exact g3)) (fun F1 g  => k2 g0 g1 g2 g3 F1 (nz_in0 hB [] (fun j hj hn => g j hj (by simp only [List.mem_cons, List.not_mem_nil, or_false, not_or] at hn; exact trivial)) (List.forall_mem_nil _)) (fun j hj hn => g j hj (by simp only [List.mem_cons, List.not_mem_nil, or_false, not_or] at hn; exact trivial)) )
    replace g3 : ((sy_ai F 54).getD ((sy_i F 82).toInt).toNat 0).toInt = 0 := by omega
    by_cases g4 : ((sy_ai F 57).getD ((sy_i F 82).toInt).toNat 0).toInt ≠ 0
    · have c3 := nz_bx hB (k := 3) (lo := 0) (hi := 7) rfl
      have q84 : (sy_ai F 54).getD (sy_i F 82).toNatClampNeg 0 = (sy_ai F 54).getD ((sy_i F 82).toInt).toNat 0 := by simp only [nz_c]
      have n84 : nzI ((sy_ai F 54).getD (sy_i F 82).toNatClampNeg 0) (((sy_ai F 54).getD ((sy_i F 82).toInt).toNat 0).toInt) := congrArg Int32.toInt q84
      have q85 : (sy_ai F 57).getD (sy_i F 82).toNatClampNeg 0 = (sy_ai F 57).getD ((sy_i F 82).toInt).toNat 0 := by simp only [nz_c]
      have n85 : nzI ((sy_ai F 57).getD (sy_i F 82).toNatClampNeg 0) (((sy_ai F 57).getD ((sy_i F 82).toInt).toNat 0).toInt) := congrArg Int32.toInt q85
      exact j0pr_0_p3 hd F X1 X2 hB (by first | exact g0 | (simp only [nz_c]; exact g0)) (by first | exact g1 | (simp only [nz_c]; exact g1)) (by first | exact g2 | (simp only [nz_c]; exact g2)) (by first | exact ⟨by omega, by omega⟩ | (simp only [nz_c]; exact ⟨by omega, by omega⟩)) (by first | exact g3 | (simp only [nz_c]; exact g3) | (rw [(nzE n84)]; exact g3)) (by first | exact ⟨by omega, by omega⟩ | (simp only [nz_c]; exact ⟨by omega, by omega⟩)) (by first | exact g4 | (simp only [nz_c]; exact g4) | (rw [(nzE n85)]; exact g4)) (fun F1 g e82 e83 => k3 g0 g1 g2 g3 g4 F1 (nz_in0 hB [] (fun j hj hn => g j hj (by simp only [List.mem_cons, List.not_mem_nil, or_false, not_or] at hn; exact trivial)) (List.forall_mem_nil _)) (fun j hj hn => g j hj (by simp only [List.mem_cons, List.not_mem_nil, or_false, not_or] at hn; exact trivial)) ((congrArg Int32.toInt (zz_i e82)).trans (rfl : (sy_i F 82).toInt = (sy_i F 82).toInt)) ((zz_i e82).trans (rfl : sy_i F 82 = sy_i F 82)) ((congrArg Int32.toInt (zz_i e83)).trans (by decide : ((0 : Int32)).toInt = 0)) ((zz_i e83).trans (rfl : (0 : Int32) = (0 : Int32))))
    replace g4 : ((sy_ai F 57).getD ((sy_i F 82).toInt).toNat 0).toInt = 0 := by omega
    have c3 := nz_bx hB (k := 3) (lo := 0) (hi := 7) rfl
    have q84 : (sy_ai F 54).getD (sy_i F 82).toNatClampNeg 0 = (sy_ai F 54).getD ((sy_i F 82).toInt).toNat 0 := by simp only [nz_c]
    have n84 : nzI ((sy_ai F 54).getD (sy_i F 82).toNatClampNeg 0) (((sy_ai F 54).getD ((sy_i F 82).toInt).toNat 0).toInt) := congrArg Int32.toInt q84
    have q85 : (sy_ai F 57).getD (sy_i F 82).toNatClampNeg 0 = (sy_ai F 57).getD ((sy_i F 82).toInt).toNat 0 := by simp only [nz_c]
    have n85 : nzI ((sy_ai F 57).getD (sy_i F 82).toNatClampNeg 0) (((sy_ai F 57).getD ((sy_i F 82).toInt).toNat 0).toInt) := congrArg Int32.toInt q85
    exact j0pr_0_p4 hd F X1 X2 hB (by first | exact g0 | (simp only [nz_c]; exact g0)) (by first | exact g1 | (simp only [nz_c]; exact g1)) (by first | exact g2 | (simp only [nz_c]; exact g2)) (by first | exact ⟨by omega, by omega⟩ | (simp only [nz_c]; exact ⟨by omega, by omega⟩)) (by first | exact g3 | (simp only [nz_c]; exact g3) | (rw [(nzE n84)]; exact g3)) (by first | exact ⟨by omega, by omega⟩ | (simp only [nz_c]; exact ⟨by omega, by omega⟩)) (by first | exact g4 | (simp only [nz_c]; exact g4) | (rw [(nzE n85)]; exact g4)) (fun F1 g  => k4 g0 g1 g2 g3 g4 F1 (nz_in0 hB [] (fun j hj hn => g j hj (by simp only [List.mem_cons, List.not_mem_nil, or_false, not_or] at hn; exact trivial)) (List.forall_mem_nil _)) (fun j hj hn => g j hj (by simp only [List.mem_cons, List.not_mem_nil, or_false, not_or] at hn; exact trivial)) )
  replace g0 : (sy_i F 83).toInt ≠ 0 := by omega
  by_cases g1 : (sy_i F 82).toInt < 0
  · exact j0pr_0_p5 hd F X1 X2 hB (by first | exact g0 | (simp only [nz_c]; exact g0)) (by first | exact g1 | (simp only [nz_c]; exact g1)) (fun F1 g  => k5 g0 g1 F1 (nz_in0 hB [] (fun j hj hn => g j hj (by simp only [List.mem_cons, List.not_mem_nil, or_false, not_or] at hn; exact trivial)) (List.forall_mem_nil _)) (fun j hj hn => g j hj (by simp only [List.mem_cons, List.not_mem_nil, or_false, not_or] at hn; exact trivial)) )
  replace g1 : 0 ≤ (sy_i F 82).toInt := by omega
  by_cases g2 : (sy_i F 3).toInt ≤ (sy_i F 82).toInt
  · have c3 := nz_bx hB (k := 3) (lo := 0) (hi := 7) rfl
    exact j0pr_0_p6 hd F X1 X2 hB (by first | exact g0 | (simp only [nz_c]; exact g0)) (by first | exact g1 | (simp only [nz_c]; exact g1)) (by first | exact g2 | (simp only [nz_c]; exact g2)) (fun F1 g  => k6 g0 g1 g2 F1 (nz_in0 hB [] (fun j hj hn => g j hj (by simp only [List.mem_cons, List.not_mem_nil, or_false, not_or] at hn; exact trivial)) (List.forall_mem_nil _)) (fun j hj hn => g j hj (by simp only [List.mem_cons, List.not_mem_nil, or_false, not_or] at hn; exact trivial)) )
  replace g2 : (sy_i F 82).toInt < (sy_i F 3).toInt := by omega
  by_cases g3 : ((sy_ai F 54).getD ((sy_i F 82).toInt).toNat 0).toInt ≠ 0
  · have c3 := nz_bx hB (k := 3) (lo := 0) (hi := 7) rfl
    have q84 : (sy_ai F 54).getD (sy_i F 82).toNatClampNeg 0 = (sy_ai F 54).getD ((sy_i F 82).toInt).toNat 0 := by simp only [nz_c]
    have n84 : nzI ((sy_ai F 54).getD (sy_i F 82).toNatClampNeg 0) (((sy_ai F 54).getD ((sy_i F 82).toInt).toNat 0).toInt) := congrArg Int32.toInt q84
    exact j0pr_0_p7 hd F X1 X2 hB (by first | exact g0 | (simp only [nz_c]; exact g0)) (by first | exact g1 | (simp only [nz_c]; exact g1)) (by first | exact g2 | (simp only [nz_c]; exact g2)) (by first | exact ⟨by omega, by omega⟩ | (simp only [nz_c]; exact ⟨by omega, by omega⟩)) (by first | exact g3 | (simp only [nz_c]; exact g3) | (rw [(nzE n84)]; exact g3)) (fun F1 g  => k7 g0 g1 g2 g3 F1 (nz_in0 hB [] (fun j hj hn => g j hj (by simp only [List.mem_cons, List.not_mem_nil, or_false, not_or] at hn; exact trivial)) (List.forall_mem_nil _)) (fun j hj hn => g j hj (by simp only [List.mem_cons, List.not_mem_nil, or_false, not_or] at hn; exact trivial)) )
  replace g3 : ((sy_ai F 54).getD ((sy_i F 82).toInt).toNat 0).toInt = 0 := by omega
  by_cases g4 : ((sy_ai F 57).getD ((sy_i F 82).toInt).toNat 0).toInt ≠ 1
  · have c3 := nz_bx hB (k := 3) (lo := 0) (hi := 7) rfl
    have q84 : (sy_ai F 54).getD (sy_i F 82).toNatClampNeg 0 = (sy_ai F 54).getD ((sy_i F 82).toInt).toNat 0 := by simp only [nz_c]
    have n84 : nzI ((sy_ai F 54).getD (sy_i F 82).toNatClampNeg 0) (((sy_ai F 54).getD ((sy_i F 82).toInt).toNat 0).toInt) := congrArg Int32.toInt q84
    have q85 : (sy_ai F 57).getD (sy_i F 82).toNatClampNeg 0 = (sy_ai F 57).getD ((sy_i F 82).toInt).toNat 0 := by simp only [nz_c]
    have n85 : nzI ((sy_ai F 57).getD (sy_i F 82).toNatClampNeg 0) (((sy_ai F 57).getD ((sy_i F 82).toInt).toNat 0).toInt) := congrArg Int32.toInt q85
    exact j0pr_0_p8 hd F X1 X2 hB (by first | exact g0 | (simp only [nz_c]; exact g0)) (by first | exact g1 | (simp only [nz_c]; exact g1)) (by first | exact g2 | (simp only [nz_c]; exact g2)) (by first | exact ⟨by omega, by omega⟩ | (simp only [nz_c]; exact ⟨by omega, by omega⟩)) (by first | exact g3 | (simp only [nz_c]; exact g3) | (rw [(nzE n84)]; exact g3)) (by first | exact ⟨by omega, by omega⟩ | (simp only [nz_c]; exact ⟨by omega, by omega⟩)) (by first | exact g4 | (simp only [nz_c]; exact g4) | (rw [(nzE n85)]; exact g4)) (fun F1 g e82 e83 => k8 g0 g1 g2 g3 g4 F1 (nz_in0 hB [] (fun j hj hn => g j hj (by simp only [List.mem_cons, List.not_mem_nil, or_false, not_or] at hn; exact trivial)) (List.forall_mem_nil _)) (fun j hj hn => g j hj (by simp only [List.mem_cons, List.not_mem_nil, or_false, not_or] at hn; exact trivial)) ((congrArg Int32.toInt (zz_i e82)).trans (rfl : (sy_i F 82).toInt = (sy_i F 82).toInt)) ((zz_i e82).trans (rfl : sy_i F 82 = sy_i F 82)) ((congrArg Int32.toInt (zz_i e83)).trans (by decide : ((1 : Int32)).toInt = 1)) ((zz_i e83).trans (rfl : (1 : Int32) = (1 : Int32))))
  replace g4 : ((sy_ai F 57).getD ((sy_i F 82).toInt).toNat 0).toInt = 1 := by omega
  have c3 := nz_bx hB (k := 3) (lo := 0) (hi := 7) rfl
  have q84 : (sy_ai F 54).getD (sy_i F 82).toNatClampNeg 0 = (sy_ai F 54).getD ((sy_i F 82).toInt).toNat 0 := by simp only [nz_c]
  have n84 : nzI ((sy_ai F 54).getD (sy_i F 82).toNatClampNeg 0) (((sy_ai F 54).getD ((sy_i F 82).toInt).toNat 0).toInt) := congrArg Int32.toInt q84
  have q85 : (sy_ai F 57).getD (sy_i F 82).toNatClampNeg 0 = (sy_ai F 57).getD ((sy_i F 82).toInt).toNat 0 := by simp only [nz_c]
  have n85 : nzI ((sy_ai F 57).getD (sy_i F 82).toNatClampNeg 0) (((sy_ai F 57).getD ((sy_i F 82).toInt).toNat 0).toInt) := congrArg Int32.toInt q85
  exact j0pr_0_p9 hd F X1 X2 hB (by first | exact g0 | (simp only [nz_c]; exact g0)) (by first | exact g1 | (simp only [nz_c]; exact g1)) (by first | exact g2 | (simp only [nz_c]; exact g2)) (by first | exact ⟨by omega, by omega⟩ | (simp only [nz_c]; exact ⟨by omega, by omega⟩)) (by first | exact g3 | (simp only [nz_c]; exact g3) | (rw [(nzE n84)]; exact g3)) (by first | exact ⟨by omega, by omega⟩ | (simp only [nz_c]; exact ⟨by omega, by omega⟩)) (by first | exact g4 | (simp only [nz_c]; exact g4) | (rw [(nzE n85)]; exact g4)) (fun F1 g  => k9 g0 g1 g2 g3 g4 F1 (nz_in0 hB [] (fun j hj hn => g j hj (by simp only [List.mem_cons, List.not_mem_nil, or_false, not_or] at hn; exact trivial)) (List.forall_mem_nil _)) (fun j hj hn => g j hj (by simp only [List.mem_cons, List.not_mem_nil, or_false, not_or] at hn; exact trivial)) )
theorem j0pr_56_p0 {Ls : Nat} {xs : Nat → Int32} {d : Nat} {Q : Option Value → jm_h → Prop} (hd : 1 ≤ d) (F : Nat → sy_d) (X1 X2 : List jm_c) (hB : iv_in F iv_B0)
    (h0 : 0 ≤ (sy_i F 82).toInt ∧ (sy_i F 82).toInt < 7)
    (k : ∀ F1 : Nat → sy_d, (∀ j, j < 82 → j ≠ 57 → F1 j = F j) → F1 57 = .inr (.inl (jm_upd (sy_ai F 57) (sy_i F 82).toNatClampNeg (sy_i F 83))) → Q (some (.int ((1 : Int32)))) (sy_dh F1 X1 X2 (iv_H 0))) :
    hd_W Ls xs d jm_M89 Q (56, sy_dL F [some (.inl (.ref 8)), some (.inr (.inl 82)), none, some (.inr (.inl 83))], sy_dS F [], sy_dh F X1 X2 (iv_H 0), 0, 0) := by
  refine hd_ret (s := 0) (nv := 84) (v := some (.inl (.int 1))) (uh := hd_ov (iv_id 0 iv_B0) [(57, .inr (.inr (.inl 84)))]) (f := false) (sp := []) (d0 := 0) (O := []) (T := [(40, [.inr (.inl 82), .inr (.inl 83)], [.inr (.inl 57)])]) (P := [(6, .inr (.inl 82), .inl (.ref 7))]) jm_ok89 (by decide +kernel) (by decide +kernel) hd F X1 X2 (fun F' hF hs => ?_)
  have b82 := hd_b (F := F) (F' := F') (k := 82) (hF 82 (by decide))
  have b83 := hd_b (F := F) (F' := F') (k := 83) (hF 83 (by decide))
  have a57 := hd_ba (F := F) (F' := F') (k := 57) (hF 57 (by decide))
  have t84 : sy_da F' (.inr (.inl 84)) = .inl (jm_upd (sy_ai F 57) (sy_i F 82).toNatClampNeg (sy_i F 83)) := hd_up (hs 0 _ rfl) b82 b83 a57
  have hB' : iv_in F' iv_B0 := iv_in_eq hB (fun j hj => hF j (Nat.lt_of_lt_of_le hj (by decide +kernel)))
  refine ⟨List.forall_mem_cons.mpr ⟨hd_pb b82 (by first | exact h0 | exact h0), fun _ h => absurd h List.not_mem_nil⟩, ?_⟩
  refine k _ ?_ ?_
  · exact fun j hj hn => (hd_keep hB' (Nat.lt_of_lt_of_le hj (by decide +kernel)) (by simp; omega)).trans (hF j (Nat.lt_of_lt_of_le hj (by decide)))
  · exact hd_ga (a := .inr (.inl 84)) (by decide +kernel) t84
theorem j0pr_56 {Ls : Nat} {xs : Nat → Int32} {d : Nat} {Q : Option Value → jm_h → Prop} (hd : 1 ≤ d) (F : Nat → sy_d) (X1 X2 : List jm_c) (hB : iv_in F iv_B0)
    (a82 : 0 ≤ (sy_i F 82).toInt ∧ (sy_i F 82).toInt ≤ 6)
    (a83 : 0 ≤ (sy_i F 83).toInt ∧ (sy_i F 83).toInt ≤ 1)
    (k0 : ∀ F1 : Nat → sy_d, iv_in F1 iv_B0 → (∀ j, j < 82 → j ∉ ([57] : List Nat) → F1 j = F j) → sy_ai F1 57 = jm_upd (sy_ai F 57) ((sy_i F 82).toInt).toNat (sy_i F 83) → Q (some (.int ((1 : Int32)))) (sy_dh F1 X1 X2 (iv_H 0))) :
    hd_W Ls xs d jm_M89 Q (56, sy_dL F [some (.inl (.ref 8)), some (.inr (.inl 82)), none, some (.inr (.inl 83))], sy_dS F [], sy_dh F X1 X2 (iv_H 0), 0, 0) := by
  have w84 : jm_upd (sy_ai F 57) (sy_i F 82).toNatClampNeg (sy_i F 83) = jm_upd (sy_ai F 57) ((sy_i F 82).toInt).toNat (sy_i F 83) := by simp only [nz_c]
  exact j0pr_56_p0 hd F X1 X2 hB (by first | exact ⟨by omega, by omega⟩ | (simp only [nz_c]; exact ⟨by omega, by omega⟩)) (fun F1 g e57 => k0 F1 (nz_in0 hB [57] (fun j hj hn => g j hj (by simp only [List.mem_cons, List.not_mem_nil, or_false, not_or] at hn; omega)) (List.forall_mem_cons.mpr ⟨fun t ht => (Option.some.inj ht) ▸ (nz_hz2 e57), List.forall_mem_nil _⟩)) (fun j hj hn => g j hj (by simp only [List.mem_cons, List.not_mem_nil, or_false, not_or] at hn; omega)) ((zz_ai e57).trans w84))
end
section
/-! ===== held grounds ===== -/
def hlC (nf nb : Nat) (F : Nat → sy_d) (H : Nat → gS) : Prop := ∀ k, k < 3 → ((sy_ai F 78).getD k 0).toInt ≠ 0 → svC nf nb (sy_ai F 77) (60 * k) (H k)
theorem hlC_eq {nf nb : Nat} {F F1 : Nat → sy_d} {H : Nat → gS} (h : hlC nf nb F H) (e7 : F1 77 = F 77) (e8 : F1 78 = F 78) : hlC nf nb F1 H := by
  intro k hk
  rw [nz_fa e7, nz_fa e8]
  exact h k hk
end
section
/-! ===== undo, hold, restore, go on the class's side (shape 0) ===== -/
section CH0
variable {Ls : Nat} {xs : Nat → Int32} {nf nb : Nat} {g : gS} (F : Nat → sy_d) (X1 X2 : List jm_c)
theorem j0un_V0 (hB : iv_in F iv_B0) (hT : trC nf nb F []) : jm_T Ls xs 3 jm_M92 [.ref 8] (sy_dh F X1 X2 (iv_H 0)) 0 0 (pI 0 X1 X2 (fun x F' => x = 0 ∧ qC [] F F')) := by
  refine hd_T (As := [.inl (.ref 8)]) jm_ok92 (by decide) (j0un_0 (by decide) F X1 X2 hB ?_)
  intro F1 hb gg
  have q1 : qC [] F F1 := qq_mk hb gg (by decide)
  refine hd_calI (R := fun x F' => x = 0 ∧ qC [] F1 F') (nh := 82) (nv := 82) (s := 0) (s1 := 0) (d1 := 2) (M1 := jm_M79) (As := [.inl (.ref 66), .inl (.ref 46)]) (rest := []) jm_ok92 rfl rfl (by decide) (by decide +kernel) (j0st_V0 F1 X1 X2 hb (trC_eq hT (gg 74 (by decide) (by decide)) (gg 75 (by decide) (by decide)) (gg 76 (by decide) (by decide)))) (fun F3 F' x hR p1 p2 p3 => ?_)
  obtain ⟨r1, r2⟩ := hR
  have r2' : qC [] F1 F3 := qC_dst r2 p1
  have k82 : sy_i F3 82 = 0 := (zz_i p3).trans r1
  refine j0un_11 (by decide) F3 X1 X2 r2'.1 (Or.inl (by rw [k82]; rfl)) ?_
  intro F4 hb4 g4
  exact ⟨_, F4, rfl, rfl, k82, qq_on (qq_trans q1 r2') hb4 g4 (by decide)⟩
theorem j0un_V1 (hB : iv_in F iv_B0) (hf : nf ≤ 7) (hb : nb ≤ 4) {U : List gS} (hT : trC nf nb F (g :: U)) : jm_T Ls xs 3 jm_M92 [.ref 8] (sy_dh F X1 X2 (iv_H 0)) 0 0 (pI 0 X1 X2 (fun x F' => x = 1 ∧ qC (75 :: [50, 51, 52, 53, 54, 55, 56, 57, 58, 59, 60, 61]) F F' ∧ trC nf nb F' U ∧ gC 50 nf nb F' g)) := by
  refine hd_T (As := [.inl (.ref 8)]) jm_ok92 (by decide) (j0un_0 (by decide) F X1 X2 hB ?_)
  intro F1 hb1 gg
  have q1 : qC [] F F1 := qq_mk hb1 gg (by decide)
  refine hd_calI (R := fun x F' => x = 1 ∧ qC (75 :: [50, 51, 52, 53, 54, 55, 56, 57, 58, 59, 60, 61]) F1 F' ∧ trC nf nb F' U ∧ gC 50 nf nb F' g) (nh := 82) (nv := 82) (s := 0) (s1 := 0) (d1 := 2) (M1 := jm_M79) (As := [.inl (.ref 66), .inl (.ref 46)]) (rest := []) jm_ok92 rfl rfl (by decide) (by decide +kernel) (j0st_V1 F1 X1 X2 hb1 hf hb (trC_eq hT (gg 74 (by decide) (by decide)) (gg 75 (by decide) (by decide)) (gg 76 (by decide) (by decide)))) (fun F3 F' x hR p1 p2 p3 => ?_)
  obtain ⟨r1, r2, r3, r4⟩ := hR
  have r2' : qC (75 :: [50, 51, 52, 53, 54, 55, 56, 57, 58, 59, 60, 61]) F1 F3 := qC_dst r2 p1
  have k82 : sy_i F3 82 = 1 := (zz_i p3).trans r1
  refine j0un_11 (by decide) F3 X1 X2 r2'.1 (Or.inr (by rw [k82]; rfl)) ?_
  intro F4 hb4 g4
  have f4 : ∀ j, j < 82 → F4 j = F' j := fun j hj => (g4 j hj (by simp)).trans (p1 j hj)
  exact ⟨_, F4, rfl, rfl, k82, qq_on (qq_trans (qq_up q1 (by decide)) r2') hb4 g4 (by decide), trC_eq r3 (f4 74 (by decide)) (f4 75 (by decide)) (f4 76 (by decide)), gC_eq r4 (fun j h1 h2 => f4 j (by omega))⟩
theorem j0hd_V (hB : iv_in F iv_B0) (hf : nf ≤ 7) (hb : nb ≤ 4) (hg : gC 50 nf nb F g) {H : Nat → gS} (hH : hlC nf nb F H) (v : Int32) : jm_T Ls xs 2 jm_M113 [.ref 8, .int v] (sy_dh F X1 X2 (iv_H 0)) 0 0 (pI 0 X1 X2 (fun x F' => (¬ (0 ≤ v.toInt ∧ v.toInt ≤ 2) → x = 0 ∧ qC [] F F') ∧ (0 ≤ v.toInt ∧ v.toInt ≤ 2 → x = 1 ∧ qC [77, 78] F F' ∧ hlC nf nb F' (fun j => if j = v.toInt.toNat then g else H j) ∧ sy_ai F' 78 = jm_upd (sy_ai F 78) v.toInt.toNat 1))) := by
  refine C_T (by decide) [v] [.inl (.ref 8), .inr (.inl 82)] jm_ok113 (by decide) rfl (fun F0 k0 ki => ?_)
  have i82 : sy_i F0 82 = v := ki 0
  refine j0hd_0 (by decide) F0 X1 X2 (hd_iveq0 hB k0) ?_ ?_ ?_
  · intro c0 F1 hb1 gg
    rw [i82] at c0
    exact ⟨_, F1, rfl, rfl, fun _ => ⟨rfl, qq_src (qq_mk hb1 gg (by decide)) k0⟩, fun h => absurd h (by omega)⟩
  · intro c0 c1 F1 hb1 gg
    rw [i82] at c0 c1
    exact ⟨_, F1, rfl, rfl, fun _ => ⟨rfl, qq_src (qq_mk hb1 gg (by decide)) k0⟩, fun h => absurd h (by omega)⟩
  · intro c0 c1 F1 hb1 gg e82 j82 e83 j83
    rw [i82] at c0 c1 e82 e83
    have q1 : qC [] F F1 := qq_src (qq_mk hb1 gg (by decide)) k0
    refine hd_calV (R := fun F' => qC [77] F1 F' ∧ svR (sy_ai F' 77) (60 * v.toInt.toNat) F1 50 ∧ ∀ j, j < 60 * v.toInt.toNat ∨ 60 * v.toInt.toNat + 60 ≤ j → (sy_ai F' 77).getD j 0 = (sy_ai F1 77).getD j 0) (nh := 82) (nv := 83) (s := 0) (s1 := 0) (d1 := 1) (M1 := jm_M9) (As := [.inl (.ref 46), .inl (.ref 68), .inr (.inl 83)]) (rest := []) jm_ok113 rfl rfl (by decide) (by decide +kernel) (j0svs_V F1 X1 X2 hb1 (by rw [e83]; omega) (by omega)) (fun F3 F' hR p1 p2 => ?_)
    obtain ⟨r1, r2, r3⟩ := hR
    have r1' : qC [77] F1 F3 := qC_dst r1 p1
    have k82 : (sy_i F3 82).toInt = v.toInt := by rw [nz_fi (p2 82 (by decide) (by decide))]; exact e82
    refine j0hd_26 (by decide) F3 X1 X2 r1'.1 (by omega) ?_
    intro F4 hb4 g4 a78
    rw [k82] at a78
    have h78 : sy_ai F3 78 = sy_ai F 78 := (qq_a r1' (by decide) (by decide)).trans (qq_a q1 (by decide) (by decide))
    have h77 : sy_ai F1 77 = sy_ai F 77 := qq_a q1 (by decide) (by decide)
    have l77 : sy_ai F4 77 = sy_ai F' 77 := (nz_fa (g4 77 (by decide) (by decide))).trans (nz_fa (p1 77 (by decide)))
    rw [h78] at a78
    have g1 : gC 50 nf nb F1 g := gC_eq hg (fun j h1 h2 => q1.2 j (by omega) (by simp))
    refine ⟨_, F4, rfl, rfl, fun h => absurd ⟨c0, c1⟩ h, fun _ => ⟨rfl, qq_on (qq_trans (qq_up q1 (by decide)) (qq_up r1' (by decide))) hb4 g4 (by decide), fun k hk hz => ?_, a78⟩⟩
    rw [l77]
    show svC nf nb _ _ (if k = v.toInt.toNat then g else H k)
    by_cases z : k = v.toInt.toNat
    · rw [if_pos z, z]
      exact svC_of hf hb r2 g1
    · rw [if_neg z]
      rw [a78, jm_upd_at, if_neg z] at hz
      refine svC_eq hf hb (hH k hk hz) (fun j h1 h2 => ?_)
      rw [r3 j (by omega), h77]
theorem j0rs_V (hB : iv_in F iv_B0) (hf : nf ≤ 7) (hb : nb ≤ 4) {H : Nat → gS} (hH : hlC nf nb F H) (v : Int32) : jm_T Ls xs 2 jm_M114 [.ref 8, .int v] (sy_dh F X1 X2 (iv_H 0)) 0 0 (pI 0 X1 X2 (fun x F' => (¬ (0 ≤ v.toInt ∧ v.toInt ≤ 2 ∧ ((sy_ai F 78).getD v.toInt.toNat 0).toInt ≠ 0) → x = 0 ∧ qC [] F F') ∧ (0 ≤ v.toInt ∧ v.toInt ≤ 2 ∧ ((sy_ai F 78).getD v.toInt.toNat 0).toInt ≠ 0 → x = 1 ∧ qC (74 :: 75 :: [50, 51, 52, 53, 54, 55, 56, 57, 58, 59, 60, 61]) F F' ∧ gC 50 nf nb F' (H v.toInt.toNat) ∧ trC nf nb F' []))) := by
  refine C_T (by decide) [v] [.inl (.ref 8), .inr (.inl 82)] jm_ok114 (by decide) rfl (fun F0 k0 ki => ?_)
  have i82 : sy_i F0 82 = v := ki 0
  refine j0rs_0 (by decide) F0 X1 X2 (hd_iveq0 hB k0) ?_ ?_ ?_ ?_
  · intro c0 F1 hb1 gg
    rw [i82] at c0
    exact ⟨_, F1, rfl, rfl, fun _ => ⟨rfl, qq_src (qq_mk hb1 gg (by decide)) k0⟩, fun h => absurd h.1 (by omega)⟩
  · intro c0 c1 F1 hb1 gg
    rw [i82] at c0 c1
    exact ⟨_, F1, rfl, rfl, fun _ => ⟨rfl, qq_src (qq_mk hb1 gg (by decide)) k0⟩, fun h => absurd h.2.1 (by omega)⟩
  · intro c0 c1 c2 F1 hb1 gg e82 j82
    rw [i82] at c0 c1 c2 e82
    rw [nz_fa (k0 78 (by decide))] at c2
    have q1 : qC [] F F1 := qq_src (qq_mk hb1 gg (by decide)) k0
    refine hd_calV (R := fun F' => qC [50, 51, 52, 53, 54, 55, 56, 57, 58, 59, 60, 61] F1 F' ∧ svR (sy_ai F1 77) (60 * v.toInt.toNat) F' 50) (nh := 82) (nv := 82) (s := 0) (s1 := 0) (d1 := 1) (M1 := jm_M10) (As := [.inl (.ref 46), .inl (.ref 68), .inr (.inl 82)]) (rest := []) jm_ok114 rfl rfl (by decide) (by decide +kernel) (j0lds_V F1 X1 X2 hb1 (by rw [e82]; omega) (by omega)) (fun F3 F' hR p1 p2 => ?_)
    obtain ⟨r1, r2⟩ := hR
    have r1' : qC [50, 51, 52, 53, 54, 55, 56, 57, 58, 59, 60, 61] F1 F3 := qC_dst r1 p1
    refine j0rs_35 (by decide) F3 X1 X2 r1'.1 ?_
    intro F4 hb4 g4 e74 j74 e75 j75
    have h77 : sy_ai F1 77 = sy_ai F 77 := qq_a q1 (by decide) (by decide)
    rw [h77] at r2
    exact ⟨_, F4, rfl, rfl, fun h => absurd ⟨c0, c1, c2⟩ h, fun _ => ⟨rfl, qq_on (qq_trans (qq_up q1 (by decide)) (qq_up r1' (by decide))) hb4 g4 (by decide), gC_eq (gC_of hf hb r2 (hH _ (by omega) c2)) (fun j h1 h2 => (g4 j (by omega) (by simp; omega)).trans (p1 j (by omega))), ⟨0, by decide, by decide, e74, e75, trivial⟩⟩⟩
  · intro c0 c1 c2 F1 hb1 gg
    rw [i82] at c0 c1 c2
    rw [nz_fa (k0 78 (by decide))] at c2
    exact ⟨_, F1, rfl, rfl, fun _ => ⟨rfl, qq_src (qq_mk hb1 gg (by decide)) k0⟩, fun h => absurd c2 h.2.2⟩
end CH0
end
section
/-! ===== the class remembers and steps back, way by way (shape 1) ===== -/
theorem j1re_0_p0 {Ls : Nat} {xs : Nat → Int32} {d : Nat} {Q : Option Value → jm_h → Prop} (hd : 1 ≤ d) (F : Nat → sy_d) (X1 X2 : List jm_c) (hB : iv_in F iv_B0)
    (h0 : (sy_i F 75).toInt ≠ 40)
    (k : ∀ F1 : Nat → sy_d, (∀ j, j < 82 → True → F1 j = F j) → F1 82 = .inl (.int ((((sy_i F 74) + (sy_i F 75)) - ((sy_i F 74) + (sy_i F 75)) / ((40 : Int32)) * ((40 : Int32))) * ((60 : Int32)))) → hd_W Ls xs d jm_M78 Q (52, sy_dL F1 [some (.inl (.ref 66)), none], sy_dS F1 [.inr (.inl 82), .inl (.ref 67), .inl (.ref 46)], sy_dh F1 X1 X2 (iv_H 1), 0, 0)) :
    hd_W Ls xs d jm_M78 Q (0, sy_dL F [some (.inl (.ref 66)), some (.inl (.ref 46))], sy_dS F [], sy_dh F X1 X2 (iv_H 1), 0, 0) := by
  refine hd_run (s := 1) (nv := 82) (pc := 52) (L := [some (.inl (.ref 66)), none]) (S := [.inr (.inl 82), .inl (.ref 67), .inl (.ref 46)]) (uh := hd_ov (iv_id 0 iv_B0) []) (ul := [.inl (.inr (.inl 84))]) (f := true) (sp := [52]) (d0 := 0) (O := [true]) (T := [(0, [.inr (.inl 74), .inr (.inl 75)], []), (10, [.inr (.inl 82), .inl (.int 40)], []), (2, [.inr (.inl 83), .inl (.int 60)], [])]) (P := [(1, .inr (.inl 75), .inl (.int 40)), (1, .inl (.int 40), .inl (.int 0))]) jm_ok78 (by decide +kernel) (by decide +kernel) hd F X1 X2 (fun F' hF hs => ?_)
  have b75 := hd_b (F := F) (F' := F') (k := 75) (hF 75 (by decide))
  have b74 := hd_b (F := F) (F' := F') (k := 74) (hF 74 (by decide))
  have t82 : sy_dv F' (.inr (.inl 82)) = .int ((sy_i F 74) + (sy_i F 75)) := hd_o (hs 0 _ rfl) b74 b75 rfl
  have t83 : sy_dv F' (.inr (.inl 83)) = .int (((sy_i F 74) + (sy_i F 75)) - ((sy_i F 74) + (sy_i F 75)) / ((40 : Int32)) * ((40 : Int32))) := hd_o (hs 1 _ rfl) t82 rfl rfl
  have t84 : sy_dv F' (.inr (.inl 84)) = .int ((((sy_i F 74) + (sy_i F 75)) - ((sy_i F 74) + (sy_i F 75)) / ((40 : Int32)) * ((40 : Int32))) * ((60 : Int32))) := hd_o (hs 2 _ rfl) t83 rfl rfl
  have hB' : iv_in F' iv_B0 := iv_in_eq hB (fun j hj => hF j (Nat.lt_of_lt_of_le hj (by decide +kernel)))
  refine ⟨List.forall_mem_cons.mpr ⟨hd_p1 b75 rfl (by have hc : ((40) : Int32).toInt = 40 := (by decide); omega), List.forall_mem_cons.mpr ⟨(hd_p1 (X := 40) (Y := 0) rfl rfl (by decide)), fun _ h => absurd h List.not_mem_nil⟩⟩, ?_⟩
  refine k _ ?_ ?_
  · exact fun j hj _ => (hd_keep hB' (Nat.lt_of_lt_of_le hj (by decide +kernel)) (by simp)).trans (hF j (Nat.lt_of_lt_of_le hj (by decide)))
  · exact hd_gi (x := .inr (.inl 84)) (by decide +kernel) t84
theorem j1re_0_p1 {Ls : Nat} {xs : Nat → Int32} {d : Nat} {Q : Option Value → jm_h → Prop} (hd : 1 ≤ d) (F : Nat → sy_d) (X1 X2 : List jm_c) (hB : iv_in F iv_B0)
    (h0 : (sy_i F 75).toInt = 40)
    (k : ∀ F1 : Nat → sy_d, (∀ j, j < 82 → j ≠ 74 ∧ j ≠ 75 → F1 j = F j) → F1 74 = .inl (.int (((sy_i F 74) + ((1 : Int32))) - ((sy_i F 74) + ((1 : Int32))) / ((40 : Int32)) * ((40 : Int32)))) → F1 75 = .inl (.int ((sy_i F 75) - ((1 : Int32)))) → F1 82 = .inl (.int ((((((sy_i F 74) + ((1 : Int32))) - ((sy_i F 74) + ((1 : Int32))) / ((40 : Int32)) * ((40 : Int32))) + ((sy_i F 75) - ((1 : Int32)))) - ((((sy_i F 74) + ((1 : Int32))) - ((sy_i F 74) + ((1 : Int32))) / ((40 : Int32)) * ((40 : Int32))) + ((sy_i F 75) - ((1 : Int32)))) / ((40 : Int32)) * ((40 : Int32))) * ((60 : Int32)))) → hd_W Ls xs d jm_M78 Q (52, sy_dL F1 [some (.inl (.ref 66)), none], sy_dS F1 [.inr (.inl 82), .inl (.ref 67), .inl (.ref 46)], sy_dh F1 X1 X2 (iv_H 1), 0, 0)) :
    hd_W Ls xs d jm_M78 Q (0, sy_dL F [some (.inl (.ref 66)), some (.inl (.ref 46))], sy_dS F [], sy_dh F X1 X2 (iv_H 1), 0, 0) := by
  refine hd_run (s := 1) (nv := 82) (pc := 52) (L := [some (.inl (.ref 66)), none]) (S := [.inr (.inl 82), .inl (.ref 67), .inl (.ref 46)]) (uh := hd_ov (iv_id 0 iv_B0) [(74, .inl (.inr (.inl 83))), (75, .inl (.inr (.inl 84)))]) (ul := [.inl (.inr (.inl 87))]) (f := true) (sp := [52]) (d0 := 0) (O := [false]) (T := [(0, [.inr (.inl 74), .inl (.int 1)], []), (10, [.inr (.inl 82), .inl (.int 40)], []), (1, [.inr (.inl 75), .inl (.int 1)], []), (0, [.inr (.inl 83), .inr (.inl 84)], []), (10, [.inr (.inl 85), .inl (.int 40)], []), (2, [.inr (.inl 86), .inl (.int 60)], [])]) (P := [(0, .inr (.inl 75), .inl (.int 40)), (1, .inl (.int 40), .inl (.int 0)), (1, .inl (.int 40), .inl (.int 0))]) jm_ok78 (by decide +kernel) (by decide +kernel) hd F X1 X2 (fun F' hF hs => ?_)
  have b75 := hd_b (F := F) (F' := F') (k := 75) (hF 75 (by decide))
  have b74 := hd_b (F := F) (F' := F') (k := 74) (hF 74 (by decide))
  have t82 : sy_dv F' (.inr (.inl 82)) = .int ((sy_i F 74) + ((1 : Int32))) := hd_o (hs 0 _ rfl) b74 rfl rfl
  have t83 : sy_dv F' (.inr (.inl 83)) = .int (((sy_i F 74) + ((1 : Int32))) - ((sy_i F 74) + ((1 : Int32))) / ((40 : Int32)) * ((40 : Int32))) := hd_o (hs 1 _ rfl) t82 rfl rfl
  have t84 : sy_dv F' (.inr (.inl 84)) = .int ((sy_i F 75) - ((1 : Int32))) := hd_o (hs 2 _ rfl) b75 rfl rfl
  have t85 : sy_dv F' (.inr (.inl 85)) = .int ((((sy_i F 74) + ((1 : Int32))) - ((sy_i F 74) + ((1 : Int32))) / ((40 : Int32)) * ((40 : Int32))) + ((sy_i F 75) - ((1 : Int32)))) := hd_o (hs 3 _ rfl) t83 t84 rfl
  have t86 : sy_dv F' (.inr (.inl 86)) = .int (((((sy_i F 74) + ((1 : Int32))) - ((sy_i F 74) + ((1 : Int32))) / ((40 : Int32)) * ((40 : Int32))) + ((sy_i F 75) - ((1 : Int32)))) - ((((sy_i F 74) + ((1 : Int32))) - ((sy_i F 74) + ((1 : Int32))) / ((40 : Int32)) * ((40 : Int32))) + ((sy_i F 75) - ((1 : Int32)))) / ((40 : Int32)) * ((40 : Int32))) := hd_o (hs 4 _ rfl) t85 rfl rfl
  have t87 : sy_dv F' (.inr (.inl 87)) = .int ((((((sy_i F 74) + ((1 : Int32))) - ((sy_i F 74) + ((1 : Int32))) / ((40 : Int32)) * ((40 : Int32))) + ((sy_i F 75) - ((1 : Int32)))) - ((((sy_i F 74) + ((1 : Int32))) - ((sy_i F 74) + ((1 : Int32))) / ((40 : Int32)) * ((40 : Int32))) + ((sy_i F 75) - ((1 : Int32)))) / ((40 : Int32)) * ((40 : Int32))) * ((60 : Int32))) := hd_o (hs 5 _ rfl) t86 rfl rfl
  have hB' : iv_in F' iv_B0 := iv_in_eq hB (fun j hj => hF j (Nat.lt_of_lt_of_le hj (by decide +kernel)))
  refine ⟨List.forall_mem_cons.mpr ⟨hd_p0 b75 rfl (by have hc : ((40) : Int32).toInt = 40 := (by decide); omega), List.forall_mem_cons.mpr ⟨(hd_p1 (X := 40) (Y := 0) rfl rfl (by decide)), List.forall_mem_cons.mpr ⟨(hd_p1 (X := 40) (Y := 0) rfl rfl (by decide)), fun _ h => absurd h List.not_mem_nil⟩⟩⟩, ?_⟩
  refine k _ ?_ ?_ ?_ ?_
  · exact fun j hj hn => (hd_keep hB' (Nat.lt_of_lt_of_le hj (by decide +kernel)) (by simp; omega)).trans (hF j (Nat.lt_of_lt_of_le hj (by decide)))
  · exact hd_gi (x := .inr (.inl 83)) (by decide +kernel) t83
  · exact hd_gi (x := .inr (.inl 84)) (by decide +kernel) t84
  · exact hd_gi (x := .inr (.inl 87)) (by decide +kernel) t87
theorem j1re_0 {Ls : Nat} {xs : Nat → Int32} {d : Nat} {Q : Option Value → jm_h → Prop} (hd : 1 ≤ d) (F : Nat → sy_d) (X1 X2 : List jm_c) (hB : iv_in F iv_B0)
    (k0 : (sy_i F 75).toInt ≠ 40 → ∀ F1 : Nat → sy_d, iv_in F1 iv_B0 → (∀ j, j < 82 → j ∉ ([] : List Nat) → F1 j = F j) → (sy_i F1 82).toInt = ((((sy_i F 74) + (sy_i F 75)) - ((sy_i F 74) + (sy_i F 75)) / ((40 : Int32)) * ((40 : Int32))) * ((60 : Int32))).toInt → sy_i F1 82 = (((sy_i F 74) + (sy_i F 75)) - ((sy_i F 74) + (sy_i F 75)) / ((40 : Int32)) * ((40 : Int32))) * ((60 : Int32)) → hd_W Ls xs d jm_M78 Q (52, sy_dL F1 [some (.inl (.ref 66)), none], sy_dS F1 [.inr (.inl 82), .inl (.ref 67), .inl (.ref 46)], sy_dh F1 X1 X2 (iv_H 1), 0, 0))
    (k1 : (sy_i F 75).toInt = 40 → ∀ F1 : Nat → sy_d, iv_in F1 iv_B0 → (∀ j, j < 82 → j ∉ ([74, 75] : List Nat) → F1 j = F j) → (sy_i F1 74).toInt = (((sy_i F 74) + ((1 : Int32))) - ((sy_i F 74) + ((1 : Int32))) / ((40 : Int32)) * ((40 : Int32))).toInt → sy_i F1 74 = ((sy_i F 74) + ((1 : Int32))) - ((sy_i F 74) + ((1 : Int32))) / ((40 : Int32)) * ((40 : Int32)) → (sy_i F1 75).toInt = ((sy_i F 75).toInt - 1) → sy_i F1 75 = (sy_i F 75) - ((1 : Int32)) → (sy_i F1 82).toInt = ((((((sy_i F 74) + ((1 : Int32))) - ((sy_i F 74) + ((1 : Int32))) / ((40 : Int32)) * ((40 : Int32))) + ((sy_i F 75) - ((1 : Int32)))) - ((((sy_i F 74) + ((1 : Int32))) - ((sy_i F 74) + ((1 : Int32))) / ((40 : Int32)) * ((40 : Int32))) + ((sy_i F 75) - ((1 : Int32)))) / ((40 : Int32)) * ((40 : Int32))) * ((60 : Int32))).toInt → sy_i F1 82 = (((((sy_i F 74) + ((1 : Int32))) - ((sy_i F 74) + ((1 : Int32))) / ((40 : Int32)) * ((40 : Int32))) + ((sy_i F 75) - ((1 : Int32)))) - ((((sy_i F 74) + ((1 : Int32))) - ((sy_i F 74) + ((1 : Int32))) / ((40 : Int32)) * ((40 : Int32))) + ((sy_i F 75) - ((1 : Int32)))) / ((40 : Int32)) * ((40 : Int32))) * ((60 : Int32)) → hd_W Ls xs d jm_M78 Q (52, sy_dL F1 [some (.inl (.ref 66)), none], sy_dS F1 [.inr (.inl 82), .inl (.ref 67), .inl (.ref 46)], sy_dh F1 X1 X2 (iv_H 1), 0, 0)) :
    hd_W Ls xs d jm_M78 Q (0, sy_dL F [some (.inl (.ref 66)), some (.inl (.ref 46))], sy_dS F [], sy_dh F X1 X2 (iv_H 1), 0, 0) := by
  by_cases g0 : (sy_i F 75).toInt ≠ 40
  · have c75 := nz_bx hB (k := 75) (lo := 0) (hi := 40) rfl
    have n84 : nzI ((((sy_i F 74) + (sy_i F 75)) - ((sy_i F 74) + (sy_i F 75)) / ((40 : Int32)) * ((40 : Int32))) * ((60 : Int32))) (((((sy_i F 74) + (sy_i F 75)) - ((sy_i F 74) + (sy_i F 75)) / ((40 : Int32)) * ((40 : Int32))) * ((60 : Int32))).toInt) := congrArg Int32.toInt (rfl : (((sy_i F 74) + (sy_i F 75)) - ((sy_i F 74) + (sy_i F 75)) / ((40 : Int32)) * ((40 : Int32))) * ((60 : Int32)) = (((sy_i F 74) + (sy_i F 75)) - ((sy_i F 74) + (sy_i F 75)) / ((40 : Int32)) * ((40 : Int32))) * ((60 : Int32)))
    exact j1re_0_p0 hd F X1 X2 hB (by first | exact g0 | (simp only [nz_c]; exact g0)) (fun F1 g e82 => k0 g0 F1 (nz_in0 hB [] (fun j hj hn => g j hj (by simp only [List.mem_cons, List.not_mem_nil, or_false, not_or] at hn; exact trivial)) (List.forall_mem_nil _)) (fun j hj hn => g j hj (by simp only [List.mem_cons, List.not_mem_nil, or_false, not_or] at hn; exact trivial)) ((congrArg Int32.toInt (zz_i e82)).trans (nzE n84)) ((zz_i e82).trans (rfl : (((sy_i F 74) + (sy_i F 75)) - ((sy_i F 74) + (sy_i F 75)) / ((40 : Int32)) * ((40 : Int32))) * ((60 : Int32)) = (((sy_i F 74) + (sy_i F 75)) - ((sy_i F 74) + (sy_i F 75)) / ((40 : Int32)) * ((40 : Int32))) * ((60 : Int32)))))
  replace g0 : (sy_i F 75).toInt = 40 := by omega
  have c75 := nz_bx hB (k := 75) (lo := 0) (hi := 40) rfl
  have n83 : nzI (((sy_i F 74) + ((1 : Int32))) - ((sy_i F 74) + ((1 : Int32))) / ((40 : Int32)) * ((40 : Int32))) ((((sy_i F 74) + ((1 : Int32))) - ((sy_i F 74) + ((1 : Int32))) / ((40 : Int32)) * ((40 : Int32))).toInt) := congrArg Int32.toInt (rfl : ((sy_i F 74) + ((1 : Int32))) - ((sy_i F 74) + ((1 : Int32))) / ((40 : Int32)) * ((40 : Int32)) = ((sy_i F 74) + ((1 : Int32))) - ((sy_i F 74) + ((1 : Int32))) / ((40 : Int32)) * ((40 : Int32)))
  have c74 := nz_bx hB (k := 74) (lo := 0) (hi := 39) rfl
  have n82 : nzI ((sy_i F 74) + ((1 : Int32))) (((sy_i F 74).toInt + 1)) := nz_add (rfl : (sy_i F 74).toInt = (sy_i F 74).toInt) (by decide : ((1 : Int32)).toInt = 1) (by omega) (by omega)
  have r83 := rmB (nzE n82) (by decide : ((40 : Int32)).toInt = 40) (by omega) (by decide)
  have n84 : nzI ((sy_i F 75) - ((1 : Int32))) (((sy_i F 75).toInt - 1)) := nz_sub (rfl : (sy_i F 75).toInt = (sy_i F 75).toInt) (by decide : ((1 : Int32)).toInt = 1) (by omega) (by omega)
  have n87 : nzI ((((((sy_i F 74) + ((1 : Int32))) - ((sy_i F 74) + ((1 : Int32))) / ((40 : Int32)) * ((40 : Int32))) + ((sy_i F 75) - ((1 : Int32)))) - ((((sy_i F 74) + ((1 : Int32))) - ((sy_i F 74) + ((1 : Int32))) / ((40 : Int32)) * ((40 : Int32))) + ((sy_i F 75) - ((1 : Int32)))) / ((40 : Int32)) * ((40 : Int32))) * ((60 : Int32))) (((((((sy_i F 74) + ((1 : Int32))) - ((sy_i F 74) + ((1 : Int32))) / ((40 : Int32)) * ((40 : Int32))) + ((sy_i F 75) - ((1 : Int32)))) - ((((sy_i F 74) + ((1 : Int32))) - ((sy_i F 74) + ((1 : Int32))) / ((40 : Int32)) * ((40 : Int32))) + ((sy_i F 75) - ((1 : Int32)))) / ((40 : Int32)) * ((40 : Int32))) * ((60 : Int32))).toInt) := congrArg Int32.toInt (rfl : (((((sy_i F 74) + ((1 : Int32))) - ((sy_i F 74) + ((1 : Int32))) / ((40 : Int32)) * ((40 : Int32))) + ((sy_i F 75) - ((1 : Int32)))) - ((((sy_i F 74) + ((1 : Int32))) - ((sy_i F 74) + ((1 : Int32))) / ((40 : Int32)) * ((40 : Int32))) + ((sy_i F 75) - ((1 : Int32)))) / ((40 : Int32)) * ((40 : Int32))) * ((60 : Int32)) = (((((sy_i F 74) + ((1 : Int32))) - ((sy_i F 74) + ((1 : Int32))) / ((40 : Int32)) * ((40 : Int32))) + ((sy_i F 75) - ((1 : Int32)))) - ((((sy_i F 74) + ((1 : Int32))) - ((sy_i F 74) + ((1 : Int32))) / ((40 : Int32)) * ((40 : Int32))) + ((sy_i F 75) - ((1 : Int32)))) / ((40 : Int32)) * ((40 : Int32))) * ((60 : Int32)))
  exact j1re_0_p1 hd F X1 X2 hB (by first | exact g0 | (simp only [nz_c]; exact g0)) (fun F1 g e74 e75 e82 => k1 g0 F1 (nz_in0 hB [74, 75] (fun j hj hn => g j hj (by simp only [List.mem_cons, List.not_mem_nil, or_false, not_or] at hn; omega)) (List.forall_mem_cons.mpr ⟨fun t ht => (Option.some.inj ht) ▸ (nz_hi e74 (nzE n83) (by omega) (by omega)), List.forall_mem_cons.mpr ⟨fun t ht => (Option.some.inj ht) ▸ (nz_hi e75 (nzE n84) (by omega) (by omega)), List.forall_mem_nil _⟩⟩)) (fun j hj hn => g j hj (by simp only [List.mem_cons, List.not_mem_nil, or_false, not_or] at hn; omega)) ((congrArg Int32.toInt (zz_i e74)).trans (nzE n83)) ((zz_i e74).trans (rfl : ((sy_i F 74) + ((1 : Int32))) - ((sy_i F 74) + ((1 : Int32))) / ((40 : Int32)) * ((40 : Int32)) = ((sy_i F 74) + ((1 : Int32))) - ((sy_i F 74) + ((1 : Int32))) / ((40 : Int32)) * ((40 : Int32)))) ((congrArg Int32.toInt (zz_i e75)).trans (nzE n84)) ((zz_i e75).trans (rfl : (sy_i F 75) - ((1 : Int32)) = (sy_i F 75) - ((1 : Int32)))) ((congrArg Int32.toInt (zz_i e82)).trans (nzE n87)) ((zz_i e82).trans (rfl : (((((sy_i F 74) + ((1 : Int32))) - ((sy_i F 74) + ((1 : Int32))) / ((40 : Int32)) * ((40 : Int32))) + ((sy_i F 75) - ((1 : Int32)))) - ((((sy_i F 74) + ((1 : Int32))) - ((sy_i F 74) + ((1 : Int32))) / ((40 : Int32)) * ((40 : Int32))) + ((sy_i F 75) - ((1 : Int32)))) / ((40 : Int32)) * ((40 : Int32))) * ((60 : Int32)) = (((((sy_i F 74) + ((1 : Int32))) - ((sy_i F 74) + ((1 : Int32))) / ((40 : Int32)) * ((40 : Int32))) + ((sy_i F 75) - ((1 : Int32)))) - ((((sy_i F 74) + ((1 : Int32))) - ((sy_i F 74) + ((1 : Int32))) / ((40 : Int32)) * ((40 : Int32))) + ((sy_i F 75) - ((1 : Int32)))) / ((40 : Int32)) * ((40 : Int32))) * ((60 : Int32)))))
theorem j1re_55_p0 {Ls : Nat} {xs : Nat → Int32} {d : Nat} {Q : Option Value → jm_h → Prop} (hd : 1 ≤ d) (F : Nat → sy_d) (X1 X2 : List jm_c) (hB : iv_in F iv_B0)
    (k : ∀ F1 : Nat → sy_d, (∀ j, j < 82 → j ≠ 75 → F1 j = F j) → F1 75 = .inl (.int ((sy_i F 75) + ((1 : Int32)))) → Q (none) (sy_dh F1 X1 X2 (iv_H 1))) :
    hd_W Ls xs d jm_M78 Q (55, sy_dL F [some (.inl (.ref 66)), none], sy_dS F [], sy_dh F X1 X2 (iv_H 1), 0, 0) := by
  refine hd_ret (s := 1) (nv := 82) (v := none) (uh := hd_ov (iv_id 0 iv_B0) [(75, .inl (.inr (.inl 82)))]) (f := false) (sp := []) (d0 := 0) (O := []) (T := [(0, [.inr (.inl 75), .inl (.int 1)], [])]) (P := []) jm_ok78 (by decide +kernel) (by decide +kernel) hd F X1 X2 (fun F' hF hs => ?_)
  have b75 := hd_b (F := F) (F' := F') (k := 75) (hF 75 (by decide))
  have t82 : sy_dv F' (.inr (.inl 82)) = .int ((sy_i F 75) + ((1 : Int32))) := hd_o (hs 0 _ rfl) b75 rfl rfl
  have hB' : iv_in F' iv_B0 := iv_in_eq hB (fun j hj => hF j (Nat.lt_of_lt_of_le hj (by decide +kernel)))
  refine ⟨fun _ h => absurd h List.not_mem_nil, ?_⟩
  refine k _ ?_ ?_
  · exact fun j hj hn => (hd_keep hB' (Nat.lt_of_lt_of_le hj (by decide +kernel)) (by simp; omega)).trans (hF j (Nat.lt_of_lt_of_le hj (by decide)))
  · exact hd_gi (x := .inr (.inl 82)) (by decide +kernel) t82
theorem j1re_55 {Ls : Nat} {xs : Nat → Int32} {d : Nat} {Q : Option Value → jm_h → Prop} (hd : 1 ≤ d) (F : Nat → sy_d) (X1 X2 : List jm_c) (hB : iv_in F iv_B0)
    (o0 : (0 ≤ ((sy_i F 75).toInt + 1) ∧ ((sy_i F 75).toInt + 1) ≤ 40))
    (k0 : ∀ F1 : Nat → sy_d, iv_in F1 iv_B0 → (∀ j, j < 82 → j ∉ ([75] : List Nat) → F1 j = F j) → (sy_i F1 75).toInt = ((sy_i F 75).toInt + 1) → sy_i F1 75 = (sy_i F 75) + ((1 : Int32)) → Q (none) (sy_dh F1 X1 X2 (iv_H 1))) :
    hd_W Ls xs d jm_M78 Q (55, sy_dL F [some (.inl (.ref 66)), none], sy_dS F [], sy_dh F X1 X2 (iv_H 1), 0, 0) := by
  have c75 := nz_bx hB (k := 75) (lo := 0) (hi := 40) rfl
  have n82 : nzI ((sy_i F 75) + ((1 : Int32))) (((sy_i F 75).toInt + 1)) := nz_add (rfl : (sy_i F 75).toInt = (sy_i F 75).toInt) (by decide : ((1 : Int32)).toInt = 1) (by omega) (by omega)
  exact j1re_55_p0 hd F X1 X2 hB  (fun F1 g e75 => k0 F1 (nz_in0 hB [75] (fun j hj hn => g j hj (by simp only [List.mem_cons, List.not_mem_nil, or_false, not_or] at hn; omega)) (List.forall_mem_cons.mpr ⟨fun t ht => (Option.some.inj ht) ▸ (nz_hi e75 (nzE n82) (o0).1 (o0).2), List.forall_mem_nil _⟩)) (fun j hj hn => g j hj (by simp only [List.mem_cons, List.not_mem_nil, or_false, not_or] at hn; omega)) ((congrArg Int32.toInt (zz_i e75)).trans (nzE n82)) ((zz_i e75).trans (rfl : (sy_i F 75) + ((1 : Int32)) = (sy_i F 75) + ((1 : Int32)))))
theorem j1st_0_p0 {Ls : Nat} {xs : Nat → Int32} {d : Nat} {Q : Option Value → jm_h → Prop} (hd : 1 ≤ d) (F : Nat → sy_d) (X1 X2 : List jm_c) (hB : iv_in F iv_B0)
    (h0 : (sy_i F 75).toInt ≠ 0)
    (k : ∀ F1 : Nat → sy_d, (∀ j, j < 82 → j ≠ 75 → F1 j = F j) → F1 75 = .inl (.int ((sy_i F 75) - ((1 : Int32)))) → F1 82 = .inl (.int ((((sy_i F 74) + ((sy_i F 75) - ((1 : Int32)))) - ((sy_i F 74) + ((sy_i F 75) - ((1 : Int32)))) / ((40 : Int32)) * ((40 : Int32))) * ((60 : Int32)))) → hd_W Ls xs d jm_M79 Q (39, sy_dL F1 [none, none], sy_dS F1 [.inr (.inl 82), .inl (.ref 67), .inl (.ref 46)], sy_dh F1 X1 X2 (iv_H 1), 0, 0)) :
    hd_W Ls xs d jm_M79 Q (0, sy_dL F [some (.inl (.ref 66)), some (.inl (.ref 46))], sy_dS F [], sy_dh F X1 X2 (iv_H 1), 0, 0) := by
  refine hd_run (s := 1) (nv := 82) (pc := 39) (L := [none, none]) (S := [.inr (.inl 82), .inl (.ref 67), .inl (.ref 46)]) (uh := hd_ov (iv_id 0 iv_B0) [(75, .inl (.inr (.inl 82)))]) (ul := [.inl (.inr (.inl 85))]) (f := true) (sp := [39]) (d0 := 0) (O := [true]) (T := [(1, [.inr (.inl 75), .inl (.int 1)], []), (0, [.inr (.inl 74), .inr (.inl 82)], []), (10, [.inr (.inl 83), .inl (.int 40)], []), (2, [.inr (.inl 84), .inl (.int 60)], [])]) (P := [(1, .inr (.inl 75), .inl (.int 0)), (1, .inl (.int 40), .inl (.int 0))]) jm_ok79 (by decide +kernel) (by decide +kernel) hd F X1 X2 (fun F' hF hs => ?_)
  have b75 := hd_b (F := F) (F' := F') (k := 75) (hF 75 (by decide))
  have t82 : sy_dv F' (.inr (.inl 82)) = .int ((sy_i F 75) - ((1 : Int32))) := hd_o (hs 0 _ rfl) b75 rfl rfl
  have b74 := hd_b (F := F) (F' := F') (k := 74) (hF 74 (by decide))
  have t83 : sy_dv F' (.inr (.inl 83)) = .int ((sy_i F 74) + ((sy_i F 75) - ((1 : Int32)))) := hd_o (hs 1 _ rfl) b74 t82 rfl
  have t84 : sy_dv F' (.inr (.inl 84)) = .int (((sy_i F 74) + ((sy_i F 75) - ((1 : Int32)))) - ((sy_i F 74) + ((sy_i F 75) - ((1 : Int32)))) / ((40 : Int32)) * ((40 : Int32))) := hd_o (hs 2 _ rfl) t83 rfl rfl
  have t85 : sy_dv F' (.inr (.inl 85)) = .int ((((sy_i F 74) + ((sy_i F 75) - ((1 : Int32)))) - ((sy_i F 74) + ((sy_i F 75) - ((1 : Int32)))) / ((40 : Int32)) * ((40 : Int32))) * ((60 : Int32))) := hd_o (hs 3 _ rfl) t84 rfl rfl
  have hB' : iv_in F' iv_B0 := iv_in_eq hB (fun j hj => hF j (Nat.lt_of_lt_of_le hj (by decide +kernel)))
  refine ⟨List.forall_mem_cons.mpr ⟨hd_p1 b75 rfl (by have hc : ((0) : Int32).toInt = 0 := (by decide); omega), List.forall_mem_cons.mpr ⟨(hd_p1 (X := 40) (Y := 0) rfl rfl (by decide)), fun _ h => absurd h List.not_mem_nil⟩⟩, ?_⟩
  refine k _ ?_ ?_ ?_
  · exact fun j hj hn => (hd_keep hB' (Nat.lt_of_lt_of_le hj (by decide +kernel)) (by simp; omega)).trans (hF j (Nat.lt_of_lt_of_le hj (by decide)))
  · exact hd_gi (x := .inr (.inl 82)) (by decide +kernel) t82
  · exact hd_gi (x := .inr (.inl 85)) (by decide +kernel) t85
theorem j1st_0_p1 {Ls : Nat} {xs : Nat → Int32} {d : Nat} {Q : Option Value → jm_h → Prop} (hd : 1 ≤ d) (F : Nat → sy_d) (X1 X2 : List jm_c) (hB : iv_in F iv_B0)
    (h0 : (sy_i F 75).toInt = 0)
    (k : ∀ F1 : Nat → sy_d, (∀ j, j < 82 → True → F1 j = F j) → Q (some (.int ((0 : Int32)))) (sy_dh F1 X1 X2 (iv_H 1))) :
    hd_W Ls xs d jm_M79 Q (0, sy_dL F [some (.inl (.ref 66)), some (.inl (.ref 46))], sy_dS F [], sy_dh F X1 X2 (iv_H 1), 0, 0) := by
  refine hd_ret (s := 1) (nv := 82) (v := some (.inl (.int 0))) (uh := hd_ov (iv_id 0 iv_B0) []) (f := true) (sp := [39]) (d0 := 0) (O := [false]) (T := []) (P := [(0, .inr (.inl 75), .inl (.int 0))]) jm_ok79 (by decide +kernel) (by decide +kernel) hd F X1 X2 (fun F' hF hs => ?_)
  have b75 := hd_b (F := F) (F' := F') (k := 75) (hF 75 (by decide))
  have hB' : iv_in F' iv_B0 := iv_in_eq hB (fun j hj => hF j (Nat.lt_of_lt_of_le hj (by decide +kernel)))
  refine ⟨List.forall_mem_cons.mpr ⟨hd_p0 b75 rfl (by have hc : ((0) : Int32).toInt = 0 := (by decide); omega), fun _ h => absurd h List.not_mem_nil⟩, ?_⟩
  refine k _ ?_
  · exact fun j hj _ => (hd_keep hB' (Nat.lt_of_lt_of_le hj (by decide +kernel)) (by simp)).trans (hF j (Nat.lt_of_lt_of_le hj (by decide)))
theorem j1st_0 {Ls : Nat} {xs : Nat → Int32} {d : Nat} {Q : Option Value → jm_h → Prop} (hd : 1 ≤ d) (F : Nat → sy_d) (X1 X2 : List jm_c) (hB : iv_in F iv_B0)
    (k0 : (sy_i F 75).toInt ≠ 0 → ∀ F1 : Nat → sy_d, iv_in F1 iv_B0 → (∀ j, j < 82 → j ∉ ([75] : List Nat) → F1 j = F j) → (sy_i F1 75).toInt = ((sy_i F 75).toInt - 1) → sy_i F1 75 = (sy_i F 75) - ((1 : Int32)) → (sy_i F1 82).toInt = ((((sy_i F 74) + ((sy_i F 75) - ((1 : Int32)))) - ((sy_i F 74) + ((sy_i F 75) - ((1 : Int32)))) / ((40 : Int32)) * ((40 : Int32))) * ((60 : Int32))).toInt → sy_i F1 82 = (((sy_i F 74) + ((sy_i F 75) - ((1 : Int32)))) - ((sy_i F 74) + ((sy_i F 75) - ((1 : Int32)))) / ((40 : Int32)) * ((40 : Int32))) * ((60 : Int32)) → hd_W Ls xs d jm_M79 Q (39, sy_dL F1 [none, none], sy_dS F1 [.inr (.inl 82), .inl (.ref 67), .inl (.ref 46)], sy_dh F1 X1 X2 (iv_H 1), 0, 0))
    (k1 : (sy_i F 75).toInt = 0 → ∀ F1 : Nat → sy_d, iv_in F1 iv_B0 → (∀ j, j < 82 → j ∉ ([] : List Nat) → F1 j = F j) → Q (some (.int ((0 : Int32)))) (sy_dh F1 X1 X2 (iv_H 1))) :
    hd_W Ls xs d jm_M79 Q (0, sy_dL F [some (.inl (.ref 66)), some (.inl (.ref 46))], sy_dS F [], sy_dh F X1 X2 (iv_H 1), 0, 0) := by
  by_cases g0 : (sy_i F 75).toInt ≠ 0
  · have c75 := nz_bx hB (k := 75) (lo := 0) (hi := 40) rfl
    have n82 : nzI ((sy_i F 75) - ((1 : Int32))) (((sy_i F 75).toInt - 1)) := nz_sub (rfl : (sy_i F 75).toInt = (sy_i F 75).toInt) (by decide : ((1 : Int32)).toInt = 1) (by omega) (by omega)
    have n85 : nzI ((((sy_i F 74) + ((sy_i F 75) - ((1 : Int32)))) - ((sy_i F 74) + ((sy_i F 75) - ((1 : Int32)))) / ((40 : Int32)) * ((40 : Int32))) * ((60 : Int32))) (((((sy_i F 74) + ((sy_i F 75) - ((1 : Int32)))) - ((sy_i F 74) + ((sy_i F 75) - ((1 : Int32)))) / ((40 : Int32)) * ((40 : Int32))) * ((60 : Int32))).toInt) := congrArg Int32.toInt (rfl : (((sy_i F 74) + ((sy_i F 75) - ((1 : Int32)))) - ((sy_i F 74) + ((sy_i F 75) - ((1 : Int32)))) / ((40 : Int32)) * ((40 : Int32))) * ((60 : Int32)) = (((sy_i F 74) + ((sy_i F 75) - ((1 : Int32)))) - ((sy_i F 74) + ((sy_i F 75) - ((1 : Int32)))) / ((40 : Int32)) * ((40 : Int32))) * ((60 : Int32)))
    exact j1st_0_p0 hd F X1 X2 hB (by first | exact g0 | (simp only [nz_c]; exact g0)) (fun F1 g e75 e82 => k0 g0 F1 (nz_in0 hB [75] (fun j hj hn => g j hj (by simp only [List.mem_cons, List.not_mem_nil, or_false, not_or] at hn; omega)) (List.forall_mem_cons.mpr ⟨fun t ht => (Option.some.inj ht) ▸ (nz_hi e75 (nzE n82) (by omega) (by omega)), List.forall_mem_nil _⟩)) (fun j hj hn => g j hj (by simp only [List.mem_cons, List.not_mem_nil, or_false, not_or] at hn; omega)) ((congrArg Int32.toInt (zz_i e75)).trans (nzE n82)) ((zz_i e75).trans (rfl : (sy_i F 75) - ((1 : Int32)) = (sy_i F 75) - ((1 : Int32)))) ((congrArg Int32.toInt (zz_i e82)).trans (nzE n85)) ((zz_i e82).trans (rfl : (((sy_i F 74) + ((sy_i F 75) - ((1 : Int32)))) - ((sy_i F 74) + ((sy_i F 75) - ((1 : Int32)))) / ((40 : Int32)) * ((40 : Int32))) * ((60 : Int32)) = (((sy_i F 74) + ((sy_i F 75) - ((1 : Int32)))) - ((sy_i F 74) + ((sy_i F 75) - ((1 : Int32)))) / ((40 : Int32)) * ((40 : Int32))) * ((60 : Int32)))))
  replace g0 : (sy_i F 75).toInt = 0 := by omega
  have c75 := nz_bx hB (k := 75) (lo := 0) (hi := 40) rfl
  exact j1st_0_p1 hd F X1 X2 hB (by first | exact g0 | (simp only [nz_c]; exact g0)) (fun F1 g  => k1 g0 F1 (nz_in0 hB [] (fun j hj hn => g j hj (by simp only [List.mem_cons, List.not_mem_nil, or_false, not_or] at hn; exact trivial)) (List.forall_mem_nil _)) (fun j hj hn => g j hj (by simp only [List.mem_cons, List.not_mem_nil, or_false, not_or] at hn; exact trivial)) )
theorem j1st_42_p0 {Ls : Nat} {xs : Nat → Int32} {d : Nat} {Q : Option Value → jm_h → Prop} (hd : 1 ≤ d) (F : Nat → sy_d) (X1 X2 : List jm_c) (hB : iv_in F iv_B0)
    (k : ∀ F1 : Nat → sy_d, (∀ j, j < 82 → True → F1 j = F j) → Q (some (.int ((1 : Int32)))) (sy_dh F1 X1 X2 (iv_H 1))) :
    hd_W Ls xs d jm_M79 Q (42, sy_dL F [none, none], sy_dS F [], sy_dh F X1 X2 (iv_H 1), 0, 0) := by
  refine hd_ret (s := 1) (nv := 82) (v := some (.inl (.int 1))) (uh := hd_ov (iv_id 0 iv_B0) []) (f := false) (sp := []) (d0 := 0) (O := []) (T := []) (P := []) jm_ok79 (by decide +kernel) (by decide +kernel) hd F X1 X2 (fun F' hF hs => ?_)
  have hB' : iv_in F' iv_B0 := iv_in_eq hB (fun j hj => hF j (Nat.lt_of_lt_of_le hj (by decide +kernel)))
  refine ⟨fun _ h => absurd h List.not_mem_nil, ?_⟩
  refine k _ ?_
  · exact fun j hj _ => (hd_keep hB' (Nat.lt_of_lt_of_le hj (by decide +kernel)) (by simp)).trans (hF j (Nat.lt_of_lt_of_le hj (by decide)))
theorem j1st_42 {Ls : Nat} {xs : Nat → Int32} {d : Nat} {Q : Option Value → jm_h → Prop} (hd : 1 ≤ d) (F : Nat → sy_d) (X1 X2 : List jm_c) (hB : iv_in F iv_B0)
    (k0 : ∀ F1 : Nat → sy_d, iv_in F1 iv_B0 → (∀ j, j < 82 → j ∉ ([] : List Nat) → F1 j = F j) → Q (some (.int ((1 : Int32)))) (sy_dh F1 X1 X2 (iv_H 1))) :
    hd_W Ls xs d jm_M79 Q (42, sy_dL F [none, none], sy_dS F [], sy_dh F X1 X2 (iv_H 1), 0, 0) := by
  exact j1st_42_p0 hd F X1 X2 hB  (fun F1 g  => k0 F1 (nz_in0 hB [] (fun j hj hn => g j hj (by simp only [List.mem_cons, List.not_mem_nil, or_false, not_or] at hn; exact trivial)) (List.forall_mem_nil _)) (fun j hj hn => g j hj (by simp only [List.mem_cons, List.not_mem_nil, or_false, not_or] at hn; exact trivial)) )
end
section
/-! ===== the class remembers and steps back (shape 1) ===== -/
section RM1
variable {Ls : Nat} {xs : Nat → Int32} {nf nb : Nat} {g : gS} (F : Nat → sy_d) (X1 X2 : List jm_c)
theorem j1re_W (hf : nf ≤ 7) (hb : nb ≤ 4) (hg : gC 50 nf nb F g) {F1 : Nat → sy_d} {o : Nat} {U : List gS} (ho : o < 40) (hU : U.length < 40) (hq : qC [74, 75] F F1) (e74 : (sy_i F1 74).toInt = o) (e75 : (sy_i F1 75).toInt = U.length) (hk : trK nf nb (sy_ai F 76) o U) (e82 : (sy_i F1 82).toInt = (((o + U.length) % 40 * 60 : Nat) : Int)) :
    hd_W Ls xs 2 jm_M78 (pV 1 X1 X2 (fun F' => qC [74, 75, 76] F F' ∧ trC nf nb F' (g :: U))) (52, sy_dL F1 [some (.inl (.ref 66)), none], sy_dS F1 [.inr (.inl 82), .inl (.ref 67), .inl (.ref 46)], sy_dh F1 X1 X2 (iv_H 1), 0, 0) := by
  refine hd_calV (R := fun F' => qC [76] F1 F' ∧ svR (sy_ai F' 76) ((o + U.length) % 40 * 60) F1 50 ∧ ∀ j, j < (o + U.length) % 40 * 60 ∨ (o + U.length) % 40 * 60 + 60 ≤ j → (sy_ai F' 76).getD j 0 = (sy_ai F1 76).getD j 0) (nh := 82) (nv := 82) (s := 1) (s1 := 1) (d1 := 1) (M1 := jm_M9) (As := [.inl (.ref 46), .inl (.ref 67), .inr (.inl 82)]) (rest := []) jm_ok78 rfl rfl (by decide) (by decide +kernel) (j1svt_V F1 X1 X2 hq.1 e82 (by omega)) (fun F3 F' hR p1 p2 => ?_)
  obtain ⟨r1, r2, r3⟩ := hR
  have r1' : qC [76] F1 F3 := qC_dst r1 p1
  have e753 : (sy_i F3 75).toInt = U.length := by rw [qq_i r1' (by decide) (by decide)]; exact e75
  refine j1re_55 (by decide) F3 X1 X2 r1'.1 (by omega) ?_
  intro F4 hb4 g4 e754 j754
  have g1 : gC 50 nf nb F1 g := gC_eq hg (fun j h1 h2 => hq.2 j (by omega) (by simp; omega))
  have l4 : sy_ai F4 76 = sy_ai F' 76 := (nz_fa (g4 76 (by decide) (by decide))).trans (nz_fa (p1 76 (by decide)))
  have l1 : sy_ai F1 76 = sy_ai F 76 := qq_a hq (by decide) (by decide)
  refine ⟨F4, rfl, rfl, qq_on (qq_trans (qq_up hq (by decide)) (qq_up r1' (by decide))) hb4 g4 (by decide), o, ho, by simp only [List.length_cons]; omega, ?_, by simp only [List.length_cons]; omega, ?_, ?_⟩
  · rw [nz_fi (g4 74 (by decide) (by decide)), qq_i r1' (by decide) (by decide)]
    exact e74
  · rw [l4]
    exact svC_of hf hb r2 g1
  · rw [l4]
    refine trK_eq hf hb U (fun k hk' j h1 h2 => ?_) hk
    rw [← l1]
    exact r3 j (by omega)
theorem j1re_V (hB : iv_in F iv_B0) (hf : nf ≤ 7) (hb : nb ≤ 4) (hg : gC 50 nf nb F g) {U : List gS} (hT : trC nf nb F U) : jm_T Ls xs 2 jm_M78 [.ref 66, .ref 46] (sy_dh F X1 X2 (iv_H 1)) 0 0 (pV 1 X1 X2 (fun F' => qC [74, 75, 76] F F' ∧ trC nf nb F' (rmS g U))) := by
  obtain ⟨o, h1, h2, h3, h4, h5⟩ := hT
  refine hd_T (As := [.inl (.ref 66), .inl (.ref 46)]) jm_ok78 (by decide) (j1re_0 (by decide) F X1 X2 hB ?_ ?_)
  · intro c0 F1 hb1 gg e82 j82
    have hn : U.length ≠ 40 := by omega
    unfold rmS
    rw [if_neg hn]
    refine j1re_W F X1 X2 hf hb hg h1 (by omega) (qq_mk hb1 gg (by decide)) (by rw [nz_fi (gg 74 (by decide) (by decide))]; exact h3) (by rw [nz_fi (gg 75 (by decide) (by decide))]; exact h4) h5 ?_
    rw [e82]
    exact rm60 (n := o + U.length) (nz_add h3 h4 (by omega) (by omega))
  · intro c0 F1 hb1 gg e74 j74 e75 j75 e82 j82
    have hn : U.length = 40 := by omega
    unfold rmS
    rw [if_pos hn]
    have o1 : (sy_i F 74 + 1 - (sy_i F 74 + 1) / 40 * 40).toInt = (((o + 1) % 40 : Nat) : Int) := rm40 (n := o + 1) (nz_add h3 (by decide : (1 : Int32).toInt = 1) (by omega) (by omega))
    have s1 : (sy_i F 75 - 1).toInt = ((39 : Nat) : Int) := (nz_sub h4 (by decide : (1 : Int32).toInt = 1) (by omega) (by omega)).trans (by omega)
    have hd : U.dropLast.length = 39 := by rw [List.length_dropLast, hn]
    refine j1re_W F X1 X2 hf hb hg (o := (o + 1) % 40) (U := U.dropLast) (by omega) (by omega) (qq_mk hb1 gg (by decide)) (e74.trans o1) (by rw [hd]; omega) (trK_dr U h5) ?_
    rw [e82, hd]
    exact rm60 (n := (o + 1) % 40 + 39) (nz_add o1 s1 (by omega) (by omega))
theorem j1st_V0 (hB : iv_in F iv_B0) (hT : trC nf nb F []) : jm_T Ls xs 2 jm_M79 [.ref 66, .ref 46] (sy_dh F X1 X2 (iv_H 1)) 0 0 (pI 1 X1 X2 (fun x F' => x = 0 ∧ qC [] F F')) := by
  obtain ⟨o, h1, h2, h3, h4, h5⟩ := hT
  have h4' : (sy_i F 75).toInt = 0 := h4
  refine hd_T (As := [.inl (.ref 66), .inl (.ref 46)]) jm_ok79 (by decide) (j1st_0 (by decide) F X1 X2 hB ?_ ?_)
  · intros
    omega
  · intro c0 F1 hb1 gg
    exact ⟨_, F1, rfl, rfl, rfl, qq_mk hb1 gg (by decide)⟩
theorem j1st_V1 (hB : iv_in F iv_B0) (hf : nf ≤ 7) (hb : nb ≤ 4) {U : List gS} (hT : trC nf nb F (g :: U)) : jm_T Ls xs 2 jm_M79 [.ref 66, .ref 46] (sy_dh F X1 X2 (iv_H 1)) 0 0 (pI 1 X1 X2 (fun x F' => x = 1 ∧ qC (75 :: [50, 51, 52, 53, 54, 55, 56, 57, 58, 59, 60, 61]) F F' ∧ trC nf nb F' U ∧ gC 50 nf nb F' g)) := by
  obtain ⟨o, h1, h2, h3, h4, h5⟩ := hT
  have hl : (g :: U).length = U.length + 1 := rfl
  rw [hl] at h2 h4
  refine hd_T (As := [.inl (.ref 66), .inl (.ref 46)]) jm_ok79 (by decide) (j1st_0 (by decide) F X1 X2 hB ?_ ?_)
  · intro c0 F1 hb1 gg e75 j75 e82 j82
    have s1 : (sy_i F 75 - 1).toInt = (U.length : Int) := (nz_sub h4 (by decide : (1 : Int32).toInt = 1) (by omega) (by omega)).trans (by omega)
    have x82 : (sy_i F1 82).toInt = (((o + U.length) % 40 * 60 : Nat) : Int) := by
      rw [e82]
      exact rm60 (n := o + U.length) (nz_add h3 s1 (by omega) (by omega))
    have q1 : qC [75] F F1 := qq_mk hb1 gg (by decide)
    refine hd_calV (R := fun F' => qC [50, 51, 52, 53, 54, 55, 56, 57, 58, 59, 60, 61] F1 F' ∧ svR (sy_ai F1 76) ((o + U.length) % 40 * 60) F' 50) (nh := 82) (nv := 82) (s := 1) (s1 := 1) (d1 := 1) (M1 := jm_M10) (As := [.inl (.ref 46), .inl (.ref 67), .inr (.inl 82)]) (rest := []) jm_ok79 rfl rfl (by decide) (by decide +kernel) (j1ldt_V F1 X1 X2 hb1 x82 (by omega)) (fun F3 F' hR p1 p2 => ?_)
    obtain ⟨r1, r2⟩ := hR
    have r1' : qC [50, 51, 52, 53, 54, 55, 56, 57, 58, 59, 60, 61] F1 F3 := qC_dst r1 p1
    refine j1st_42 (by decide) F3 X1 X2 r1'.1 ?_
    intro F4 hb4 g4
    have l1 : sy_ai F1 76 = sy_ai F 76 := qq_a q1 (by decide) (by decide)
    have l4 : sy_ai F4 76 = sy_ai F 76 := (nz_fa (g4 76 (by decide) (by decide))).trans ((qq_a r1' (by decide) (by decide)).trans l1)
    refine ⟨_, F4, rfl, rfl, rfl, qq_on (qq_trans (qq_up q1 (by decide)) (qq_up r1' (by decide))) hb4 g4 (by decide), ⟨o, h1, by omega, ?_, ?_, ?_⟩, ?_⟩
    · rw [nz_fi (g4 74 (by decide) (by decide)), qq_i r1' (by decide) (by decide), nz_fi (gg 74 (by decide) (by decide))]
      exact h3
    · rw [nz_fi (g4 75 (by decide) (by decide)), qq_i r1' (by decide) (by decide)]
      omega
    · rw [l4]
      exact h5.2
    · rw [l1] at r2
      exact gC_eq (gC_of hf hb r2 h5.1) (fun j h1 h2 => (g4 j (by omega) (by simp)).trans (p1 j (by omega)))
  · intros
    omega
end RM1
end
section
/-! ===== the calls that change the ground, way by way (shape 1) ===== -/
theorem j1un_0_p0 {Ls : Nat} {xs : Nat → Int32} {d : Nat} {Q : Option Value → jm_h → Prop} (hd : 1 ≤ d) (F : Nat → sy_d) (X1 X2 : List jm_c) (hB : iv_in F iv_B0)
    (k : ∀ F1 : Nat → sy_d, (∀ j, j < 82 → True → F1 j = F j) → hd_W Ls xs d jm_M92 Q (8, sy_dL F1 [none], sy_dS F1 [.inl (.ref 46), .inl (.ref 66)], sy_dh F1 X1 X2 (iv_H 1), 0, 0)) :
    hd_W Ls xs d jm_M92 Q (0, sy_dL F [some (.inl (.ref 8))], sy_dS F [], sy_dh F X1 X2 (iv_H 1), 0, 0) := by
  refine hd_run (s := 1) (nv := 82) (pc := 8) (L := [none]) (S := [.inl (.ref 46), .inl (.ref 66)]) (uh := hd_ov (iv_id 0 iv_B0) []) (ul := []) (f := true) (sp := [8]) (d0 := 0) (O := []) (T := []) (P := []) jm_ok92 (by decide +kernel) (by decide +kernel) hd F X1 X2 (fun F' hF hs => ?_)
  have hB' : iv_in F' iv_B0 := iv_in_eq hB (fun j hj => hF j (Nat.lt_of_lt_of_le hj (by decide +kernel)))
  refine ⟨fun _ h => absurd h List.not_mem_nil, ?_⟩
  refine k _ ?_
  · exact fun j hj _ => (hd_keep hB' (Nat.lt_of_lt_of_le hj (by decide +kernel)) (by simp)).trans (hF j (Nat.lt_of_lt_of_le hj (by decide)))
theorem j1un_0 {Ls : Nat} {xs : Nat → Int32} {d : Nat} {Q : Option Value → jm_h → Prop} (hd : 1 ≤ d) (F : Nat → sy_d) (X1 X2 : List jm_c) (hB : iv_in F iv_B0)
    (k0 : ∀ F1 : Nat → sy_d, iv_in F1 iv_B0 → (∀ j, j < 82 → j ∉ ([] : List Nat) → F1 j = F j) → hd_W Ls xs d jm_M92 Q (8, sy_dL F1 [none], sy_dS F1 [.inl (.ref 46), .inl (.ref 66)], sy_dh F1 X1 X2 (iv_H 1), 0, 0)) :
    hd_W Ls xs d jm_M92 Q (0, sy_dL F [some (.inl (.ref 8))], sy_dS F [], sy_dh F X1 X2 (iv_H 1), 0, 0) := by
  exact j1un_0_p0 hd F X1 X2 hB  (fun F1 g  => k0 F1 (nz_in0 hB [] (fun j hj hn => g j hj (by simp only [List.mem_cons, List.not_mem_nil, or_false, not_or] at hn; exact trivial)) (List.forall_mem_nil _)) (fun j hj hn => g j hj (by simp only [List.mem_cons, List.not_mem_nil, or_false, not_or] at hn; exact trivial)) )
theorem j1un_11_p0 {Ls : Nat} {xs : Nat → Int32} {d : Nat} {Q : Option Value → jm_h → Prop} (hd : 1 ≤ d) (F : Nat → sy_d) (X1 X2 : List jm_c) (hB : iv_in F iv_B0)
    (h0 : (sy_i F 82).toInt = 0 ∨ (sy_i F 82).toInt = 1)
    (k : ∀ F1 : Nat → sy_d, (∀ j, j < 82 → True → F1 j = F j) → Q (some (.int (sy_i F 82))) (sy_dh F1 X1 X2 (iv_H 1))) :
    hd_W Ls xs d jm_M92 Q (11, sy_dL F [none], sy_dS F [.inr (.inl 82)], sy_dh F X1 X2 (iv_H 1), 0, 0) := by
  refine hd_ret (s := 1) (nv := 83) (v := some (.inr (.inl 82))) (uh := hd_ov (iv_id 0 iv_B0) []) (f := false) (sp := []) (d0 := 0) (O := []) (T := []) (P := [(6, .inr (.inl 82), .inl (.int 0))]) jm_ok92 (by decide +kernel) (by decide +kernel) hd F X1 X2 (fun F' hF hs => ?_)
  have b82 := hd_b (F := F) (F' := F') (k := 82) (hF 82 (by decide))
  have hB' : iv_in F' iv_B0 := iv_in_eq hB (fun j hj => hF j (Nat.lt_of_lt_of_le hj (by decide +kernel)))
  have hk := k (sy_cm F' (hd_ov (iv_id 0 iv_B0) [] ++ [])) (fun j hj _ => (hd_keep hB' (Nat.lt_of_lt_of_le hj (by decide +kernel)) (by simp)).trans (hF j (Nat.lt_of_lt_of_le hj (by decide))))
  refine ⟨List.forall_mem_cons.mpr ⟨hd_p6 b82 h0, fun _ h => absurd h List.not_mem_nil⟩, ?_⟩
  show Q (some (sy_dv F' (.inr (.inl 82)))) _
  rw [b82]
  exact hk
theorem j1un_11 {Ls : Nat} {xs : Nat → Int32} {d : Nat} {Q : Option Value → jm_h → Prop} (hd : 1 ≤ d) (F : Nat → sy_d) (X1 X2 : List jm_c) (hB : iv_in F iv_B0)
    (o0 : ((sy_i F 82).toInt = 0 ∨ (sy_i F 82).toInt = 1))
    (k0 : ∀ F1 : Nat → sy_d, iv_in F1 iv_B0 → (∀ j, j < 82 → j ∉ ([] : List Nat) → F1 j = F j) → Q (some (.int (sy_i F 82))) (sy_dh F1 X1 X2 (iv_H 1))) :
    hd_W Ls xs d jm_M92 Q (11, sy_dL F [none], sy_dS F [.inr (.inl 82)], sy_dh F X1 X2 (iv_H 1), 0, 0) := by
  exact j1un_11_p0 hd F X1 X2 hB (by first | exact (o0) | (simp only [nz_c]; exact (o0))) (fun F1 g  => by rw [(rfl : sy_i F 82 = sy_i F 82)]; exact k0 F1 (nz_in0 hB [] (fun j hj hn => g j hj (by simp only [List.mem_cons, List.not_mem_nil, or_false, not_or] at hn; exact trivial)) (List.forall_mem_nil _)) (fun j hj hn => g j hj (by simp only [List.mem_cons, List.not_mem_nil, or_false, not_or] at hn; exact trivial)) )
theorem j1hd_0_p0 {Ls : Nat} {xs : Nat → Int32} {d : Nat} {Q : Option Value → jm_h → Prop} (hd : 2 ≤ d) (F : Nat → sy_d) (X1 X2 : List jm_c) (hB : iv_in F iv_B0)
    (h0 : (sy_i F 82).toInt < 0)
    (k : ∀ F1 : Nat → sy_d, (∀ j, j < 82 → True → F1 j = F j) → Q (some (.int ((0 : Int32)))) (sy_dh F1 X1 X2 (iv_H 1))) :
    hd_W Ls xs d jm_M113 Q (0, sy_dL F [some (.inl (.ref 8)), some (.inr (.inl 82))], sy_dS F [], sy_dh F X1 X2 (iv_H 1), 0, 0) := by
  refine hd_ret (s := 1) (nv := 83) (v := some (.inl (.int 0))) (uh := hd_ov (iv_id 0 iv_B0) []) (f := true) (sp := [23]) (d0 := 1) (O := [true]) (T := []) (P := [(2, .inr (.inl 82), .inl (.int 0))]) jm_ok113 (by decide +kernel) (by decide +kernel) hd F X1 X2 (fun F' hF hs => ?_)
  have b82 := hd_b (F := F) (F' := F') (k := 82) (hF 82 (by decide))
  have hB' : iv_in F' iv_B0 := iv_in_eq hB (fun j hj => hF j (Nat.lt_of_lt_of_le hj (by decide +kernel)))
  refine ⟨List.forall_mem_cons.mpr ⟨hd_p2 b82 rfl (by have hc : ((0) : Int32).toInt = 0 := (by decide); omega), fun _ h => absurd h List.not_mem_nil⟩, ?_⟩
  refine k _ ?_
  · exact fun j hj _ => (hd_keep hB' (Nat.lt_of_lt_of_le hj (by decide +kernel)) (by simp)).trans (hF j (Nat.lt_of_lt_of_le hj (by decide)))
theorem j1hd_0_p1 {Ls : Nat} {xs : Nat → Int32} {d : Nat} {Q : Option Value → jm_h → Prop} (hd : 2 ≤ d) (F : Nat → sy_d) (X1 X2 : List jm_c) (hB : iv_in F iv_B0)
    (h0 : 0 ≤ (sy_i F 82).toInt)
    (h1 : 2 < (sy_i F 82).toInt)
    (k : ∀ F1 : Nat → sy_d, (∀ j, j < 82 → True → F1 j = F j) → Q (some (.int ((0 : Int32)))) (sy_dh F1 X1 X2 (iv_H 1))) :
    hd_W Ls xs d jm_M113 Q (0, sy_dL F [some (.inl (.ref 8)), some (.inr (.inl 82))], sy_dS F [], sy_dh F X1 X2 (iv_H 1), 0, 0) := by
  refine hd_ret (s := 1) (nv := 83) (v := some (.inl (.int 0))) (uh := hd_ov (iv_id 0 iv_B0) []) (f := true) (sp := [23]) (d0 := 1) (O := [false, true]) (T := []) (P := [(3, .inr (.inl 82), .inl (.int 0)), (2, .inl (.int 2), .inr (.inl 82))]) jm_ok113 (by decide +kernel) (by decide +kernel) hd F X1 X2 (fun F' hF hs => ?_)
  have b82 := hd_b (F := F) (F' := F') (k := 82) (hF 82 (by decide))
  have hB' : iv_in F' iv_B0 := iv_in_eq hB (fun j hj => hF j (Nat.lt_of_lt_of_le hj (by decide +kernel)))
  refine ⟨List.forall_mem_cons.mpr ⟨hd_p3 b82 rfl (by have hc : ((0) : Int32).toInt = 0 := (by decide); omega), List.forall_mem_cons.mpr ⟨hd_p2 rfl b82 (by have hc : ((2) : Int32).toInt = 2 := (by decide); omega), fun _ h => absurd h List.not_mem_nil⟩⟩, ?_⟩
  refine k _ ?_
  · exact fun j hj _ => (hd_keep hB' (Nat.lt_of_lt_of_le hj (by decide +kernel)) (by simp)).trans (hF j (Nat.lt_of_lt_of_le hj (by decide)))
theorem j1hd_0_p2 {Ls : Nat} {xs : Nat → Int32} {d : Nat} {Q : Option Value → jm_h → Prop} (hd : 2 ≤ d) (F : Nat → sy_d) (X1 X2 : List jm_c) (hB : iv_in F iv_B0)
    (h0 : 0 ≤ (sy_i F 82).toInt)
    (h1 : (sy_i F 82).toInt ≤ 2)
    (k : ∀ F1 : Nat → sy_d, (∀ j, j < 82 → True → F1 j = F j) → F1 82 = .inl (.int (sy_i F 82)) → F1 83 = .inl (.int ((sy_i F 82) * ((60 : Int32)))) → hd_W Ls xs d jm_M113 Q (23, sy_dL F1 [some (.inl (.ref 8)), some (.inr (.inl 82))], sy_dS F1 [.inr (.inl 83), .inl (.ref 68), .inl (.ref 46)], sy_dh F1 X1 X2 (iv_H 1), 0, 0)) :
    hd_W Ls xs d jm_M113 Q (0, sy_dL F [some (.inl (.ref 8)), some (.inr (.inl 82))], sy_dS F [], sy_dh F X1 X2 (iv_H 1), 0, 0) := by
  refine hd_run (s := 1) (nv := 83) (pc := 23) (L := [some (.inl (.ref 8)), some (.inr (.inl 82))]) (S := [.inr (.inl 83), .inl (.ref 68), .inl (.ref 46)]) (uh := hd_ov (iv_id 0 iv_B0) []) (ul := [.inl (.inr (.inl 82)), .inl (.inr (.inl 83))]) (f := true) (sp := [23]) (d0 := 1) (O := [false, false]) (T := [(2, [.inr (.inl 82), .inl (.int 60)], [])]) (P := [(3, .inr (.inl 82), .inl (.int 0)), (3, .inl (.int 2), .inr (.inl 82))]) jm_ok113 (by decide +kernel) (by decide +kernel) hd F X1 X2 (fun F' hF hs => ?_)
  have b82 := hd_b (F := F) (F' := F') (k := 82) (hF 82 (by decide))
  have t83 : sy_dv F' (.inr (.inl 83)) = .int ((sy_i F 82) * ((60 : Int32))) := hd_o (hs 0 _ rfl) b82 rfl rfl
  have hB' : iv_in F' iv_B0 := iv_in_eq hB (fun j hj => hF j (Nat.lt_of_lt_of_le hj (by decide +kernel)))
  refine ⟨List.forall_mem_cons.mpr ⟨hd_p3 b82 rfl (by have hc : ((0) : Int32).toInt = 0 := (by decide); omega), List.forall_mem_cons.mpr ⟨hd_p3 rfl b82 (by have hc : ((2) : Int32).toInt = 2 := (by decide); omega), fun _ h => absurd h List.not_mem_nil⟩⟩, ?_⟩
  refine k _ ?_ ?_ ?_
  · exact fun j hj _ => (hd_keep hB' (Nat.lt_of_lt_of_le hj (by decide +kernel)) (by simp)).trans (hF j (Nat.lt_of_lt_of_le hj (by decide)))
  · exact hd_gi (x := .inr (.inl 82)) (by decide +kernel) b82
  · exact hd_gi (x := .inr (.inl 83)) (by decide +kernel) t83
theorem j1hd_0 {Ls : Nat} {xs : Nat → Int32} {d : Nat} {Q : Option Value → jm_h → Prop} (hd : 2 ≤ d) (F : Nat → sy_d) (X1 X2 : List jm_c) (hB : iv_in F iv_B0)
    (k0 : (sy_i F 82).toInt < 0 → ∀ F1 : Nat → sy_d, iv_in F1 iv_B0 → (∀ j, j < 82 → j ∉ ([] : List Nat) → F1 j = F j) → Q (some (.int ((0 : Int32)))) (sy_dh F1 X1 X2 (iv_H 1)))
    (k1 : 0 ≤ (sy_i F 82).toInt → 2 < (sy_i F 82).toInt → ∀ F1 : Nat → sy_d, iv_in F1 iv_B0 → (∀ j, j < 82 → j ∉ ([] : List Nat) → F1 j = F j) → Q (some (.int ((0 : Int32)))) (sy_dh F1 X1 X2 (iv_H 1)))
    (k2 : 0 ≤ (sy_i F 82).toInt → (sy_i F 82).toInt ≤ 2 → ∀ F1 : Nat → sy_d, iv_in F1 iv_B0 → (∀ j, j < 82 → j ∉ ([] : List Nat) → F1 j = F j) → (sy_i F1 82).toInt = (sy_i F 82).toInt → sy_i F1 82 = sy_i F 82 → (sy_i F1 83).toInt = ((sy_i F 82).toInt * 60) → sy_i F1 83 = (sy_i F 82) * ((60 : Int32)) → hd_W Ls xs d jm_M113 Q (23, sy_dL F1 [some (.inl (.ref 8)), some (.inr (.inl 82))], sy_dS F1 [.inr (.inl 83), .inl (.ref 68), .inl (.ref 46)], sy_dh F1 X1 X2 (iv_H 1), 0, 0)) :
    hd_W Ls xs d jm_M113 Q (0, sy_dL F [some (.inl (.ref 8)), some (.inr (.inl 82))], sy_dS F [], sy_dh F X1 X2 (iv_H 1), 0, 0) := by
  by_cases g0 : (sy_i F 82).toInt < 0
  · exact j1hd_0_p0 hd F X1 X2 hB (by first | exact g0 | (simp only [nz_c]; exact g0)) (fun F1 g  => k0 g0 F1 (nz_in0 hB [] (fun j hj hn => g j hj (by simp only [List.mem_cons, List.not_mem_nil, or_false, not_or] at hn; exact trivial)) (List.forall_mem_nil _)) (fun j hj hn => g j hj (by simp only [List.mem_cons, List.not_mem_nil, or_false, not_or] at hn; exact trivial)) )
  replace g0 : 0 ≤ (sy_i F 82).toInt := by omega
  by_cases g1 : 2 < (sy_i F 82).toInt
  · exact j1hd_0_p1 hd F X1 X2 hB (by first | exact g0 | (simp only [nz_c]; exact g0)) (by first | exact g1 | (simp only [nz_c]; exact g1)) (fun F1 g  => k1 g0 g1 F1 (nz_in0 hB [] (fun j hj hn => g j hj (by simp only [List.mem_cons, List.not_mem_nil, or_false, not_or] at hn; exact trivial)) (List.forall_mem_nil _)) (fun j hj hn => g j hj (by simp only [List.mem_cons, List.not_mem_nil, or_false, not_or] at hn; exact trivial)) )
  replace g1 : (sy_i F 82).toInt ≤ 2 := by omega
  have n83 : nzI ((sy_i F 82) * ((60 : Int32))) (((sy_i F 82).toInt * 60)) := nz_mul (rfl : (sy_i F 82).toInt = (sy_i F 82).toInt) (by decide : ((60 : Int32)).toInt = 60) (by omega) (by omega)
  exact j1hd_0_p2 hd F X1 X2 hB (by first | exact g0 | (simp only [nz_c]; exact g0)) (by first | exact g1 | (simp only [nz_c]; exact g1)) (fun F1 g e82 e83 => k2 g0 g1 F1 (nz_in0 hB [] (fun j hj hn => g j hj (by simp only [List.mem_cons, List.not_mem_nil, or_false, not_or] at hn; exact trivial)) (List.forall_mem_nil _)) (fun j hj hn => g j hj (by simp only [List.mem_cons, List.not_mem_nil, or_false, not_or] at hn; exact trivial)) ((congrArg Int32.toInt (zz_i e82)).trans (rfl : (sy_i F 82).toInt = (sy_i F 82).toInt)) ((zz_i e82).trans (rfl : sy_i F 82 = sy_i F 82)) ((congrArg Int32.toInt (zz_i e83)).trans (nzE n83)) ((zz_i e83).trans (rfl : (sy_i F 82) * ((60 : Int32)) = (sy_i F 82) * ((60 : Int32)))))
theorem j1hd_26_p0 {Ls : Nat} {xs : Nat → Int32} {d : Nat} {Q : Option Value → jm_h → Prop} (hd : 1 ≤ d) (F : Nat → sy_d) (X1 X2 : List jm_c) (hB : iv_in F iv_B0)
    (h0 : 0 ≤ (sy_i F 82).toInt ∧ (sy_i F 82).toInt < 3)
    (k : ∀ F1 : Nat → sy_d, (∀ j, j < 82 → j ≠ 78 → F1 j = F j) → F1 78 = .inr (.inl (jm_upd (sy_ai F 78) (sy_i F 82).toNatClampNeg ((1 : Int32)))) → Q (some (.int ((1 : Int32)))) (sy_dh F1 X1 X2 (iv_H 1))) :
    hd_W Ls xs d jm_M113 Q (26, sy_dL F [some (.inl (.ref 8)), some (.inr (.inl 82))], sy_dS F [], sy_dh F X1 X2 (iv_H 1), 0, 0) := by
  refine hd_ret (s := 1) (nv := 83) (v := some (.inl (.int 1))) (uh := hd_ov (iv_id 0 iv_B0) [(78, .inr (.inr (.inl 83)))]) (f := false) (sp := []) (d0 := 0) (O := []) (T := [(40, [.inr (.inl 82), .inl (.int 1)], [.inr (.inl 78)])]) (P := [(6, .inr (.inl 82), .inl (.ref 3))]) jm_ok113 (by decide +kernel) (by decide +kernel) hd F X1 X2 (fun F' hF hs => ?_)
  have b82 := hd_b (F := F) (F' := F') (k := 82) (hF 82 (by decide))
  have a78 := hd_ba (F := F) (F' := F') (k := 78) (hF 78 (by decide))
  have t83 : sy_da F' (.inr (.inl 83)) = .inl (jm_upd (sy_ai F 78) (sy_i F 82).toNatClampNeg ((1 : Int32))) := hd_up (hs 0 _ rfl) b82 rfl a78
  have hB' : iv_in F' iv_B0 := iv_in_eq hB (fun j hj => hF j (Nat.lt_of_lt_of_le hj (by decide +kernel)))
  refine ⟨List.forall_mem_cons.mpr ⟨hd_pb b82 (by first | exact h0 | exact h0), fun _ h => absurd h List.not_mem_nil⟩, ?_⟩
  refine k _ ?_ ?_
  · exact fun j hj hn => (hd_keep hB' (Nat.lt_of_lt_of_le hj (by decide +kernel)) (by simp; omega)).trans (hF j (Nat.lt_of_lt_of_le hj (by decide)))
  · exact hd_ga (a := .inr (.inl 83)) (by decide +kernel) t83
theorem j1hd_26 {Ls : Nat} {xs : Nat → Int32} {d : Nat} {Q : Option Value → jm_h → Prop} (hd : 1 ≤ d) (F : Nat → sy_d) (X1 X2 : List jm_c) (hB : iv_in F iv_B0)
    (a82 : 0 ≤ (sy_i F 82).toInt ∧ (sy_i F 82).toInt ≤ 2)
    (k0 : ∀ F1 : Nat → sy_d, iv_in F1 iv_B0 → (∀ j, j < 82 → j ∉ ([78] : List Nat) → F1 j = F j) → sy_ai F1 78 = jm_upd (sy_ai F 78) ((sy_i F 82).toInt).toNat ((1 : Int32)) → Q (some (.int ((1 : Int32)))) (sy_dh F1 X1 X2 (iv_H 1))) :
    hd_W Ls xs d jm_M113 Q (26, sy_dL F [some (.inl (.ref 8)), some (.inr (.inl 82))], sy_dS F [], sy_dh F X1 X2 (iv_H 1), 0, 0) := by
  have w83 : jm_upd (sy_ai F 78) (sy_i F 82).toNatClampNeg ((1 : Int32)) = jm_upd (sy_ai F 78) ((sy_i F 82).toInt).toNat ((1 : Int32)) := by simp only [nz_c, (by decide : ((1 : Int32)).toInt = 1)]
  exact j1hd_26_p0 hd F X1 X2 hB (by first | exact ⟨by omega, by omega⟩ | (simp only [nz_c]; exact ⟨by omega, by omega⟩)) (fun F1 g e78 => k0 F1 (nz_in0 hB [78] (fun j hj hn => g j hj (by simp only [List.mem_cons, List.not_mem_nil, or_false, not_or] at hn; omega)) (List.forall_mem_cons.mpr ⟨fun t ht => (Option.some.inj ht) ▸ (nz_hA e78 (nz_up (nz_ba hB (k := 78) (lo := 0) (hi := 1) rfl) (by decide : ((1 : Int32)).toInt = 1) (by omega) (by omega))), List.forall_mem_nil _⟩)) (fun j hj hn => g j hj (by simp only [List.mem_cons, List.not_mem_nil, or_false, not_or] at hn; omega)) ((zz_ai e78).trans w83))
theorem j1rs_0_p0 {Ls : Nat} {xs : Nat → Int32} {d : Nat} {Q : Option Value → jm_h → Prop} (hd : 2 ≤ d) (F : Nat → sy_d) (X1 X2 : List jm_c) (hB : iv_in F iv_B0)
    (h0 : (sy_i F 82).toInt < 0)
    (k : ∀ F1 : Nat → sy_d, (∀ j, j < 82 → True → F1 j = F j) → Q (some (.int ((0 : Int32)))) (sy_dh F1 X1 X2 (iv_H 1))) :
    hd_W Ls xs d jm_M114 Q (0, sy_dL F [some (.inl (.ref 8)), some (.inr (.inl 82))], sy_dS F [], sy_dh F X1 X2 (iv_H 1), 0, 0) := by
  refine hd_ret (s := 1) (nv := 83) (v := some (.inl (.int 0))) (uh := hd_ov (iv_id 0 iv_B0) []) (f := true) (sp := [32]) (d0 := 1) (O := [true]) (T := []) (P := [(2, .inr (.inl 82), .inl (.int 0))]) jm_ok114 (by decide +kernel) (by decide +kernel) hd F X1 X2 (fun F' hF hs => ?_)
  have b82 := hd_b (F := F) (F' := F') (k := 82) (hF 82 (by decide))
  have hB' : iv_in F' iv_B0 := iv_in_eq hB (fun j hj => hF j (Nat.lt_of_lt_of_le hj (by decide +kernel)))
  refine ⟨List.forall_mem_cons.mpr ⟨hd_p2 b82 rfl (by have hc : ((0) : Int32).toInt = 0 := (by decide); omega), fun _ h => absurd h List.not_mem_nil⟩, ?_⟩
  refine k _ ?_
  · exact fun j hj _ => (hd_keep hB' (Nat.lt_of_lt_of_le hj (by decide +kernel)) (by simp)).trans (hF j (Nat.lt_of_lt_of_le hj (by decide)))
theorem j1rs_0_p1 {Ls : Nat} {xs : Nat → Int32} {d : Nat} {Q : Option Value → jm_h → Prop} (hd : 2 ≤ d) (F : Nat → sy_d) (X1 X2 : List jm_c) (hB : iv_in F iv_B0)
    (h0 : 0 ≤ (sy_i F 82).toInt)
    (h1 : 2 < (sy_i F 82).toInt)
    (k : ∀ F1 : Nat → sy_d, (∀ j, j < 82 → True → F1 j = F j) → Q (some (.int ((0 : Int32)))) (sy_dh F1 X1 X2 (iv_H 1))) :
    hd_W Ls xs d jm_M114 Q (0, sy_dL F [some (.inl (.ref 8)), some (.inr (.inl 82))], sy_dS F [], sy_dh F X1 X2 (iv_H 1), 0, 0) := by
  refine hd_ret (s := 1) (nv := 83) (v := some (.inl (.int 0))) (uh := hd_ov (iv_id 0 iv_B0) []) (f := true) (sp := [32]) (d0 := 1) (O := [false, true]) (T := []) (P := [(3, .inr (.inl 82), .inl (.int 0)), (2, .inl (.int 2), .inr (.inl 82))]) jm_ok114 (by decide +kernel) (by decide +kernel) hd F X1 X2 (fun F' hF hs => ?_)
  have b82 := hd_b (F := F) (F' := F') (k := 82) (hF 82 (by decide))
  have hB' : iv_in F' iv_B0 := iv_in_eq hB (fun j hj => hF j (Nat.lt_of_lt_of_le hj (by decide +kernel)))
  refine ⟨List.forall_mem_cons.mpr ⟨hd_p3 b82 rfl (by have hc : ((0) : Int32).toInt = 0 := (by decide); omega), List.forall_mem_cons.mpr ⟨hd_p2 rfl b82 (by have hc : ((2) : Int32).toInt = 2 := (by decide); omega), fun _ h => absurd h List.not_mem_nil⟩⟩, ?_⟩
  refine k _ ?_
  · exact fun j hj _ => (hd_keep hB' (Nat.lt_of_lt_of_le hj (by decide +kernel)) (by simp)).trans (hF j (Nat.lt_of_lt_of_le hj (by decide)))
theorem j1rs_0_p2 {Ls : Nat} {xs : Nat → Int32} {d : Nat} {Q : Option Value → jm_h → Prop} (hd : 2 ≤ d) (F : Nat → sy_d) (X1 X2 : List jm_c) (hB : iv_in F iv_B0)
    (h0 : 0 ≤ (sy_i F 82).toInt)
    (h1 : (sy_i F 82).toInt ≤ 2)
    (h2 : 0 ≤ (sy_i F 82).toInt ∧ (sy_i F 82).toInt < 3)
    (h3 : ((sy_ai F 78).getD (sy_i F 82).toNatClampNeg 0).toInt ≠ 0)
    (k : ∀ F1 : Nat → sy_d, (∀ j, j < 82 → True → F1 j = F j) → F1 82 = .inl (.int ((sy_i F 82) * ((60 : Int32)))) → hd_W Ls xs d jm_M114 Q (32, sy_dL F1 [some (.inl (.ref 8)), none], sy_dS F1 [.inr (.inl 82), .inl (.ref 68), .inl (.ref 46)], sy_dh F1 X1 X2 (iv_H 1), 0, 0)) :
    hd_W Ls xs d jm_M114 Q (0, sy_dL F [some (.inl (.ref 8)), some (.inr (.inl 82))], sy_dS F [], sy_dh F X1 X2 (iv_H 1), 0, 0) := by
  refine hd_run (s := 1) (nv := 83) (pc := 32) (L := [some (.inl (.ref 8)), none]) (S := [.inr (.inl 82), .inl (.ref 68), .inl (.ref 46)]) (uh := hd_ov (iv_id 0 iv_B0) []) (ul := [.inl (.inr (.inl 84))]) (f := true) (sp := [32]) (d0 := 1) (O := [false, false, true]) (T := [(30, [.inr (.inl 82)], [.inr (.inl 78)]), (2, [.inr (.inl 82), .inl (.int 60)], [])]) (P := [(3, .inr (.inl 82), .inl (.int 0)), (3, .inl (.int 2), .inr (.inl 82)), (6, .inr (.inl 82), .inl (.ref 3)), (1, .inr (.inl 83), .inl (.int 0))]) jm_ok114 (by decide +kernel) (by decide +kernel) hd F X1 X2 (fun F' hF hs => ?_)
  have b82 := hd_b (F := F) (F' := F') (k := 82) (hF 82 (by decide))
  have a78 := hd_ba (F := F) (F' := F') (k := 78) (hF 78 (by decide))
  have t83 : sy_dv F' (.inr (.inl 83)) = .int ((sy_ai F 78).getD (sy_i F 82).toNatClampNeg 0) := hd_rd (hs 0 _ rfl) b82 a78
  have t84 : sy_dv F' (.inr (.inl 84)) = .int ((sy_i F 82) * ((60 : Int32))) := hd_o (hs 1 _ rfl) b82 rfl rfl
  have hB' : iv_in F' iv_B0 := iv_in_eq hB (fun j hj => hF j (Nat.lt_of_lt_of_le hj (by decide +kernel)))
  refine ⟨List.forall_mem_cons.mpr ⟨hd_p3 b82 rfl (by have hc : ((0) : Int32).toInt = 0 := (by decide); omega), List.forall_mem_cons.mpr ⟨hd_p3 rfl b82 (by have hc : ((2) : Int32).toInt = 2 := (by decide); omega), List.forall_mem_cons.mpr ⟨hd_pb b82 (by first | exact h2 | exact h2), List.forall_mem_cons.mpr ⟨hd_p1 t83 rfl (by have hc : ((0) : Int32).toInt = 0 := (by decide); omega), fun _ h => absurd h List.not_mem_nil⟩⟩⟩⟩, ?_⟩
  refine k _ ?_ ?_
  · exact fun j hj _ => (hd_keep hB' (Nat.lt_of_lt_of_le hj (by decide +kernel)) (by simp)).trans (hF j (Nat.lt_of_lt_of_le hj (by decide)))
  · exact hd_gi (x := .inr (.inl 84)) (by decide +kernel) t84
theorem j1rs_0_p3 {Ls : Nat} {xs : Nat → Int32} {d : Nat} {Q : Option Value → jm_h → Prop} (hd : 2 ≤ d) (F : Nat → sy_d) (X1 X2 : List jm_c) (hB : iv_in F iv_B0)
    (h0 : 0 ≤ (sy_i F 82).toInt)
    (h1 : (sy_i F 82).toInt ≤ 2)
    (h2 : 0 ≤ (sy_i F 82).toInt ∧ (sy_i F 82).toInt < 3)
    (h3 : ((sy_ai F 78).getD (sy_i F 82).toNatClampNeg 0).toInt = 0)
    (k : ∀ F1 : Nat → sy_d, (∀ j, j < 82 → True → F1 j = F j) → Q (some (.int ((0 : Int32)))) (sy_dh F1 X1 X2 (iv_H 1))) :
    hd_W Ls xs d jm_M114 Q (0, sy_dL F [some (.inl (.ref 8)), some (.inr (.inl 82))], sy_dS F [], sy_dh F X1 X2 (iv_H 1), 0, 0) := by
  refine hd_ret (s := 1) (nv := 83) (v := some (.inl (.int 0))) (uh := hd_ov (iv_id 0 iv_B0) []) (f := true) (sp := [32]) (d0 := 1) (O := [false, false, false]) (T := [(30, [.inr (.inl 82)], [.inr (.inl 78)])]) (P := [(3, .inr (.inl 82), .inl (.int 0)), (3, .inl (.int 2), .inr (.inl 82)), (6, .inr (.inl 82), .inl (.ref 3)), (0, .inr (.inl 83), .inl (.int 0))]) jm_ok114 (by decide +kernel) (by decide +kernel) hd F X1 X2 (fun F' hF hs => ?_)
  have b82 := hd_b (F := F) (F' := F') (k := 82) (hF 82 (by decide))
  have a78 := hd_ba (F := F) (F' := F') (k := 78) (hF 78 (by decide))
  have t83 : sy_dv F' (.inr (.inl 83)) = .int ((sy_ai F 78).getD (sy_i F 82).toNatClampNeg 0) := hd_rd (hs 0 _ rfl) b82 a78
  have hB' : iv_in F' iv_B0 := iv_in_eq hB (fun j hj => hF j (Nat.lt_of_lt_of_le hj (by decide +kernel)))
  refine ⟨List.forall_mem_cons.mpr ⟨hd_p3 b82 rfl (by have hc : ((0) : Int32).toInt = 0 := (by decide); omega), List.forall_mem_cons.mpr ⟨hd_p3 rfl b82 (by have hc : ((2) : Int32).toInt = 2 := (by decide); omega), List.forall_mem_cons.mpr ⟨hd_pb b82 (by first | exact h2 | exact h2), List.forall_mem_cons.mpr ⟨hd_p0 t83 rfl (by have hc : ((0) : Int32).toInt = 0 := (by decide); omega), fun _ h => absurd h List.not_mem_nil⟩⟩⟩⟩, ?_⟩
  refine k _ ?_
  · exact fun j hj _ => (hd_keep hB' (Nat.lt_of_lt_of_le hj (by decide +kernel)) (by simp)).trans (hF j (Nat.lt_of_lt_of_le hj (by decide)))
theorem j1rs_0 {Ls : Nat} {xs : Nat → Int32} {d : Nat} {Q : Option Value → jm_h → Prop} (hd : 2 ≤ d) (F : Nat → sy_d) (X1 X2 : List jm_c) (hB : iv_in F iv_B0)
    (k0 : (sy_i F 82).toInt < 0 → ∀ F1 : Nat → sy_d, iv_in F1 iv_B0 → (∀ j, j < 82 → j ∉ ([] : List Nat) → F1 j = F j) → Q (some (.int ((0 : Int32)))) (sy_dh F1 X1 X2 (iv_H 1)))
    (k1 : 0 ≤ (sy_i F 82).toInt → 2 < (sy_i F 82).toInt → ∀ F1 : Nat → sy_d, iv_in F1 iv_B0 → (∀ j, j < 82 → j ∉ ([] : List Nat) → F1 j = F j) → Q (some (.int ((0 : Int32)))) (sy_dh F1 X1 X2 (iv_H 1)))
    (k2 : 0 ≤ (sy_i F 82).toInt → (sy_i F 82).toInt ≤ 2 → ((sy_ai F 78).getD ((sy_i F 82).toInt).toNat 0).toInt ≠ 0 → ∀ F1 : Nat → sy_d, iv_in F1 iv_B0 → (∀ j, j < 82 → j ∉ ([] : List Nat) → F1 j = F j) → (sy_i F1 82).toInt = ((sy_i F 82).toInt * 60) → sy_i F1 82 = (sy_i F 82) * ((60 : Int32)) → hd_W Ls xs d jm_M114 Q (32, sy_dL F1 [some (.inl (.ref 8)), none], sy_dS F1 [.inr (.inl 82), .inl (.ref 68), .inl (.ref 46)], sy_dh F1 X1 X2 (iv_H 1), 0, 0))
    (k3 : 0 ≤ (sy_i F 82).toInt → (sy_i F 82).toInt ≤ 2 → ((sy_ai F 78).getD ((sy_i F 82).toInt).toNat 0).toInt = 0 → ∀ F1 : Nat → sy_d, iv_in F1 iv_B0 → (∀ j, j < 82 → j ∉ ([] : List Nat) → F1 j = F j) → Q (some (.int ((0 : Int32)))) (sy_dh F1 X1 X2 (iv_H 1))) :
    hd_W Ls xs d jm_M114 Q (0, sy_dL F [some (.inl (.ref 8)), some (.inr (.inl 82))], sy_dS F [], sy_dh F X1 X2 (iv_H 1), 0, 0) := by
  by_cases g0 : (sy_i F 82).toInt < 0
  · exact j1rs_0_p0 hd F X1 X2 hB (by first | exact g0 | (simp only [nz_c]; exact g0)) (fun F1 g  => k0 g0 F1 (nz_in0 hB [] (fun j hj hn => g j hj (by simp only [List.mem_cons, List.not_mem_nil, or_false, not_or] at hn; exact trivial)) (List.forall_mem_nil _)) (fun j hj hn => g j hj (by simp only [List.mem_cons, List.not_mem_nil, or_false, not_or] at hn; exact trivial)) )
  replace g0 : 0 ≤ (sy_i F 82).toInt := by omega
  by_cases g1 : 2 < (sy_i F 82).toInt
  · exact j1rs_0_p1 hd F X1 X2 hB (by first | exact g0 | (simp only [nz_c]; exact g0)) (by first | exact g1 | (simp only [nz_c]; exact g1)) (fun F1 g  => k1 g0 g1 F1 (nz_in0 hB [] (fun j hj hn => g j hj (by simp only [List.mem_cons, List.not_mem_nil, or_false, not_or] at hn; exact trivial)) (List.forall_mem_nil _)) (fun j hj hn => g j hj (by simp only [List.mem_cons, List.not_mem_nil, or_false, not_or] at hn; exact trivial)) )
  replace g1 : (sy_i F 82).toInt ≤ 2 := by omega
  by_cases g2 : ((sy_ai F 78).getD ((sy_i F 82).toInt).toNat 0).toInt ≠ 0
  · have q83 : (sy_ai F 78).getD (sy_i F 82).toNatClampNeg 0 = (sy_ai F 78).getD ((sy_i F 82).toInt).toNat 0 := by simp only [nz_c]
    have n83 : nzI ((sy_ai F 78).getD (sy_i F 82).toNatClampNeg 0) (((sy_ai F 78).getD ((sy_i F 82).toInt).toNat 0).toInt) := congrArg Int32.toInt q83
    have r83 := nz_ba hB (k := 78) (lo := 0) (hi := 1) rfl ((sy_i F 82).toInt).toNat
    have n84 : nzI ((sy_i F 82) * ((60 : Int32))) (((sy_i F 82).toInt * 60)) := nz_mul (rfl : (sy_i F 82).toInt = (sy_i F 82).toInt) (by decide : ((60 : Int32)).toInt = 60) (by omega) (by omega)
    exact j1rs_0_p2 hd F X1 X2 hB (by first | exact g0 | (simp only [nz_c]; exact g0)) (by first | exact g1 | (simp only [nz_c]; exact g1)) (by first | exact ⟨by omega, by omega⟩ | (simp only [nz_c]; exact ⟨by omega, by omega⟩)) (by first | exact g2 | (simp only [nz_c]; exact g2) | (rw [(nzE n83)]; exact g2)) (fun F1 g e82 => k2 g0 g1 g2 F1 (nz_in0 hB [] (fun j hj hn => g j hj (by simp only [List.mem_cons, List.not_mem_nil, or_false, not_or] at hn; exact trivial)) (List.forall_mem_nil _)) (fun j hj hn => g j hj (by simp only [List.mem_cons, List.not_mem_nil, or_false, not_or] at hn; exact trivial)) ((congrArg Int32.toInt (zz_i e82)).trans (nzE n84)) ((zz_i e82).trans (rfl : (sy_i F 82) * ((60 : Int32)) = (sy_i F 82) * ((60 : Int32)))))
  replace g2 : ((sy_ai F 78).getD ((sy_i F 82).toInt).toNat 0).toInt = 0 := by omega
  have q83 : (sy_ai F 78).getD (sy_i F 82).toNatClampNeg 0 = (sy_ai F 78).getD ((sy_i F 82).toInt).toNat 0 := by simp only [nz_c]
  have n83 : nzI ((sy_ai F 78).getD (sy_i F 82).toNatClampNeg 0) (((sy_ai F 78).getD ((sy_i F 82).toInt).toNat 0).toInt) := congrArg Int32.toInt q83
  have r83 := nz_ba hB (k := 78) (lo := 0) (hi := 1) rfl ((sy_i F 82).toInt).toNat
  exact j1rs_0_p3 hd F X1 X2 hB (by first | exact g0 | (simp only [nz_c]; exact g0)) (by first | exact g1 | (simp only [nz_c]; exact g1)) (by first | exact ⟨by omega, by omega⟩ | (simp only [nz_c]; exact ⟨by omega, by omega⟩)) (by first | exact g2 | (simp only [nz_c]; exact g2) | (rw [(nzE n83)]; exact g2)) (fun F1 g  => k3 g0 g1 g2 F1 (nz_in0 hB [] (fun j hj hn => g j hj (by simp only [List.mem_cons, List.not_mem_nil, or_false, not_or] at hn; exact trivial)) (List.forall_mem_nil _)) (fun j hj hn => g j hj (by simp only [List.mem_cons, List.not_mem_nil, or_false, not_or] at hn; exact trivial)) )
theorem j1rs_35_p0 {Ls : Nat} {xs : Nat → Int32} {d : Nat} {Q : Option Value → jm_h → Prop} (hd : 2 ≤ d) (F : Nat → sy_d) (X1 X2 : List jm_c) (hB : iv_in F iv_B0)
    (k : ∀ F1 : Nat → sy_d, (∀ j, j < 82 → j ≠ 74 ∧ j ≠ 75 → F1 j = F j) → F1 74 = .inl (.int ((0 : Int32))) → F1 75 = .inl (.int ((0 : Int32))) → Q (some (.int ((1 : Int32)))) (sy_dh F1 X1 X2 (iv_H 1))) :
    hd_W Ls xs d jm_M114 Q (35, sy_dL F [some (.inl (.ref 8)), none], sy_dS F [], sy_dh F X1 X2 (iv_H 1), 0, 0) := by
  refine hd_ret (s := 1) (nv := 82) (v := some (.inl (.int 1))) (uh := hd_ov (iv_id 0 iv_B0) [(74, .inl (.inl (.int 0))), (75, .inl (.inl (.int 0)))]) (f := false) (sp := []) (d0 := 1) (O := []) (T := []) (P := []) jm_ok114 (by decide +kernel) (by decide +kernel) hd F X1 X2 (fun F' hF hs => ?_)
  have hB' : iv_in F' iv_B0 := iv_in_eq hB (fun j hj => hF j (Nat.lt_of_lt_of_le hj (by decide +kernel)))
  refine ⟨fun _ h => absurd h List.not_mem_nil, ?_⟩
  refine k _ ?_ ?_ ?_
  · exact fun j hj hn => (hd_keep hB' (Nat.lt_of_lt_of_le hj (by decide +kernel)) (by simp; omega)).trans (hF j (Nat.lt_of_lt_of_le hj (by decide)))
  · exact hd_gi (x := .inl (.int 0)) (by decide +kernel) rfl
  · exact hd_gi (x := .inl (.int 0)) (by decide +kernel) rfl
theorem j1rs_35 {Ls : Nat} {xs : Nat → Int32} {d : Nat} {Q : Option Value → jm_h → Prop} (hd : 2 ≤ d) (F : Nat → sy_d) (X1 X2 : List jm_c) (hB : iv_in F iv_B0)
    (k0 : ∀ F1 : Nat → sy_d, iv_in F1 iv_B0 → (∀ j, j < 82 → j ∉ ([74, 75] : List Nat) → F1 j = F j) → (sy_i F1 74).toInt = 0 → sy_i F1 74 = (0 : Int32) → (sy_i F1 75).toInt = 0 → sy_i F1 75 = (0 : Int32) → Q (some (.int ((1 : Int32)))) (sy_dh F1 X1 X2 (iv_H 1))) :
    hd_W Ls xs d jm_M114 Q (35, sy_dL F [some (.inl (.ref 8)), none], sy_dS F [], sy_dh F X1 X2 (iv_H 1), 0, 0) := by
  exact j1rs_35_p0 hd F X1 X2 hB  (fun F1 g e74 e75 => k0 F1 (nz_in0 hB [74, 75] (fun j hj hn => g j hj (by simp only [List.mem_cons, List.not_mem_nil, or_false, not_or] at hn; omega)) (List.forall_mem_cons.mpr ⟨fun t ht => (Option.some.inj ht) ▸ (nz_hi e74 (by decide : ((0 : Int32)).toInt = 0) (by omega) (by omega)), List.forall_mem_cons.mpr ⟨fun t ht => (Option.some.inj ht) ▸ (nz_hi e75 (by decide : ((0 : Int32)).toInt = 0) (by omega) (by omega)), List.forall_mem_nil _⟩⟩)) (fun j hj hn => g j hj (by simp only [List.mem_cons, List.not_mem_nil, or_false, not_or] at hn; omega)) ((congrArg Int32.toInt (zz_i e74)).trans (by decide : ((0 : Int32)).toInt = 0)) ((zz_i e74).trans (rfl : (0 : Int32) = (0 : Int32))) ((congrArg Int32.toInt (zz_i e75)).trans (by decide : ((0 : Int32)).toInt = 0)) ((zz_i e75).trans (rfl : (0 : Int32) = (0 : Int32))))
theorem j1go_0_p0 {Ls : Nat} {xs : Nat → Int32} {d : Nat} {Q : Option Value → jm_h → Prop} (hd : 2 ≤ d) (F : Nat → sy_d) (X1 X2 : List jm_c) (hB : iv_in F iv_B0)
    (h0 : (sy_i F 82).toInt < 0)
    (k : ∀ F1 : Nat → sy_d, (∀ j, j < 82 → True → F1 j = F j) → Q (some (.int ((0 : Int32)))) (sy_dh F1 X1 X2 (iv_H 1))) :
    hd_W Ls xs d jm_M88 Q (0, sy_dL F [some (.inl (.ref 8)), some (.inr (.inl 82)), some (.inr (.inl 83))], sy_dS F [], sy_dh F X1 X2 (iv_H 1), 0, 0) := by
  refine hd_ret (s := 1) (nv := 84) (v := some (.inl (.int 0))) (uh := hd_ov (iv_id 0 iv_B0) []) (f := true) (sp := [41]) (d0 := 1) (O := [true]) (T := []) (P := [(2, .inr (.inl 82), .inl (.int 0))]) jm_ok88 (by decide +kernel) (by decide +kernel) hd F X1 X2 (fun F' hF hs => ?_)
  have b82 := hd_b (F := F) (F' := F') (k := 82) (hF 82 (by decide))
  have hB' : iv_in F' iv_B0 := iv_in_eq hB (fun j hj => hF j (Nat.lt_of_lt_of_le hj (by decide +kernel)))
  refine ⟨List.forall_mem_cons.mpr ⟨hd_p2 b82 rfl (by have hc : ((0) : Int32).toInt = 0 := (by decide); omega), fun _ h => absurd h List.not_mem_nil⟩, ?_⟩
  refine k _ ?_
  · exact fun j hj _ => (hd_keep hB' (Nat.lt_of_lt_of_le hj (by decide +kernel)) (by simp)).trans (hF j (Nat.lt_of_lt_of_le hj (by decide)))
theorem j1go_0_p1 {Ls : Nat} {xs : Nat → Int32} {d : Nat} {Q : Option Value → jm_h → Prop} (hd : 2 ≤ d) (F : Nat → sy_d) (X1 X2 : List jm_c) (hB : iv_in F iv_B0)
    (h0 : 0 ≤ (sy_i F 82).toInt)
    (h1 : (sy_i F 4).toInt ≤ (sy_i F 82).toInt)
    (k : ∀ F1 : Nat → sy_d, (∀ j, j < 82 → True → F1 j = F j) → Q (some (.int ((0 : Int32)))) (sy_dh F1 X1 X2 (iv_H 1))) :
    hd_W Ls xs d jm_M88 Q (0, sy_dL F [some (.inl (.ref 8)), some (.inr (.inl 82)), some (.inr (.inl 83))], sy_dS F [], sy_dh F X1 X2 (iv_H 1), 0, 0) := by
  refine hd_ret (s := 1) (nv := 84) (v := some (.inl (.int 0))) (uh := hd_ov (iv_id 0 iv_B0) []) (f := true) (sp := [41]) (d0 := 1) (O := [false, true]) (T := []) (P := [(3, .inr (.inl 82), .inl (.int 0)), (4, .inr (.inl 4), .inr (.inl 82))]) jm_ok88 (by decide +kernel) (by decide +kernel) hd F X1 X2 (fun F' hF hs => ?_)
  have b82 := hd_b (F := F) (F' := F') (k := 82) (hF 82 (by decide))
  have b4 := hd_b (F := F) (F' := F') (k := 4) (hF 4 (by decide))
  have hB' : iv_in F' iv_B0 := iv_in_eq hB (fun j hj => hF j (Nat.lt_of_lt_of_le hj (by decide +kernel)))
  refine ⟨List.forall_mem_cons.mpr ⟨hd_p3 b82 rfl (by have hc : ((0) : Int32).toInt = 0 := (by decide); omega), List.forall_mem_cons.mpr ⟨hd_p4 b4 b82 h1, fun _ h => absurd h List.not_mem_nil⟩⟩, ?_⟩
  refine k _ ?_
  · exact fun j hj _ => (hd_keep hB' (Nat.lt_of_lt_of_le hj (by decide +kernel)) (by simp)).trans (hF j (Nat.lt_of_lt_of_le hj (by decide)))
theorem j1go_0_p2 {Ls : Nat} {xs : Nat → Int32} {d : Nat} {Q : Option Value → jm_h → Prop} (hd : 2 ≤ d) (F : Nat → sy_d) (X1 X2 : List jm_c) (hB : iv_in F iv_B0)
    (h0 : 0 ≤ (sy_i F 82).toInt)
    (h1 : (sy_i F 82).toInt < (sy_i F 4).toInt)
    (h2 : (sy_i F 83).toInt < 0)
    (k : ∀ F1 : Nat → sy_d, (∀ j, j < 82 → True → F1 j = F j) → Q (some (.int ((0 : Int32)))) (sy_dh F1 X1 X2 (iv_H 1))) :
    hd_W Ls xs d jm_M88 Q (0, sy_dL F [some (.inl (.ref 8)), some (.inr (.inl 82)), some (.inr (.inl 83))], sy_dS F [], sy_dh F X1 X2 (iv_H 1), 0, 0) := by
  refine hd_ret (s := 1) (nv := 84) (v := some (.inl (.int 0))) (uh := hd_ov (iv_id 0 iv_B0) []) (f := true) (sp := [41]) (d0 := 1) (O := [false, false, true]) (T := []) (P := [(3, .inr (.inl 82), .inl (.int 0)), (5, .inr (.inl 4), .inr (.inl 82)), (2, .inr (.inl 83), .inl (.int 0))]) jm_ok88 (by decide +kernel) (by decide +kernel) hd F X1 X2 (fun F' hF hs => ?_)
  have b82 := hd_b (F := F) (F' := F') (k := 82) (hF 82 (by decide))
  have b4 := hd_b (F := F) (F' := F') (k := 4) (hF 4 (by decide))
  have b83 := hd_b (F := F) (F' := F') (k := 83) (hF 83 (by decide))
  have hB' : iv_in F' iv_B0 := iv_in_eq hB (fun j hj => hF j (Nat.lt_of_lt_of_le hj (by decide +kernel)))
  refine ⟨List.forall_mem_cons.mpr ⟨hd_p3 b82 rfl (by have hc : ((0) : Int32).toInt = 0 := (by decide); omega), List.forall_mem_cons.mpr ⟨hd_p5 b4 b82 h1, List.forall_mem_cons.mpr ⟨hd_p2 b83 rfl (by have hc : ((0) : Int32).toInt = 0 := (by decide); omega), fun _ h => absurd h List.not_mem_nil⟩⟩⟩, ?_⟩
  refine k _ ?_
  · exact fun j hj _ => (hd_keep hB' (Nat.lt_of_lt_of_le hj (by decide +kernel)) (by simp)).trans (hF j (Nat.lt_of_lt_of_le hj (by decide)))
theorem j1go_0_p3 {Ls : Nat} {xs : Nat → Int32} {d : Nat} {Q : Option Value → jm_h → Prop} (hd : 2 ≤ d) (F : Nat → sy_d) (X1 X2 : List jm_c) (hB : iv_in F iv_B0)
    (h0 : 0 ≤ (sy_i F 82).toInt)
    (h1 : (sy_i F 82).toInt < (sy_i F 4).toInt)
    (h2 : 0 ≤ (sy_i F 83).toInt)
    (h3 : 9 < (sy_i F 83).toInt)
    (k : ∀ F1 : Nat → sy_d, (∀ j, j < 82 → True → F1 j = F j) → Q (some (.int ((0 : Int32)))) (sy_dh F1 X1 X2 (iv_H 1))) :
    hd_W Ls xs d jm_M88 Q (0, sy_dL F [some (.inl (.ref 8)), some (.inr (.inl 82)), some (.inr (.inl 83))], sy_dS F [], sy_dh F X1 X2 (iv_H 1), 0, 0) := by
  refine hd_ret (s := 1) (nv := 84) (v := some (.inl (.int 0))) (uh := hd_ov (iv_id 0 iv_B0) []) (f := true) (sp := [41]) (d0 := 1) (O := [false, false, false, true]) (T := []) (P := [(3, .inr (.inl 82), .inl (.int 0)), (5, .inr (.inl 4), .inr (.inl 82)), (3, .inr (.inl 83), .inl (.int 0)), (2, .inl (.int 9), .inr (.inl 83))]) jm_ok88 (by decide +kernel) (by decide +kernel) hd F X1 X2 (fun F' hF hs => ?_)
  have b82 := hd_b (F := F) (F' := F') (k := 82) (hF 82 (by decide))
  have b4 := hd_b (F := F) (F' := F') (k := 4) (hF 4 (by decide))
  have b83 := hd_b (F := F) (F' := F') (k := 83) (hF 83 (by decide))
  have hB' : iv_in F' iv_B0 := iv_in_eq hB (fun j hj => hF j (Nat.lt_of_lt_of_le hj (by decide +kernel)))
  refine ⟨List.forall_mem_cons.mpr ⟨hd_p3 b82 rfl (by have hc : ((0) : Int32).toInt = 0 := (by decide); omega), List.forall_mem_cons.mpr ⟨hd_p5 b4 b82 h1, List.forall_mem_cons.mpr ⟨hd_p3 b83 rfl (by have hc : ((0) : Int32).toInt = 0 := (by decide); omega), List.forall_mem_cons.mpr ⟨hd_p2 rfl b83 (by have hc : ((9) : Int32).toInt = 9 := (by decide); omega), fun _ h => absurd h List.not_mem_nil⟩⟩⟩⟩, ?_⟩
  refine k _ ?_
  · exact fun j hj _ => (hd_keep hB' (Nat.lt_of_lt_of_le hj (by decide +kernel)) (by simp)).trans (hF j (Nat.lt_of_lt_of_le hj (by decide)))
theorem j1go_0_p4 {Ls : Nat} {xs : Nat → Int32} {d : Nat} {Q : Option Value → jm_h → Prop} (hd : 2 ≤ d) (F : Nat → sy_d) (X1 X2 : List jm_c) (hB : iv_in F iv_B0)
    (h0 : 0 ≤ (sy_i F 82).toInt)
    (h1 : (sy_i F 82).toInt < (sy_i F 4).toInt)
    (h2 : 0 ≤ (sy_i F 83).toInt)
    (h3 : (sy_i F 83).toInt ≤ 9)
    (h4 : 0 ≤ (sy_i F 82).toInt ∧ (sy_i F 82).toInt < 4)
    (h5 : ((sy_ai F 60).getD (sy_i F 82).toNatClampNeg 0).toInt ≠ (sy_i F 83).toInt)
    (k : ∀ F1 : Nat → sy_d, (∀ j, j < 82 → True → F1 j = F j) → F1 82 = .inl (.int (sy_i F 82)) → F1 83 = .inl (.int (sy_i F 83)) → hd_W Ls xs d jm_M88 Q (41, sy_dL F1 [some (.inl (.ref 8)), some (.inr (.inl 82)), some (.inr (.inl 83))], sy_dS F1 [.inl (.ref 46), .inl (.ref 66)], sy_dh F1 X1 X2 (iv_H 1), 0, 0)) :
    hd_W Ls xs d jm_M88 Q (0, sy_dL F [some (.inl (.ref 8)), some (.inr (.inl 82)), some (.inr (.inl 83))], sy_dS F [], sy_dh F X1 X2 (iv_H 1), 0, 0) := by
  refine hd_run (s := 1) (nv := 84) (pc := 41) (L := [some (.inl (.ref 8)), some (.inr (.inl 82)), some (.inr (.inl 83))]) (S := [.inl (.ref 46), .inl (.ref 66)]) (uh := hd_ov (iv_id 0 iv_B0) []) (ul := [.inl (.inr (.inl 82)), .inl (.inr (.inl 83))]) (f := true) (sp := [41]) (d0 := 1) (O := [false, false, false, false, true]) (T := [(30, [.inr (.inl 82)], [.inr (.inl 60)])]) (P := [(3, .inr (.inl 82), .inl (.int 0)), (5, .inr (.inl 4), .inr (.inl 82)), (3, .inr (.inl 83), .inl (.int 0)), (3, .inl (.int 9), .inr (.inl 83)), (6, .inr (.inl 82), .inl (.ref 4)), (1, .inr (.inl 84), .inr (.inl 83))]) jm_ok88 (by decide +kernel) (by decide +kernel) hd F X1 X2 (fun F' hF hs => ?_)
  have b82 := hd_b (F := F) (F' := F') (k := 82) (hF 82 (by decide))
  have b4 := hd_b (F := F) (F' := F') (k := 4) (hF 4 (by decide))
  have b83 := hd_b (F := F) (F' := F') (k := 83) (hF 83 (by decide))
  have a60 := hd_ba (F := F) (F' := F') (k := 60) (hF 60 (by decide))
  have t84 : sy_dv F' (.inr (.inl 84)) = .int ((sy_ai F 60).getD (sy_i F 82).toNatClampNeg 0) := hd_rd (hs 0 _ rfl) b82 a60
  have hB' : iv_in F' iv_B0 := iv_in_eq hB (fun j hj => hF j (Nat.lt_of_lt_of_le hj (by decide +kernel)))
  refine ⟨List.forall_mem_cons.mpr ⟨hd_p3 b82 rfl (by have hc : ((0) : Int32).toInt = 0 := (by decide); omega), List.forall_mem_cons.mpr ⟨hd_p5 b4 b82 h1, List.forall_mem_cons.mpr ⟨hd_p3 b83 rfl (by have hc : ((0) : Int32).toInt = 0 := (by decide); omega), List.forall_mem_cons.mpr ⟨hd_p3 rfl b83 (by have hc : ((9) : Int32).toInt = 9 := (by decide); omega), List.forall_mem_cons.mpr ⟨hd_pb b82 (by first | exact h4 | exact h4), List.forall_mem_cons.mpr ⟨hd_p1 t84 b83 h5, fun _ h => absurd h List.not_mem_nil⟩⟩⟩⟩⟩⟩, ?_⟩
  refine k _ ?_ ?_ ?_
  · exact fun j hj _ => (hd_keep hB' (Nat.lt_of_lt_of_le hj (by decide +kernel)) (by simp)).trans (hF j (Nat.lt_of_lt_of_le hj (by decide)))
  · exact hd_gi (x := .inr (.inl 82)) (by decide +kernel) b82
  · exact hd_gi (x := .inr (.inl 83)) (by decide +kernel) b83
theorem j1go_0_p5 {Ls : Nat} {xs : Nat → Int32} {d : Nat} {Q : Option Value → jm_h → Prop} (hd : 2 ≤ d) (F : Nat → sy_d) (X1 X2 : List jm_c) (hB : iv_in F iv_B0)
    (h0 : 0 ≤ (sy_i F 82).toInt)
    (h1 : (sy_i F 82).toInt < (sy_i F 4).toInt)
    (h2 : 0 ≤ (sy_i F 83).toInt)
    (h3 : (sy_i F 83).toInt ≤ 9)
    (h4 : 0 ≤ (sy_i F 82).toInt ∧ (sy_i F 82).toInt < 4)
    (h5 : ((sy_ai F 60).getD (sy_i F 82).toNatClampNeg 0).toInt = (sy_i F 83).toInt)
    (k : ∀ F1 : Nat → sy_d, (∀ j, j < 82 → True → F1 j = F j) → Q (some (.int ((0 : Int32)))) (sy_dh F1 X1 X2 (iv_H 1))) :
    hd_W Ls xs d jm_M88 Q (0, sy_dL F [some (.inl (.ref 8)), some (.inr (.inl 82)), some (.inr (.inl 83))], sy_dS F [], sy_dh F X1 X2 (iv_H 1), 0, 0) := by
  refine hd_ret (s := 1) (nv := 84) (v := some (.inl (.int 0))) (uh := hd_ov (iv_id 0 iv_B0) []) (f := true) (sp := [41]) (d0 := 1) (O := [false, false, false, false, false]) (T := [(30, [.inr (.inl 82)], [.inr (.inl 60)])]) (P := [(3, .inr (.inl 82), .inl (.int 0)), (5, .inr (.inl 4), .inr (.inl 82)), (3, .inr (.inl 83), .inl (.int 0)), (3, .inl (.int 9), .inr (.inl 83)), (6, .inr (.inl 82), .inl (.ref 4)), (0, .inr (.inl 84), .inr (.inl 83))]) jm_ok88 (by decide +kernel) (by decide +kernel) hd F X1 X2 (fun F' hF hs => ?_)
  have b82 := hd_b (F := F) (F' := F') (k := 82) (hF 82 (by decide))
  have b4 := hd_b (F := F) (F' := F') (k := 4) (hF 4 (by decide))
  have b83 := hd_b (F := F) (F' := F') (k := 83) (hF 83 (by decide))
  have a60 := hd_ba (F := F) (F' := F') (k := 60) (hF 60 (by decide))
  have t84 : sy_dv F' (.inr (.inl 84)) = .int ((sy_ai F 60).getD (sy_i F 82).toNatClampNeg 0) := hd_rd (hs 0 _ rfl) b82 a60
  have hB' : iv_in F' iv_B0 := iv_in_eq hB (fun j hj => hF j (Nat.lt_of_lt_of_le hj (by decide +kernel)))
  refine ⟨List.forall_mem_cons.mpr ⟨hd_p3 b82 rfl (by have hc : ((0) : Int32).toInt = 0 := (by decide); omega), List.forall_mem_cons.mpr ⟨hd_p5 b4 b82 h1, List.forall_mem_cons.mpr ⟨hd_p3 b83 rfl (by have hc : ((0) : Int32).toInt = 0 := (by decide); omega), List.forall_mem_cons.mpr ⟨hd_p3 rfl b83 (by have hc : ((9) : Int32).toInt = 9 := (by decide); omega), List.forall_mem_cons.mpr ⟨hd_pb b82 (by first | exact h4 | exact h4), List.forall_mem_cons.mpr ⟨hd_p0 t84 b83 h5, fun _ h => absurd h List.not_mem_nil⟩⟩⟩⟩⟩⟩, ?_⟩
  refine k _ ?_
  · exact fun j hj _ => (hd_keep hB' (Nat.lt_of_lt_of_le hj (by decide +kernel)) (by simp)).trans (hF j (Nat.lt_of_lt_of_le hj (by decide)))
theorem j1go_0 {Ls : Nat} {xs : Nat → Int32} {d : Nat} {Q : Option Value → jm_h → Prop} (hd : 2 ≤ d) (F : Nat → sy_d) (X1 X2 : List jm_c) (hB : iv_in F iv_B0)
    (k0 : (sy_i F 82).toInt < 0 → ∀ F1 : Nat → sy_d, iv_in F1 iv_B0 → (∀ j, j < 82 → j ∉ ([] : List Nat) → F1 j = F j) → Q (some (.int ((0 : Int32)))) (sy_dh F1 X1 X2 (iv_H 1)))
    (k1 : 0 ≤ (sy_i F 82).toInt → (sy_i F 4).toInt ≤ (sy_i F 82).toInt → ∀ F1 : Nat → sy_d, iv_in F1 iv_B0 → (∀ j, j < 82 → j ∉ ([] : List Nat) → F1 j = F j) → Q (some (.int ((0 : Int32)))) (sy_dh F1 X1 X2 (iv_H 1)))
    (k2 : 0 ≤ (sy_i F 82).toInt → (sy_i F 82).toInt < (sy_i F 4).toInt → (sy_i F 83).toInt < 0 → ∀ F1 : Nat → sy_d, iv_in F1 iv_B0 → (∀ j, j < 82 → j ∉ ([] : List Nat) → F1 j = F j) → Q (some (.int ((0 : Int32)))) (sy_dh F1 X1 X2 (iv_H 1)))
    (k3 : 0 ≤ (sy_i F 82).toInt → (sy_i F 82).toInt < (sy_i F 4).toInt → 0 ≤ (sy_i F 83).toInt → 9 < (sy_i F 83).toInt → ∀ F1 : Nat → sy_d, iv_in F1 iv_B0 → (∀ j, j < 82 → j ∉ ([] : List Nat) → F1 j = F j) → Q (some (.int ((0 : Int32)))) (sy_dh F1 X1 X2 (iv_H 1)))
    (k4 : 0 ≤ (sy_i F 82).toInt → (sy_i F 82).toInt < (sy_i F 4).toInt → 0 ≤ (sy_i F 83).toInt → (sy_i F 83).toInt ≤ 9 → ((sy_ai F 60).getD ((sy_i F 82).toInt).toNat 0).toInt ≠ (sy_i F 83).toInt → ∀ F1 : Nat → sy_d, iv_in F1 iv_B0 → (∀ j, j < 82 → j ∉ ([] : List Nat) → F1 j = F j) → (sy_i F1 82).toInt = (sy_i F 82).toInt → sy_i F1 82 = sy_i F 82 → (sy_i F1 83).toInt = (sy_i F 83).toInt → sy_i F1 83 = sy_i F 83 → hd_W Ls xs d jm_M88 Q (41, sy_dL F1 [some (.inl (.ref 8)), some (.inr (.inl 82)), some (.inr (.inl 83))], sy_dS F1 [.inl (.ref 46), .inl (.ref 66)], sy_dh F1 X1 X2 (iv_H 1), 0, 0))
    (k5 : 0 ≤ (sy_i F 82).toInt → (sy_i F 82).toInt < (sy_i F 4).toInt → 0 ≤ (sy_i F 83).toInt → (sy_i F 83).toInt ≤ 9 → ((sy_ai F 60).getD ((sy_i F 82).toInt).toNat 0).toInt = (sy_i F 83).toInt → ∀ F1 : Nat → sy_d, iv_in F1 iv_B0 → (∀ j, j < 82 → j ∉ ([] : List Nat) → F1 j = F j) → Q (some (.int ((0 : Int32)))) (sy_dh F1 X1 X2 (iv_H 1))) :
    hd_W Ls xs d jm_M88 Q (0, sy_dL F [some (.inl (.ref 8)), some (.inr (.inl 82)), some (.inr (.inl 83))], sy_dS F [], sy_dh F X1 X2 (iv_H 1), 0, 0) := by
  by_cases g0 : (sy_i F 82).toInt < 0
  · exact j1go_0_p0 hd F X1 X2 hB (by first | exact g0 | (simp only [nz_c]; exact g0)) (fun F1 g  => k0 g0 F1 (nz_in0 hB [] (fun j hj hn => g j hj (by simp only [List.mem_cons, List.not_mem_nil, or_false, not_or] at hn; exact trivial)) (List.forall_mem_nil _)) (fun j hj hn => g j hj (by simp only [List.mem_cons, List.not_mem_nil, or_false, not_or] at hn; exact trivial)) )
  replace g0 : 0 ≤ (sy_i F 82).toInt := by omega
  by_cases g1 : (sy_i F 4).toInt ≤ (sy_i F 82).toInt
  · have c4 := nz_bx hB (k := 4) (lo := 0) (hi := 4) rfl
    exact j1go_0_p1 hd F X1 X2 hB (by first | exact g0 | (simp only [nz_c]; exact g0)) (by first | exact g1 | (simp only [nz_c]; exact g1)) (fun F1 g  => k1 g0 g1 F1 (nz_in0 hB [] (fun j hj hn => g j hj (by simp only [List.mem_cons, List.not_mem_nil, or_false, not_or] at hn; exact trivial)) (List.forall_mem_nil _)) (fun j hj hn => g j hj (by simp only [List.mem_cons, List.not_mem_nil, or_false, not_or] at hn; exact trivial)) )
  replace g1 : (sy_i F 82).toInt < (sy_i F 4).toInt := by omega
  by_cases g2 : (sy_i F 83).toInt < 0
  · have c4 := nz_bx hB (k := 4) (lo := 0) (hi := 4) rfl
    exact j1go_0_p2 hd F X1 X2 hB (by first | exact g0 | (simp only [nz_c]; exact g0)) (by first | exact g1 | (simp only [nz_c]; exact g1)) (by first | exact g2 | (simp only [nz_c]; exact g2)) (fun F1 g  => k2 g0 g1 g2 F1 (nz_in0 hB [] (fun j hj hn => g j hj (by simp only [List.mem_cons, List.not_mem_nil, or_false, not_or] at hn; exact trivial)) (List.forall_mem_nil _)) (fun j hj hn => g j hj (by simp only [List.mem_cons, List.not_mem_nil, or_false, not_or] at hn; exact trivial)) )
  replace g2 : 0 ≤ (sy_i F 83).toInt := by omega
  by_cases g3 : 9 < (sy_i F 83).toInt
  · have c4 := nz_bx hB (k := 4) (lo := 0) (hi := 4) rfl
    exact j1go_0_p3 hd F X1 X2 hB (by first | exact g0 | (simp only [nz_c]; exact g0)) (by first | exact g1 | (simp only [nz_c]; exact g1)) (by first | exact g2 | (simp only [nz_c]; exact g2)) (by first | exact g3 | (simp only [nz_c]; exact g3)) (fun F1 g  => k3 g0 g1 g2 g3 F1 (nz_in0 hB [] (fun j hj hn => g j hj (by simp only [List.mem_cons, List.not_mem_nil, or_false, not_or] at hn; exact trivial)) (List.forall_mem_nil _)) (fun j hj hn => g j hj (by simp only [List.mem_cons, List.not_mem_nil, or_false, not_or] at hn; exact trivial)) )
  replace g3 : (sy_i F 83).toInt ≤ 9 := by omega
  by_cases g4 : ((sy_ai F 60).getD ((sy_i F 82).toInt).toNat 0).toInt ≠ (sy_i F 83).toInt
  · have c4 := nz_bx hB (k := 4) (lo := 0) (hi := 4) rfl
    have q84 : (sy_ai F 60).getD (sy_i F 82).toNatClampNeg 0 = (sy_ai F 60).getD ((sy_i F 82).toInt).toNat 0 := by simp only [nz_c]
    have n84 : nzI ((sy_ai F 60).getD (sy_i F 82).toNatClampNeg 0) (((sy_ai F 60).getD ((sy_i F 82).toInt).toNat 0).toInt) := congrArg Int32.toInt q84
    exact j1go_0_p4 hd F X1 X2 hB (by first | exact g0 | (simp only [nz_c]; exact g0)) (by first | exact g1 | (simp only [nz_c]; exact g1)) (by first | exact g2 | (simp only [nz_c]; exact g2)) (by first | exact g3 | (simp only [nz_c]; exact g3)) (by first | exact ⟨by omega, by omega⟩ | (simp only [nz_c]; exact ⟨by omega, by omega⟩)) (by first | exact g4 | (simp only [nz_c]; exact g4) | (rw [(nzE n84)]; exact g4)) (fun F1 g e82 e83 => k4 g0 g1 g2 g3 g4 F1 (nz_in0 hB [] (fun j hj hn => g j hj (by simp only [List.mem_cons, List.not_mem_nil, or_false, not_or] at hn; exact trivial)) (List.forall_mem_nil _)) (fun j hj hn => g j hj (by simp only [List.mem_cons, List.not_mem_nil, or_false, not_or] at hn; exact trivial)) ((congrArg Int32.toInt (zz_i e82)).trans (rfl : (sy_i F 82).toInt = (sy_i F 82).toInt)) ((zz_i e82).trans (rfl : sy_i F 82 = sy_i F 82)) ((congrArg Int32.toInt (zz_i e83)).trans (rfl : (sy_i F 83).toInt = (sy_i F 83).toInt)) ((zz_i e83).trans (rfl : sy_i F 83 = sy_i F 83)))
  replace g4 : ((sy_ai F 60).getD ((sy_i F 82).toInt).toNat 0).toInt = (sy_i F 83).toInt := by omega
  have c4 := nz_bx hB (k := 4) (lo := 0) (hi := 4) rfl
  have q84 : (sy_ai F 60).getD (sy_i F 82).toNatClampNeg 0 = (sy_ai F 60).getD ((sy_i F 82).toInt).toNat 0 := by simp only [nz_c]
  have n84 : nzI ((sy_ai F 60).getD (sy_i F 82).toNatClampNeg 0) (((sy_ai F 60).getD ((sy_i F 82).toInt).toNat 0).toInt) := congrArg Int32.toInt q84
  exact j1go_0_p5 hd F X1 X2 hB (by first | exact g0 | (simp only [nz_c]; exact g0)) (by first | exact g1 | (simp only [nz_c]; exact g1)) (by first | exact g2 | (simp only [nz_c]; exact g2)) (by first | exact g3 | (simp only [nz_c]; exact g3)) (by first | exact ⟨by omega, by omega⟩ | (simp only [nz_c]; exact ⟨by omega, by omega⟩)) (by first | exact g4 | (simp only [nz_c]; exact g4) | (rw [(nzE n84)]; exact g4)) (fun F1 g  => k5 g0 g1 g2 g3 g4 F1 (nz_in0 hB [] (fun j hj hn => g j hj (by simp only [List.mem_cons, List.not_mem_nil, or_false, not_or] at hn; exact trivial)) (List.forall_mem_nil _)) (fun j hj hn => g j hj (by simp only [List.mem_cons, List.not_mem_nil, or_false, not_or] at hn; exact trivial)) )
theorem j1go_44_p0 {Ls : Nat} {xs : Nat → Int32} {d : Nat} {Q : Option Value → jm_h → Prop} (hd : 1 ≤ d) (F : Nat → sy_d) (X1 X2 : List jm_c) (hB : iv_in F iv_B0)
    (h0 : 0 ≤ (sy_i F 82).toInt ∧ (sy_i F 82).toInt < 4)
    (k : ∀ F1 : Nat → sy_d, (∀ j, j < 82 → j ≠ 60 → F1 j = F j) → F1 60 = .inr (.inl (jm_upd (sy_ai F 60) (sy_i F 82).toNatClampNeg (sy_i F 83))) → Q (some (.int ((1 : Int32)))) (sy_dh F1 X1 X2 (iv_H 1))) :
    hd_W Ls xs d jm_M88 Q (44, sy_dL F [some (.inl (.ref 8)), some (.inr (.inl 82)), some (.inr (.inl 83))], sy_dS F [], sy_dh F X1 X2 (iv_H 1), 0, 0) := by
  refine hd_ret (s := 1) (nv := 84) (v := some (.inl (.int 1))) (uh := hd_ov (iv_id 0 iv_B0) [(60, .inr (.inr (.inl 84)))]) (f := false) (sp := []) (d0 := 0) (O := []) (T := [(40, [.inr (.inl 82), .inr (.inl 83)], [.inr (.inl 60)])]) (P := [(6, .inr (.inl 82), .inl (.ref 4))]) jm_ok88 (by decide +kernel) (by decide +kernel) hd F X1 X2 (fun F' hF hs => ?_)
  have b82 := hd_b (F := F) (F' := F') (k := 82) (hF 82 (by decide))
  have b83 := hd_b (F := F) (F' := F') (k := 83) (hF 83 (by decide))
  have a60 := hd_ba (F := F) (F' := F') (k := 60) (hF 60 (by decide))
  have t84 : sy_da F' (.inr (.inl 84)) = .inl (jm_upd (sy_ai F 60) (sy_i F 82).toNatClampNeg (sy_i F 83)) := hd_up (hs 0 _ rfl) b82 b83 a60
  have hB' : iv_in F' iv_B0 := iv_in_eq hB (fun j hj => hF j (Nat.lt_of_lt_of_le hj (by decide +kernel)))
  refine ⟨List.forall_mem_cons.mpr ⟨hd_pb b82 (by first | exact h0 | exact h0), fun _ h => absurd h List.not_mem_nil⟩, ?_⟩
  refine k _ ?_ ?_
  · exact fun j hj hn => (hd_keep hB' (Nat.lt_of_lt_of_le hj (by decide +kernel)) (by simp; omega)).trans (hF j (Nat.lt_of_lt_of_le hj (by decide)))
  · exact hd_ga (a := .inr (.inl 84)) (by decide +kernel) t84
theorem j1go_44 {Ls : Nat} {xs : Nat → Int32} {d : Nat} {Q : Option Value → jm_h → Prop} (hd : 1 ≤ d) (F : Nat → sy_d) (X1 X2 : List jm_c) (hB : iv_in F iv_B0)
    (a82 : 0 ≤ (sy_i F 82).toInt ∧ (sy_i F 82).toInt ≤ 3)
    (a83 : 0 ≤ (sy_i F 83).toInt ∧ (sy_i F 83).toInt ≤ 9)
    (k0 : ∀ F1 : Nat → sy_d, iv_in F1 iv_B0 → (∀ j, j < 82 → j ∉ ([60] : List Nat) → F1 j = F j) → sy_ai F1 60 = jm_upd (sy_ai F 60) ((sy_i F 82).toInt).toNat (sy_i F 83) → Q (some (.int ((1 : Int32)))) (sy_dh F1 X1 X2 (iv_H 1))) :
    hd_W Ls xs d jm_M88 Q (44, sy_dL F [some (.inl (.ref 8)), some (.inr (.inl 82)), some (.inr (.inl 83))], sy_dS F [], sy_dh F X1 X2 (iv_H 1), 0, 0) := by
  have w84 : jm_upd (sy_ai F 60) (sy_i F 82).toNatClampNeg (sy_i F 83) = jm_upd (sy_ai F 60) ((sy_i F 82).toInt).toNat (sy_i F 83) := by simp only [nz_c]
  exact j1go_44_p0 hd F X1 X2 hB (by first | exact ⟨by omega, by omega⟩ | (simp only [nz_c]; exact ⟨by omega, by omega⟩)) (fun F1 g e60 => k0 F1 (nz_in0 hB [60] (fun j hj hn => g j hj (by simp only [List.mem_cons, List.not_mem_nil, or_false, not_or] at hn; omega)) (List.forall_mem_cons.mpr ⟨fun t ht => (Option.some.inj ht) ▸ (nz_hz2 e60), List.forall_mem_nil _⟩)) (fun j hj hn => g j hj (by simp only [List.mem_cons, List.not_mem_nil, or_false, not_or] at hn; omega)) ((zz_ai e60).trans w84))
theorem j1pr_0_p0 {Ls : Nat} {xs : Nat → Int32} {d : Nat} {Q : Option Value → jm_h → Prop} (hd : 2 ≤ d) (F : Nat → sy_d) (X1 X2 : List jm_c) (hB : iv_in F iv_B0)
    (h0 : (sy_i F 83).toInt = 0)
    (h1 : (sy_i F 82).toInt < 0)
    (k : ∀ F1 : Nat → sy_d, (∀ j, j < 82 → True → F1 j = F j) → Q (some (.int ((0 : Int32)))) (sy_dh F1 X1 X2 (iv_H 1))) :
    hd_W Ls xs d jm_M89 Q (0, sy_dL F [some (.inl (.ref 8)), some (.inr (.inl 82)), some (.inr (.inl 83)), none], sy_dS F [], sy_dh F X1 X2 (iv_H 1), 0, 0) := by
  refine hd_ret (s := 1) (nv := 84) (v := some (.inl (.int 0))) (uh := hd_ov (iv_id 0 iv_B0) []) (f := true) (sp := [53]) (d0 := 1) (O := [true, true]) (T := []) (P := [(0, .inr (.inl 83), .inl (.int 0)), (2, .inr (.inl 82), .inl (.int 0))]) jm_ok89 (by decide +kernel) (by decide +kernel) hd F X1 X2 (fun F' hF hs => ?_)
  have b83 := hd_b (F := F) (F' := F') (k := 83) (hF 83 (by decide))
  have b82 := hd_b (F := F) (F' := F') (k := 82) (hF 82 (by decide))
  have hB' : iv_in F' iv_B0 := iv_in_eq hB (fun j hj => hF j (Nat.lt_of_lt_of_le hj (by decide +kernel)))
  refine ⟨List.forall_mem_cons.mpr ⟨hd_p0 b83 rfl (by have hc : ((0) : Int32).toInt = 0 := (by decide); omega), List.forall_mem_cons.mpr ⟨hd_p2 b82 rfl (by have hc : ((0) : Int32).toInt = 0 := (by decide); omega), fun _ h => absurd h List.not_mem_nil⟩⟩, ?_⟩
  refine k _ ?_
  · exact fun j hj _ => (hd_keep hB' (Nat.lt_of_lt_of_le hj (by decide +kernel)) (by simp)).trans (hF j (Nat.lt_of_lt_of_le hj (by decide)))
theorem j1pr_0_p1 {Ls : Nat} {xs : Nat → Int32} {d : Nat} {Q : Option Value → jm_h → Prop} (hd : 2 ≤ d) (F : Nat → sy_d) (X1 X2 : List jm_c) (hB : iv_in F iv_B0)
    (h0 : (sy_i F 83).toInt = 0)
    (h1 : 0 ≤ (sy_i F 82).toInt)
    (h2 : (sy_i F 3).toInt ≤ (sy_i F 82).toInt)
    (k : ∀ F1 : Nat → sy_d, (∀ j, j < 82 → True → F1 j = F j) → Q (some (.int ((0 : Int32)))) (sy_dh F1 X1 X2 (iv_H 1))) :
    hd_W Ls xs d jm_M89 Q (0, sy_dL F [some (.inl (.ref 8)), some (.inr (.inl 82)), some (.inr (.inl 83)), none], sy_dS F [], sy_dh F X1 X2 (iv_H 1), 0, 0) := by
  refine hd_ret (s := 1) (nv := 84) (v := some (.inl (.int 0))) (uh := hd_ov (iv_id 0 iv_B0) []) (f := true) (sp := [53]) (d0 := 1) (O := [true, false, true]) (T := []) (P := [(0, .inr (.inl 83), .inl (.int 0)), (3, .inr (.inl 82), .inl (.int 0)), (4, .inr (.inl 3), .inr (.inl 82))]) jm_ok89 (by decide +kernel) (by decide +kernel) hd F X1 X2 (fun F' hF hs => ?_)
  have b83 := hd_b (F := F) (F' := F') (k := 83) (hF 83 (by decide))
  have b82 := hd_b (F := F) (F' := F') (k := 82) (hF 82 (by decide))
  have b3 := hd_b (F := F) (F' := F') (k := 3) (hF 3 (by decide))
  have hB' : iv_in F' iv_B0 := iv_in_eq hB (fun j hj => hF j (Nat.lt_of_lt_of_le hj (by decide +kernel)))
  refine ⟨List.forall_mem_cons.mpr ⟨hd_p0 b83 rfl (by have hc : ((0) : Int32).toInt = 0 := (by decide); omega), List.forall_mem_cons.mpr ⟨hd_p3 b82 rfl (by have hc : ((0) : Int32).toInt = 0 := (by decide); omega), List.forall_mem_cons.mpr ⟨hd_p4 b3 b82 h2, fun _ h => absurd h List.not_mem_nil⟩⟩⟩, ?_⟩
  refine k _ ?_
  · exact fun j hj _ => (hd_keep hB' (Nat.lt_of_lt_of_le hj (by decide +kernel)) (by simp)).trans (hF j (Nat.lt_of_lt_of_le hj (by decide)))
theorem j1pr_0_p2 {Ls : Nat} {xs : Nat → Int32} {d : Nat} {Q : Option Value → jm_h → Prop} (hd : 2 ≤ d) (F : Nat → sy_d) (X1 X2 : List jm_c) (hB : iv_in F iv_B0)
    (h0 : (sy_i F 83).toInt = 0)
    (h1 : 0 ≤ (sy_i F 82).toInt)
    (h2 : (sy_i F 82).toInt < (sy_i F 3).toInt)
    (h3 : 0 ≤ (sy_i F 82).toInt ∧ (sy_i F 82).toInt < 7)
    (h4 : ((sy_ai F 54).getD (sy_i F 82).toNatClampNeg 0).toInt ≠ 0)
    (k : ∀ F1 : Nat → sy_d, (∀ j, j < 82 → True → F1 j = F j) → Q (some (.int ((0 : Int32)))) (sy_dh F1 X1 X2 (iv_H 1))) :
    hd_W Ls xs d jm_M89 Q (0, sy_dL F [some (.inl (.ref 8)), some (.inr (.inl 82)), some (.inr (.inl 83)), none], sy_dS F [], sy_dh F X1 X2 (iv_H 1), 0, 0) := by
  refine hd_ret (s := 1) (nv := 84) (v := some (.inl (.int 0))) (uh := hd_ov (iv_id 0 iv_B0) []) (f := true) (sp := [53]) (d0 := 1) (O := [true, false, false, true]) (T := [(30, [.inr (.inl 82)], [.inr (.inl 54)])]) (P := [(0, .inr (.inl 83), .inl (.int 0)), (3, .inr (.inl 82), .inl (.int 0)), (5, .inr (.inl 3), .inr (.inl 82)), (6, .inr (.inl 82), .inl (.ref 7)), (1, .inr (.inl 84), .inl (.int 0))]) jm_ok89 (by decide +kernel) (by decide +kernel) hd F X1 X2 (fun F' hF hs => ?_)
  have b83 := hd_b (F := F) (F' := F') (k := 83) (hF 83 (by decide))
  have b82 := hd_b (F := F) (F' := F') (k := 82) (hF 82 (by decide))
  have b3 := hd_b (F := F) (F' := F') (k := 3) (hF 3 (by decide))
  have a54 := hd_ba (F := F) (F' := F') (k := 54) (hF 54 (by decide))
  have t84 : sy_dv F' (.inr (.inl 84)) = .int ((sy_ai F 54).getD (sy_i F 82).toNatClampNeg 0) := hd_rd (hs 0 _ rfl) b82 a54
  have hB' : iv_in F' iv_B0 := iv_in_eq hB (fun j hj => hF j (Nat.lt_of_lt_of_le hj (by decide +kernel)))
  refine ⟨List.forall_mem_cons.mpr ⟨hd_p0 b83 rfl (by have hc : ((0) : Int32).toInt = 0 := (by decide); omega), List.forall_mem_cons.mpr ⟨hd_p3 b82 rfl (by have hc : ((0) : Int32).toInt = 0 := (by decide); omega), List.forall_mem_cons.mpr ⟨hd_p5 b3 b82 h2, List.forall_mem_cons.mpr ⟨hd_pb b82 (by first | exact h3 | exact h3), List.forall_mem_cons.mpr ⟨hd_p1 t84 rfl (by have hc : ((0) : Int32).toInt = 0 := (by decide); omega), fun _ h => absurd h List.not_mem_nil⟩⟩⟩⟩⟩, ?_⟩
  refine k _ ?_
  · exact fun j hj _ => (hd_keep hB' (Nat.lt_of_lt_of_le hj (by decide +kernel)) (by simp)).trans (hF j (Nat.lt_of_lt_of_le hj (by decide)))
theorem j1pr_0_p3 {Ls : Nat} {xs : Nat → Int32} {d : Nat} {Q : Option Value → jm_h → Prop} (hd : 2 ≤ d) (F : Nat → sy_d) (X1 X2 : List jm_c) (hB : iv_in F iv_B0)
    (h0 : (sy_i F 83).toInt = 0)
    (h1 : 0 ≤ (sy_i F 82).toInt)
    (h2 : (sy_i F 82).toInt < (sy_i F 3).toInt)
    (h3 : 0 ≤ (sy_i F 82).toInt ∧ (sy_i F 82).toInt < 7)
    (h4 : ((sy_ai F 54).getD (sy_i F 82).toNatClampNeg 0).toInt = 0)
    (h5 : 0 ≤ (sy_i F 82).toInt ∧ (sy_i F 82).toInt < 7)
    (h6 : ((sy_ai F 57).getD (sy_i F 82).toNatClampNeg 0).toInt ≠ 0)
    (k : ∀ F1 : Nat → sy_d, (∀ j, j < 82 → True → F1 j = F j) → F1 82 = .inl (.int (sy_i F 82)) → F1 83 = .inl (.int ((0 : Int32))) → hd_W Ls xs d jm_M89 Q (53, sy_dL F1 [some (.inl (.ref 8)), some (.inr (.inl 82)), none, some (.inr (.inl 83))], sy_dS F1 [.inl (.ref 46), .inl (.ref 66)], sy_dh F1 X1 X2 (iv_H 1), 0, 0)) :
    hd_W Ls xs d jm_M89 Q (0, sy_dL F [some (.inl (.ref 8)), some (.inr (.inl 82)), some (.inr (.inl 83)), none], sy_dS F [], sy_dh F X1 X2 (iv_H 1), 0, 0) := by
  refine hd_run (s := 1) (nv := 84) (pc := 53) (L := [some (.inl (.ref 8)), some (.inr (.inl 82)), none, some (.inr (.inl 83))]) (S := [.inl (.ref 46), .inl (.ref 66)]) (uh := hd_ov (iv_id 0 iv_B0) []) (ul := [.inl (.inr (.inl 82)), .inl (.inl (.int 0))]) (f := true) (sp := [53]) (d0 := 1) (O := [true, false, false, false, true]) (T := [(30, [.inr (.inl 82)], [.inr (.inl 54)]), (30, [.inr (.inl 82)], [.inr (.inl 57)])]) (P := [(0, .inr (.inl 83), .inl (.int 0)), (3, .inr (.inl 82), .inl (.int 0)), (5, .inr (.inl 3), .inr (.inl 82)), (6, .inr (.inl 82), .inl (.ref 7)), (0, .inr (.inl 84), .inl (.int 0)), (6, .inr (.inl 82), .inl (.ref 7)), (1, .inr (.inl 85), .inl (.int 0))]) jm_ok89 (by decide +kernel) (by decide +kernel) hd F X1 X2 (fun F' hF hs => ?_)
  have b83 := hd_b (F := F) (F' := F') (k := 83) (hF 83 (by decide))
  have b82 := hd_b (F := F) (F' := F') (k := 82) (hF 82 (by decide))
  have b3 := hd_b (F := F) (F' := F') (k := 3) (hF 3 (by decide))
  have a54 := hd_ba (F := F) (F' := F') (k := 54) (hF 54 (by decide))
  have t84 : sy_dv F' (.inr (.inl 84)) = .int ((sy_ai F 54).getD (sy_i F 82).toNatClampNeg 0) := hd_rd (hs 0 _ rfl) b82 a54
  have a57 := hd_ba (F := F) (F' := F') (k := 57) (hF 57 (by decide))
  have t85 : sy_dv F' (.inr (.inl 85)) = .int ((sy_ai F 57).getD (sy_i F 82).toNatClampNeg 0) := hd_rd (hs 1 _ rfl) b82 a57
  have hB' : iv_in F' iv_B0 := iv_in_eq hB (fun j hj => hF j (Nat.lt_of_lt_of_le hj (by decide +kernel)))
  refine ⟨List.forall_mem_cons.mpr ⟨hd_p0 b83 rfl (by have hc : ((0) : Int32).toInt = 0 := (by decide); omega), List.forall_mem_cons.mpr ⟨hd_p3 b82 rfl (by have hc : ((0) : Int32).toInt = 0 := (by decide); omega), List.forall_mem_cons.mpr ⟨hd_p5 b3 b82 h2, List.forall_mem_cons.mpr ⟨hd_pb b82 (by first | exact h3 | exact h3), List.forall_mem_cons.mpr ⟨hd_p0 t84 rfl (by have hc : ((0) : Int32).toInt = 0 := (by decide); omega), List.forall_mem_cons.mpr ⟨hd_pb b82 (by first | exact h5 | exact h5), List.forall_mem_cons.mpr ⟨hd_p1 t85 rfl (by have hc : ((0) : Int32).toInt = 0 := (by decide); omega), fun _ h => absurd h List.not_mem_nil⟩⟩⟩⟩⟩⟩⟩, ?_⟩
  refine k _ ?_ ?_ ?_
  · exact fun j hj _ => (hd_keep hB' (Nat.lt_of_lt_of_le hj (by decide +kernel)) (by simp)).trans (hF j (Nat.lt_of_lt_of_le hj (by decide)))
  · exact hd_gi (x := .inr (.inl 82)) (by decide +kernel) b82
  · exact hd_gi (x := .inl (.int 0)) (by decide +kernel) rfl
theorem j1pr_0_p4 {Ls : Nat} {xs : Nat → Int32} {d : Nat} {Q : Option Value → jm_h → Prop} (hd : 2 ≤ d) (F : Nat → sy_d) (X1 X2 : List jm_c) (hB : iv_in F iv_B0)
    (h0 : (sy_i F 83).toInt = 0)
    (h1 : 0 ≤ (sy_i F 82).toInt)
    (h2 : (sy_i F 82).toInt < (sy_i F 3).toInt)
    (h3 : 0 ≤ (sy_i F 82).toInt ∧ (sy_i F 82).toInt < 7)
    (h4 : ((sy_ai F 54).getD (sy_i F 82).toNatClampNeg 0).toInt = 0)
    (h5 : 0 ≤ (sy_i F 82).toInt ∧ (sy_i F 82).toInt < 7)
    (h6 : ((sy_ai F 57).getD (sy_i F 82).toNatClampNeg 0).toInt = 0)
    (k : ∀ F1 : Nat → sy_d, (∀ j, j < 82 → True → F1 j = F j) → Q (some (.int ((0 : Int32)))) (sy_dh F1 X1 X2 (iv_H 1))) :
    hd_W Ls xs d jm_M89 Q (0, sy_dL F [some (.inl (.ref 8)), some (.inr (.inl 82)), some (.inr (.inl 83)), none], sy_dS F [], sy_dh F X1 X2 (iv_H 1), 0, 0) := by
  refine hd_ret (s := 1) (nv := 84) (v := some (.inl (.int 0))) (uh := hd_ov (iv_id 0 iv_B0) []) (f := true) (sp := [53]) (d0 := 1) (O := [true, false, false, false, false]) (T := [(30, [.inr (.inl 82)], [.inr (.inl 54)]), (30, [.inr (.inl 82)], [.inr (.inl 57)])]) (P := [(0, .inr (.inl 83), .inl (.int 0)), (3, .inr (.inl 82), .inl (.int 0)), (5, .inr (.inl 3), .inr (.inl 82)), (6, .inr (.inl 82), .inl (.ref 7)), (0, .inr (.inl 84), .inl (.int 0)), (6, .inr (.inl 82), .inl (.ref 7)), (0, .inr (.inl 85), .inl (.int 0))]) jm_ok89 (by decide +kernel) (by decide +kernel) hd F X1 X2 (fun F' hF hs => ?_)
  have b83 := hd_b (F := F) (F' := F') (k := 83) (hF 83 (by decide))
  have b82 := hd_b (F := F) (F' := F') (k := 82) (hF 82 (by decide))
  have b3 := hd_b (F := F) (F' := F') (k := 3) (hF 3 (by decide))
  have a54 := hd_ba (F := F) (F' := F') (k := 54) (hF 54 (by decide))
  have t84 : sy_dv F' (.inr (.inl 84)) = .int ((sy_ai F 54).getD (sy_i F 82).toNatClampNeg 0) := hd_rd (hs 0 _ rfl) b82 a54
  have a57 := hd_ba (F := F) (F' := F') (k := 57) (hF 57 (by decide))
  have t85 : sy_dv F' (.inr (.inl 85)) = .int ((sy_ai F 57).getD (sy_i F 82).toNatClampNeg 0) := hd_rd (hs 1 _ rfl) b82 a57
  have hB' : iv_in F' iv_B0 := iv_in_eq hB (fun j hj => hF j (Nat.lt_of_lt_of_le hj (by decide +kernel)))
  refine ⟨List.forall_mem_cons.mpr ⟨hd_p0 b83 rfl (by have hc : ((0) : Int32).toInt = 0 := (by decide); omega), List.forall_mem_cons.mpr ⟨hd_p3 b82 rfl (by have hc : ((0) : Int32).toInt = 0 := (by decide); omega), List.forall_mem_cons.mpr ⟨hd_p5 b3 b82 h2, List.forall_mem_cons.mpr ⟨hd_pb b82 (by first | exact h3 | exact h3), List.forall_mem_cons.mpr ⟨hd_p0 t84 rfl (by have hc : ((0) : Int32).toInt = 0 := (by decide); omega), List.forall_mem_cons.mpr ⟨hd_pb b82 (by first | exact h5 | exact h5), List.forall_mem_cons.mpr ⟨hd_p0 t85 rfl (by have hc : ((0) : Int32).toInt = 0 := (by decide); omega), fun _ h => absurd h List.not_mem_nil⟩⟩⟩⟩⟩⟩⟩, ?_⟩
  refine k _ ?_
  · exact fun j hj _ => (hd_keep hB' (Nat.lt_of_lt_of_le hj (by decide +kernel)) (by simp)).trans (hF j (Nat.lt_of_lt_of_le hj (by decide)))
theorem j1pr_0_p5 {Ls : Nat} {xs : Nat → Int32} {d : Nat} {Q : Option Value → jm_h → Prop} (hd : 2 ≤ d) (F : Nat → sy_d) (X1 X2 : List jm_c) (hB : iv_in F iv_B0)
    (h0 : (sy_i F 83).toInt ≠ 0)
    (h1 : (sy_i F 82).toInt < 0)
    (k : ∀ F1 : Nat → sy_d, (∀ j, j < 82 → True → F1 j = F j) → Q (some (.int ((0 : Int32)))) (sy_dh F1 X1 X2 (iv_H 1))) :
    hd_W Ls xs d jm_M89 Q (0, sy_dL F [some (.inl (.ref 8)), some (.inr (.inl 82)), some (.inr (.inl 83)), none], sy_dS F [], sy_dh F X1 X2 (iv_H 1), 0, 0) := by
  refine hd_ret (s := 1) (nv := 84) (v := some (.inl (.int 0))) (uh := hd_ov (iv_id 0 iv_B0) []) (f := true) (sp := [53]) (d0 := 1) (O := [false, true]) (T := []) (P := [(1, .inr (.inl 83), .inl (.int 0)), (2, .inr (.inl 82), .inl (.int 0))]) jm_ok89 (by decide +kernel) (by decide +kernel) hd F X1 X2 (fun F' hF hs => ?_)
  have b83 := hd_b (F := F) (F' := F') (k := 83) (hF 83 (by decide))
  have b82 := hd_b (F := F) (F' := F') (k := 82) (hF 82 (by decide))
  have hB' : iv_in F' iv_B0 := iv_in_eq hB (fun j hj => hF j (Nat.lt_of_lt_of_le hj (by decide +kernel)))
  refine ⟨List.forall_mem_cons.mpr ⟨hd_p1 b83 rfl (by have hc : ((0) : Int32).toInt = 0 := (by decide); omega), List.forall_mem_cons.mpr ⟨hd_p2 b82 rfl (by have hc : ((0) : Int32).toInt = 0 := (by decide); omega), fun _ h => absurd h List.not_mem_nil⟩⟩, ?_⟩
  refine k _ ?_
  · exact fun j hj _ => (hd_keep hB' (Nat.lt_of_lt_of_le hj (by decide +kernel)) (by simp)).trans (hF j (Nat.lt_of_lt_of_le hj (by decide)))
theorem j1pr_0_p6 {Ls : Nat} {xs : Nat → Int32} {d : Nat} {Q : Option Value → jm_h → Prop} (hd : 2 ≤ d) (F : Nat → sy_d) (X1 X2 : List jm_c) (hB : iv_in F iv_B0)
    (h0 : (sy_i F 83).toInt ≠ 0)
    (h1 : 0 ≤ (sy_i F 82).toInt)
    (h2 : (sy_i F 3).toInt ≤ (sy_i F 82).toInt)
    (k : ∀ F1 : Nat → sy_d, (∀ j, j < 82 → True → F1 j = F j) → Q (some (.int ((0 : Int32)))) (sy_dh F1 X1 X2 (iv_H 1))) :
    hd_W Ls xs d jm_M89 Q (0, sy_dL F [some (.inl (.ref 8)), some (.inr (.inl 82)), some (.inr (.inl 83)), none], sy_dS F [], sy_dh F X1 X2 (iv_H 1), 0, 0) := by
  refine hd_ret (s := 1) (nv := 84) (v := some (.inl (.int 0))) (uh := hd_ov (iv_id 0 iv_B0) []) (f := true) (sp := [53]) (d0 := 1) (O := [false, false, true]) (T := []) (P := [(1, .inr (.inl 83), .inl (.int 0)), (3, .inr (.inl 82), .inl (.int 0)), (4, .inr (.inl 3), .inr (.inl 82))]) jm_ok89 (by decide +kernel) (by decide +kernel) hd F X1 X2 (fun F' hF hs => ?_)
  have b83 := hd_b (F := F) (F' := F') (k := 83) (hF 83 (by decide))
  have b82 := hd_b (F := F) (F' := F') (k := 82) (hF 82 (by decide))
  have b3 := hd_b (F := F) (F' := F') (k := 3) (hF 3 (by decide))
  have hB' : iv_in F' iv_B0 := iv_in_eq hB (fun j hj => hF j (Nat.lt_of_lt_of_le hj (by decide +kernel)))
  refine ⟨List.forall_mem_cons.mpr ⟨hd_p1 b83 rfl (by have hc : ((0) : Int32).toInt = 0 := (by decide); omega), List.forall_mem_cons.mpr ⟨hd_p3 b82 rfl (by have hc : ((0) : Int32).toInt = 0 := (by decide); omega), List.forall_mem_cons.mpr ⟨hd_p4 b3 b82 h2, fun _ h => absurd h List.not_mem_nil⟩⟩⟩, ?_⟩
  refine k _ ?_
  · exact fun j hj _ => (hd_keep hB' (Nat.lt_of_lt_of_le hj (by decide +kernel)) (by simp)).trans (hF j (Nat.lt_of_lt_of_le hj (by decide)))
theorem j1pr_0_p7 {Ls : Nat} {xs : Nat → Int32} {d : Nat} {Q : Option Value → jm_h → Prop} (hd : 2 ≤ d) (F : Nat → sy_d) (X1 X2 : List jm_c) (hB : iv_in F iv_B0)
    (h0 : (sy_i F 83).toInt ≠ 0)
    (h1 : 0 ≤ (sy_i F 82).toInt)
    (h2 : (sy_i F 82).toInt < (sy_i F 3).toInt)
    (h3 : 0 ≤ (sy_i F 82).toInt ∧ (sy_i F 82).toInt < 7)
    (h4 : ((sy_ai F 54).getD (sy_i F 82).toNatClampNeg 0).toInt ≠ 0)
    (k : ∀ F1 : Nat → sy_d, (∀ j, j < 82 → True → F1 j = F j) → Q (some (.int ((0 : Int32)))) (sy_dh F1 X1 X2 (iv_H 1))) :
    hd_W Ls xs d jm_M89 Q (0, sy_dL F [some (.inl (.ref 8)), some (.inr (.inl 82)), some (.inr (.inl 83)), none], sy_dS F [], sy_dh F X1 X2 (iv_H 1), 0, 0) := by
  refine hd_ret (s := 1) (nv := 84) (v := some (.inl (.int 0))) (uh := hd_ov (iv_id 0 iv_B0) []) (f := true) (sp := [53]) (d0 := 1) (O := [false, false, false, true]) (T := [(30, [.inr (.inl 82)], [.inr (.inl 54)])]) (P := [(1, .inr (.inl 83), .inl (.int 0)), (3, .inr (.inl 82), .inl (.int 0)), (5, .inr (.inl 3), .inr (.inl 82)), (6, .inr (.inl 82), .inl (.ref 7)), (1, .inr (.inl 84), .inl (.int 0))]) jm_ok89 (by decide +kernel) (by decide +kernel) hd F X1 X2 (fun F' hF hs => ?_)
  have b83 := hd_b (F := F) (F' := F') (k := 83) (hF 83 (by decide))
  have b82 := hd_b (F := F) (F' := F') (k := 82) (hF 82 (by decide))
  have b3 := hd_b (F := F) (F' := F') (k := 3) (hF 3 (by decide))
  have a54 := hd_ba (F := F) (F' := F') (k := 54) (hF 54 (by decide))
  have t84 : sy_dv F' (.inr (.inl 84)) = .int ((sy_ai F 54).getD (sy_i F 82).toNatClampNeg 0) := hd_rd (hs 0 _ rfl) b82 a54
  have hB' : iv_in F' iv_B0 := iv_in_eq hB (fun j hj => hF j (Nat.lt_of_lt_of_le hj (by decide +kernel)))
  refine ⟨List.forall_mem_cons.mpr ⟨hd_p1 b83 rfl (by have hc : ((0) : Int32).toInt = 0 := (by decide); omega), List.forall_mem_cons.mpr ⟨hd_p3 b82 rfl (by have hc : ((0) : Int32).toInt = 0 := (by decide); omega), List.forall_mem_cons.mpr ⟨hd_p5 b3 b82 h2, List.forall_mem_cons.mpr ⟨hd_pb b82 (by first | exact h3 | exact h3), List.forall_mem_cons.mpr ⟨hd_p1 t84 rfl (by have hc : ((0) : Int32).toInt = 0 := (by decide); omega), fun _ h => absurd h List.not_mem_nil⟩⟩⟩⟩⟩, ?_⟩
  refine k _ ?_
  · exact fun j hj _ => (hd_keep hB' (Nat.lt_of_lt_of_le hj (by decide +kernel)) (by simp)).trans (hF j (Nat.lt_of_lt_of_le hj (by decide)))
theorem j1pr_0_p8 {Ls : Nat} {xs : Nat → Int32} {d : Nat} {Q : Option Value → jm_h → Prop} (hd : 2 ≤ d) (F : Nat → sy_d) (X1 X2 : List jm_c) (hB : iv_in F iv_B0)
    (h0 : (sy_i F 83).toInt ≠ 0)
    (h1 : 0 ≤ (sy_i F 82).toInt)
    (h2 : (sy_i F 82).toInt < (sy_i F 3).toInt)
    (h3 : 0 ≤ (sy_i F 82).toInt ∧ (sy_i F 82).toInt < 7)
    (h4 : ((sy_ai F 54).getD (sy_i F 82).toNatClampNeg 0).toInt = 0)
    (h5 : 0 ≤ (sy_i F 82).toInt ∧ (sy_i F 82).toInt < 7)
    (h6 : ((sy_ai F 57).getD (sy_i F 82).toNatClampNeg 0).toInt ≠ 1)
    (k : ∀ F1 : Nat → sy_d, (∀ j, j < 82 → True → F1 j = F j) → F1 82 = .inl (.int (sy_i F 82)) → F1 83 = .inl (.int ((1 : Int32))) → hd_W Ls xs d jm_M89 Q (53, sy_dL F1 [some (.inl (.ref 8)), some (.inr (.inl 82)), none, some (.inr (.inl 83))], sy_dS F1 [.inl (.ref 46), .inl (.ref 66)], sy_dh F1 X1 X2 (iv_H 1), 0, 0)) :
    hd_W Ls xs d jm_M89 Q (0, sy_dL F [some (.inl (.ref 8)), some (.inr (.inl 82)), some (.inr (.inl 83)), none], sy_dS F [], sy_dh F X1 X2 (iv_H 1), 0, 0) := by
  refine hd_run (s := 1) (nv := 84) (pc := 53) (L := [some (.inl (.ref 8)), some (.inr (.inl 82)), none, some (.inr (.inl 83))]) (S := [.inl (.ref 46), .inl (.ref 66)]) (uh := hd_ov (iv_id 0 iv_B0) []) (ul := [.inl (.inr (.inl 82)), .inl (.inl (.int 1))]) (f := true) (sp := [53]) (d0 := 1) (O := [false, false, false, false, true]) (T := [(30, [.inr (.inl 82)], [.inr (.inl 54)]), (30, [.inr (.inl 82)], [.inr (.inl 57)])]) (P := [(1, .inr (.inl 83), .inl (.int 0)), (3, .inr (.inl 82), .inl (.int 0)), (5, .inr (.inl 3), .inr (.inl 82)), (6, .inr (.inl 82), .inl (.ref 7)), (0, .inr (.inl 84), .inl (.int 0)), (6, .inr (.inl 82), .inl (.ref 7)), (1, .inr (.inl 85), .inl (.int 1))]) jm_ok89 (by decide +kernel) (by decide +kernel) hd F X1 X2 (fun F' hF hs => ?_)
  have b83 := hd_b (F := F) (F' := F') (k := 83) (hF 83 (by decide))
  have b82 := hd_b (F := F) (F' := F') (k := 82) (hF 82 (by decide))
  have b3 := hd_b (F := F) (F' := F') (k := 3) (hF 3 (by decide))
  have a54 := hd_ba (F := F) (F' := F') (k := 54) (hF 54 (by decide))
  have t84 : sy_dv F' (.inr (.inl 84)) = .int ((sy_ai F 54).getD (sy_i F 82).toNatClampNeg 0) := hd_rd (hs 0 _ rfl) b82 a54
  have a57 := hd_ba (F := F) (F' := F') (k := 57) (hF 57 (by decide))
  have t85 : sy_dv F' (.inr (.inl 85)) = .int ((sy_ai F 57).getD (sy_i F 82).toNatClampNeg 0) := hd_rd (hs 1 _ rfl) b82 a57
  have hB' : iv_in F' iv_B0 := iv_in_eq hB (fun j hj => hF j (Nat.lt_of_lt_of_le hj (by decide +kernel)))
  refine ⟨List.forall_mem_cons.mpr ⟨hd_p1 b83 rfl (by have hc : ((0) : Int32).toInt = 0 := (by decide); omega), List.forall_mem_cons.mpr ⟨hd_p3 b82 rfl (by have hc : ((0) : Int32).toInt = 0 := (by decide); omega), List.forall_mem_cons.mpr ⟨hd_p5 b3 b82 h2, List.forall_mem_cons.mpr ⟨hd_pb b82 (by first | exact h3 | exact h3), List.forall_mem_cons.mpr ⟨hd_p0 t84 rfl (by have hc : ((0) : Int32).toInt = 0 := (by decide); omega), List.forall_mem_cons.mpr ⟨hd_pb b82 (by first | exact h5 | exact h5), List.forall_mem_cons.mpr ⟨hd_p1 t85 rfl (by have hc : ((1) : Int32).toInt = 1 := (by decide); omega), fun _ h => absurd h List.not_mem_nil⟩⟩⟩⟩⟩⟩⟩, ?_⟩
  refine k _ ?_ ?_ ?_
  · exact fun j hj _ => (hd_keep hB' (Nat.lt_of_lt_of_le hj (by decide +kernel)) (by simp)).trans (hF j (Nat.lt_of_lt_of_le hj (by decide)))
  · exact hd_gi (x := .inr (.inl 82)) (by decide +kernel) b82
  · exact hd_gi (x := .inl (.int 1)) (by decide +kernel) rfl
theorem j1pr_0_p9 {Ls : Nat} {xs : Nat → Int32} {d : Nat} {Q : Option Value → jm_h → Prop} (hd : 2 ≤ d) (F : Nat → sy_d) (X1 X2 : List jm_c) (hB : iv_in F iv_B0)
    (h0 : (sy_i F 83).toInt ≠ 0)
    (h1 : 0 ≤ (sy_i F 82).toInt)
    (h2 : (sy_i F 82).toInt < (sy_i F 3).toInt)
    (h3 : 0 ≤ (sy_i F 82).toInt ∧ (sy_i F 82).toInt < 7)
    (h4 : ((sy_ai F 54).getD (sy_i F 82).toNatClampNeg 0).toInt = 0)
    (h5 : 0 ≤ (sy_i F 82).toInt ∧ (sy_i F 82).toInt < 7)
    (h6 : ((sy_ai F 57).getD (sy_i F 82).toNatClampNeg 0).toInt = 1)
    (k : ∀ F1 : Nat → sy_d, (∀ j, j < 82 → True → F1 j = F j) → Q (some (.int ((0 : Int32)))) (sy_dh F1 X1 X2 (iv_H 1))) :
    hd_W Ls xs d jm_M89 Q (0, sy_dL F [some (.inl (.ref 8)), some (.inr (.inl 82)), some (.inr (.inl 83)), none], sy_dS F [], sy_dh F X1 X2 (iv_H 1), 0, 0) := by
  refine hd_ret (s := 1) (nv := 84) (v := some (.inl (.int 0))) (uh := hd_ov (iv_id 0 iv_B0) []) (f := true) (sp := [53]) (d0 := 1) (O := [false, false, false, false, false]) (T := [(30, [.inr (.inl 82)], [.inr (.inl 54)]), (30, [.inr (.inl 82)], [.inr (.inl 57)])]) (P := [(1, .inr (.inl 83), .inl (.int 0)), (3, .inr (.inl 82), .inl (.int 0)), (5, .inr (.inl 3), .inr (.inl 82)), (6, .inr (.inl 82), .inl (.ref 7)), (0, .inr (.inl 84), .inl (.int 0)), (6, .inr (.inl 82), .inl (.ref 7)), (0, .inr (.inl 85), .inl (.int 1))]) jm_ok89 (by decide +kernel) (by decide +kernel) hd F X1 X2 (fun F' hF hs => ?_)
  have b83 := hd_b (F := F) (F' := F') (k := 83) (hF 83 (by decide))
  have b82 := hd_b (F := F) (F' := F') (k := 82) (hF 82 (by decide))
  have b3 := hd_b (F := F) (F' := F') (k := 3) (hF 3 (by decide))
  have a54 := hd_ba (F := F) (F' := F') (k := 54) (hF 54 (by decide))
  have t84 : sy_dv F' (.inr (.inl 84)) = .int ((sy_ai F 54).getD (sy_i F 82).toNatClampNeg 0) := hd_rd (hs 0 _ rfl) b82 a54
  have a57 := hd_ba (F := F) (F' := F') (k := 57) (hF 57 (by decide))
  have t85 : sy_dv F' (.inr (.inl 85)) = .int ((sy_ai F 57).getD (sy_i F 82).toNatClampNeg 0) := hd_rd (hs 1 _ rfl) b82 a57
  have hB' : iv_in F' iv_B0 := iv_in_eq hB (fun j hj => hF j (Nat.lt_of_lt_of_le hj (by decide +kernel)))
  refine ⟨List.forall_mem_cons.mpr ⟨hd_p1 b83 rfl (by have hc : ((0) : Int32).toInt = 0 := (by decide); omega), List.forall_mem_cons.mpr ⟨hd_p3 b82 rfl (by have hc : ((0) : Int32).toInt = 0 := (by decide); omega), List.forall_mem_cons.mpr ⟨hd_p5 b3 b82 h2, List.forall_mem_cons.mpr ⟨hd_pb b82 (by first | exact h3 | exact h3), List.forall_mem_cons.mpr ⟨hd_p0 t84 rfl (by have hc : ((0) : Int32).toInt = 0 := (by decide); omega), List.forall_mem_cons.mpr ⟨hd_pb b82 (by first | exact h5 | exact h5), List.forall_mem_cons.mpr ⟨hd_p0 t85 rfl (by have hc : ((1) : Int32).toInt = 1 := (by decide); omega), fun _ h => absurd h List.not_mem_nil⟩⟩⟩⟩⟩⟩⟩, ?_⟩
  refine k _ ?_
  · exact fun j hj _ => (hd_keep hB' (Nat.lt_of_lt_of_le hj (by decide +kernel)) (by simp)).trans (hF j (Nat.lt_of_lt_of_le hj (by decide)))
theorem j1pr_0 {Ls : Nat} {xs : Nat → Int32} {d : Nat} {Q : Option Value → jm_h → Prop} (hd : 2 ≤ d) (F : Nat → sy_d) (X1 X2 : List jm_c) (hB : iv_in F iv_B0)
    (k0 : (sy_i F 83).toInt = 0 → (sy_i F 82).toInt < 0 → ∀ F1 : Nat → sy_d, iv_in F1 iv_B0 → (∀ j, j < 82 → j ∉ ([] : List Nat) → F1 j = F j) → Q (some (.int ((0 : Int32)))) (sy_dh F1 X1 X2 (iv_H 1)))
    (k1 : (sy_i F 83).toInt = 0 → 0 ≤ (sy_i F 82).toInt → (sy_i F 3).toInt ≤ (sy_i F 82).toInt → ∀ F1 : Nat → sy_d, iv_in F1 iv_B0 → (∀ j, j < 82 → j ∉ ([] : List Nat) → F1 j = F j) → Q (some (.int ((0 : Int32)))) (sy_dh F1 X1 X2 (iv_H 1)))
    (k2 : (sy_i F 83).toInt = 0 → 0 ≤ (sy_i F 82).toInt → (sy_i F 82).toInt < (sy_i F 3).toInt → ((sy_ai F 54).getD ((sy_i F 82).toInt).toNat 0).toInt ≠ 0 → ∀ F1 : Nat → sy_d, iv_in F1 iv_B0 → (∀ j, j < 82 → j ∉ ([] : List Nat) → F1 j = F j) → Q (some (.int ((0 : Int32)))) (sy_dh F1 X1 X2 (iv_H 1)))
    (k3 : (sy_i F 83).toInt = 0 → 0 ≤ (sy_i F 82).toInt → (sy_i F 82).toInt < (sy_i F 3).toInt → ((sy_ai F 54).getD ((sy_i F 82).toInt).toNat 0).toInt = 0 → ((sy_ai F 57).getD ((sy_i F 82).toInt).toNat 0).toInt ≠ 0 → ∀ F1 : Nat → sy_d, iv_in F1 iv_B0 → (∀ j, j < 82 → j ∉ ([] : List Nat) → F1 j = F j) → (sy_i F1 82).toInt = (sy_i F 82).toInt → sy_i F1 82 = sy_i F 82 → (sy_i F1 83).toInt = 0 → sy_i F1 83 = (0 : Int32) → hd_W Ls xs d jm_M89 Q (53, sy_dL F1 [some (.inl (.ref 8)), some (.inr (.inl 82)), none, some (.inr (.inl 83))], sy_dS F1 [.inl (.ref 46), .inl (.ref 66)], sy_dh F1 X1 X2 (iv_H 1), 0, 0))
    (k4 : (sy_i F 83).toInt = 0 → 0 ≤ (sy_i F 82).toInt → (sy_i F 82).toInt < (sy_i F 3).toInt → ((sy_ai F 54).getD ((sy_i F 82).toInt).toNat 0).toInt = 0 → ((sy_ai F 57).getD ((sy_i F 82).toInt).toNat 0).toInt = 0 → ∀ F1 : Nat → sy_d, iv_in F1 iv_B0 → (∀ j, j < 82 → j ∉ ([] : List Nat) → F1 j = F j) → Q (some (.int ((0 : Int32)))) (sy_dh F1 X1 X2 (iv_H 1)))
    (k5 : (sy_i F 83).toInt ≠ 0 → (sy_i F 82).toInt < 0 → ∀ F1 : Nat → sy_d, iv_in F1 iv_B0 → (∀ j, j < 82 → j ∉ ([] : List Nat) → F1 j = F j) → Q (some (.int ((0 : Int32)))) (sy_dh F1 X1 X2 (iv_H 1)))
    (k6 : (sy_i F 83).toInt ≠ 0 → 0 ≤ (sy_i F 82).toInt → (sy_i F 3).toInt ≤ (sy_i F 82).toInt → ∀ F1 : Nat → sy_d, iv_in F1 iv_B0 → (∀ j, j < 82 → j ∉ ([] : List Nat) → F1 j = F j) → Q (some (.int ((0 : Int32)))) (sy_dh F1 X1 X2 (iv_H 1)))
    (k7 : (sy_i F 83).toInt ≠ 0 → 0 ≤ (sy_i F 82).toInt → (sy_i F 82).toInt < (sy_i F 3).toInt → ((sy_ai F 54).getD ((sy_i F 82).toInt).toNat 0).toInt ≠ 0 → ∀ F1 : Nat → sy_d, iv_in F1 iv_B0 → (∀ j, j < 82 → j ∉ ([] : List Nat) → F1 j = F j) → Q (some (.int ((0 : Int32)))) (sy_dh F1 X1 X2 (iv_H 1)))
    (k8 : (sy_i F 83).toInt ≠ 0 → 0 ≤ (sy_i F 82).toInt → (sy_i F 82).toInt < (sy_i F 3).toInt → ((sy_ai F 54).getD ((sy_i F 82).toInt).toNat 0).toInt = 0 → ((sy_ai F 57).getD ((sy_i F 82).toInt).toNat 0).toInt ≠ 1 → ∀ F1 : Nat → sy_d, iv_in F1 iv_B0 → (∀ j, j < 82 → j ∉ ([] : List Nat) → F1 j = F j) → (sy_i F1 82).toInt = (sy_i F 82).toInt → sy_i F1 82 = sy_i F 82 → (sy_i F1 83).toInt = 1 → sy_i F1 83 = (1 : Int32) → hd_W Ls xs d jm_M89 Q (53, sy_dL F1 [some (.inl (.ref 8)), some (.inr (.inl 82)), none, some (.inr (.inl 83))], sy_dS F1 [.inl (.ref 46), .inl (.ref 66)], sy_dh F1 X1 X2 (iv_H 1), 0, 0))
    (k9 : (sy_i F 83).toInt ≠ 0 → 0 ≤ (sy_i F 82).toInt → (sy_i F 82).toInt < (sy_i F 3).toInt → ((sy_ai F 54).getD ((sy_i F 82).toInt).toNat 0).toInt = 0 → ((sy_ai F 57).getD ((sy_i F 82).toInt).toNat 0).toInt = 1 → ∀ F1 : Nat → sy_d, iv_in F1 iv_B0 → (∀ j, j < 82 → j ∉ ([] : List Nat) → F1 j = F j) → Q (some (.int ((0 : Int32)))) (sy_dh F1 X1 X2 (iv_H 1))) :
    hd_W Ls xs d jm_M89 Q (0, sy_dL F [some (.inl (.ref 8)), some (.inr (.inl 82)), some (.inr (.inl 83)), none], sy_dS F [], sy_dh F X1 X2 (iv_H 1), 0, 0) := by
  by_cases g0 : (sy_i F 83).toInt = 0
  · by_cases g1 : (sy_i F 82).toInt < 0
    · exact j1pr_0_p0 hd F X1 X2 hB (by first | exact g0 | (simp only [nz_c]; exact g0)) (by first | exact g1 | (simp only [nz_c]; exact g1)) (fun F1 g  => k0 g0 g1 F1 (nz_in0 hB [] (fun j hj hn => g j hj (by simp only [List.mem_cons, List.not_mem_nil, or_false, not_or] at hn; exact trivial)) (List.forall_mem_nil _)) (fun j hj hn => g j hj (by simp only [List.mem_cons, List.not_mem_nil, or_false, not_or] at hn; exact trivial)) )
    replace g1 : 0 ≤ (sy_i F 82).toInt := by omega
    by_cases g2 : (sy_i F 3).toInt ≤ (sy_i F 82).toInt
    · have c3 := nz_bx hB (k := 3) (lo := 0) (hi := 7) rfl
      exact j1pr_0_p1 hd F X1 X2 hB (by first | exact g0 | (simp only [nz_c]; exact g0)) (by first | exact g1 | (simp only [nz_c]; exact g1)) (by first | exact g2 | (simp only [nz_c]; exact g2)) (fun F1 g  => k1 g0 g1 g2 F1 (nz_in0 hB [] (fun j hj hn => g j hj (by simp only [List.mem_cons, List.not_mem_nil, or_false, not_or] at hn; exact trivial)) (List.forall_mem_nil _)) (fun j hj hn => g j hj (by simp only [List.mem_cons, List.not_mem_nil, or_false, not_or] at hn; exact trivial)) )
    replace g2 : (sy_i F 82).toInt < (sy_i F 3).toInt := by omega
    by_cases g3 : ((sy_ai F 54).getD ((sy_i F 82).toInt).toNat 0).toInt ≠ 0
    · have c3 := nz_bx hB (k := 3) (lo := 0) (hi := 7) rfl
      have q84 : (sy_ai F 54).getD (sy_i F 82).toNatClampNeg 0 = (sy_ai F 54).getD ((sy_i F 82).toInt).toNat 0 := by simp only [nz_c]
      have n84 : nzI ((sy_ai F 54).getD (sy_i F 82).toNatClampNeg 0) (((sy_ai F 54).getD ((sy_i F 82).toInt).toNat 0).toInt) := congrArg Int32.toInt q84
      exact j1pr_0_p2 hd F X1 X2 hB (by first | exact g0 | (simp only [nz_c]; exact g0)) (by first | exact g1 | (simp only [nz_c]; exact g1)) (by first | exact g2 | (simp only [nz_c]; exact g2)) (by first | exact ⟨by omega, by omega⟩ | (simp only [nz_c]; exact ⟨by omega, by omega⟩)) (by first | exact g3 | (simp only [nz_c]; exact g3) | (rw [(nzE n84)]; exact g3)) (fun F1 g  => k2 g0 g1 g2 g3 F1 (nz_in0 hB [] (fun j hj hn => g j hj (by simp only [List.mem_cons, List.not_mem_nil, or_false, not_or] at hn; exact trivial)) (List.forall_mem_nil _)) (fun j hj hn => g j hj (by simp only [List.mem_cons, List.not_mem_nil, or_false, not_or] at hn; exact trivial)) )
    replace g3 : ((sy_ai F 54).getD ((sy_i F 82).toInt).toNat 0).toInt = 0 := by omega
    by_cases g4 : ((sy_ai F 57).getD ((sy_i F 82).toInt).toNat 0).toInt ≠ 0
    · have c3 := nz_bx hB (k := 3) (lo := 0) (hi := 7) rfl
      have q84 : (sy_ai F 54).getD (sy_i F 82).toNatClampNeg 0 = (sy_ai F 54).getD ((sy_i F 82).toInt).toNat 0 := by simp only [nz_c]
      have n84 : nzI ((sy_ai F 54).getD (sy_i F 82).toNatClampNeg 0) (((sy_ai F 54).getD ((sy_i F 82).toInt).toNat 0).toInt) := congrArg Int32.toInt q84
      have q85 : (sy_ai F 57).getD (sy_i F 82).toNatClampNeg 0 = (sy_ai F 57).getD ((sy_i F 82).toInt).toNat 0 := by simp only [nz_c]
      have n85 : nzI ((sy_ai F 57).getD (sy_i F 82).toNatClampNeg 0) (((sy_ai F 57).getD ((sy_i F 82).toInt).toNat 0).toInt) := congrArg Int32.toInt q85
      exact j1pr_0_p3 hd F X1 X2 hB (by first | exact g0 | (simp only [nz_c]; exact g0)) (by first | exact g1 | (simp only [nz_c]; exact g1)) (by first | exact g2 | (simp only [nz_c]; exact g2)) (by first | exact ⟨by omega, by omega⟩ | (simp only [nz_c]; exact ⟨by omega, by omega⟩)) (by first | exact g3 | (simp only [nz_c]; exact g3) | (rw [(nzE n84)]; exact g3)) (by first | exact ⟨by omega, by omega⟩ | (simp only [nz_c]; exact ⟨by omega, by omega⟩)) (by first | exact g4 | (simp only [nz_c]; exact g4) | (rw [(nzE n85)]; exact g4)) (fun F1 g e82 e83 => k3 g0 g1 g2 g3 g4 F1 (nz_in0 hB [] (fun j hj hn => g j hj (by simp only [List.mem_cons, List.not_mem_nil, or_false, not_or] at hn; exact trivial)) (List.forall_mem_nil _)) (fun j hj hn => g j hj (by simp only [List.mem_cons, List.not_mem_nil, or_false, not_or] at hn; exact trivial)) ((congrArg Int32.toInt (zz_i e82)).trans (rfl : (sy_i F 82).toInt = (sy_i F 82).toInt)) ((zz_i e82).trans (rfl : sy_i F 82 = sy_i F 82)) ((congrArg Int32.toInt (zz_i e83)).trans (by decide : ((0 : Int32)).toInt = 0)) ((zz_i e83).trans (rfl : (0 : Int32) = (0 : Int32))))
    replace g4 : ((sy_ai F 57).getD ((sy_i F 82).toInt).toNat 0).toInt = 0 := by omega
    have c3 := nz_bx hB (k := 3) (lo := 0) (hi := 7) rfl
    have q84 : (sy_ai F 54).getD (sy_i F 82).toNatClampNeg 0 = (sy_ai F 54).getD ((sy_i F 82).toInt).toNat 0 := by simp only [nz_c]
    have n84 : nzI ((sy_ai F 54).getD (sy_i F 82).toNatClampNeg 0) (((sy_ai F 54).getD ((sy_i F 82).toInt).toNat 0).toInt) := congrArg Int32.toInt q84
    have q85 : (sy_ai F 57).getD (sy_i F 82).toNatClampNeg 0 = (sy_ai F 57).getD ((sy_i F 82).toInt).toNat 0 := by simp only [nz_c]
    have n85 : nzI ((sy_ai F 57).getD (sy_i F 82).toNatClampNeg 0) (((sy_ai F 57).getD ((sy_i F 82).toInt).toNat 0).toInt) := congrArg Int32.toInt q85
    exact j1pr_0_p4 hd F X1 X2 hB (by first | exact g0 | (simp only [nz_c]; exact g0)) (by first | exact g1 | (simp only [nz_c]; exact g1)) (by first | exact g2 | (simp only [nz_c]; exact g2)) (by first | exact ⟨by omega, by omega⟩ | (simp only [nz_c]; exact ⟨by omega, by omega⟩)) (by first | exact g3 | (simp only [nz_c]; exact g3) | (rw [(nzE n84)]; exact g3)) (by first | exact ⟨by omega, by omega⟩ | (simp only [nz_c]; exact ⟨by omega, by omega⟩)) (by first | exact g4 | (simp only [nz_c]; exact g4) | (rw [(nzE n85)]; exact g4)) (fun F1 g  => k4 g0 g1 g2 g3 g4 F1 (nz_in0 hB [] (fun j hj hn => g j hj (by simp only [List.mem_cons, List.not_mem_nil, or_false, not_or] at hn; exact trivial)) (List.forall_mem_nil _)) (fun j hj hn => g j hj (by simp only [List.mem_cons, List.not_mem_nil, or_false, not_or] at hn; exact trivial)) )
  replace g0 : (sy_i F 83).toInt ≠ 0 := by omega
  by_cases g1 : (sy_i F 82).toInt < 0
  · exact j1pr_0_p5 hd F X1 X2 hB (by first | exact g0 | (simp only [nz_c]; exact g0)) (by first | exact g1 | (simp only [nz_c]; exact g1)) (fun F1 g  => k5 g0 g1 F1 (nz_in0 hB [] (fun j hj hn => g j hj (by simp only [List.mem_cons, List.not_mem_nil, or_false, not_or] at hn; exact trivial)) (List.forall_mem_nil _)) (fun j hj hn => g j hj (by simp only [List.mem_cons, List.not_mem_nil, or_false, not_or] at hn; exact trivial)) )
  replace g1 : 0 ≤ (sy_i F 82).toInt := by omega
  by_cases g2 : (sy_i F 3).toInt ≤ (sy_i F 82).toInt
  · have c3 := nz_bx hB (k := 3) (lo := 0) (hi := 7) rfl
    exact j1pr_0_p6 hd F X1 X2 hB (by first | exact g0 | (simp only [nz_c]; exact g0)) (by first | exact g1 | (simp only [nz_c]; exact g1)) (by first | exact g2 | (simp only [nz_c]; exact g2)) (fun F1 g  => k6 g0 g1 g2 F1 (nz_in0 hB [] (fun j hj hn => g j hj (by simp only [List.mem_cons, List.not_mem_nil, or_false, not_or] at hn; exact trivial)) (List.forall_mem_nil _)) (fun j hj hn => g j hj (by simp only [List.mem_cons, List.not_mem_nil, or_false, not_or] at hn; exact trivial)) )
  replace g2 : (sy_i F 82).toInt < (sy_i F 3).toInt := by omega
  by_cases g3 : ((sy_ai F 54).getD ((sy_i F 82).toInt).toNat 0).toInt ≠ 0
  · have c3 := nz_bx hB (k := 3) (lo := 0) (hi := 7) rfl
    have q84 : (sy_ai F 54).getD (sy_i F 82).toNatClampNeg 0 = (sy_ai F 54).getD ((sy_i F 82).toInt).toNat 0 := by simp only [nz_c]
    have n84 : nzI ((sy_ai F 54).getD (sy_i F 82).toNatClampNeg 0) (((sy_ai F 54).getD ((sy_i F 82).toInt).toNat 0).toInt) := congrArg Int32.toInt q84
    exact j1pr_0_p7 hd F X1 X2 hB (by first | exact g0 | (simp only [nz_c]; exact g0)) (by first | exact g1 | (simp only [nz_c]; exact g1)) (by first | exact g2 | (simp only [nz_c]; exact g2)) (by first | exact ⟨by omega, by omega⟩ | (simp only [nz_c]; exact ⟨by omega, by omega⟩)) (by first | exact g3 | (simp only [nz_c]; exact g3) | (rw [(nzE n84)]; exact g3)) (fun F1 g  => k7 g0 g1 g2 g3 F1 (nz_in0 hB [] (fun j hj hn => g j hj (by simp only [List.mem_cons, List.not_mem_nil, or_false, not_or] at hn; exact trivial)) (List.forall_mem_nil _)) (fun j hj hn => g j hj (by simp only [List.mem_cons, List.not_mem_nil, or_false, not_or] at hn; exact trivial)) )
  replace g3 : ((sy_ai F 54).getD ((sy_i F 82).toInt).toNat 0).toInt = 0 := by omega
  by_cases g4 : ((sy_ai F 57).getD ((sy_i F 82).toInt).toNat 0).toInt ≠ 1
  · have c3 := nz_bx hB (k := 3) (lo := 0) (hi := 7) rfl
    have q84 : (sy_ai F 54).getD (sy_i F 82).toNatClampNeg 0 = (sy_ai F 54).getD ((sy_i F 82).toInt).toNat 0 := by simp only [nz_c]
    have n84 : nzI ((sy_ai F 54).getD (sy_i F 82).toNatClampNeg 0) (((sy_ai F 54).getD ((sy_i F 82).toInt).toNat 0).toInt) := congrArg Int32.toInt q84
    have q85 : (sy_ai F 57).getD (sy_i F 82).toNatClampNeg 0 = (sy_ai F 57).getD ((sy_i F 82).toInt).toNat 0 := by simp only [nz_c]
    have n85 : nzI ((sy_ai F 57).getD (sy_i F 82).toNatClampNeg 0) (((sy_ai F 57).getD ((sy_i F 82).toInt).toNat 0).toInt) := congrArg Int32.toInt q85
    exact j1pr_0_p8 hd F X1 X2 hB (by first | exact g0 | (simp only [nz_c]; exact g0)) (by first | exact g1 | (simp only [nz_c]; exact g1)) (by first | exact g2 | (simp only [nz_c]; exact g2)) (by first | exact ⟨by omega, by omega⟩ | (simp only [nz_c]; exact ⟨by omega, by omega⟩)) (by first | exact g3 | (simp only [nz_c]; exact g3) | (rw [(nzE n84)]; exact g3)) (by first | exact ⟨by omega, by omega⟩ | (simp only [nz_c]; exact ⟨by omega, by omega⟩)) (by first | exact g4 | (simp only [nz_c]; exact g4) | (rw [(nzE n85)]; exact g4)) (fun F1 g e82 e83 => k8 g0 g1 g2 g3 g4 F1 (nz_in0 hB [] (fun j hj hn => g j hj (by simp only [List.mem_cons, List.not_mem_nil, or_false, not_or] at hn; exact trivial)) (List.forall_mem_nil _)) (fun j hj hn => g j hj (by simp only [List.mem_cons, List.not_mem_nil, or_false, not_or] at hn; exact trivial)) ((congrArg Int32.toInt (zz_i e82)).trans (rfl : (sy_i F 82).toInt = (sy_i F 82).toInt)) ((zz_i e82).trans (rfl : sy_i F 82 = sy_i F 82)) ((congrArg Int32.toInt (zz_i e83)).trans (by decide : ((1 : Int32)).toInt = 1)) ((zz_i e83).trans (rfl : (1 : Int32) = (1 : Int32))))
  replace g4 : ((sy_ai F 57).getD ((sy_i F 82).toInt).toNat 0).toInt = 1 := by omega
  have c3 := nz_bx hB (k := 3) (lo := 0) (hi := 7) rfl
  have q84 : (sy_ai F 54).getD (sy_i F 82).toNatClampNeg 0 = (sy_ai F 54).getD ((sy_i F 82).toInt).toNat 0 := by simp only [nz_c]
  have n84 : nzI ((sy_ai F 54).getD (sy_i F 82).toNatClampNeg 0) (((sy_ai F 54).getD ((sy_i F 82).toInt).toNat 0).toInt) := congrArg Int32.toInt q84
  have q85 : (sy_ai F 57).getD (sy_i F 82).toNatClampNeg 0 = (sy_ai F 57).getD ((sy_i F 82).toInt).toNat 0 := by simp only [nz_c]
  have n85 : nzI ((sy_ai F 57).getD (sy_i F 82).toNatClampNeg 0) (((sy_ai F 57).getD ((sy_i F 82).toInt).toNat 0).toInt) := congrArg Int32.toInt q85
  exact j1pr_0_p9 hd F X1 X2 hB (by first | exact g0 | (simp only [nz_c]; exact g0)) (by first | exact g1 | (simp only [nz_c]; exact g1)) (by first | exact g2 | (simp only [nz_c]; exact g2)) (by first | exact ⟨by omega, by omega⟩ | (simp only [nz_c]; exact ⟨by omega, by omega⟩)) (by first | exact g3 | (simp only [nz_c]; exact g3) | (rw [(nzE n84)]; exact g3)) (by first | exact ⟨by omega, by omega⟩ | (simp only [nz_c]; exact ⟨by omega, by omega⟩)) (by first | exact g4 | (simp only [nz_c]; exact g4) | (rw [(nzE n85)]; exact g4)) (fun F1 g  => k9 g0 g1 g2 g3 g4 F1 (nz_in0 hB [] (fun j hj hn => g j hj (by simp only [List.mem_cons, List.not_mem_nil, or_false, not_or] at hn; exact trivial)) (List.forall_mem_nil _)) (fun j hj hn => g j hj (by simp only [List.mem_cons, List.not_mem_nil, or_false, not_or] at hn; exact trivial)) )
theorem j1pr_56_p0 {Ls : Nat} {xs : Nat → Int32} {d : Nat} {Q : Option Value → jm_h → Prop} (hd : 1 ≤ d) (F : Nat → sy_d) (X1 X2 : List jm_c) (hB : iv_in F iv_B0)
    (h0 : 0 ≤ (sy_i F 82).toInt ∧ (sy_i F 82).toInt < 7)
    (k : ∀ F1 : Nat → sy_d, (∀ j, j < 82 → j ≠ 57 → F1 j = F j) → F1 57 = .inr (.inl (jm_upd (sy_ai F 57) (sy_i F 82).toNatClampNeg (sy_i F 83))) → Q (some (.int ((1 : Int32)))) (sy_dh F1 X1 X2 (iv_H 1))) :
    hd_W Ls xs d jm_M89 Q (56, sy_dL F [some (.inl (.ref 8)), some (.inr (.inl 82)), none, some (.inr (.inl 83))], sy_dS F [], sy_dh F X1 X2 (iv_H 1), 0, 0) := by
  refine hd_ret (s := 1) (nv := 84) (v := some (.inl (.int 1))) (uh := hd_ov (iv_id 0 iv_B0) [(57, .inr (.inr (.inl 84)))]) (f := false) (sp := []) (d0 := 0) (O := []) (T := [(40, [.inr (.inl 82), .inr (.inl 83)], [.inr (.inl 57)])]) (P := [(6, .inr (.inl 82), .inl (.ref 7))]) jm_ok89 (by decide +kernel) (by decide +kernel) hd F X1 X2 (fun F' hF hs => ?_)
  have b82 := hd_b (F := F) (F' := F') (k := 82) (hF 82 (by decide))
  have b83 := hd_b (F := F) (F' := F') (k := 83) (hF 83 (by decide))
  have a57 := hd_ba (F := F) (F' := F') (k := 57) (hF 57 (by decide))
  have t84 : sy_da F' (.inr (.inl 84)) = .inl (jm_upd (sy_ai F 57) (sy_i F 82).toNatClampNeg (sy_i F 83)) := hd_up (hs 0 _ rfl) b82 b83 a57
  have hB' : iv_in F' iv_B0 := iv_in_eq hB (fun j hj => hF j (Nat.lt_of_lt_of_le hj (by decide +kernel)))
  refine ⟨List.forall_mem_cons.mpr ⟨hd_pb b82 (by first | exact h0 | exact h0), fun _ h => absurd h List.not_mem_nil⟩, ?_⟩
  refine k _ ?_ ?_
  · exact fun j hj hn => (hd_keep hB' (Nat.lt_of_lt_of_le hj (by decide +kernel)) (by simp; omega)).trans (hF j (Nat.lt_of_lt_of_le hj (by decide)))
  · exact hd_ga (a := .inr (.inl 84)) (by decide +kernel) t84
theorem j1pr_56 {Ls : Nat} {xs : Nat → Int32} {d : Nat} {Q : Option Value → jm_h → Prop} (hd : 1 ≤ d) (F : Nat → sy_d) (X1 X2 : List jm_c) (hB : iv_in F iv_B0)
    (a82 : 0 ≤ (sy_i F 82).toInt ∧ (sy_i F 82).toInt ≤ 6)
    (a83 : 0 ≤ (sy_i F 83).toInt ∧ (sy_i F 83).toInt ≤ 1)
    (k0 : ∀ F1 : Nat → sy_d, iv_in F1 iv_B0 → (∀ j, j < 82 → j ∉ ([57] : List Nat) → F1 j = F j) → sy_ai F1 57 = jm_upd (sy_ai F 57) ((sy_i F 82).toInt).toNat (sy_i F 83) → Q (some (.int ((1 : Int32)))) (sy_dh F1 X1 X2 (iv_H 1))) :
    hd_W Ls xs d jm_M89 Q (56, sy_dL F [some (.inl (.ref 8)), some (.inr (.inl 82)), none, some (.inr (.inl 83))], sy_dS F [], sy_dh F X1 X2 (iv_H 1), 0, 0) := by
  have w84 : jm_upd (sy_ai F 57) (sy_i F 82).toNatClampNeg (sy_i F 83) = jm_upd (sy_ai F 57) ((sy_i F 82).toInt).toNat (sy_i F 83) := by simp only [nz_c]
  exact j1pr_56_p0 hd F X1 X2 hB (by first | exact ⟨by omega, by omega⟩ | (simp only [nz_c]; exact ⟨by omega, by omega⟩)) (fun F1 g e57 => k0 F1 (nz_in0 hB [57] (fun j hj hn => g j hj (by simp only [List.mem_cons, List.not_mem_nil, or_false, not_or] at hn; omega)) (List.forall_mem_cons.mpr ⟨fun t ht => (Option.some.inj ht) ▸ (nz_hz2 e57), List.forall_mem_nil _⟩)) (fun j hj hn => g j hj (by simp only [List.mem_cons, List.not_mem_nil, or_false, not_or] at hn; omega)) ((zz_ai e57).trans w84))
end
section
/-! ===== undo, hold, restore, go on the class's side (shape 1) ===== -/
section CH1
variable {Ls : Nat} {xs : Nat → Int32} {nf nb : Nat} {g : gS} (F : Nat → sy_d) (X1 X2 : List jm_c)
theorem j1un_V0 (hB : iv_in F iv_B0) (hT : trC nf nb F []) : jm_T Ls xs 3 jm_M92 [.ref 8] (sy_dh F X1 X2 (iv_H 1)) 0 0 (pI 1 X1 X2 (fun x F' => x = 0 ∧ qC [] F F')) := by
  refine hd_T (As := [.inl (.ref 8)]) jm_ok92 (by decide) (j1un_0 (by decide) F X1 X2 hB ?_)
  intro F1 hb gg
  have q1 : qC [] F F1 := qq_mk hb gg (by decide)
  refine hd_calI (R := fun x F' => x = 0 ∧ qC [] F1 F') (nh := 82) (nv := 82) (s := 1) (s1 := 1) (d1 := 2) (M1 := jm_M79) (As := [.inl (.ref 66), .inl (.ref 46)]) (rest := []) jm_ok92 rfl rfl (by decide) (by decide +kernel) (j1st_V0 F1 X1 X2 hb (trC_eq hT (gg 74 (by decide) (by decide)) (gg 75 (by decide) (by decide)) (gg 76 (by decide) (by decide)))) (fun F3 F' x hR p1 p2 p3 => ?_)
  obtain ⟨r1, r2⟩ := hR
  have r2' : qC [] F1 F3 := qC_dst r2 p1
  have k82 : sy_i F3 82 = 0 := (zz_i p3).trans r1
  refine j1un_11 (by decide) F3 X1 X2 r2'.1 (Or.inl (by rw [k82]; rfl)) ?_
  intro F4 hb4 g4
  exact ⟨_, F4, rfl, rfl, k82, qq_on (qq_trans q1 r2') hb4 g4 (by decide)⟩
theorem j1un_V1 (hB : iv_in F iv_B0) (hf : nf ≤ 7) (hb : nb ≤ 4) {U : List gS} (hT : trC nf nb F (g :: U)) : jm_T Ls xs 3 jm_M92 [.ref 8] (sy_dh F X1 X2 (iv_H 1)) 0 0 (pI 1 X1 X2 (fun x F' => x = 1 ∧ qC (75 :: [50, 51, 52, 53, 54, 55, 56, 57, 58, 59, 60, 61]) F F' ∧ trC nf nb F' U ∧ gC 50 nf nb F' g)) := by
  refine hd_T (As := [.inl (.ref 8)]) jm_ok92 (by decide) (j1un_0 (by decide) F X1 X2 hB ?_)
  intro F1 hb1 gg
  have q1 : qC [] F F1 := qq_mk hb1 gg (by decide)
  refine hd_calI (R := fun x F' => x = 1 ∧ qC (75 :: [50, 51, 52, 53, 54, 55, 56, 57, 58, 59, 60, 61]) F1 F' ∧ trC nf nb F' U ∧ gC 50 nf nb F' g) (nh := 82) (nv := 82) (s := 1) (s1 := 1) (d1 := 2) (M1 := jm_M79) (As := [.inl (.ref 66), .inl (.ref 46)]) (rest := []) jm_ok92 rfl rfl (by decide) (by decide +kernel) (j1st_V1 F1 X1 X2 hb1 hf hb (trC_eq hT (gg 74 (by decide) (by decide)) (gg 75 (by decide) (by decide)) (gg 76 (by decide) (by decide)))) (fun F3 F' x hR p1 p2 p3 => ?_)
  obtain ⟨r1, r2, r3, r4⟩ := hR
  have r2' : qC (75 :: [50, 51, 52, 53, 54, 55, 56, 57, 58, 59, 60, 61]) F1 F3 := qC_dst r2 p1
  have k82 : sy_i F3 82 = 1 := (zz_i p3).trans r1
  refine j1un_11 (by decide) F3 X1 X2 r2'.1 (Or.inr (by rw [k82]; rfl)) ?_
  intro F4 hb4 g4
  have f4 : ∀ j, j < 82 → F4 j = F' j := fun j hj => (g4 j hj (by simp)).trans (p1 j hj)
  exact ⟨_, F4, rfl, rfl, k82, qq_on (qq_trans (qq_up q1 (by decide)) r2') hb4 g4 (by decide), trC_eq r3 (f4 74 (by decide)) (f4 75 (by decide)) (f4 76 (by decide)), gC_eq r4 (fun j h1 h2 => f4 j (by omega))⟩
theorem j1hd_V (hB : iv_in F iv_B0) (hf : nf ≤ 7) (hb : nb ≤ 4) (hg : gC 50 nf nb F g) {H : Nat → gS} (hH : hlC nf nb F H) (v : Int32) : jm_T Ls xs 2 jm_M113 [.ref 8, .int v] (sy_dh F X1 X2 (iv_H 1)) 0 0 (pI 1 X1 X2 (fun x F' => (¬ (0 ≤ v.toInt ∧ v.toInt ≤ 2) → x = 0 ∧ qC [] F F') ∧ (0 ≤ v.toInt ∧ v.toInt ≤ 2 → x = 1 ∧ qC [77, 78] F F' ∧ hlC nf nb F' (fun j => if j = v.toInt.toNat then g else H j) ∧ sy_ai F' 78 = jm_upd (sy_ai F 78) v.toInt.toNat 1))) := by
  refine C_T (by decide) [v] [.inl (.ref 8), .inr (.inl 82)] jm_ok113 (by decide) rfl (fun F0 k0 ki => ?_)
  have i82 : sy_i F0 82 = v := ki 0
  refine j1hd_0 (by decide) F0 X1 X2 (hd_iveq0 hB k0) ?_ ?_ ?_
  · intro c0 F1 hb1 gg
    rw [i82] at c0
    exact ⟨_, F1, rfl, rfl, fun _ => ⟨rfl, qq_src (qq_mk hb1 gg (by decide)) k0⟩, fun h => absurd h (by omega)⟩
  · intro c0 c1 F1 hb1 gg
    rw [i82] at c0 c1
    exact ⟨_, F1, rfl, rfl, fun _ => ⟨rfl, qq_src (qq_mk hb1 gg (by decide)) k0⟩, fun h => absurd h (by omega)⟩
  · intro c0 c1 F1 hb1 gg e82 j82 e83 j83
    rw [i82] at c0 c1 e82 e83
    have q1 : qC [] F F1 := qq_src (qq_mk hb1 gg (by decide)) k0
    refine hd_calV (R := fun F' => qC [77] F1 F' ∧ svR (sy_ai F' 77) (60 * v.toInt.toNat) F1 50 ∧ ∀ j, j < 60 * v.toInt.toNat ∨ 60 * v.toInt.toNat + 60 ≤ j → (sy_ai F' 77).getD j 0 = (sy_ai F1 77).getD j 0) (nh := 82) (nv := 83) (s := 1) (s1 := 1) (d1 := 1) (M1 := jm_M9) (As := [.inl (.ref 46), .inl (.ref 68), .inr (.inl 83)]) (rest := []) jm_ok113 rfl rfl (by decide) (by decide +kernel) (j1svs_V F1 X1 X2 hb1 (by rw [e83]; omega) (by omega)) (fun F3 F' hR p1 p2 => ?_)
    obtain ⟨r1, r2, r3⟩ := hR
    have r1' : qC [77] F1 F3 := qC_dst r1 p1
    have k82 : (sy_i F3 82).toInt = v.toInt := by rw [nz_fi (p2 82 (by decide) (by decide))]; exact e82
    refine j1hd_26 (by decide) F3 X1 X2 r1'.1 (by omega) ?_
    intro F4 hb4 g4 a78
    rw [k82] at a78
    have h78 : sy_ai F3 78 = sy_ai F 78 := (qq_a r1' (by decide) (by decide)).trans (qq_a q1 (by decide) (by decide))
    have h77 : sy_ai F1 77 = sy_ai F 77 := qq_a q1 (by decide) (by decide)
    have l77 : sy_ai F4 77 = sy_ai F' 77 := (nz_fa (g4 77 (by decide) (by decide))).trans (nz_fa (p1 77 (by decide)))
    rw [h78] at a78
    have g1 : gC 50 nf nb F1 g := gC_eq hg (fun j h1 h2 => q1.2 j (by omega) (by simp))
    refine ⟨_, F4, rfl, rfl, fun h => absurd ⟨c0, c1⟩ h, fun _ => ⟨rfl, qq_on (qq_trans (qq_up q1 (by decide)) (qq_up r1' (by decide))) hb4 g4 (by decide), fun k hk hz => ?_, a78⟩⟩
    rw [l77]
    show svC nf nb _ _ (if k = v.toInt.toNat then g else H k)
    by_cases z : k = v.toInt.toNat
    · rw [if_pos z, z]
      exact svC_of hf hb r2 g1
    · rw [if_neg z]
      rw [a78, jm_upd_at, if_neg z] at hz
      refine svC_eq hf hb (hH k hk hz) (fun j h1 h2 => ?_)
      rw [r3 j (by omega), h77]
theorem j1rs_V (hB : iv_in F iv_B0) (hf : nf ≤ 7) (hb : nb ≤ 4) {H : Nat → gS} (hH : hlC nf nb F H) (v : Int32) : jm_T Ls xs 2 jm_M114 [.ref 8, .int v] (sy_dh F X1 X2 (iv_H 1)) 0 0 (pI 1 X1 X2 (fun x F' => (¬ (0 ≤ v.toInt ∧ v.toInt ≤ 2 ∧ ((sy_ai F 78).getD v.toInt.toNat 0).toInt ≠ 0) → x = 0 ∧ qC [] F F') ∧ (0 ≤ v.toInt ∧ v.toInt ≤ 2 ∧ ((sy_ai F 78).getD v.toInt.toNat 0).toInt ≠ 0 → x = 1 ∧ qC (74 :: 75 :: [50, 51, 52, 53, 54, 55, 56, 57, 58, 59, 60, 61]) F F' ∧ gC 50 nf nb F' (H v.toInt.toNat) ∧ trC nf nb F' []))) := by
  refine C_T (by decide) [v] [.inl (.ref 8), .inr (.inl 82)] jm_ok114 (by decide) rfl (fun F0 k0 ki => ?_)
  have i82 : sy_i F0 82 = v := ki 0
  refine j1rs_0 (by decide) F0 X1 X2 (hd_iveq0 hB k0) ?_ ?_ ?_ ?_
  · intro c0 F1 hb1 gg
    rw [i82] at c0
    exact ⟨_, F1, rfl, rfl, fun _ => ⟨rfl, qq_src (qq_mk hb1 gg (by decide)) k0⟩, fun h => absurd h.1 (by omega)⟩
  · intro c0 c1 F1 hb1 gg
    rw [i82] at c0 c1
    exact ⟨_, F1, rfl, rfl, fun _ => ⟨rfl, qq_src (qq_mk hb1 gg (by decide)) k0⟩, fun h => absurd h.2.1 (by omega)⟩
  · intro c0 c1 c2 F1 hb1 gg e82 j82
    rw [i82] at c0 c1 c2 e82
    rw [nz_fa (k0 78 (by decide))] at c2
    have q1 : qC [] F F1 := qq_src (qq_mk hb1 gg (by decide)) k0
    refine hd_calV (R := fun F' => qC [50, 51, 52, 53, 54, 55, 56, 57, 58, 59, 60, 61] F1 F' ∧ svR (sy_ai F1 77) (60 * v.toInt.toNat) F' 50) (nh := 82) (nv := 82) (s := 1) (s1 := 1) (d1 := 1) (M1 := jm_M10) (As := [.inl (.ref 46), .inl (.ref 68), .inr (.inl 82)]) (rest := []) jm_ok114 rfl rfl (by decide) (by decide +kernel) (j1lds_V F1 X1 X2 hb1 (by rw [e82]; omega) (by omega)) (fun F3 F' hR p1 p2 => ?_)
    obtain ⟨r1, r2⟩ := hR
    have r1' : qC [50, 51, 52, 53, 54, 55, 56, 57, 58, 59, 60, 61] F1 F3 := qC_dst r1 p1
    refine j1rs_35 (by decide) F3 X1 X2 r1'.1 ?_
    intro F4 hb4 g4 e74 j74 e75 j75
    have h77 : sy_ai F1 77 = sy_ai F 77 := qq_a q1 (by decide) (by decide)
    rw [h77] at r2
    exact ⟨_, F4, rfl, rfl, fun h => absurd ⟨c0, c1, c2⟩ h, fun _ => ⟨rfl, qq_on (qq_trans (qq_up q1 (by decide)) (qq_up r1' (by decide))) hb4 g4 (by decide), gC_eq (gC_of hf hb r2 (hH _ (by omega) c2)) (fun j h1 h2 => (g4 j (by omega) (by simp; omega)).trans (p1 j (by omega))), ⟨0, by decide, by decide, e74, e75, trivial⟩⟩⟩
  · intro c0 c1 c2 F1 hb1 gg
    rw [i82] at c0 c1 c2
    rw [nz_fa (k0 78 (by decide))] at c2
    exact ⟨_, F1, rfl, rfl, fun _ => ⟨rfl, qq_src (qq_mk hb1 gg (by decide)) k0⟩, fun h => absurd c2 h.2.2⟩
end CH1
end
section
/-! ===== the class remembers and steps back, way by way (shape 2) ===== -/
theorem j2re_0_p0 {Ls : Nat} {xs : Nat → Int32} {d : Nat} {Q : Option Value → jm_h → Prop} (hd : 1 ≤ d) (F : Nat → sy_d) (X1 X2 : List jm_c) (hB : iv_in F iv_B0)
    (h0 : (sy_i F 75).toInt ≠ 40)
    (k : ∀ F1 : Nat → sy_d, (∀ j, j < 82 → True → F1 j = F j) → F1 82 = .inl (.int ((((sy_i F 74) + (sy_i F 75)) - ((sy_i F 74) + (sy_i F 75)) / ((40 : Int32)) * ((40 : Int32))) * ((60 : Int32)))) → hd_W Ls xs d jm_M78 Q (52, sy_dL F1 [some (.inl (.ref 66)), none], sy_dS F1 [.inr (.inl 82), .inl (.ref 67), .inl (.ref 46)], sy_dh F1 X1 X2 (iv_H 2), 0, 0)) :
    hd_W Ls xs d jm_M78 Q (0, sy_dL F [some (.inl (.ref 66)), some (.inl (.ref 46))], sy_dS F [], sy_dh F X1 X2 (iv_H 2), 0, 0) := by
  refine hd_run (s := 2) (nv := 82) (pc := 52) (L := [some (.inl (.ref 66)), none]) (S := [.inr (.inl 82), .inl (.ref 67), .inl (.ref 46)]) (uh := hd_ov (iv_id 0 iv_B0) []) (ul := [.inl (.inr (.inl 84))]) (f := true) (sp := [52]) (d0 := 0) (O := [true]) (T := [(0, [.inr (.inl 74), .inr (.inl 75)], []), (10, [.inr (.inl 82), .inl (.int 40)], []), (2, [.inr (.inl 83), .inl (.int 60)], [])]) (P := [(1, .inr (.inl 75), .inl (.int 40)), (1, .inl (.int 40), .inl (.int 0))]) jm_ok78 (by decide +kernel) (by decide +kernel) hd F X1 X2 (fun F' hF hs => ?_)
  have b75 := hd_b (F := F) (F' := F') (k := 75) (hF 75 (by decide))
  have b74 := hd_b (F := F) (F' := F') (k := 74) (hF 74 (by decide))
  have t82 : sy_dv F' (.inr (.inl 82)) = .int ((sy_i F 74) + (sy_i F 75)) := hd_o (hs 0 _ rfl) b74 b75 rfl
  have t83 : sy_dv F' (.inr (.inl 83)) = .int (((sy_i F 74) + (sy_i F 75)) - ((sy_i F 74) + (sy_i F 75)) / ((40 : Int32)) * ((40 : Int32))) := hd_o (hs 1 _ rfl) t82 rfl rfl
  have t84 : sy_dv F' (.inr (.inl 84)) = .int ((((sy_i F 74) + (sy_i F 75)) - ((sy_i F 74) + (sy_i F 75)) / ((40 : Int32)) * ((40 : Int32))) * ((60 : Int32))) := hd_o (hs 2 _ rfl) t83 rfl rfl
  have hB' : iv_in F' iv_B0 := iv_in_eq hB (fun j hj => hF j (Nat.lt_of_lt_of_le hj (by decide +kernel)))
  refine ⟨List.forall_mem_cons.mpr ⟨hd_p1 b75 rfl (by have hc : ((40) : Int32).toInt = 40 := (by decide); omega), List.forall_mem_cons.mpr ⟨(hd_p1 (X := 40) (Y := 0) rfl rfl (by decide)), fun _ h => absurd h List.not_mem_nil⟩⟩, ?_⟩
  refine k _ ?_ ?_
  · exact fun j hj _ => (hd_keep hB' (Nat.lt_of_lt_of_le hj (by decide +kernel)) (by simp)).trans (hF j (Nat.lt_of_lt_of_le hj (by decide)))
  · exact hd_gi (x := .inr (.inl 84)) (by decide +kernel) t84
theorem j2re_0_p1 {Ls : Nat} {xs : Nat → Int32} {d : Nat} {Q : Option Value → jm_h → Prop} (hd : 1 ≤ d) (F : Nat → sy_d) (X1 X2 : List jm_c) (hB : iv_in F iv_B0)
    (h0 : (sy_i F 75).toInt = 40)
    (k : ∀ F1 : Nat → sy_d, (∀ j, j < 82 → j ≠ 74 ∧ j ≠ 75 → F1 j = F j) → F1 74 = .inl (.int (((sy_i F 74) + ((1 : Int32))) - ((sy_i F 74) + ((1 : Int32))) / ((40 : Int32)) * ((40 : Int32)))) → F1 75 = .inl (.int ((sy_i F 75) - ((1 : Int32)))) → F1 82 = .inl (.int ((((((sy_i F 74) + ((1 : Int32))) - ((sy_i F 74) + ((1 : Int32))) / ((40 : Int32)) * ((40 : Int32))) + ((sy_i F 75) - ((1 : Int32)))) - ((((sy_i F 74) + ((1 : Int32))) - ((sy_i F 74) + ((1 : Int32))) / ((40 : Int32)) * ((40 : Int32))) + ((sy_i F 75) - ((1 : Int32)))) / ((40 : Int32)) * ((40 : Int32))) * ((60 : Int32)))) → hd_W Ls xs d jm_M78 Q (52, sy_dL F1 [some (.inl (.ref 66)), none], sy_dS F1 [.inr (.inl 82), .inl (.ref 67), .inl (.ref 46)], sy_dh F1 X1 X2 (iv_H 2), 0, 0)) :
    hd_W Ls xs d jm_M78 Q (0, sy_dL F [some (.inl (.ref 66)), some (.inl (.ref 46))], sy_dS F [], sy_dh F X1 X2 (iv_H 2), 0, 0) := by
  refine hd_run (s := 2) (nv := 82) (pc := 52) (L := [some (.inl (.ref 66)), none]) (S := [.inr (.inl 82), .inl (.ref 67), .inl (.ref 46)]) (uh := hd_ov (iv_id 0 iv_B0) [(74, .inl (.inr (.inl 83))), (75, .inl (.inr (.inl 84)))]) (ul := [.inl (.inr (.inl 87))]) (f := true) (sp := [52]) (d0 := 0) (O := [false]) (T := [(0, [.inr (.inl 74), .inl (.int 1)], []), (10, [.inr (.inl 82), .inl (.int 40)], []), (1, [.inr (.inl 75), .inl (.int 1)], []), (0, [.inr (.inl 83), .inr (.inl 84)], []), (10, [.inr (.inl 85), .inl (.int 40)], []), (2, [.inr (.inl 86), .inl (.int 60)], [])]) (P := [(0, .inr (.inl 75), .inl (.int 40)), (1, .inl (.int 40), .inl (.int 0)), (1, .inl (.int 40), .inl (.int 0))]) jm_ok78 (by decide +kernel) (by decide +kernel) hd F X1 X2 (fun F' hF hs => ?_)
  have b75 := hd_b (F := F) (F' := F') (k := 75) (hF 75 (by decide))
  have b74 := hd_b (F := F) (F' := F') (k := 74) (hF 74 (by decide))
  have t82 : sy_dv F' (.inr (.inl 82)) = .int ((sy_i F 74) + ((1 : Int32))) := hd_o (hs 0 _ rfl) b74 rfl rfl
  have t83 : sy_dv F' (.inr (.inl 83)) = .int (((sy_i F 74) + ((1 : Int32))) - ((sy_i F 74) + ((1 : Int32))) / ((40 : Int32)) * ((40 : Int32))) := hd_o (hs 1 _ rfl) t82 rfl rfl
  have t84 : sy_dv F' (.inr (.inl 84)) = .int ((sy_i F 75) - ((1 : Int32))) := hd_o (hs 2 _ rfl) b75 rfl rfl
  have t85 : sy_dv F' (.inr (.inl 85)) = .int ((((sy_i F 74) + ((1 : Int32))) - ((sy_i F 74) + ((1 : Int32))) / ((40 : Int32)) * ((40 : Int32))) + ((sy_i F 75) - ((1 : Int32)))) := hd_o (hs 3 _ rfl) t83 t84 rfl
  have t86 : sy_dv F' (.inr (.inl 86)) = .int (((((sy_i F 74) + ((1 : Int32))) - ((sy_i F 74) + ((1 : Int32))) / ((40 : Int32)) * ((40 : Int32))) + ((sy_i F 75) - ((1 : Int32)))) - ((((sy_i F 74) + ((1 : Int32))) - ((sy_i F 74) + ((1 : Int32))) / ((40 : Int32)) * ((40 : Int32))) + ((sy_i F 75) - ((1 : Int32)))) / ((40 : Int32)) * ((40 : Int32))) := hd_o (hs 4 _ rfl) t85 rfl rfl
  have t87 : sy_dv F' (.inr (.inl 87)) = .int ((((((sy_i F 74) + ((1 : Int32))) - ((sy_i F 74) + ((1 : Int32))) / ((40 : Int32)) * ((40 : Int32))) + ((sy_i F 75) - ((1 : Int32)))) - ((((sy_i F 74) + ((1 : Int32))) - ((sy_i F 74) + ((1 : Int32))) / ((40 : Int32)) * ((40 : Int32))) + ((sy_i F 75) - ((1 : Int32)))) / ((40 : Int32)) * ((40 : Int32))) * ((60 : Int32))) := hd_o (hs 5 _ rfl) t86 rfl rfl
  have hB' : iv_in F' iv_B0 := iv_in_eq hB (fun j hj => hF j (Nat.lt_of_lt_of_le hj (by decide +kernel)))
  refine ⟨List.forall_mem_cons.mpr ⟨hd_p0 b75 rfl (by have hc : ((40) : Int32).toInt = 40 := (by decide); omega), List.forall_mem_cons.mpr ⟨(hd_p1 (X := 40) (Y := 0) rfl rfl (by decide)), List.forall_mem_cons.mpr ⟨(hd_p1 (X := 40) (Y := 0) rfl rfl (by decide)), fun _ h => absurd h List.not_mem_nil⟩⟩⟩, ?_⟩
  refine k _ ?_ ?_ ?_ ?_
  · exact fun j hj hn => (hd_keep hB' (Nat.lt_of_lt_of_le hj (by decide +kernel)) (by simp; omega)).trans (hF j (Nat.lt_of_lt_of_le hj (by decide)))
  · exact hd_gi (x := .inr (.inl 83)) (by decide +kernel) t83
  · exact hd_gi (x := .inr (.inl 84)) (by decide +kernel) t84
  · exact hd_gi (x := .inr (.inl 87)) (by decide +kernel) t87
theorem j2re_0 {Ls : Nat} {xs : Nat → Int32} {d : Nat} {Q : Option Value → jm_h → Prop} (hd : 1 ≤ d) (F : Nat → sy_d) (X1 X2 : List jm_c) (hB : iv_in F iv_B0)
    (k0 : (sy_i F 75).toInt ≠ 40 → ∀ F1 : Nat → sy_d, iv_in F1 iv_B0 → (∀ j, j < 82 → j ∉ ([] : List Nat) → F1 j = F j) → (sy_i F1 82).toInt = ((((sy_i F 74) + (sy_i F 75)) - ((sy_i F 74) + (sy_i F 75)) / ((40 : Int32)) * ((40 : Int32))) * ((60 : Int32))).toInt → sy_i F1 82 = (((sy_i F 74) + (sy_i F 75)) - ((sy_i F 74) + (sy_i F 75)) / ((40 : Int32)) * ((40 : Int32))) * ((60 : Int32)) → hd_W Ls xs d jm_M78 Q (52, sy_dL F1 [some (.inl (.ref 66)), none], sy_dS F1 [.inr (.inl 82), .inl (.ref 67), .inl (.ref 46)], sy_dh F1 X1 X2 (iv_H 2), 0, 0))
    (k1 : (sy_i F 75).toInt = 40 → ∀ F1 : Nat → sy_d, iv_in F1 iv_B0 → (∀ j, j < 82 → j ∉ ([74, 75] : List Nat) → F1 j = F j) → (sy_i F1 74).toInt = (((sy_i F 74) + ((1 : Int32))) - ((sy_i F 74) + ((1 : Int32))) / ((40 : Int32)) * ((40 : Int32))).toInt → sy_i F1 74 = ((sy_i F 74) + ((1 : Int32))) - ((sy_i F 74) + ((1 : Int32))) / ((40 : Int32)) * ((40 : Int32)) → (sy_i F1 75).toInt = ((sy_i F 75).toInt - 1) → sy_i F1 75 = (sy_i F 75) - ((1 : Int32)) → (sy_i F1 82).toInt = ((((((sy_i F 74) + ((1 : Int32))) - ((sy_i F 74) + ((1 : Int32))) / ((40 : Int32)) * ((40 : Int32))) + ((sy_i F 75) - ((1 : Int32)))) - ((((sy_i F 74) + ((1 : Int32))) - ((sy_i F 74) + ((1 : Int32))) / ((40 : Int32)) * ((40 : Int32))) + ((sy_i F 75) - ((1 : Int32)))) / ((40 : Int32)) * ((40 : Int32))) * ((60 : Int32))).toInt → sy_i F1 82 = (((((sy_i F 74) + ((1 : Int32))) - ((sy_i F 74) + ((1 : Int32))) / ((40 : Int32)) * ((40 : Int32))) + ((sy_i F 75) - ((1 : Int32)))) - ((((sy_i F 74) + ((1 : Int32))) - ((sy_i F 74) + ((1 : Int32))) / ((40 : Int32)) * ((40 : Int32))) + ((sy_i F 75) - ((1 : Int32)))) / ((40 : Int32)) * ((40 : Int32))) * ((60 : Int32)) → hd_W Ls xs d jm_M78 Q (52, sy_dL F1 [some (.inl (.ref 66)), none], sy_dS F1 [.inr (.inl 82), .inl (.ref 67), .inl (.ref 46)], sy_dh F1 X1 X2 (iv_H 2), 0, 0)) :
    hd_W Ls xs d jm_M78 Q (0, sy_dL F [some (.inl (.ref 66)), some (.inl (.ref 46))], sy_dS F [], sy_dh F X1 X2 (iv_H 2), 0, 0) := by
  by_cases g0 : (sy_i F 75).toInt ≠ 40
  · have c75 := nz_bx hB (k := 75) (lo := 0) (hi := 40) rfl
    have n84 : nzI ((((sy_i F 74) + (sy_i F 75)) - ((sy_i F 74) + (sy_i F 75)) / ((40 : Int32)) * ((40 : Int32))) * ((60 : Int32))) (((((sy_i F 74) + (sy_i F 75)) - ((sy_i F 74) + (sy_i F 75)) / ((40 : Int32)) * ((40 : Int32))) * ((60 : Int32))).toInt) := congrArg Int32.toInt (rfl : (((sy_i F 74) + (sy_i F 75)) - ((sy_i F 74) + (sy_i F 75)) / ((40 : Int32)) * ((40 : Int32))) * ((60 : Int32)) = (((sy_i F 74) + (sy_i F 75)) - ((sy_i F 74) + (sy_i F 75)) / ((40 : Int32)) * ((40 : Int32))) * ((60 : Int32)))
    exact j2re_0_p0 hd F X1 X2 hB (by first | exact g0 | (simp only [nz_c]; exact g0)) (fun F1 g e82 => k0 g0 F1 (nz_in0 hB [] (fun j hj hn => g j hj (by simp only [List.mem_cons, List.not_mem_nil, or_false, not_or] at hn; exact trivial)) (List.forall_mem_nil _)) (fun j hj hn => g j hj (by simp only [List.mem_cons, List.not_mem_nil, or_false, not_or] at hn; exact trivial)) ((congrArg Int32.toInt (zz_i e82)).trans (nzE n84)) ((zz_i e82).trans (rfl : (((sy_i F 74) + (sy_i F 75)) - ((sy_i F 74) + (sy_i F 75)) / ((40 : Int32)) * ((40 : Int32))) * ((60 : Int32)) = (((sy_i F 74) + (sy_i F 75)) - ((sy_i F 74) + (sy_i F 75)) / ((40 : Int32)) * ((40 : Int32))) * ((60 : Int32)))))
  replace g0 : (sy_i F 75).toInt = 40 := by omega
  have c75 := nz_bx hB (k := 75) (lo := 0) (hi := 40) rfl
  have n83 : nzI (((sy_i F 74) + ((1 : Int32))) - ((sy_i F 74) + ((1 : Int32))) / ((40 : Int32)) * ((40 : Int32))) ((((sy_i F 74) + ((1 : Int32))) - ((sy_i F 74) + ((1 : Int32))) / ((40 : Int32)) * ((40 : Int32))).toInt) := congrArg Int32.toInt (rfl : ((sy_i F 74) + ((1 : Int32))) - ((sy_i F 74) + ((1 : Int32))) / ((40 : Int32)) * ((40 : Int32)) = ((sy_i F 74) + ((1 : Int32))) - ((sy_i F 74) + ((1 : Int32))) / ((40 : Int32)) * ((40 : Int32)))
  have c74 := nz_bx hB (k := 74) (lo := 0) (hi := 39) rfl
  have n82 : nzI ((sy_i F 74) + ((1 : Int32))) (((sy_i F 74).toInt + 1)) := nz_add (rfl : (sy_i F 74).toInt = (sy_i F 74).toInt) (by decide : ((1 : Int32)).toInt = 1) (by omega) (by omega)
  have r83 := rmB (nzE n82) (by decide : ((40 : Int32)).toInt = 40) (by omega) (by decide)
  have n84 : nzI ((sy_i F 75) - ((1 : Int32))) (((sy_i F 75).toInt - 1)) := nz_sub (rfl : (sy_i F 75).toInt = (sy_i F 75).toInt) (by decide : ((1 : Int32)).toInt = 1) (by omega) (by omega)
  have n87 : nzI ((((((sy_i F 74) + ((1 : Int32))) - ((sy_i F 74) + ((1 : Int32))) / ((40 : Int32)) * ((40 : Int32))) + ((sy_i F 75) - ((1 : Int32)))) - ((((sy_i F 74) + ((1 : Int32))) - ((sy_i F 74) + ((1 : Int32))) / ((40 : Int32)) * ((40 : Int32))) + ((sy_i F 75) - ((1 : Int32)))) / ((40 : Int32)) * ((40 : Int32))) * ((60 : Int32))) (((((((sy_i F 74) + ((1 : Int32))) - ((sy_i F 74) + ((1 : Int32))) / ((40 : Int32)) * ((40 : Int32))) + ((sy_i F 75) - ((1 : Int32)))) - ((((sy_i F 74) + ((1 : Int32))) - ((sy_i F 74) + ((1 : Int32))) / ((40 : Int32)) * ((40 : Int32))) + ((sy_i F 75) - ((1 : Int32)))) / ((40 : Int32)) * ((40 : Int32))) * ((60 : Int32))).toInt) := congrArg Int32.toInt (rfl : (((((sy_i F 74) + ((1 : Int32))) - ((sy_i F 74) + ((1 : Int32))) / ((40 : Int32)) * ((40 : Int32))) + ((sy_i F 75) - ((1 : Int32)))) - ((((sy_i F 74) + ((1 : Int32))) - ((sy_i F 74) + ((1 : Int32))) / ((40 : Int32)) * ((40 : Int32))) + ((sy_i F 75) - ((1 : Int32)))) / ((40 : Int32)) * ((40 : Int32))) * ((60 : Int32)) = (((((sy_i F 74) + ((1 : Int32))) - ((sy_i F 74) + ((1 : Int32))) / ((40 : Int32)) * ((40 : Int32))) + ((sy_i F 75) - ((1 : Int32)))) - ((((sy_i F 74) + ((1 : Int32))) - ((sy_i F 74) + ((1 : Int32))) / ((40 : Int32)) * ((40 : Int32))) + ((sy_i F 75) - ((1 : Int32)))) / ((40 : Int32)) * ((40 : Int32))) * ((60 : Int32)))
  exact j2re_0_p1 hd F X1 X2 hB (by first | exact g0 | (simp only [nz_c]; exact g0)) (fun F1 g e74 e75 e82 => k1 g0 F1 (nz_in0 hB [74, 75] (fun j hj hn => g j hj (by simp only [List.mem_cons, List.not_mem_nil, or_false, not_or] at hn; omega)) (List.forall_mem_cons.mpr ⟨fun t ht => (Option.some.inj ht) ▸ (nz_hi e74 (nzE n83) (by omega) (by omega)), List.forall_mem_cons.mpr ⟨fun t ht => (Option.some.inj ht) ▸ (nz_hi e75 (nzE n84) (by omega) (by omega)), List.forall_mem_nil _⟩⟩)) (fun j hj hn => g j hj (by simp only [List.mem_cons, List.not_mem_nil, or_false, not_or] at hn; omega)) ((congrArg Int32.toInt (zz_i e74)).trans (nzE n83)) ((zz_i e74).trans (rfl : ((sy_i F 74) + ((1 : Int32))) - ((sy_i F 74) + ((1 : Int32))) / ((40 : Int32)) * ((40 : Int32)) = ((sy_i F 74) + ((1 : Int32))) - ((sy_i F 74) + ((1 : Int32))) / ((40 : Int32)) * ((40 : Int32)))) ((congrArg Int32.toInt (zz_i e75)).trans (nzE n84)) ((zz_i e75).trans (rfl : (sy_i F 75) - ((1 : Int32)) = (sy_i F 75) - ((1 : Int32)))) ((congrArg Int32.toInt (zz_i e82)).trans (nzE n87)) ((zz_i e82).trans (rfl : (((((sy_i F 74) + ((1 : Int32))) - ((sy_i F 74) + ((1 : Int32))) / ((40 : Int32)) * ((40 : Int32))) + ((sy_i F 75) - ((1 : Int32)))) - ((((sy_i F 74) + ((1 : Int32))) - ((sy_i F 74) + ((1 : Int32))) / ((40 : Int32)) * ((40 : Int32))) + ((sy_i F 75) - ((1 : Int32)))) / ((40 : Int32)) * ((40 : Int32))) * ((60 : Int32)) = (((((sy_i F 74) + ((1 : Int32))) - ((sy_i F 74) + ((1 : Int32))) / ((40 : Int32)) * ((40 : Int32))) + ((sy_i F 75) - ((1 : Int32)))) - ((((sy_i F 74) + ((1 : Int32))) - ((sy_i F 74) + ((1 : Int32))) / ((40 : Int32)) * ((40 : Int32))) + ((sy_i F 75) - ((1 : Int32)))) / ((40 : Int32)) * ((40 : Int32))) * ((60 : Int32)))))
theorem j2re_55_p0 {Ls : Nat} {xs : Nat → Int32} {d : Nat} {Q : Option Value → jm_h → Prop} (hd : 1 ≤ d) (F : Nat → sy_d) (X1 X2 : List jm_c) (hB : iv_in F iv_B0)
    (k : ∀ F1 : Nat → sy_d, (∀ j, j < 82 → j ≠ 75 → F1 j = F j) → F1 75 = .inl (.int ((sy_i F 75) + ((1 : Int32)))) → Q (none) (sy_dh F1 X1 X2 (iv_H 2))) :
    hd_W Ls xs d jm_M78 Q (55, sy_dL F [some (.inl (.ref 66)), none], sy_dS F [], sy_dh F X1 X2 (iv_H 2), 0, 0) := by
  refine hd_ret (s := 2) (nv := 82) (v := none) (uh := hd_ov (iv_id 0 iv_B0) [(75, .inl (.inr (.inl 82)))]) (f := false) (sp := []) (d0 := 0) (O := []) (T := [(0, [.inr (.inl 75), .inl (.int 1)], [])]) (P := []) jm_ok78 (by decide +kernel) (by decide +kernel) hd F X1 X2 (fun F' hF hs => ?_)
  have b75 := hd_b (F := F) (F' := F') (k := 75) (hF 75 (by decide))
  have t82 : sy_dv F' (.inr (.inl 82)) = .int ((sy_i F 75) + ((1 : Int32))) := hd_o (hs 0 _ rfl) b75 rfl rfl
  have hB' : iv_in F' iv_B0 := iv_in_eq hB (fun j hj => hF j (Nat.lt_of_lt_of_le hj (by decide +kernel)))
  refine ⟨fun _ h => absurd h List.not_mem_nil, ?_⟩
  refine k _ ?_ ?_
  · exact fun j hj hn => (hd_keep hB' (Nat.lt_of_lt_of_le hj (by decide +kernel)) (by simp; omega)).trans (hF j (Nat.lt_of_lt_of_le hj (by decide)))
  · exact hd_gi (x := .inr (.inl 82)) (by decide +kernel) t82
theorem j2re_55 {Ls : Nat} {xs : Nat → Int32} {d : Nat} {Q : Option Value → jm_h → Prop} (hd : 1 ≤ d) (F : Nat → sy_d) (X1 X2 : List jm_c) (hB : iv_in F iv_B0)
    (o0 : (0 ≤ ((sy_i F 75).toInt + 1) ∧ ((sy_i F 75).toInt + 1) ≤ 40))
    (k0 : ∀ F1 : Nat → sy_d, iv_in F1 iv_B0 → (∀ j, j < 82 → j ∉ ([75] : List Nat) → F1 j = F j) → (sy_i F1 75).toInt = ((sy_i F 75).toInt + 1) → sy_i F1 75 = (sy_i F 75) + ((1 : Int32)) → Q (none) (sy_dh F1 X1 X2 (iv_H 2))) :
    hd_W Ls xs d jm_M78 Q (55, sy_dL F [some (.inl (.ref 66)), none], sy_dS F [], sy_dh F X1 X2 (iv_H 2), 0, 0) := by
  have c75 := nz_bx hB (k := 75) (lo := 0) (hi := 40) rfl
  have n82 : nzI ((sy_i F 75) + ((1 : Int32))) (((sy_i F 75).toInt + 1)) := nz_add (rfl : (sy_i F 75).toInt = (sy_i F 75).toInt) (by decide : ((1 : Int32)).toInt = 1) (by omega) (by omega)
  exact j2re_55_p0 hd F X1 X2 hB  (fun F1 g e75 => k0 F1 (nz_in0 hB [75] (fun j hj hn => g j hj (by simp only [List.mem_cons, List.not_mem_nil, or_false, not_or] at hn; omega)) (List.forall_mem_cons.mpr ⟨fun t ht => (Option.some.inj ht) ▸ (nz_hi e75 (nzE n82) (o0).1 (o0).2), List.forall_mem_nil _⟩)) (fun j hj hn => g j hj (by simp only [List.mem_cons, List.not_mem_nil, or_false, not_or] at hn; omega)) ((congrArg Int32.toInt (zz_i e75)).trans (nzE n82)) ((zz_i e75).trans (rfl : (sy_i F 75) + ((1 : Int32)) = (sy_i F 75) + ((1 : Int32)))))
theorem j2st_0_p0 {Ls : Nat} {xs : Nat → Int32} {d : Nat} {Q : Option Value → jm_h → Prop} (hd : 1 ≤ d) (F : Nat → sy_d) (X1 X2 : List jm_c) (hB : iv_in F iv_B0)
    (h0 : (sy_i F 75).toInt ≠ 0)
    (k : ∀ F1 : Nat → sy_d, (∀ j, j < 82 → j ≠ 75 → F1 j = F j) → F1 75 = .inl (.int ((sy_i F 75) - ((1 : Int32)))) → F1 82 = .inl (.int ((((sy_i F 74) + ((sy_i F 75) - ((1 : Int32)))) - ((sy_i F 74) + ((sy_i F 75) - ((1 : Int32)))) / ((40 : Int32)) * ((40 : Int32))) * ((60 : Int32)))) → hd_W Ls xs d jm_M79 Q (39, sy_dL F1 [none, none], sy_dS F1 [.inr (.inl 82), .inl (.ref 67), .inl (.ref 46)], sy_dh F1 X1 X2 (iv_H 2), 0, 0)) :
    hd_W Ls xs d jm_M79 Q (0, sy_dL F [some (.inl (.ref 66)), some (.inl (.ref 46))], sy_dS F [], sy_dh F X1 X2 (iv_H 2), 0, 0) := by
  refine hd_run (s := 2) (nv := 82) (pc := 39) (L := [none, none]) (S := [.inr (.inl 82), .inl (.ref 67), .inl (.ref 46)]) (uh := hd_ov (iv_id 0 iv_B0) [(75, .inl (.inr (.inl 82)))]) (ul := [.inl (.inr (.inl 85))]) (f := true) (sp := [39]) (d0 := 0) (O := [true]) (T := [(1, [.inr (.inl 75), .inl (.int 1)], []), (0, [.inr (.inl 74), .inr (.inl 82)], []), (10, [.inr (.inl 83), .inl (.int 40)], []), (2, [.inr (.inl 84), .inl (.int 60)], [])]) (P := [(1, .inr (.inl 75), .inl (.int 0)), (1, .inl (.int 40), .inl (.int 0))]) jm_ok79 (by decide +kernel) (by decide +kernel) hd F X1 X2 (fun F' hF hs => ?_)
  have b75 := hd_b (F := F) (F' := F') (k := 75) (hF 75 (by decide))
  have t82 : sy_dv F' (.inr (.inl 82)) = .int ((sy_i F 75) - ((1 : Int32))) := hd_o (hs 0 _ rfl) b75 rfl rfl
  have b74 := hd_b (F := F) (F' := F') (k := 74) (hF 74 (by decide))
  have t83 : sy_dv F' (.inr (.inl 83)) = .int ((sy_i F 74) + ((sy_i F 75) - ((1 : Int32)))) := hd_o (hs 1 _ rfl) b74 t82 rfl
  have t84 : sy_dv F' (.inr (.inl 84)) = .int (((sy_i F 74) + ((sy_i F 75) - ((1 : Int32)))) - ((sy_i F 74) + ((sy_i F 75) - ((1 : Int32)))) / ((40 : Int32)) * ((40 : Int32))) := hd_o (hs 2 _ rfl) t83 rfl rfl
  have t85 : sy_dv F' (.inr (.inl 85)) = .int ((((sy_i F 74) + ((sy_i F 75) - ((1 : Int32)))) - ((sy_i F 74) + ((sy_i F 75) - ((1 : Int32)))) / ((40 : Int32)) * ((40 : Int32))) * ((60 : Int32))) := hd_o (hs 3 _ rfl) t84 rfl rfl
  have hB' : iv_in F' iv_B0 := iv_in_eq hB (fun j hj => hF j (Nat.lt_of_lt_of_le hj (by decide +kernel)))
  refine ⟨List.forall_mem_cons.mpr ⟨hd_p1 b75 rfl (by have hc : ((0) : Int32).toInt = 0 := (by decide); omega), List.forall_mem_cons.mpr ⟨(hd_p1 (X := 40) (Y := 0) rfl rfl (by decide)), fun _ h => absurd h List.not_mem_nil⟩⟩, ?_⟩
  refine k _ ?_ ?_ ?_
  · exact fun j hj hn => (hd_keep hB' (Nat.lt_of_lt_of_le hj (by decide +kernel)) (by simp; omega)).trans (hF j (Nat.lt_of_lt_of_le hj (by decide)))
  · exact hd_gi (x := .inr (.inl 82)) (by decide +kernel) t82
  · exact hd_gi (x := .inr (.inl 85)) (by decide +kernel) t85
theorem j2st_0_p1 {Ls : Nat} {xs : Nat → Int32} {d : Nat} {Q : Option Value → jm_h → Prop} (hd : 1 ≤ d) (F : Nat → sy_d) (X1 X2 : List jm_c) (hB : iv_in F iv_B0)
    (h0 : (sy_i F 75).toInt = 0)
    (k : ∀ F1 : Nat → sy_d, (∀ j, j < 82 → True → F1 j = F j) → Q (some (.int ((0 : Int32)))) (sy_dh F1 X1 X2 (iv_H 2))) :
    hd_W Ls xs d jm_M79 Q (0, sy_dL F [some (.inl (.ref 66)), some (.inl (.ref 46))], sy_dS F [], sy_dh F X1 X2 (iv_H 2), 0, 0) := by
  refine hd_ret (s := 2) (nv := 82) (v := some (.inl (.int 0))) (uh := hd_ov (iv_id 0 iv_B0) []) (f := true) (sp := [39]) (d0 := 0) (O := [false]) (T := []) (P := [(0, .inr (.inl 75), .inl (.int 0))]) jm_ok79 (by decide +kernel) (by decide +kernel) hd F X1 X2 (fun F' hF hs => ?_)
  have b75 := hd_b (F := F) (F' := F') (k := 75) (hF 75 (by decide))
  have hB' : iv_in F' iv_B0 := iv_in_eq hB (fun j hj => hF j (Nat.lt_of_lt_of_le hj (by decide +kernel)))
  refine ⟨List.forall_mem_cons.mpr ⟨hd_p0 b75 rfl (by have hc : ((0) : Int32).toInt = 0 := (by decide); omega), fun _ h => absurd h List.not_mem_nil⟩, ?_⟩
  refine k _ ?_
  · exact fun j hj _ => (hd_keep hB' (Nat.lt_of_lt_of_le hj (by decide +kernel)) (by simp)).trans (hF j (Nat.lt_of_lt_of_le hj (by decide)))
theorem j2st_0 {Ls : Nat} {xs : Nat → Int32} {d : Nat} {Q : Option Value → jm_h → Prop} (hd : 1 ≤ d) (F : Nat → sy_d) (X1 X2 : List jm_c) (hB : iv_in F iv_B0)
    (k0 : (sy_i F 75).toInt ≠ 0 → ∀ F1 : Nat → sy_d, iv_in F1 iv_B0 → (∀ j, j < 82 → j ∉ ([75] : List Nat) → F1 j = F j) → (sy_i F1 75).toInt = ((sy_i F 75).toInt - 1) → sy_i F1 75 = (sy_i F 75) - ((1 : Int32)) → (sy_i F1 82).toInt = ((((sy_i F 74) + ((sy_i F 75) - ((1 : Int32)))) - ((sy_i F 74) + ((sy_i F 75) - ((1 : Int32)))) / ((40 : Int32)) * ((40 : Int32))) * ((60 : Int32))).toInt → sy_i F1 82 = (((sy_i F 74) + ((sy_i F 75) - ((1 : Int32)))) - ((sy_i F 74) + ((sy_i F 75) - ((1 : Int32)))) / ((40 : Int32)) * ((40 : Int32))) * ((60 : Int32)) → hd_W Ls xs d jm_M79 Q (39, sy_dL F1 [none, none], sy_dS F1 [.inr (.inl 82), .inl (.ref 67), .inl (.ref 46)], sy_dh F1 X1 X2 (iv_H 2), 0, 0))
    (k1 : (sy_i F 75).toInt = 0 → ∀ F1 : Nat → sy_d, iv_in F1 iv_B0 → (∀ j, j < 82 → j ∉ ([] : List Nat) → F1 j = F j) → Q (some (.int ((0 : Int32)))) (sy_dh F1 X1 X2 (iv_H 2))) :
    hd_W Ls xs d jm_M79 Q (0, sy_dL F [some (.inl (.ref 66)), some (.inl (.ref 46))], sy_dS F [], sy_dh F X1 X2 (iv_H 2), 0, 0) := by
  by_cases g0 : (sy_i F 75).toInt ≠ 0
  · have c75 := nz_bx hB (k := 75) (lo := 0) (hi := 40) rfl
    have n82 : nzI ((sy_i F 75) - ((1 : Int32))) (((sy_i F 75).toInt - 1)) := nz_sub (rfl : (sy_i F 75).toInt = (sy_i F 75).toInt) (by decide : ((1 : Int32)).toInt = 1) (by omega) (by omega)
    have n85 : nzI ((((sy_i F 74) + ((sy_i F 75) - ((1 : Int32)))) - ((sy_i F 74) + ((sy_i F 75) - ((1 : Int32)))) / ((40 : Int32)) * ((40 : Int32))) * ((60 : Int32))) (((((sy_i F 74) + ((sy_i F 75) - ((1 : Int32)))) - ((sy_i F 74) + ((sy_i F 75) - ((1 : Int32)))) / ((40 : Int32)) * ((40 : Int32))) * ((60 : Int32))).toInt) := congrArg Int32.toInt (rfl : (((sy_i F 74) + ((sy_i F 75) - ((1 : Int32)))) - ((sy_i F 74) + ((sy_i F 75) - ((1 : Int32)))) / ((40 : Int32)) * ((40 : Int32))) * ((60 : Int32)) = (((sy_i F 74) + ((sy_i F 75) - ((1 : Int32)))) - ((sy_i F 74) + ((sy_i F 75) - ((1 : Int32)))) / ((40 : Int32)) * ((40 : Int32))) * ((60 : Int32)))
    exact j2st_0_p0 hd F X1 X2 hB (by first | exact g0 | (simp only [nz_c]; exact g0)) (fun F1 g e75 e82 => k0 g0 F1 (nz_in0 hB [75] (fun j hj hn => g j hj (by simp only [List.mem_cons, List.not_mem_nil, or_false, not_or] at hn; omega)) (List.forall_mem_cons.mpr ⟨fun t ht => (Option.some.inj ht) ▸ (nz_hi e75 (nzE n82) (by omega) (by omega)), List.forall_mem_nil _⟩)) (fun j hj hn => g j hj (by simp only [List.mem_cons, List.not_mem_nil, or_false, not_or] at hn; omega)) ((congrArg Int32.toInt (zz_i e75)).trans (nzE n82)) ((zz_i e75).trans (rfl : (sy_i F 75) - ((1 : Int32)) = (sy_i F 75) - ((1 : Int32)))) ((congrArg Int32.toInt (zz_i e82)).trans (nzE n85)) ((zz_i e82).trans (rfl : (((sy_i F 74) + ((sy_i F 75) - ((1 : Int32)))) - ((sy_i F 74) + ((sy_i F 75) - ((1 : Int32)))) / ((40 : Int32)) * ((40 : Int32))) * ((60 : Int32)) = (((sy_i F 74) + ((sy_i F 75) - ((1 : Int32)))) - ((sy_i F 74) + ((sy_i F 75) - ((1 : Int32)))) / ((40 : Int32)) * ((40 : Int32))) * ((60 : Int32)))))
  replace g0 : (sy_i F 75).toInt = 0 := by omega
  have c75 := nz_bx hB (k := 75) (lo := 0) (hi := 40) rfl
  exact j2st_0_p1 hd F X1 X2 hB (by first | exact g0 | (simp only [nz_c]; exact g0)) (fun F1 g  => k1 g0 F1 (nz_in0 hB [] (fun j hj hn => g j hj (by simp only [List.mem_cons, List.not_mem_nil, or_false, not_or] at hn; exact trivial)) (List.forall_mem_nil _)) (fun j hj hn => g j hj (by simp only [List.mem_cons, List.not_mem_nil, or_false, not_or] at hn; exact trivial)) )
theorem j2st_42_p0 {Ls : Nat} {xs : Nat → Int32} {d : Nat} {Q : Option Value → jm_h → Prop} (hd : 1 ≤ d) (F : Nat → sy_d) (X1 X2 : List jm_c) (hB : iv_in F iv_B0)
    (k : ∀ F1 : Nat → sy_d, (∀ j, j < 82 → True → F1 j = F j) → Q (some (.int ((1 : Int32)))) (sy_dh F1 X1 X2 (iv_H 2))) :
    hd_W Ls xs d jm_M79 Q (42, sy_dL F [none, none], sy_dS F [], sy_dh F X1 X2 (iv_H 2), 0, 0) := by
  refine hd_ret (s := 2) (nv := 82) (v := some (.inl (.int 1))) (uh := hd_ov (iv_id 0 iv_B0) []) (f := false) (sp := []) (d0 := 0) (O := []) (T := []) (P := []) jm_ok79 (by decide +kernel) (by decide +kernel) hd F X1 X2 (fun F' hF hs => ?_)
  have hB' : iv_in F' iv_B0 := iv_in_eq hB (fun j hj => hF j (Nat.lt_of_lt_of_le hj (by decide +kernel)))
  refine ⟨fun _ h => absurd h List.not_mem_nil, ?_⟩
  refine k _ ?_
  · exact fun j hj _ => (hd_keep hB' (Nat.lt_of_lt_of_le hj (by decide +kernel)) (by simp)).trans (hF j (Nat.lt_of_lt_of_le hj (by decide)))
theorem j2st_42 {Ls : Nat} {xs : Nat → Int32} {d : Nat} {Q : Option Value → jm_h → Prop} (hd : 1 ≤ d) (F : Nat → sy_d) (X1 X2 : List jm_c) (hB : iv_in F iv_B0)
    (k0 : ∀ F1 : Nat → sy_d, iv_in F1 iv_B0 → (∀ j, j < 82 → j ∉ ([] : List Nat) → F1 j = F j) → Q (some (.int ((1 : Int32)))) (sy_dh F1 X1 X2 (iv_H 2))) :
    hd_W Ls xs d jm_M79 Q (42, sy_dL F [none, none], sy_dS F [], sy_dh F X1 X2 (iv_H 2), 0, 0) := by
  exact j2st_42_p0 hd F X1 X2 hB  (fun F1 g  => k0 F1 (nz_in0 hB [] (fun j hj hn => g j hj (by simp only [List.mem_cons, List.not_mem_nil, or_false, not_or] at hn; exact trivial)) (List.forall_mem_nil _)) (fun j hj hn => g j hj (by simp only [List.mem_cons, List.not_mem_nil, or_false, not_or] at hn; exact trivial)) )
end
section
/-! ===== the class remembers and steps back (shape 2) ===== -/
section RM2
variable {Ls : Nat} {xs : Nat → Int32} {nf nb : Nat} {g : gS} (F : Nat → sy_d) (X1 X2 : List jm_c)
theorem j2re_W (hf : nf ≤ 7) (hb : nb ≤ 4) (hg : gC 50 nf nb F g) {F1 : Nat → sy_d} {o : Nat} {U : List gS} (ho : o < 40) (hU : U.length < 40) (hq : qC [74, 75] F F1) (e74 : (sy_i F1 74).toInt = o) (e75 : (sy_i F1 75).toInt = U.length) (hk : trK nf nb (sy_ai F 76) o U) (e82 : (sy_i F1 82).toInt = (((o + U.length) % 40 * 60 : Nat) : Int)) :
    hd_W Ls xs 2 jm_M78 (pV 2 X1 X2 (fun F' => qC [74, 75, 76] F F' ∧ trC nf nb F' (g :: U))) (52, sy_dL F1 [some (.inl (.ref 66)), none], sy_dS F1 [.inr (.inl 82), .inl (.ref 67), .inl (.ref 46)], sy_dh F1 X1 X2 (iv_H 2), 0, 0) := by
  refine hd_calV (R := fun F' => qC [76] F1 F' ∧ svR (sy_ai F' 76) ((o + U.length) % 40 * 60) F1 50 ∧ ∀ j, j < (o + U.length) % 40 * 60 ∨ (o + U.length) % 40 * 60 + 60 ≤ j → (sy_ai F' 76).getD j 0 = (sy_ai F1 76).getD j 0) (nh := 82) (nv := 82) (s := 2) (s1 := 2) (d1 := 1) (M1 := jm_M9) (As := [.inl (.ref 46), .inl (.ref 67), .inr (.inl 82)]) (rest := []) jm_ok78 rfl rfl (by decide) (by decide +kernel) (j2svt_V F1 X1 X2 hq.1 e82 (by omega)) (fun F3 F' hR p1 p2 => ?_)
  obtain ⟨r1, r2, r3⟩ := hR
  have r1' : qC [76] F1 F3 := qC_dst r1 p1
  have e753 : (sy_i F3 75).toInt = U.length := by rw [qq_i r1' (by decide) (by decide)]; exact e75
  refine j2re_55 (by decide) F3 X1 X2 r1'.1 (by omega) ?_
  intro F4 hb4 g4 e754 j754
  have g1 : gC 50 nf nb F1 g := gC_eq hg (fun j h1 h2 => hq.2 j (by omega) (by simp; omega))
  have l4 : sy_ai F4 76 = sy_ai F' 76 := (nz_fa (g4 76 (by decide) (by decide))).trans (nz_fa (p1 76 (by decide)))
  have l1 : sy_ai F1 76 = sy_ai F 76 := qq_a hq (by decide) (by decide)
  refine ⟨F4, rfl, rfl, qq_on (qq_trans (qq_up hq (by decide)) (qq_up r1' (by decide))) hb4 g4 (by decide), o, ho, by simp only [List.length_cons]; omega, ?_, by simp only [List.length_cons]; omega, ?_, ?_⟩
  · rw [nz_fi (g4 74 (by decide) (by decide)), qq_i r1' (by decide) (by decide)]
    exact e74
  · rw [l4]
    exact svC_of hf hb r2 g1
  · rw [l4]
    refine trK_eq hf hb U (fun k hk' j h1 h2 => ?_) hk
    rw [← l1]
    exact r3 j (by omega)
theorem j2re_V (hB : iv_in F iv_B0) (hf : nf ≤ 7) (hb : nb ≤ 4) (hg : gC 50 nf nb F g) {U : List gS} (hT : trC nf nb F U) : jm_T Ls xs 2 jm_M78 [.ref 66, .ref 46] (sy_dh F X1 X2 (iv_H 2)) 0 0 (pV 2 X1 X2 (fun F' => qC [74, 75, 76] F F' ∧ trC nf nb F' (rmS g U))) := by
  obtain ⟨o, h1, h2, h3, h4, h5⟩ := hT
  refine hd_T (As := [.inl (.ref 66), .inl (.ref 46)]) jm_ok78 (by decide) (j2re_0 (by decide) F X1 X2 hB ?_ ?_)
  · intro c0 F1 hb1 gg e82 j82
    have hn : U.length ≠ 40 := by omega
    unfold rmS
    rw [if_neg hn]
    refine j2re_W F X1 X2 hf hb hg h1 (by omega) (qq_mk hb1 gg (by decide)) (by rw [nz_fi (gg 74 (by decide) (by decide))]; exact h3) (by rw [nz_fi (gg 75 (by decide) (by decide))]; exact h4) h5 ?_
    rw [e82]
    exact rm60 (n := o + U.length) (nz_add h3 h4 (by omega) (by omega))
  · intro c0 F1 hb1 gg e74 j74 e75 j75 e82 j82
    have hn : U.length = 40 := by omega
    unfold rmS
    rw [if_pos hn]
    have o1 : (sy_i F 74 + 1 - (sy_i F 74 + 1) / 40 * 40).toInt = (((o + 1) % 40 : Nat) : Int) := rm40 (n := o + 1) (nz_add h3 (by decide : (1 : Int32).toInt = 1) (by omega) (by omega))
    have s1 : (sy_i F 75 - 1).toInt = ((39 : Nat) : Int) := (nz_sub h4 (by decide : (1 : Int32).toInt = 1) (by omega) (by omega)).trans (by omega)
    have hd : U.dropLast.length = 39 := by rw [List.length_dropLast, hn]
    refine j2re_W F X1 X2 hf hb hg (o := (o + 1) % 40) (U := U.dropLast) (by omega) (by omega) (qq_mk hb1 gg (by decide)) (e74.trans o1) (by rw [hd]; omega) (trK_dr U h5) ?_
    rw [e82, hd]
    exact rm60 (n := (o + 1) % 40 + 39) (nz_add o1 s1 (by omega) (by omega))
theorem j2st_V0 (hB : iv_in F iv_B0) (hT : trC nf nb F []) : jm_T Ls xs 2 jm_M79 [.ref 66, .ref 46] (sy_dh F X1 X2 (iv_H 2)) 0 0 (pI 2 X1 X2 (fun x F' => x = 0 ∧ qC [] F F')) := by
  obtain ⟨o, h1, h2, h3, h4, h5⟩ := hT
  have h4' : (sy_i F 75).toInt = 0 := h4
  refine hd_T (As := [.inl (.ref 66), .inl (.ref 46)]) jm_ok79 (by decide) (j2st_0 (by decide) F X1 X2 hB ?_ ?_)
  · intros
    omega
  · intro c0 F1 hb1 gg
    exact ⟨_, F1, rfl, rfl, rfl, qq_mk hb1 gg (by decide)⟩
theorem j2st_V1 (hB : iv_in F iv_B0) (hf : nf ≤ 7) (hb : nb ≤ 4) {U : List gS} (hT : trC nf nb F (g :: U)) : jm_T Ls xs 2 jm_M79 [.ref 66, .ref 46] (sy_dh F X1 X2 (iv_H 2)) 0 0 (pI 2 X1 X2 (fun x F' => x = 1 ∧ qC (75 :: [50, 51, 52, 53, 54, 55, 56, 57, 58, 59, 60, 61]) F F' ∧ trC nf nb F' U ∧ gC 50 nf nb F' g)) := by
  obtain ⟨o, h1, h2, h3, h4, h5⟩ := hT
  have hl : (g :: U).length = U.length + 1 := rfl
  rw [hl] at h2 h4
  refine hd_T (As := [.inl (.ref 66), .inl (.ref 46)]) jm_ok79 (by decide) (j2st_0 (by decide) F X1 X2 hB ?_ ?_)
  · intro c0 F1 hb1 gg e75 j75 e82 j82
    have s1 : (sy_i F 75 - 1).toInt = (U.length : Int) := (nz_sub h4 (by decide : (1 : Int32).toInt = 1) (by omega) (by omega)).trans (by omega)
    have x82 : (sy_i F1 82).toInt = (((o + U.length) % 40 * 60 : Nat) : Int) := by
      rw [e82]
      exact rm60 (n := o + U.length) (nz_add h3 s1 (by omega) (by omega))
    have q1 : qC [75] F F1 := qq_mk hb1 gg (by decide)
    refine hd_calV (R := fun F' => qC [50, 51, 52, 53, 54, 55, 56, 57, 58, 59, 60, 61] F1 F' ∧ svR (sy_ai F1 76) ((o + U.length) % 40 * 60) F' 50) (nh := 82) (nv := 82) (s := 2) (s1 := 2) (d1 := 1) (M1 := jm_M10) (As := [.inl (.ref 46), .inl (.ref 67), .inr (.inl 82)]) (rest := []) jm_ok79 rfl rfl (by decide) (by decide +kernel) (j2ldt_V F1 X1 X2 hb1 x82 (by omega)) (fun F3 F' hR p1 p2 => ?_)
    obtain ⟨r1, r2⟩ := hR
    have r1' : qC [50, 51, 52, 53, 54, 55, 56, 57, 58, 59, 60, 61] F1 F3 := qC_dst r1 p1
    refine j2st_42 (by decide) F3 X1 X2 r1'.1 ?_
    intro F4 hb4 g4
    have l1 : sy_ai F1 76 = sy_ai F 76 := qq_a q1 (by decide) (by decide)
    have l4 : sy_ai F4 76 = sy_ai F 76 := (nz_fa (g4 76 (by decide) (by decide))).trans ((qq_a r1' (by decide) (by decide)).trans l1)
    refine ⟨_, F4, rfl, rfl, rfl, qq_on (qq_trans (qq_up q1 (by decide)) (qq_up r1' (by decide))) hb4 g4 (by decide), ⟨o, h1, by omega, ?_, ?_, ?_⟩, ?_⟩
    · rw [nz_fi (g4 74 (by decide) (by decide)), qq_i r1' (by decide) (by decide), nz_fi (gg 74 (by decide) (by decide))]
      exact h3
    · rw [nz_fi (g4 75 (by decide) (by decide)), qq_i r1' (by decide) (by decide)]
      omega
    · rw [l4]
      exact h5.2
    · rw [l1] at r2
      exact gC_eq (gC_of hf hb r2 h5.1) (fun j h1 h2 => (g4 j (by omega) (by simp)).trans (p1 j (by omega)))
  · intros
    omega
end RM2
end
